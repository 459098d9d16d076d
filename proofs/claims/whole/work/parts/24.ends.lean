/-! Marks.divisorOf, lowestAbove, lowestBelow; Pieces.partOfEnd -/
theorem fr_num {u d : Int} (hd : 0 < d) : (qm_fr u d).num = u / (Int.gcd d u : Int) ∧ ((qm_fr u d).den : Int) = d / (Int.gcd d u : Int) := by
  have e : qm_fr u d = Rat.divInt u d := by unfold qm_fr; rw [Rat.divInt_eq_div]
  rw [e, Rat.num_divInt, Rat.den_divInt, Int.sign_eq_one_of_pos hd, Int.one_mul, if_neg (by omega)]
  refine ⟨rfl, ?_⟩
  rw [Int.natCast_ediv, Int.natAbs_of_nonneg (by omega)]
/-- one end of a piece, in the document's three parts -/
def pe_v (o : Option (Rat × Bool)) (pt : Nat) : Int := match o with
  | none => if pt = 2 then 1 else 0
  | some (x, b) => if pt = 0 then (if b = true then 2 else 1) else if pt = 1 then x.num else (x.den : Int)
theorem lx_div {x y : Int64} (hy : 0 < y.toInt) (hd : y.toInt ∣ x.toInt) : (x / y).toInt = x.toInt / y.toInt := by
  rw [Int64.toInt_div, Int.tdiv_eq_ediv_of_dvd hd]
  have h1 := x.toInt_lt
  have h2 := x.le_toInt
  have h3 : (x.toInt / y.toInt).natAbs ≤ x.toInt.natAbs := Int.natAbs_ediv_le_natAbs _ _
  by_cases e : y.toInt = 1
  · rw [e, Int.ediv_one]; exact Int.bmod_eq_of_le (by omega) (by omega)
  · have h4 : (x.toInt / y.toInt).natAbs ≤ 4611686018427387904 := by
      obtain ⟨c, hc⟩ := hd
      rw [hc, Int.mul_ediv_cancel_left _ (by omega)]
      have h5 : (y.toInt * c).natAbs = y.toInt.natAbs * c.natAbs := Int.natAbs_mul _ _
      have h6 : 2 * c.natAbs ≤ y.toInt.natAbs * c.natAbs := Nat.mul_le_mul_right _ (by omega)
      rw [← hc] at h5
      omega
    exact Int.bmod_eq_of_le (by omega) (by omega)
section G24
variable (l : Launch) (D : va_G) (cI cJ cZ cN : ClassId)
set_option maxHeartbeats 4000000 in
set_option maxRecDepth 100000 in
theorem c_Mk_divisorOf (h0 ma mb n i sz : Nat) (f g : Nat → Int64) (M : Nat → Option va_E) (hM : mk_S cJ M h0 ma mb n f g) (hn : n ≤ 21) (hr9 : mk_row f g n 50) (hi : i < n) : Met l y_Mk_divisorOf (.code y_Mk_divisorOf b_Mk_divisorOf 9 (some .long) :: ww) ({ frames := 1, cells := 0, slots := 0, locals := 40 }) (hw_Pc D qcl (qty cI cJ cZ cN) [.ref h0, .int (nI i)] M sz) (va_Ql (fun r M1 => r = lN (Int.gcd (g i).toInt (f i).toInt) ∧ M1 = M) (hw_B D qcl (qty cI cJ cZ cN) M sz) (hw_A M sz)) 0 0 (hw_A M sz) := by
  obtain ⟨hM1, hM2, hM3⟩ := hM
  obtain ⟨b1, b2, b3⟩ := hr9.1 i hi
  have eG : g i = lN (g i).toInt.toNat := Int64.toInt_inj.mp (by rw [pk_lT (by omega)]; omega)
  have eF : (if 0 < f i then f i else - f i) = lN (f i).toInt.natAbs := Int64.toInt_inj.mp (by rw [pk_lT (by omega)]; split <;> rename_i z1 <;> rw [nm_llt] at z1 <;> rw [show (0 : Int64).toInt = 0 from rfl] at z1; omega; rw [nm_lneg (by omega)]; omega)
  refine hw_met (by decide) (Nat.le_of_ble_eq_true rfl) ?_
  intro p e s m below meth c hx hb hr hml hown hlocks hnm hts hsz hX hW ls hl
  subst hsz
  have hA : ∀ q, s.heap.size ≤ q → hw_A M s.heap.size q := fun q h => Or.inr h
  have hS : va_S (hw_A M s.heap.size) s.heap s.heap [] := va_S.rf
  have hl : lv_has ls 9 [(0, .ref h0), (1, .int (nI i))] := hl
  have hown : s.vm.findClass "QuantifierOut$Marks" = some m.cls := hown
  obtain ⟨Q9, hQ9⟩ : ∃ X : State → Prop, X = MQ below (va_Ql (fun r M1 => r = lN (Int.gcd (g i).toInt (f i).toInt) ∧ M1 = M) (hw_B D qcl (qty cI cJ cZ cN) M s.heap.size) (hw_A M s.heap.size)) [.ref h0, .int (nI i)].toArray s 0 0 (hw_A M s.heap.size) := ⟨_, rfl⟩
  rw [← hQ9]
  refine lv_aload_n hx hb d_Mk_divisorOf_0 rfl (lv_at hl 0 rfl) ?_
  refine hw_get (own := "QuantifierOut$Marks") (v := .ref mb) hx hb hts i_Mk hown hW hM1 rfl 1 (by decide) (hts _ tw_42) (fun _ h9 => h9) rfl d_Mk_divisorOf_1 ?_
  refine lv_iload_n hx hb d_Mk_divisorOf_4 rfl (lv_at hl 1 rfl) ?_
  refine hw_lld hx hb hW 1 hM3 rfl i rfl (by omega) (by decide) d_Mk_divisorOf_5 ?_
  rw [eG]
  refine lv_lstore_n (lv' := [(2, .long (lN (g i).toInt.toNat)), (0, .ref h0), (1, .int (nI i))]) hx hb d_Mk_divisorOf_6 rfl hl (by decide) rfl (fun ls hl => ?_)
  refine lv_aload_n hx hb d_Mk_divisorOf_7 rfl (lv_at hl 1 rfl) ?_
  refine hw_get (own := "QuantifierOut$Marks") (v := .ref ma) hx hb hts i_Mk hown hW hM1 rfl 0 (by decide) (hts _ tw_41) (fun _ h9 => h9) rfl d_Mk_divisorOf_8 ?_
  refine lv_iload_n hx hb d_Mk_divisorOf_11 rfl (lv_at hl 2 rfl) ?_
  refine hw_lld hx hb hW 1 hM2 rfl i rfl (by omega) (by decide) d_Mk_divisorOf_12 ?_
  refine va_mabs_long (own := "QuantifierOut$Marks") (x := (f i)) hx hb (by rw [hml]; exact hl.1.symm) hown (hts _ tw_554) (hts _ tw_555) (hts _ tw_15) (hts _ tw_556) (by decide) (by decide) (by decide) (by decide) d_Mk_divisorOf_13 ?_
  rw [eF]
  refine lv_lstore (lv' := [(4, .long (lN (f i).toInt.natAbs)), (2, .long (lN (g i).toInt.toNat)), (0, .ref h0), (1, .int (nI i))]) hx hb d_Mk_divisorOf_16 hl (by decide) rfl (fun ls hl => ?_)
  refine lv_iconst (v := 0) hx hb d_Mk_divisorOf_18 (by decide) ?_
  refine lv_istore (lv' := [(6, .int 0), (4, .long (lN (f i).toInt.natAbs)), (2, .long (lN (g i).toInt.toNat)), (0, .ref h0), (1, .int (nI i))]) hx hb d_Mk_divisorOf_19 hl (by decide) rfl (fun ls hl => ?_)
  have loop : ∀ (z k S G : Nat), S ≤ z → k + S ≤ 50 → G ≤ 50 → 0 < G → Nat.gcd G S = Int.gcd (g i).toInt (f i).toInt → ∀ (ls : Array Slot), lv_has ls 9 [(6, .int (nI k)), (4, .long (lN S)), (2, .long (lN G)), (0, .ref h0), (1, .int (nI i))] → W p l e ({ frames := 1, cells := 0, slots := 0, locals := 40 }) s m [.ref h0, .int (nI i)].toArray below meth c s.heap [] 0 0 Q9 (F0 m 21 ls []) := by
    intro z
    induction z with
    | zero =>
      intro k S G hS9 hk9 hG9 hG0 hgcd ls hl
      refine lv_iload hx hb d_Mk_divisorOf_21 (lv_at hl 0 rfl) ?_
      refine lv_bipush (v := 100) hx hb d_Mk_divisorOf_23 (by decide) ?_
      refine lv_icmp_ge (tgt := 54) hx hb d_Mk_divisorOf_25 (by decide) (fun c_25 => ?_) (fun c_25 => ?_)
      · skip
        exact absurd ((nI_leI (a := 100) (by omega) (by omega)).mp c_25) (by omega)
      · skip
        refine lv_lload hx hb d_Mk_divisorOf_28 (lv_at hl 1 rfl) ?_
        refine lv_lconst (v := 0) hx hb d_Mk_divisorOf_30 (by decide) ?_
        refine W.lcmp hx hb d_Mk_divisorOf_31 ?_
        refine lv_if_eq (tgt := 54) hx hb d_Mk_divisorOf_32 (by decide) (fun c_31 => ?_) (fun c_31 => ?_)
        · skip
          rw [lg_cmp_eq] at c_31
          have hS0 : S = 0 := (pk_lEQ (b := 0) (by omega) (by omega)).mp c_31
          subst hS0
          refine lv_lload_n hx hb d_Mk_divisorOf_54 rfl (lv_at hl 2 rfl) ?_
          refine lv_lconst (v := 1) hx hb d_Mk_divisorOf_55 (by decide) ?_
          refine va_mmax_long (own := "QuantifierOut$Marks") (x := (lN G)) (y := 1) hx hb (by rw [hml]; exact hl.1.symm) hown (hts _ tw_557) (hts _ tw_558) (hts _ tw_15) (hts _ tw_559) (by decide) (by decide) (by decide) (by decide) d_Mk_divisorOf_56 ?_
          rw [hQ9]
          have hG1 : (if (1 : Int64) < lN G then lN G else 1) = lN G := by split; rfl; rename_i z1; exact Int64.toInt_inj.mp (by rw [nm_llt, pk_lT (by omega)] at z1; rw [pk_lT (by omega)]; have : (1 : Int64).toInt = 1 := rfl; omega)
          exact hw_retl hx hb hr hlocks hW hS ⟨by rw [hG1, ← hgcd, Nat.gcd_zero_right], rfl⟩ d_Mk_divisorOf_59
        · skip
          rw [lg_cmp_eq] at c_31
          have hS0 : 0 < S := Nat.pos_of_ne_zero (fun z9 => c_31 (by rw [z9]; rfl))
          exact absurd hS0 (by omega)
    | succ z ihz =>
      intro k S G hS9 hk9 hG9 hG0 hgcd ls hl
      refine lv_iload hx hb d_Mk_divisorOf_21 (lv_at hl 0 rfl) ?_
      refine lv_bipush (v := 100) hx hb d_Mk_divisorOf_23 (by decide) ?_
      refine lv_icmp_ge (tgt := 54) hx hb d_Mk_divisorOf_25 (by decide) (fun c_25 => ?_) (fun c_25 => ?_)
      · skip
        exact absurd ((nI_leI (a := 100) (by omega) (by omega)).mp c_25) (by omega)
      · skip
        refine lv_lload hx hb d_Mk_divisorOf_28 (lv_at hl 1 rfl) ?_
        refine lv_lconst (v := 0) hx hb d_Mk_divisorOf_30 (by decide) ?_
        refine W.lcmp hx hb d_Mk_divisorOf_31 ?_
        refine lv_if_eq (tgt := 54) hx hb d_Mk_divisorOf_32 (by decide) (fun c_31 => ?_) (fun c_31 => ?_)
        · skip
          rw [lg_cmp_eq] at c_31
          have hS0 : S = 0 := (pk_lEQ (b := 0) (by omega) (by omega)).mp c_31
          subst hS0
          refine lv_lload_n hx hb d_Mk_divisorOf_54 rfl (lv_at hl 2 rfl) ?_
          refine lv_lconst (v := 1) hx hb d_Mk_divisorOf_55 (by decide) ?_
          refine va_mmax_long (own := "QuantifierOut$Marks") (x := (lN G)) (y := 1) hx hb (by rw [hml]; exact hl.1.symm) hown (hts _ tw_557) (hts _ tw_558) (hts _ tw_15) (hts _ tw_559) (by decide) (by decide) (by decide) (by decide) d_Mk_divisorOf_56 ?_
          rw [hQ9]
          have hG1 : (if (1 : Int64) < lN G then lN G else 1) = lN G := by split; rfl; rename_i z1; exact Int64.toInt_inj.mp (by rw [nm_llt, pk_lT (by omega)] at z1; rw [pk_lT (by omega)]; have : (1 : Int64).toInt = 1 := rfl; omega)
          exact hw_retl hx hb hr hlocks hW hS ⟨by rw [hG1, ← hgcd, Nat.gcd_zero_right], rfl⟩ d_Mk_divisorOf_59
        · skip
          rw [lg_cmp_eq] at c_31
          have hS0 : 0 < S := Nat.pos_of_ne_zero (fun z9 => c_31 (by rw [z9]; rfl))
          refine lv_lload_n hx hb d_Mk_divisorOf_35 rfl (lv_at hl 2 rfl) ?_
          refine lv_lload hx hb d_Mk_divisorOf_36 (lv_at hl 1 rfl) ?_
          refine lv_lrem hx hb d_Mk_divisorOf_38 c_31 ?_
          refine lv_topl (fun rs ers => ?_)
          have ers2 : rs = lN (G % S) := by rw [ers]; exact pk_lRem (by omega) hS0 (by omega)
          rw [ers2]
          refine lv_lstore (lv' := [(7, .long (lN (G % S))), (6, .int (nI k)), (4, .long (lN S)), (2, .long (lN G)), (0, .ref h0), (1, .int (nI i))]) hx hb d_Mk_divisorOf_39 hl (by decide) rfl (fun ls hl => ?_)
          refine lv_lload hx hb d_Mk_divisorOf_41 (lv_at hl 2 rfl) ?_
          refine lv_lstore_n (lv' := [(2, .long (lN S)), (7, .long (lN (G % S))), (6, .int (nI k)), (4, .long (lN S)), (0, .ref h0), (1, .int (nI i))]) hx hb d_Mk_divisorOf_43 rfl hl (by decide) rfl (fun ls hl => ?_)
          refine lv_lload hx hb d_Mk_divisorOf_44 (lv_at hl 1 rfl) ?_
          refine lv_lstore (lv' := [(4, .long (lN (G % S))), (2, .long (lN S)), (7, .long (lN (G % S))), (6, .int (nI k)), (0, .ref h0), (1, .int (nI i))]) hx hb d_Mk_divisorOf_46 hl (by decide) rfl (fun ls hl => ?_)
          obtain ⟨k9, ek9⟩ : ∃ y9 : Int32, y9 = (nI k) + Int32.ofInt (1) := ⟨_, rfl⟩
          refine lv_iinc (v := k9) (lv' := [(6, .int k9), (4, .long (lN (G % S))), (2, .long (lN S)), (7, .long (lN (G % S))), (0, .ref h0), (1, .int (nI i))]) hx hb d_Mk_divisorOf_48 hl (k := 3) rfl ek9.symm (by decide) rfl (fun ls hl => ?_)
          have ek : k9 = nI (k + 1) := by rw [ek9]; exact nI_add k 1
          subst ek
          refine lv_goto (tgt := 21) hx hb d_Mk_divisorOf_51 (by decide) ?_
          have hlt := Nat.mod_lt G hS0
          exact ihz (k + 1) (G % S) S (by omega) (by omega) (by omega) hS0 (by rw [← hgcd, Nat.gcd_comm S, ← Nat.gcd_rec, Nat.gcd_comm]) ls (lv_sub hl [0, 1, 2, 4, 5] rfl)
  exact loop (f i).toInt.natAbs 0 _ (g i).toInt.toNat (by omega) (by omega) (by omega) (by omega) (by rw [show Int.gcd (g i).toInt (f i).toInt = Nat.gcd (g i).toInt.natAbs (f i).toInt.natAbs from rfl]; congr 1; omega) ls (lv_sub hl [0, 1, 2, 3, 4] rfl)
set_option maxHeartbeats 4000000 in
set_option maxRecDepth 100000 in
theorem c_Mk_lowestAbove (h0 ma mb n i sz : Nat) (f g : Nat → Int64) (M : Nat → Option va_E) (hM : mk_S cJ M h0 ma mb n f g) (hn : n ≤ 21) (hr9 : mk_row f g n 50) (hi : i < n) : Met l y_Mk_lowestAbove (.code y_Mk_lowestAbove b_Mk_lowestAbove 2 (some .long) :: ww) ({ frames := 2, cells := 0, slots := 0, locals := 80 }) (hw_Pc D qcl (qty cI cJ cZ cN) [.ref h0, .int (nI i)] M sz) (va_Ql (fun r M1 => r.toInt = ((mk_v f g i).num : Int) ∧ M1 = M) (hw_B D qcl (qty cI cJ cZ cN) M sz) (hw_A M sz)) 0 0 (hw_A M sz) := by
  obtain ⟨hM1, hM2, hM3⟩ := id hM
  obtain ⟨b1, b2, b3⟩ := hr9.1 i hi
  refine hw_met (by decide) (Nat.le_of_ble_eq_true rfl) ?_
  intro p e s m below meth c hx hb hr hml hown hlocks hnm hts hsz hX hW ls hl
  subst hsz
  have hA : ∀ q, s.heap.size ≤ q → hw_A M s.heap.size q := fun q h => Or.inr h
  have hS : va_S (hw_A M s.heap.size) s.heap s.heap [] := va_S.rf
  have hl : lv_has ls 2 [(0, .ref h0), (1, .int (nI i))] := hl
  have hown : s.vm.findClass "QuantifierOut$Marks" = some m.cls := hown
  refine lv_aload_n hx hb d_Mk_lowestAbove_0 rfl (lv_at hl 0 rfl) ?_
  refine hw_get (own := "QuantifierOut$Marks") (v := .ref ma) hx hb hts i_Mk hown hW hM1 rfl 0 (by decide) (hts _ tw_41) (fun _ h9 => h9) rfl d_Mk_lowestAbove_1 ?_
  refine lv_iload_n hx hb d_Mk_lowestAbove_4 rfl (lv_at hl 1 rfl) ?_
  refine hw_lld hx hb hW 1 hM2 rfl i rfl (by omega) (by decide) d_Mk_lowestAbove_5 ?_
  refine lv_aload_n hx hb d_Mk_lowestAbove_6 rfl (lv_at hl 0 rfl) ?_
  refine lv_iload_n hx hb d_Mk_lowestAbove_7 rfl (lv_at hl 1 rfl) ?_
  refine hw_calll (hw_runV (n := 1) (own := "QuantifierOut$Marks") (As := [.int (nI i)]) (rest := [.long (f i)]) hx hb hml hown hts hX hW hl.1 (c_Mk_divisorOf l D cI cJ cZ cN h0 ma mb n i _ f g M hM hn hr9 hi) hM1 rfl tw_550 tw_552 ts_10 tw_3 tw_553 (by decide +kernel) rfl rfl ⟨by decide, by decide⟩ rfl rfl (Nat.le_of_ble_eq_true rfl) d_Mk_lowestAbove_8 ⟨by decide, by decide⟩) hW hS hA (fun dv M2 H locs hp hz hW hS => ?_)
  obtain ⟨ed, eM⟩ := hp
  rw [eM] at hW
  have hg0 : 0 < Int.gcd (g i).toInt (f i).toInt := Int.gcd_pos_of_ne_zero_left _ (by omega)
  have hgl : Int.gcd (g i).toInt (f i).toInt ≤ 50 := by have := Int.gcd_le_natAbs_left (b := (f i).toInt) (show (g i).toInt ≠ 0 by omega); omega
  have hdT : dv.toInt = (Int.gcd (g i).toInt (f i).toInt : Int) := by rw [ed, pk_lT (by omega)]
  refine lv_ldiv hx hb d_Mk_lowestAbove_11 (fun z9 => by rw [z9, show (0 : Int64).toInt = 0 from rfl] at hdT; omega) ?_
  refine lv_topl (fun rq erq => ?_)
  refine hw_retl hx hb hr hlocks hW hS ⟨?_, rfl⟩ d_Mk_lowestAbove_12
  rw [erq, lx_div (by rw [hdT]; omega) (by rw [hdT]; exact Int.gcd_dvd_right ..), hdT]
  exact (fr_num b1).1.symm
set_option maxHeartbeats 4000000 in
set_option maxRecDepth 100000 in
theorem c_Mk_lowestBelow (h0 ma mb n i sz : Nat) (f g : Nat → Int64) (M : Nat → Option va_E) (hM : mk_S cJ M h0 ma mb n f g) (hn : n ≤ 21) (hr9 : mk_row f g n 50) (hi : i < n) : Met l y_Mk_lowestBelow (.code y_Mk_lowestBelow b_Mk_lowestBelow 2 (some .long) :: ww) ({ frames := 2, cells := 0, slots := 0, locals := 80 }) (hw_Pc D qcl (qty cI cJ cZ cN) [.ref h0, .int (nI i)] M sz) (va_Ql (fun r M1 => r.toInt = ((mk_v f g i).den : Int) ∧ M1 = M) (hw_B D qcl (qty cI cJ cZ cN) M sz) (hw_A M sz)) 0 0 (hw_A M sz) := by
  obtain ⟨hM1, hM2, hM3⟩ := id hM
  obtain ⟨b1, b2, b3⟩ := hr9.1 i hi
  refine hw_met (by decide) (Nat.le_of_ble_eq_true rfl) ?_
  intro p e s m below meth c hx hb hr hml hown hlocks hnm hts hsz hX hW ls hl
  subst hsz
  have hA : ∀ q, s.heap.size ≤ q → hw_A M s.heap.size q := fun q h => Or.inr h
  have hS : va_S (hw_A M s.heap.size) s.heap s.heap [] := va_S.rf
  have hl : lv_has ls 2 [(0, .ref h0), (1, .int (nI i))] := hl
  have hown : s.vm.findClass "QuantifierOut$Marks" = some m.cls := hown
  refine lv_aload_n hx hb d_Mk_lowestBelow_0 rfl (lv_at hl 0 rfl) ?_
  refine hw_get (own := "QuantifierOut$Marks") (v := .ref mb) hx hb hts i_Mk hown hW hM1 rfl 1 (by decide) (hts _ tw_42) (fun _ h9 => h9) rfl d_Mk_lowestBelow_1 ?_
  refine lv_iload_n hx hb d_Mk_lowestBelow_4 rfl (lv_at hl 1 rfl) ?_
  refine hw_lld hx hb hW 1 hM3 rfl i rfl (by omega) (by decide) d_Mk_lowestBelow_5 ?_
  refine lv_aload_n hx hb d_Mk_lowestBelow_6 rfl (lv_at hl 0 rfl) ?_
  refine lv_iload_n hx hb d_Mk_lowestBelow_7 rfl (lv_at hl 1 rfl) ?_
  refine hw_calll (hw_runV (n := 1) (own := "QuantifierOut$Marks") (As := [.int (nI i)]) (rest := [.long (g i)]) hx hb hml hown hts hX hW hl.1 (c_Mk_divisorOf l D cI cJ cZ cN h0 ma mb n i _ f g M hM hn hr9 hi) hM1 rfl tw_550 tw_552 ts_10 tw_3 tw_553 (by decide +kernel) rfl rfl ⟨by decide, by decide⟩ rfl rfl (Nat.le_of_ble_eq_true rfl) d_Mk_lowestBelow_8 ⟨by decide, by decide⟩) hW hS hA (fun dv M2 H locs hp hz hW hS => ?_)
  obtain ⟨ed, eM⟩ := hp
  rw [eM] at hW
  have hg0 : 0 < Int.gcd (g i).toInt (f i).toInt := Int.gcd_pos_of_ne_zero_left _ (by omega)
  have hgl : Int.gcd (g i).toInt (f i).toInt ≤ 50 := by have := Int.gcd_le_natAbs_left (b := (f i).toInt) (show (g i).toInt ≠ 0 by omega); omega
  have hdT : dv.toInt = (Int.gcd (g i).toInt (f i).toInt : Int) := by rw [ed, pk_lT (by omega)]
  refine lv_ldiv hx hb d_Mk_lowestBelow_11 (fun z9 => by rw [z9, show (0 : Int64).toInt = 0 from rfl] at hdT; omega) ?_
  refine lv_topl (fun rq erq => ?_)
  refine hw_retl hx hb hr hlocks hW hS ⟨?_, rfl⟩ d_Mk_lowestBelow_12
  rw [erq, lx_div (by rw [hdT]; omega) (by rw [hdT]; exact Int.gcd_dvd_left ..), hdT]
  exact (fr_num b1).2.symm
set_option maxHeartbeats 4000000 in
set_option maxRecDepth 100000 in
theorem c_Pc_partOfEnd (h0 mk ka kb fa la n mm k sd pt fs lS sz : Nat) (ow : Option Nat) (f g : Nat → Int64) (Ff Fl : Nat → Int32) (M : Nat → Option va_E) (hP : pc_S cI cJ M h0 mk ka kb fa la ow n f g mm Ff Fl) (hn : n ≤ 21) (hr9 : mk_row f g n 50) (hk : k < mm) (hm : mm ≤ 22) (hf : Ff k = nI fs) (hl9 : Fl k = nI lS) (hf2 : fs < 2 * n + 1) (hl2 : lS < 2 * n + 1) (hsd : sd < 2) (hpt : pt < 3) : Met l y_Pc_partOfEnd (.code y_Pc_partOfEnd b_Pc_partOfEnd 8 (some .long) :: ww) ({ frames := 3, cells := 0, slots := 0, locals := 120 }) (hw_Pc D qcl (qty cI cJ cZ cN) [.ref h0, .int (nI k), .int (nI sd), .int (nI pt)] M sz) (va_Ql (fun r M1 => r.toInt = pe_v (if sd = 0 then qi_L (mk_v f g) fs else qi_R (mk_v f g) n lS) pt ∧ M1 = M) (hw_B D qcl (qty cI cJ cZ cN) M sz) (hw_A M sz)) 0 0 (hw_A M sz) := by
  obtain ⟨hc, hmk, hfa, hla⟩ := id hP
  refine hw_met (by decide) (Nat.le_of_ble_eq_true rfl) ?_
  intro p e s m below meth c hx hb hr hml hown hlocks hnm hts hsz hX hW ls hl
  subst hsz
  have hA : ∀ q, s.heap.size ≤ q → hw_A M s.heap.size q := fun q h => Or.inr h
  have hS : va_S (hw_A M s.heap.size) s.heap s.heap [] := va_S.rf
  have hl : lv_has ls 8 [(0, .ref h0), (1, .int (nI k)), (2, .int (nI sd)), (3, .int (nI pt))] := hl
  have hown : s.vm.findClass "QuantifierOut$Pieces" = some m.cls := hown
  obtain ⟨Q9, hQ9⟩ : ∃ X : State → Prop, X = MQ below (va_Ql (fun r M1 => r.toInt = pe_v (if sd = 0 then qi_L (mk_v f g) fs else qi_R (mk_v f g) n lS) pt ∧ M1 = M) (hw_B D qcl (qty cI cJ cZ cN) M s.heap.size) (hw_A M s.heap.size)) [.ref h0, .int (nI k), .int (nI sd), .int (nI pt)].toArray s 0 0 (hw_A M s.heap.size) := ⟨_, rfl⟩
  rw [← hQ9]
  rcases (show sd = 0 ∨ sd = 1 by omega) with rfl | rfl
  · skip
    have rest : fs ≠ 0 → ∀ (H : Heap) (locs : List Loc) (ls : Array Slot), hw_W D qcl (qty cI cJ cZ cN) (hw_A M s.heap.size) M s H → va_S (hw_A M s.heap.size) s.heap H locs → lv_has ls 8 [(4, .int (nI fs)), (0, .ref h0), (1, .int (nI k)), (2, .int (nI 0)), (3, .int (nI pt))] → W p l e ({ frames := 3, cells := 0, slots := 0, locals := 120 }) s m [.ref h0, .int (nI k), .int (nI 0), .int (nI pt)].toArray below meth c H locs 0 0 Q9 (F0 m 75 ls []) := by
      intro hne H locs ls hW hS hl
      refine lv_iload hx hb d_Pc_partOfEnd_75 (lv_at hl 0 rfl) ?_
      refine lv_iconst (v := 2) hx hb d_Pc_partOfEnd_77 (by decide) ?_
      refine lv_irem hx hb d_Pc_partOfEnd_78 (by decide) ?_
      refine lv_topi (fun rm erm => ?_)
      have erm2 : rm = nI (fs % 2) := by rw [erm]; exact pk_rem (a := fs) (d := 2) (by omega) (by omega) (by omega)
      refine lv_iconst (v := 1) hx hb d_Pc_partOfEnd_79 (by decide) ?_
      refine lv_icmp_ne (tgt := 87) hx hb d_Pc_partOfEnd_80 (by decide) (fun c_80 => ?_) (fun c_80 => ?_)
      · skip
        have hb2 : ¬ fs % 2 = 1 := fun z9 => c_80 (by rw [erm2, z9]; rfl)
        have hv : qi_L (mk_v f g) fs = some (mk_v f g (fs / 2 - 1), false) := by unfold qi_L; rw [if_neg hne, if_neg hb2]
        refine lv_iconst (v := 0) hx hb d_Pc_partOfEnd_87 (by decide) ?_
        refine lv_istore (lv' := [(6, .int 0), (4, .int (nI fs)), (0, .ref h0), (1, .int (nI k)), (2, .int (nI 0)), (3, .int (nI pt))]) hx hb d_Pc_partOfEnd_88 hl (by decide) rfl (fun ls hl => ?_)
        refine lv_iload_n hx hb d_Pc_partOfEnd_90 rfl (lv_at hl 5 rfl) ?_
        refine lv_if_ne (tgt := 107) hx hb d_Pc_partOfEnd_91 (by decide) (fun c_91 => ?_) (fun c_91 => ?_)
        · skip
          have hp0 : pt ≠ 0 := fun z9 => c_91 (by rw [z9]; rfl)
          refine lv_iload hx hb d_Pc_partOfEnd_107 (lv_at hl 0 rfl) ?_
          refine lv_if_ne (tgt := 117) hx hb d_Pc_partOfEnd_109 (by decide) (fun c_109 => ?_) (fun c_109 => ?_)
          · skip
            exact absurd rfl c_109
          · skip
            refine lv_iload_n hx hb d_Pc_partOfEnd_112 rfl (lv_at hl 4 rfl) ?_
            refine lv_iconst (v := 1) hx hb d_Pc_partOfEnd_113 (by decide) ?_
            refine lv_icmp_ne (tgt := 124) hx hb d_Pc_partOfEnd_114 (by decide) (fun c_114 => ?_) (fun c_114 => ?_)
            · skip
              refine lv_iload hx hb d_Pc_partOfEnd_124 (lv_at hl 1 rfl) ?_
              refine lv_iconst (v := 2) hx hb d_Pc_partOfEnd_126 (by decide) ?_
              refine lv_idiv hx hb d_Pc_partOfEnd_127 (by decide) ?_
              refine lv_topi (fun dq edq => ?_)
              have edq2 : dq = nI (fs / 2) := by rw [edq]; exact pk_div (a := fs) (d := 2) (by omega) (by omega) (by omega)
              subst edq2
              refine lv_iconst (v := 1) hx hb d_Pc_partOfEnd_128 (by decide) ?_
              refine lv_isub hx hb d_Pc_partOfEnd_129 ?_
              refine lv_topi (fun x1 ex1 => ?_)
              have emk : x1 = nI (fs / 2 - 1) := by rw [ex1, show fs / 2 = fs / 2 - 1 + 1 by omega]; exact nI_pred (fs / 2 - 1)
              rw [emk]
              refine lv_istore (lv' := [(7, .int (nI (fs / 2 - 1))), (6, .int 0), (4, .int (nI fs)), (0, .ref h0), (1, .int (nI k)), (2, .int (nI 0)), (3, .int (nI pt))]) hx hb d_Pc_partOfEnd_130 hl (by decide) rfl (fun ls hl => ?_)
              refine lv_iload_n hx hb d_Pc_partOfEnd_132 rfl (lv_at hl 6 rfl) ?_
              refine lv_iconst (v := 1) hx hb d_Pc_partOfEnd_133 (by decide) ?_
              refine lv_icmp_ne (tgt := 149) hx hb d_Pc_partOfEnd_134 (by decide) (fun c_134 => ?_) (fun c_134 => ?_)
              · skip
                have hp1 : pt ≠ 1 := fun z9 => c_134 (by rw [z9]; rfl)
                have hp1 : pt = 2 := by omega
                refine lv_aload_n hx hb d_Pc_partOfEnd_149 rfl (lv_at hl 3 rfl) ?_
                refine hw_get (own := "QuantifierOut$Pieces") (v := .ref mk) hx hb hts i_Pc hown hW hc rfl 0 (by decide) (hts _ tw_79) (fun _ h9 => h9) rfl d_Pc_partOfEnd_150 ?_
                refine lv_iload hx hb d_Pc_partOfEnd_153 (lv_at hl 0 rfl) ?_
                refine hw_calll (hw_runV (n := 1) (own := "QuantifierOut$Pieces") (As := [.int (nI (fs / 2 - 1))]) (rest := []) hx hb hml hown hts hX hW hl.1 (c_Mk_lowestBelow l D cI cJ cZ cN mk ka kb n (fs / 2 - 1) _ f g M hmk hn hr9 (by omega)) hmk.1 rfl tw_560 tw_561 tw_562 tw_3 tw_563 (by decide +kernel) rfl rfl ⟨by decide, by decide⟩ rfl rfl (Nat.le_of_ble_eq_true rfl) d_Pc_partOfEnd_155 ⟨by decide, by decide⟩) hW hS hA (fun rv M2 H locs hp hz hW hS => ?_)
                obtain ⟨ev, eM⟩ := hp
                rw [eM] at hW
                rw [hQ9]
                exact hw_retl hx hb hr hlocks hW hS ⟨by rw [if_pos rfl, hv, ev, hp1]; rfl, rfl⟩ d_Pc_partOfEnd_158
              · skip
                have hp1 : pt = 1 := (nI_eq (b := 1) (by omega) (by omega)).mp c_134
                refine lv_aload_n hx hb d_Pc_partOfEnd_137 rfl (lv_at hl 3 rfl) ?_
                refine hw_get (own := "QuantifierOut$Pieces") (v := .ref mk) hx hb hts i_Pc hown hW hc rfl 0 (by decide) (hts _ tw_79) (fun _ h9 => h9) rfl d_Pc_partOfEnd_138 ?_
                refine lv_iload hx hb d_Pc_partOfEnd_141 (lv_at hl 0 rfl) ?_
                refine hw_calll (hw_runV (n := 1) (own := "QuantifierOut$Pieces") (As := [.int (nI (fs / 2 - 1))]) (rest := []) hx hb hml hown hts hX hW hl.1 (c_Mk_lowestAbove l D cI cJ cZ cN mk ka kb n (fs / 2 - 1) _ f g M hmk hn hr9 (by omega)) hmk.1 rfl tw_546 tw_547 tw_548 tw_3 tw_549 (by decide +kernel) rfl rfl ⟨by decide, by decide⟩ rfl rfl (Nat.le_of_ble_eq_true rfl) d_Pc_partOfEnd_143 ⟨by decide, by decide⟩) hW hS hA (fun rv M2 H locs hp hz hW hS => ?_)
                obtain ⟨ev, eM⟩ := hp
                rw [eM] at hW
                refine lv_goto (tgt := 158) hx hb d_Pc_partOfEnd_146 (by decide) ?_
                rw [hQ9]
                exact hw_retl hx hb hr hlocks hW hS ⟨by rw [if_pos rfl, hv, ev, hp1]; rfl, rfl⟩ d_Pc_partOfEnd_158
            · skip
              exact absurd c_114 (by decide)
        · skip
          have hp0 : pt = 0 := (nI_eq (b := 0) (by omega) (by omega)).mp c_91
          subst hp0
          refine lv_iload hx hb d_Pc_partOfEnd_94 (lv_at hl 0 rfl) ?_
          refine lv_if_eq (tgt := 105) hx hb d_Pc_partOfEnd_96 (by decide) (fun c_96 => ?_) (fun c_96 => ?_)
          · skip
            refine lv_lconst (v := 1) hx hb d_Pc_partOfEnd_105 (by decide) ?_
            rw [hQ9]
            exact hw_retl hx hb hr hlocks hW hS ⟨by rw [if_pos rfl, hv]; rfl, rfl⟩ d_Pc_partOfEnd_106
          · skip
            exact absurd rfl c_96
      · skip
        have hb2 : fs % 2 = 1 := by rw [erm2] at c_80; exact (nI_eq (b := 1) (by omega) (by omega)).mp c_80
        have hv : qi_L (mk_v f g) fs = some (mk_v f g (fs / 2), true) := by unfold qi_L; rw [if_neg hne, if_pos hb2]
        refine lv_iconst (v := 1) hx hb d_Pc_partOfEnd_83 (by decide) ?_
        refine lv_goto (tgt := 88) hx hb d_Pc_partOfEnd_84 (by decide) ?_
        refine lv_istore (lv' := [(6, .int 1), (4, .int (nI fs)), (0, .ref h0), (1, .int (nI k)), (2, .int (nI 0)), (3, .int (nI pt))]) hx hb d_Pc_partOfEnd_88 hl (by decide) rfl (fun ls hl => ?_)
        refine lv_iload_n hx hb d_Pc_partOfEnd_90 rfl (lv_at hl 5 rfl) ?_
        refine lv_if_ne (tgt := 107) hx hb d_Pc_partOfEnd_91 (by decide) (fun c_91 => ?_) (fun c_91 => ?_)
        · skip
          have hp0 : pt ≠ 0 := fun z9 => c_91 (by rw [z9]; rfl)
          refine lv_iload hx hb d_Pc_partOfEnd_107 (lv_at hl 0 rfl) ?_
          refine lv_if_ne (tgt := 117) hx hb d_Pc_partOfEnd_109 (by decide) (fun c_109 => ?_) (fun c_109 => ?_)
          · skip
            refine lv_iload hx hb d_Pc_partOfEnd_117 (lv_at hl 1 rfl) ?_
            refine lv_iconst (v := 2) hx hb d_Pc_partOfEnd_119 (by decide) ?_
            refine lv_idiv hx hb d_Pc_partOfEnd_120 (by decide) ?_
            refine lv_topi (fun dq edq => ?_)
            have edq2 : dq = nI (fs / 2) := by rw [edq]; exact pk_div (a := fs) (d := 2) (by omega) (by omega) (by omega)
            subst edq2
            refine lv_goto (tgt := 130) hx hb d_Pc_partOfEnd_121 (by decide) ?_
            refine lv_istore (lv' := [(7, .int (nI (fs / 2))), (6, .int 1), (4, .int (nI fs)), (0, .ref h0), (1, .int (nI k)), (2, .int (nI 0)), (3, .int (nI pt))]) hx hb d_Pc_partOfEnd_130 hl (by decide) rfl (fun ls hl => ?_)
            refine lv_iload_n hx hb d_Pc_partOfEnd_132 rfl (lv_at hl 6 rfl) ?_
            refine lv_iconst (v := 1) hx hb d_Pc_partOfEnd_133 (by decide) ?_
            refine lv_icmp_ne (tgt := 149) hx hb d_Pc_partOfEnd_134 (by decide) (fun c_134 => ?_) (fun c_134 => ?_)
            · skip
              have hp1 : pt ≠ 1 := fun z9 => c_134 (by rw [z9]; rfl)
              have hp1 : pt = 2 := by omega
              refine lv_aload_n hx hb d_Pc_partOfEnd_149 rfl (lv_at hl 3 rfl) ?_
              refine hw_get (own := "QuantifierOut$Pieces") (v := .ref mk) hx hb hts i_Pc hown hW hc rfl 0 (by decide) (hts _ tw_79) (fun _ h9 => h9) rfl d_Pc_partOfEnd_150 ?_
              refine lv_iload hx hb d_Pc_partOfEnd_153 (lv_at hl 0 rfl) ?_
              refine hw_calll (hw_runV (n := 1) (own := "QuantifierOut$Pieces") (As := [.int (nI (fs / 2))]) (rest := []) hx hb hml hown hts hX hW hl.1 (c_Mk_lowestBelow l D cI cJ cZ cN mk ka kb n (fs / 2) _ f g M hmk hn hr9 (by omega)) hmk.1 rfl tw_560 tw_561 tw_562 tw_3 tw_563 (by decide +kernel) rfl rfl ⟨by decide, by decide⟩ rfl rfl (Nat.le_of_ble_eq_true rfl) d_Pc_partOfEnd_155 ⟨by decide, by decide⟩) hW hS hA (fun rv M2 H locs hp hz hW hS => ?_)
              obtain ⟨ev, eM⟩ := hp
              rw [eM] at hW
              rw [hQ9]
              exact hw_retl hx hb hr hlocks hW hS ⟨by rw [if_pos rfl, hv, ev, hp1]; rfl, rfl⟩ d_Pc_partOfEnd_158
            · skip
              have hp1 : pt = 1 := (nI_eq (b := 1) (by omega) (by omega)).mp c_134
              refine lv_aload_n hx hb d_Pc_partOfEnd_137 rfl (lv_at hl 3 rfl) ?_
              refine hw_get (own := "QuantifierOut$Pieces") (v := .ref mk) hx hb hts i_Pc hown hW hc rfl 0 (by decide) (hts _ tw_79) (fun _ h9 => h9) rfl d_Pc_partOfEnd_138 ?_
              refine lv_iload hx hb d_Pc_partOfEnd_141 (lv_at hl 0 rfl) ?_
              refine hw_calll (hw_runV (n := 1) (own := "QuantifierOut$Pieces") (As := [.int (nI (fs / 2))]) (rest := []) hx hb hml hown hts hX hW hl.1 (c_Mk_lowestAbove l D cI cJ cZ cN mk ka kb n (fs / 2) _ f g M hmk hn hr9 (by omega)) hmk.1 rfl tw_546 tw_547 tw_548 tw_3 tw_549 (by decide +kernel) rfl rfl ⟨by decide, by decide⟩ rfl rfl (Nat.le_of_ble_eq_true rfl) d_Pc_partOfEnd_143 ⟨by decide, by decide⟩) hW hS hA (fun rv M2 H locs hp hz hW hS => ?_)
              obtain ⟨ev, eM⟩ := hp
              rw [eM] at hW
              refine lv_goto (tgt := 158) hx hb d_Pc_partOfEnd_146 (by decide) ?_
              rw [hQ9]
              exact hw_retl hx hb hr hlocks hW hS ⟨by rw [if_pos rfl, hv, ev, hp1]; rfl, rfl⟩ d_Pc_partOfEnd_158
          · skip
            exact absurd c_109 (by decide)
        · skip
          have hp0 : pt = 0 := (nI_eq (b := 0) (by omega) (by omega)).mp c_91
          subst hp0
          refine lv_iload hx hb d_Pc_partOfEnd_94 (lv_at hl 0 rfl) ?_
          refine lv_if_eq (tgt := 105) hx hb d_Pc_partOfEnd_96 (by decide) (fun c_96 => ?_) (fun c_96 => ?_)
          · skip
            exact absurd c_96 (by decide)
          · skip
            refine lv_ldc2 (own := "QuantifierOut$Pieces") (v := 2) hx hb hown (hts _ tw_545) d_Pc_partOfEnd_99 ?_
            refine lv_goto (tgt := 106) hx hb d_Pc_partOfEnd_102 (by decide) ?_
            rw [hQ9]
            exact hw_retl hx hb hr hlocks hW hS ⟨by rw [if_pos rfl, hv]; rfl, rfl⟩ d_Pc_partOfEnd_106
    refine lv_iload_n hx hb d_Pc_partOfEnd_0 rfl (lv_at hl 2 rfl) ?_
    refine lv_if_ne (tgt := 13) hx hb d_Pc_partOfEnd_1 (by decide) (fun c_1 => ?_) (fun c_1 => ?_)
    · skip
      exact absurd rfl c_1
    · skip
      refine lv_aload_n hx hb d_Pc_partOfEnd_4 rfl (lv_at hl 0 rfl) ?_
      refine hw_get (own := "QuantifierOut$Pieces") (v := .ref fa) hx hb hts i_Pc hown hW hc rfl 1 (by decide) (hts _ tw_80) (fun _ h9 => h9) rfl d_Pc_partOfEnd_5 ?_
      refine lv_iload_n hx hb d_Pc_partOfEnd_8 rfl (lv_at hl 1 rfl) ?_
      refine hw_ild hx hb hW 0 hfa rfl k rfl (by omega) (by decide) d_Pc_partOfEnd_9 ?_
      rw [hf]
      refine lv_goto (tgt := 19) hx hb d_Pc_partOfEnd_10 (by decide) ?_
      refine lv_istore (lv' := [(4, .int (nI fs)), (0, .ref h0), (1, .int (nI k)), (2, .int (nI 0)), (3, .int (nI pt))]) hx hb d_Pc_partOfEnd_19 hl (by decide) rfl (fun ls hl => ?_)
      refine lv_iload_n hx hb d_Pc_partOfEnd_21 rfl (lv_at hl 3 rfl) ?_
      refine lv_if_ne (tgt := 38) hx hb d_Pc_partOfEnd_22 (by decide) (fun c_22 => ?_) (fun c_22 => ?_)
      · skip
        exact absurd rfl c_22
      · skip
        refine lv_iload hx hb d_Pc_partOfEnd_25 (lv_at hl 0 rfl) ?_
        refine lv_if_ne (tgt := 34) hx hb d_Pc_partOfEnd_27 (by decide) (fun c_27 => ?_) (fun c_27 => ?_)
        · skip
          have hne : fs ≠ 0 := fun z9 => c_27 (by rw [z9]; rfl)
          refine lv_iconst (v := 0) hx hb d_Pc_partOfEnd_34 (by decide) ?_
          refine lv_goto (tgt := 57) hx hb d_Pc_partOfEnd_35 (by decide) ?_
          refine lv_istore (lv' := [(5, .int 0), (4, .int (nI fs)), (0, .ref h0), (1, .int (nI k)), (2, .int (nI 0)), (3, .int (nI pt))]) hx hb d_Pc_partOfEnd_57 hl (by decide) rfl (fun ls hl => ?_)
          refine lv_iload hx hb d_Pc_partOfEnd_59 (lv_at hl 0 rfl) ?_
          refine lv_if_eq (tgt := 75) hx hb d_Pc_partOfEnd_61 (by decide) (fun c_61 => ?_) (fun c_61 => ?_)
          · skip
            exact rest hne _ _ ls hW hS (lv_sub hl [1, 2, 3, 4, 5] rfl)
          · skip
            exact absurd rfl c_61
        · skip
          have hne0 : fs = 0 := (nI_eq (b := 0) (by omega) (by omega)).mp c_27
          have hv : qi_L (mk_v f g) fs = none := by unfold qi_L; rw [if_pos hne0]
          refine lv_iconst (v := 1) hx hb d_Pc_partOfEnd_30 (by decide) ?_
          refine lv_goto (tgt := 57) hx hb d_Pc_partOfEnd_31 (by decide) ?_
          refine lv_istore (lv' := [(5, .int 1), (4, .int (nI fs)), (0, .ref h0), (1, .int (nI k)), (2, .int (nI 0)), (3, .int (nI pt))]) hx hb d_Pc_partOfEnd_57 hl (by decide) rfl (fun ls hl => ?_)
          refine lv_iload hx hb d_Pc_partOfEnd_59 (lv_at hl 0 rfl) ?_
          refine lv_if_eq (tgt := 75) hx hb d_Pc_partOfEnd_61 (by decide) (fun c_61 => ?_) (fun c_61 => ?_)
          · skip
            exact absurd c_61 (by decide)
          · skip
            refine lv_iload_n hx hb d_Pc_partOfEnd_64 rfl (lv_at hl 5 rfl) ?_
            refine lv_iconst (v := 2) hx hb d_Pc_partOfEnd_65 (by decide) ?_
            refine lv_icmp_ne (tgt := 73) hx hb d_Pc_partOfEnd_66 (by decide) (fun c_66 => ?_) (fun c_66 => ?_)
            · skip
              have hp2 : pt ≠ 2 := fun z9 => c_66 (by rw [z9]; rfl)
              refine lv_lconst (v := 0) hx hb d_Pc_partOfEnd_73 (by decide) ?_
              rw [hQ9]
              exact hw_retl hx hb hr hlocks hW hS ⟨by rw [if_pos rfl, hv]; unfold pe_v; rw [if_neg hp2]; rfl, rfl⟩ d_Pc_partOfEnd_74
            · skip
              have hp2 : pt = 2 := (nI_eq (b := 2) (by omega) (by omega)).mp c_66
              refine lv_lconst (v := 1) hx hb d_Pc_partOfEnd_69 (by decide) ?_
              refine lv_goto (tgt := 74) hx hb d_Pc_partOfEnd_70 (by decide) ?_
              rw [hQ9]
              exact hw_retl hx hb hr hlocks hW hS ⟨by rw [if_pos rfl, hv, hp2]; rfl, rfl⟩ d_Pc_partOfEnd_74
  · skip
    have rest : lS ≠ 2 * n → ∀ (H : Heap) (locs : List Loc) (ls : Array Slot), hw_W D qcl (qty cI cJ cZ cN) (hw_A M s.heap.size) M s H → va_S (hw_A M s.heap.size) s.heap H locs → lv_has ls 8 [(4, .int (nI lS)), (0, .ref h0), (1, .int (nI k)), (2, .int (nI 1)), (3, .int (nI pt))] → W p l e ({ frames := 3, cells := 0, slots := 0, locals := 120 }) s m [.ref h0, .int (nI k), .int (nI 1), .int (nI pt)].toArray below meth c H locs 0 0 Q9 (F0 m 75 ls []) := by
      intro hne H locs ls hW hS hl
      refine lv_iload hx hb d_Pc_partOfEnd_75 (lv_at hl 0 rfl) ?_
      refine lv_iconst (v := 2) hx hb d_Pc_partOfEnd_77 (by decide) ?_
      refine lv_irem hx hb d_Pc_partOfEnd_78 (by decide) ?_
      refine lv_topi (fun rm erm => ?_)
      have erm2 : rm = nI (lS % 2) := by rw [erm]; exact pk_rem (a := lS) (d := 2) (by omega) (by omega) (by omega)
      refine lv_iconst (v := 1) hx hb d_Pc_partOfEnd_79 (by decide) ?_
      refine lv_icmp_ne (tgt := 87) hx hb d_Pc_partOfEnd_80 (by decide) (fun c_80 => ?_) (fun c_80 => ?_)
      · skip
        have hb2 : ¬ lS % 2 = 1 := fun z9 => c_80 (by rw [erm2, z9]; rfl)
        have hv : qi_R (mk_v f g) n lS = some (mk_v f g (lS / 2), false) := by unfold qi_R; rw [if_neg hne, if_neg hb2]
        refine lv_iconst (v := 0) hx hb d_Pc_partOfEnd_87 (by decide) ?_
        refine lv_istore (lv' := [(6, .int 0), (4, .int (nI lS)), (0, .ref h0), (1, .int (nI k)), (2, .int (nI 1)), (3, .int (nI pt))]) hx hb d_Pc_partOfEnd_88 hl (by decide) rfl (fun ls hl => ?_)
        refine lv_iload_n hx hb d_Pc_partOfEnd_90 rfl (lv_at hl 5 rfl) ?_
        refine lv_if_ne (tgt := 107) hx hb d_Pc_partOfEnd_91 (by decide) (fun c_91 => ?_) (fun c_91 => ?_)
        · skip
          have hp0 : pt ≠ 0 := fun z9 => c_91 (by rw [z9]; rfl)
          refine lv_iload hx hb d_Pc_partOfEnd_107 (lv_at hl 0 rfl) ?_
          refine lv_if_ne (tgt := 117) hx hb d_Pc_partOfEnd_109 (by decide) (fun c_109 => ?_) (fun c_109 => ?_)
          · skip
            exact absurd rfl c_109
          · skip
            refine lv_iload_n hx hb d_Pc_partOfEnd_112 rfl (lv_at hl 4 rfl) ?_
            refine lv_iconst (v := 1) hx hb d_Pc_partOfEnd_113 (by decide) ?_
            refine lv_icmp_ne (tgt := 124) hx hb d_Pc_partOfEnd_114 (by decide) (fun c_114 => ?_) (fun c_114 => ?_)
            · skip
              exact absurd rfl c_114
            · skip
              refine lv_iload hx hb d_Pc_partOfEnd_117 (lv_at hl 1 rfl) ?_
              refine lv_iconst (v := 2) hx hb d_Pc_partOfEnd_119 (by decide) ?_
              refine lv_idiv hx hb d_Pc_partOfEnd_120 (by decide) ?_
              refine lv_topi (fun dq edq => ?_)
              have edq2 : dq = nI (lS / 2) := by rw [edq]; exact pk_div (a := lS) (d := 2) (by omega) (by omega) (by omega)
              subst edq2
              refine lv_goto (tgt := 130) hx hb d_Pc_partOfEnd_121 (by decide) ?_
              refine lv_istore (lv' := [(7, .int (nI (lS / 2))), (6, .int 0), (4, .int (nI lS)), (0, .ref h0), (1, .int (nI k)), (2, .int (nI 1)), (3, .int (nI pt))]) hx hb d_Pc_partOfEnd_130 hl (by decide) rfl (fun ls hl => ?_)
              refine lv_iload_n hx hb d_Pc_partOfEnd_132 rfl (lv_at hl 6 rfl) ?_
              refine lv_iconst (v := 1) hx hb d_Pc_partOfEnd_133 (by decide) ?_
              refine lv_icmp_ne (tgt := 149) hx hb d_Pc_partOfEnd_134 (by decide) (fun c_134 => ?_) (fun c_134 => ?_)
              · skip
                have hp1 : pt ≠ 1 := fun z9 => c_134 (by rw [z9]; rfl)
                have hp1 : pt = 2 := by omega
                refine lv_aload_n hx hb d_Pc_partOfEnd_149 rfl (lv_at hl 3 rfl) ?_
                refine hw_get (own := "QuantifierOut$Pieces") (v := .ref mk) hx hb hts i_Pc hown hW hc rfl 0 (by decide) (hts _ tw_79) (fun _ h9 => h9) rfl d_Pc_partOfEnd_150 ?_
                refine lv_iload hx hb d_Pc_partOfEnd_153 (lv_at hl 0 rfl) ?_
                refine hw_calll (hw_runV (n := 1) (own := "QuantifierOut$Pieces") (As := [.int (nI (lS / 2))]) (rest := []) hx hb hml hown hts hX hW hl.1 (c_Mk_lowestBelow l D cI cJ cZ cN mk ka kb n (lS / 2) _ f g M hmk hn hr9 (by omega)) hmk.1 rfl tw_560 tw_561 tw_562 tw_3 tw_563 (by decide +kernel) rfl rfl ⟨by decide, by decide⟩ rfl rfl (Nat.le_of_ble_eq_true rfl) d_Pc_partOfEnd_155 ⟨by decide, by decide⟩) hW hS hA (fun rv M2 H locs hp hz hW hS => ?_)
                obtain ⟨ev, eM⟩ := hp
                rw [eM] at hW
                rw [hQ9]
                exact hw_retl hx hb hr hlocks hW hS ⟨by rw [if_neg (by decide), hv, ev, hp1]; rfl, rfl⟩ d_Pc_partOfEnd_158
              · skip
                have hp1 : pt = 1 := (nI_eq (b := 1) (by omega) (by omega)).mp c_134
                refine lv_aload_n hx hb d_Pc_partOfEnd_137 rfl (lv_at hl 3 rfl) ?_
                refine hw_get (own := "QuantifierOut$Pieces") (v := .ref mk) hx hb hts i_Pc hown hW hc rfl 0 (by decide) (hts _ tw_79) (fun _ h9 => h9) rfl d_Pc_partOfEnd_138 ?_
                refine lv_iload hx hb d_Pc_partOfEnd_141 (lv_at hl 0 rfl) ?_
                refine hw_calll (hw_runV (n := 1) (own := "QuantifierOut$Pieces") (As := [.int (nI (lS / 2))]) (rest := []) hx hb hml hown hts hX hW hl.1 (c_Mk_lowestAbove l D cI cJ cZ cN mk ka kb n (lS / 2) _ f g M hmk hn hr9 (by omega)) hmk.1 rfl tw_546 tw_547 tw_548 tw_3 tw_549 (by decide +kernel) rfl rfl ⟨by decide, by decide⟩ rfl rfl (Nat.le_of_ble_eq_true rfl) d_Pc_partOfEnd_143 ⟨by decide, by decide⟩) hW hS hA (fun rv M2 H locs hp hz hW hS => ?_)
                obtain ⟨ev, eM⟩ := hp
                rw [eM] at hW
                refine lv_goto (tgt := 158) hx hb d_Pc_partOfEnd_146 (by decide) ?_
                rw [hQ9]
                exact hw_retl hx hb hr hlocks hW hS ⟨by rw [if_neg (by decide), hv, ev, hp1]; rfl, rfl⟩ d_Pc_partOfEnd_158
        · skip
          have hp0 : pt = 0 := (nI_eq (b := 0) (by omega) (by omega)).mp c_91
          subst hp0
          refine lv_iload hx hb d_Pc_partOfEnd_94 (lv_at hl 0 rfl) ?_
          refine lv_if_eq (tgt := 105) hx hb d_Pc_partOfEnd_96 (by decide) (fun c_96 => ?_) (fun c_96 => ?_)
          · skip
            refine lv_lconst (v := 1) hx hb d_Pc_partOfEnd_105 (by decide) ?_
            rw [hQ9]
            exact hw_retl hx hb hr hlocks hW hS ⟨by rw [if_neg (by decide), hv]; rfl, rfl⟩ d_Pc_partOfEnd_106
          · skip
            exact absurd rfl c_96
      · skip
        have hb2 : lS % 2 = 1 := by rw [erm2] at c_80; exact (nI_eq (b := 1) (by omega) (by omega)).mp c_80
        have hv : qi_R (mk_v f g) n lS = some (mk_v f g (lS / 2), true) := by unfold qi_R; rw [if_neg hne, if_pos hb2]
        refine lv_iconst (v := 1) hx hb d_Pc_partOfEnd_83 (by decide) ?_
        refine lv_goto (tgt := 88) hx hb d_Pc_partOfEnd_84 (by decide) ?_
        refine lv_istore (lv' := [(6, .int 1), (4, .int (nI lS)), (0, .ref h0), (1, .int (nI k)), (2, .int (nI 1)), (3, .int (nI pt))]) hx hb d_Pc_partOfEnd_88 hl (by decide) rfl (fun ls hl => ?_)
        refine lv_iload_n hx hb d_Pc_partOfEnd_90 rfl (lv_at hl 5 rfl) ?_
        refine lv_if_ne (tgt := 107) hx hb d_Pc_partOfEnd_91 (by decide) (fun c_91 => ?_) (fun c_91 => ?_)
        · skip
          have hp0 : pt ≠ 0 := fun z9 => c_91 (by rw [z9]; rfl)
          refine lv_iload hx hb d_Pc_partOfEnd_107 (lv_at hl 0 rfl) ?_
          refine lv_if_ne (tgt := 117) hx hb d_Pc_partOfEnd_109 (by decide) (fun c_109 => ?_) (fun c_109 => ?_)
          · skip
            refine lv_iload hx hb d_Pc_partOfEnd_117 (lv_at hl 1 rfl) ?_
            refine lv_iconst (v := 2) hx hb d_Pc_partOfEnd_119 (by decide) ?_
            refine lv_idiv hx hb d_Pc_partOfEnd_120 (by decide) ?_
            refine lv_topi (fun dq edq => ?_)
            have edq2 : dq = nI (lS / 2) := by rw [edq]; exact pk_div (a := lS) (d := 2) (by omega) (by omega) (by omega)
            subst edq2
            refine lv_goto (tgt := 130) hx hb d_Pc_partOfEnd_121 (by decide) ?_
            refine lv_istore (lv' := [(7, .int (nI (lS / 2))), (6, .int 1), (4, .int (nI lS)), (0, .ref h0), (1, .int (nI k)), (2, .int (nI 1)), (3, .int (nI pt))]) hx hb d_Pc_partOfEnd_130 hl (by decide) rfl (fun ls hl => ?_)
            refine lv_iload_n hx hb d_Pc_partOfEnd_132 rfl (lv_at hl 6 rfl) ?_
            refine lv_iconst (v := 1) hx hb d_Pc_partOfEnd_133 (by decide) ?_
            refine lv_icmp_ne (tgt := 149) hx hb d_Pc_partOfEnd_134 (by decide) (fun c_134 => ?_) (fun c_134 => ?_)
            · skip
              have hp1 : pt ≠ 1 := fun z9 => c_134 (by rw [z9]; rfl)
              have hp1 : pt = 2 := by omega
              refine lv_aload_n hx hb d_Pc_partOfEnd_149 rfl (lv_at hl 3 rfl) ?_
              refine hw_get (own := "QuantifierOut$Pieces") (v := .ref mk) hx hb hts i_Pc hown hW hc rfl 0 (by decide) (hts _ tw_79) (fun _ h9 => h9) rfl d_Pc_partOfEnd_150 ?_
              refine lv_iload hx hb d_Pc_partOfEnd_153 (lv_at hl 0 rfl) ?_
              refine hw_calll (hw_runV (n := 1) (own := "QuantifierOut$Pieces") (As := [.int (nI (lS / 2))]) (rest := []) hx hb hml hown hts hX hW hl.1 (c_Mk_lowestBelow l D cI cJ cZ cN mk ka kb n (lS / 2) _ f g M hmk hn hr9 (by omega)) hmk.1 rfl tw_560 tw_561 tw_562 tw_3 tw_563 (by decide +kernel) rfl rfl ⟨by decide, by decide⟩ rfl rfl (Nat.le_of_ble_eq_true rfl) d_Pc_partOfEnd_155 ⟨by decide, by decide⟩) hW hS hA (fun rv M2 H locs hp hz hW hS => ?_)
              obtain ⟨ev, eM⟩ := hp
              rw [eM] at hW
              rw [hQ9]
              exact hw_retl hx hb hr hlocks hW hS ⟨by rw [if_neg (by decide), hv, ev, hp1]; rfl, rfl⟩ d_Pc_partOfEnd_158
            · skip
              have hp1 : pt = 1 := (nI_eq (b := 1) (by omega) (by omega)).mp c_134
              refine lv_aload_n hx hb d_Pc_partOfEnd_137 rfl (lv_at hl 3 rfl) ?_
              refine hw_get (own := "QuantifierOut$Pieces") (v := .ref mk) hx hb hts i_Pc hown hW hc rfl 0 (by decide) (hts _ tw_79) (fun _ h9 => h9) rfl d_Pc_partOfEnd_138 ?_
              refine lv_iload hx hb d_Pc_partOfEnd_141 (lv_at hl 0 rfl) ?_
              refine hw_calll (hw_runV (n := 1) (own := "QuantifierOut$Pieces") (As := [.int (nI (lS / 2))]) (rest := []) hx hb hml hown hts hX hW hl.1 (c_Mk_lowestAbove l D cI cJ cZ cN mk ka kb n (lS / 2) _ f g M hmk hn hr9 (by omega)) hmk.1 rfl tw_546 tw_547 tw_548 tw_3 tw_549 (by decide +kernel) rfl rfl ⟨by decide, by decide⟩ rfl rfl (Nat.le_of_ble_eq_true rfl) d_Pc_partOfEnd_143 ⟨by decide, by decide⟩) hW hS hA (fun rv M2 H locs hp hz hW hS => ?_)
              obtain ⟨ev, eM⟩ := hp
              rw [eM] at hW
              refine lv_goto (tgt := 158) hx hb d_Pc_partOfEnd_146 (by decide) ?_
              rw [hQ9]
              exact hw_retl hx hb hr hlocks hW hS ⟨by rw [if_neg (by decide), hv, ev, hp1]; rfl, rfl⟩ d_Pc_partOfEnd_158
          · skip
            exact absurd c_109 (by decide)
        · skip
          have hp0 : pt = 0 := (nI_eq (b := 0) (by omega) (by omega)).mp c_91
          subst hp0
          refine lv_iload hx hb d_Pc_partOfEnd_94 (lv_at hl 0 rfl) ?_
          refine lv_if_eq (tgt := 105) hx hb d_Pc_partOfEnd_96 (by decide) (fun c_96 => ?_) (fun c_96 => ?_)
          · skip
            exact absurd c_96 (by decide)
          · skip
            refine lv_ldc2 (own := "QuantifierOut$Pieces") (v := 2) hx hb hown (hts _ tw_545) d_Pc_partOfEnd_99 ?_
            refine lv_goto (tgt := 106) hx hb d_Pc_partOfEnd_102 (by decide) ?_
            rw [hQ9]
            exact hw_retl hx hb hr hlocks hW hS ⟨by rw [if_neg (by decide), hv]; rfl, rfl⟩ d_Pc_partOfEnd_106
    refine lv_iload_n hx hb d_Pc_partOfEnd_0 rfl (lv_at hl 2 rfl) ?_
    refine lv_if_ne (tgt := 13) hx hb d_Pc_partOfEnd_1 (by decide) (fun c_1 => ?_) (fun c_1 => ?_)
    · skip
      refine lv_aload_n hx hb d_Pc_partOfEnd_13 rfl (lv_at hl 0 rfl) ?_
      refine hw_get (own := "QuantifierOut$Pieces") (v := .ref la) hx hb hts i_Pc hown hW hc rfl 2 (by decide) (hts _ tw_81) (fun _ h9 => h9) rfl d_Pc_partOfEnd_14 ?_
      refine lv_iload_n hx hb d_Pc_partOfEnd_17 rfl (lv_at hl 1 rfl) ?_
      refine hw_ild hx hb hW 0 hla rfl k rfl (by omega) (by decide) d_Pc_partOfEnd_18 ?_
      rw [hl9]
      refine lv_istore (lv' := [(4, .int (nI lS)), (0, .ref h0), (1, .int (nI k)), (2, .int (nI 1)), (3, .int (nI pt))]) hx hb d_Pc_partOfEnd_19 hl (by decide) rfl (fun ls hl => ?_)
      refine lv_iload_n hx hb d_Pc_partOfEnd_21 rfl (lv_at hl 3 rfl) ?_
      refine lv_if_ne (tgt := 38) hx hb d_Pc_partOfEnd_22 (by decide) (fun c_22 => ?_) (fun c_22 => ?_)
      · skip
        refine lv_iload hx hb d_Pc_partOfEnd_38 (lv_at hl 0 rfl) ?_
        refine lv_aload_n hx hb d_Pc_partOfEnd_40 rfl (lv_at hl 1 rfl) ?_
        refine hw_get (own := "QuantifierOut$Pieces") (v := .ref mk) hx hb hts i_Pc hown hW hc rfl 0 (by decide) (hts _ tw_79) (fun _ h9 => h9) rfl d_Pc_partOfEnd_41 ?_
        refine hw_calli (hw_runV (n := 0) (own := "QuantifierOut$Pieces") (As := []) (rest := [.int (nI lS)]) hx hb hml hown hts hX hW hl.1 (c_Mk_stops l D cI cJ cZ cN mk ka kb n _ M hmk.1 (by omega)) hmk.1 rfl tw_528 tw_489 tw_490 tw_3 tw_491 (by decide +kernel) rfl rfl ⟨by decide, by decide⟩ rfl rfl (Nat.le_of_ble_eq_true rfl) d_Pc_partOfEnd_44 ⟨by decide, by decide⟩) hW hS hA (fun st9 M3 H locs hp hz hW hS => ?_)
        obtain ⟨est, eM3⟩ := hp
        rw [eM3] at hW
        subst est
        refine lv_iconst (v := 1) hx hb d_Pc_partOfEnd_47 (by decide) ?_
        refine lv_isub hx hb d_Pc_partOfEnd_48 ?_
        refine lv_topi (fun x2 ex2 => ?_)
        have ex9 : x2 = nI (2 * n) := by rw [ex2]; exact nI_pred (2 * n)
        rw [ex9]
        refine lv_icmp_ne (tgt := 56) hx hb d_Pc_partOfEnd_49 (by decide) (fun c_49 => ?_) (fun c_49 => ?_)
        · skip
          have hne : lS ≠ 2 * n := fun z9 => c_49 (by rw [z9])
          refine lv_iconst (v := 0) hx hb d_Pc_partOfEnd_56 (by decide) ?_
          refine lv_istore (lv' := [(5, .int 0), (4, .int (nI lS)), (0, .ref h0), (1, .int (nI k)), (2, .int (nI 1)), (3, .int (nI pt))]) hx hb d_Pc_partOfEnd_57 hl (by decide) rfl (fun ls hl => ?_)
          refine lv_iload hx hb d_Pc_partOfEnd_59 (lv_at hl 0 rfl) ?_
          refine lv_if_eq (tgt := 75) hx hb d_Pc_partOfEnd_61 (by decide) (fun c_61 => ?_) (fun c_61 => ?_)
          · skip
            exact rest hne _ _ ls hW hS (lv_sub hl [1, 2, 3, 4, 5] rfl)
          · skip
            exact absurd rfl c_61
        · skip
          have hne0 : lS = 2 * n := (nI_eq (by omega) (by omega)).mp c_49
          have hv : qi_R (mk_v f g) n lS = none := by unfold qi_R; rw [if_pos hne0]
          refine lv_iconst (v := 1) hx hb d_Pc_partOfEnd_52 (by decide) ?_
          refine lv_goto (tgt := 57) hx hb d_Pc_partOfEnd_53 (by decide) ?_
          refine lv_istore (lv' := [(5, .int 1), (4, .int (nI lS)), (0, .ref h0), (1, .int (nI k)), (2, .int (nI 1)), (3, .int (nI pt))]) hx hb d_Pc_partOfEnd_57 hl (by decide) rfl (fun ls hl => ?_)
          refine lv_iload hx hb d_Pc_partOfEnd_59 (lv_at hl 0 rfl) ?_
          refine lv_if_eq (tgt := 75) hx hb d_Pc_partOfEnd_61 (by decide) (fun c_61 => ?_) (fun c_61 => ?_)
          · skip
            exact absurd c_61 (by decide)
          · skip
            refine lv_iload_n hx hb d_Pc_partOfEnd_64 rfl (lv_at hl 5 rfl) ?_
            refine lv_iconst (v := 2) hx hb d_Pc_partOfEnd_65 (by decide) ?_
            refine lv_icmp_ne (tgt := 73) hx hb d_Pc_partOfEnd_66 (by decide) (fun c_66 => ?_) (fun c_66 => ?_)
            · skip
              have hp2 : pt ≠ 2 := fun z9 => c_66 (by rw [z9]; rfl)
              refine lv_lconst (v := 0) hx hb d_Pc_partOfEnd_73 (by decide) ?_
              rw [hQ9]
              exact hw_retl hx hb hr hlocks hW hS ⟨by rw [if_neg (by decide), hv]; unfold pe_v; rw [if_neg hp2]; rfl, rfl⟩ d_Pc_partOfEnd_74
            · skip
              have hp2 : pt = 2 := (nI_eq (b := 2) (by omega) (by omega)).mp c_66
              refine lv_lconst (v := 1) hx hb d_Pc_partOfEnd_69 (by decide) ?_
              refine lv_goto (tgt := 74) hx hb d_Pc_partOfEnd_70 (by decide) ?_
              rw [hQ9]
              exact hw_retl hx hb hr hlocks hW hS ⟨by rw [if_neg (by decide), hv, hp2]; rfl, rfl⟩ d_Pc_partOfEnd_74
      · skip
        exact absurd c_22 (by decide)
    · skip
      exact absurd c_1 (by decide)
end G24

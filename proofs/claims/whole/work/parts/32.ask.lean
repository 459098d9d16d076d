/-! QuantifierOut: known, holds, decide, pieces, end, alike, and the constructor -/
def kn_v (q : nq) (w : Nat) : Int32 := if w = 0 then (if nx q = true then 1 else 0) else if w = 1 then (if ny q = true then 1 else 0) else if w = 2 then nI (nL q).length else nI (nd q)
/-- looked at, nothing made -/
def qo_K (cI cJ cN : ClassId) (h0 na v va vb om oa ob im ia ib ro mk ka kb fa la : Nat) (Z : Nat → Prop) (M : Nat → Option va_E) (n : Nat) (qs : Nat → nq) (X : Prop) (M1 : Nat → Option va_E) : Prop := X ∧ qo_J cI cJ cN h0 na v va vb om oa ob im ia ib ro mk ka kb fa la Z M1 n qs ∧ ∀ z, Z z → M1 z = M z
theorem nd_fr0 (a b : Bool) : nd_fr a b = 0 ↔ a = false ∧ b = false := by cases a <;> cases b <;> decide
theorem nd_fr1 (a b : Bool) : nd_fr a b = 1 ↔ a = true ∧ b = false := by cases a <;> cases b <;> decide
theorem nd_fr2 (a b : Bool) : nd_fr a b = 2 ↔ a = false ∧ b = true := by cases a <;> cases b <;> decide
/-- what Pieces.find leaves behind -/
theorem qo_find {cI cJ cN : ClassId} {h0 na v va vb om oa ob im ia ib ro mk ka kb fa la : Nat} {Z : Nat → Prop} {M M1 : Nat → Option va_E} {tb : Nat → Option nq} {n : Nat} {ad : Nat → Nat} {qs : Nat → nq} (h : qo_I cI cJ cN h0 na v va vb om oa ob im ia ib ro mk ka kb fa la Z M tb n ad qs) (hE1 : ∃ fv gv, ev_S cJ M1 v va vb om oa ob im ia ib fv gv) (hP1 : ∃ ow, pc_ok cI cJ M1 tb ro mk ka kb fa la ow) (hf : ∀ r9, r9 ≠ ro → r9 ≠ mk → r9 ≠ ka → r9 ≠ kb → r9 ≠ fa → r9 ≠ la → r9 ≠ va → r9 ≠ vb → r9 ≠ im → r9 ≠ ia → r9 ≠ ib → M1 r9 = M r9) : qo_I cI cJ cN h0 na v va vb om oa ob im ia ib ro mk ka kb fa la Z M1 tb n ad qs ∧ ∀ z, Z z → M1 z = M z := by
  obtain ⟨⟨c1, c2, c3⟩, i1, hT, ⟨fv, gv, ⟨v1, v2, v3⟩, ⟨n8, f8, g8, o1, o2, o3⟩, ⟨n9, f9, g9, j1, j2, j3⟩⟩, hD, ⟨ow, n0, f0, g0, m0, Ff, Fl, ⟨p1, ⟨k1, k2, k3⟩, p2, p3⟩, hR⟩, hD2, hla, hz, hL, hN⟩ := h
  have hZh : ∀ z, Z z → M1 z = M z := fun z h9 => by
    have ne : ∀ y ∈ qo_L h0 na v va vb om oa ob im ia ib ro mk ka kb fa la, z ≠ y := fun y hy e => hL y hy (e ▸ h9)
    exact hf z (ne _ (by simp)) (ne _ (by simp)) (ne _ (by simp)) (ne _ (by simp)) (ne _ (by simp)) (ne _ (by simp)) (ne _ (by simp)) (ne _ (by simp)) (ne _ (by simp)) (ne _ (by simp)) (ne _ (by simp))
  have fo : ∀ x e, M x = some e → x ≠ fa → x ≠ la → (∀ c k f, e ≠ .inl (c, k, .inr (.inl f))) → (∀ f, e ≠ .inr (2, f)) → (∀ f, e ≠ .inr (5, f)) → M1 x = some e := fun x e he a1 a2 w2 w3 w4 => by
    rw [hf x (fun z => by subst z; exact w4 _ (Option.some.inj (he.symm.trans p1))) (fun z => by subst z; exact w3 _ (Option.some.inj (he.symm.trans k1))) (fun z => by subst z; exact w2 _ _ _ (Option.some.inj (he.symm.trans k2))) (fun z => by subst z; exact w2 _ _ _ (Option.some.inj (he.symm.trans k3))) a1 a2 (fun z => by subst z; exact w2 _ _ _ (Option.some.inj (he.symm.trans v2))) (fun z => by subst z; exact w2 _ _ _ (Option.some.inj (he.symm.trans v3))) (fun z => by subst z; exact w3 _ (Option.some.inj (he.symm.trans j1))) (fun z => by subst z; exact w2 _ _ _ (Option.some.inj (he.symm.trans j2))) (fun z => by subst z; exact w2 _ _ _ (Option.some.inj (he.symm.trans j3)))]; exact he
  have hnode : ∀ a2 q2, tb a2 = some q2 → M1 a2 = M a2 := fun a2 q2 ha => by
    obtain ⟨⟨la2, gr, F, ⟨ci, kc⟩, _⟩, _⟩ := hT a2 q2 ha
    rw [fo a2 _ kc (hw_ne kc p2 (by simp)) (hw_ne kc p3 (by simp)) (fun _ _ _ e => by cases e) (fun _ e => by simp only [Sum.inr.injEq, Prod.mk.injEq] at e; omega) (fun _ e => by simp only [Sum.inr.injEq, Prod.mk.injEq] at e; omega), kc]
  have hT1 : tb_ok cI M1 tb := by
    intro a q2 ha
    obtain ⟨⟨la2, gr, F, k1, k2, k3⟩, k4⟩ := hT a q2 ha
    have h9 := hla a q2 la2 gr _ _ ha k1
    exact ⟨⟨la2, gr, F, ⟨k1.1, (hnode a q2 ha).trans k1.2⟩, fo la2 _ k2 h9.1 h9.2.1 (fun _ _ _ e => by simp at e) (fun _ e => by cases e) (fun _ e => by cases e), k3⟩, k4⟩
  refine ⟨⟨⟨fo _ _ c1 (hw_ne c1 p2 (by simp)) (hw_ne c1 p3 (by simp)) (fun _ _ _ e => by cases e) (fun _ e => by simp at e) (fun _ e => by simp at e), fo _ _ c2 (hw_ne c2 p2 (by simp)) (hw_ne c2 p3 (by simp)) (fun _ _ _ e => by simp at e) (fun _ e => by cases e) (fun _ e => by cases e), c3⟩, i1, hT1, hE1, hD, hP1, hD2, ?_, fun z h9 => by rw [hZh z h9]; exact hz z h9, hL, hN⟩, hZh⟩
  intro a2 q2 la2 gr ex ci ha hc
  exact hla a2 q2 la2 gr ex ci ha ⟨hc.1, (hnode a2 q2 ha).symm.trans hc.2⟩
section G32
variable (l : Launch) (D : va_G) (cI cJ cZ cN : ClassId) (h0 na v va vb om oa ob im ia ib ro mk ka kb fa la : Nat) (Z : Nat → Prop)
set_option maxHeartbeats 4000000 in
set_option maxRecDepth 100000 in
theorem c_Qo_known (hl0 : l.stackTraces = false) (M : Nat → Option va_E) (sz n : Nat) (tb : Nat → Option nq) (ad : Nat → Nat) (qs : Nat → nq) (hI : qo_I cI cJ cN h0 na v va vb om oa ob im ia ib ro mk ka kb fa la Z M tb n ad qs) (xp xw : Int32) : vx_Met l y_Qo_known (.code y_Qo_known b_Qo_known 4 (some .int) :: ww) ({ frames := 8, cells := 2, slots := 12, locals := 130 }) (hx_Pc D qcl (qty cI cJ cZ cN) [.ref h0, .int xp, .int xw] M sz) (va_Qi (fun r M1 => qo_K cI cJ cN h0 na v va vb om oa ob im ia ib ro mk ka kb fa la Z M n qs (∃ i w : Nat, i < n ∧ w < 4 ∧ xp = nI i ∧ xw = nI w ∧ r = kn_v (qs i) w) M1) (hw_B D qcl (qty cI cJ cZ cN) M sz) (hw_A M sz)) (hx_X D qcl (qty cI cJ cZ cN) M sz (fun E M1 => qo_K cI cJ cN h0 na v va vb om oa ob im ia ib ro mk ka kb fa la Z M n qs ((¬ (∃ i, i < n ∧ xp = nI i) ∧ E = "java/lang/IndexOutOfBoundsException") ∨ ((∃ i, i < n ∧ xp = nI i) ∧ ¬ (∃ w, w < 4 ∧ xw = nI w) ∧ E = "java/lang/IllegalArgumentException")) M1)) 2 12 (hw_A M sz) := by
  obtain ⟨hC, i1, hT, hE, hD, hP, hD2, hla9, hz9, hL9, hN9⟩ := id hI
  obtain ⟨hC1, hC2, hn60⟩ := id hC
  refine hx_met (by decide) (Nat.le_of_ble_eq_true rfl) ?_
  intro p e s m below meth c hx hb hr hml hown hlocks hnm hts hsz hX hW hZ hno ls hl
  subst hsz
  have hA : ∀ q, s.heap.size ≤ q → hw_A M s.heap.size q := fun q h => Or.inr h
  have hS : va_S (hw_A M s.heap.size) s.heap s.heap [] := va_S.rf
  have hl : lv_has ls 4 [(0, .ref h0), (1, .int xp), (2, .int xw)] := hl
  have hown : s.vm.findClass "QuantifierOut" = some m.cls := hown
  refine lv_aload_n hx hb d_Qo_known_0 rfl (lv_at hl 0 rfl) ?_
  refine lv_iload_n hx hb d_Qo_known_1 rfl (lv_at hl 1 rfl) ?_
  refine hx_callq (hx_runV (n := 1) (own := "QuantifierOut") (As := [.int xp]) (rest := []) hx hb hml hown hts hX hW hl.1 hZ hS hA (c_Qo_nodeAt l D cI cJ cZ cN hl0 h0 na v ro n _ ad M hC xp) hC1 rfl tw_280 tw_282 ts_4 tw_1 tw_283 (by decide +kernel) rfl rfl ⟨by decide, by decide⟩ rfl rfl (Nat.le_of_ble_eq_true rfl) d_Qo_known_2 ⟨by decide, by decide⟩) hW hS hA (fun E9 ce9 q9 M1 H locs hpn hW hS hq1 hq2 hq3 => ?_) (fun rp M1 H locs hpn hz hW hS => ?_)
  · exact hx_out hno hlocks hq1 hq2 hq3 hW hS (by rw [hpn.2.2]; exact ⟨Or.inl ⟨fun z9 => by obtain ⟨i, hi, ei⟩ := z9; exact hpn.2.1 i hi ei, hpn.1⟩, ⟨_, _, hI⟩, fun _ _ => rfl⟩) (by decide) (by decide)
  obtain ⟨i, hi, ei, er, eMn⟩ := hpn
  rw [eMn] at hW
  subst er
  refine lv_astore_n (lv' := [(3, .ref (ad i)), (0, .ref h0), (1, .int xp), (2, .int xw)]) hx hb d_Qo_known_5 rfl hl (by decide) rfl (fun ls hl => ?_)
  refine lv_iload_n hx hb d_Qo_known_6 rfl (lv_at hl 3 rfl) ?_
  obtain ⟨q1, hq1⟩ : ∃ q, q = qs i := ⟨_, rfl⟩
  have t1 : tb (ad i) = some q1 := by rw [hq1]; exact i1 i hi
  have e1 := hq1.symm
  obtain ⟨⟨l1, gr1, F1, n1, lc1, lf1, gg_i⟩, ok1⟩ := id (hT _ _ t1)
  have len1 := ok1.2.2.1
  have dep1 := ok1.2.2.2.1
  by_cases hsw : xw.toInt < 0 ∨ 3 < xw.toInt
  · skip
    refine lv_tableOut (tgt := 74) hx hb d_Qo_known_7 hsw (by decide) ?_
    exact hx_throw (is := 83) (text := "what is 0 .. 3") hx hb hl0 (by rw [hml]; exact hl.1.symm) hown hts hX xf_I tw_198 tw_10 (by decide) xt_44 xb_44 xg_44 hno hlocks hZ hW hS ⟨Or.inr ⟨⟨i, hi, ei⟩, (fun z9 => by obtain ⟨w, hw, ew⟩ := z9; rw [ew, nI_toInt (by omega)] at hsw; omega), rfl⟩, ⟨_, _, hI⟩, fun _ _ => rfl⟩ d_Qo_known_74 d_Qo_known_77 d_Qo_known_78 d_Qo_known_80 d_Qo_known_83 (by decide) (Nat.le_of_ble_eq_true rfl) (by decide) (by decide) (by decide) (by decide)
  · skip
    obtain ⟨w, hw4, ew⟩ : ∃ w : Nat, w < 4 ∧ xw = nI w := ⟨xw.toInt.toNat, by omega, Int32.toInt_inj.mp (by rw [nI_toInt (by omega)]; omega)⟩
    subst ew
    rcases (show w = 0 ∨ w = 1 ∨ w = 2 ∨ w = 3 by omega) with rfl | rfl | rfl | rfl
    · skip
      refine lv_tableIn (off := 29) (tgt := 36) hx hb d_Qo_known_7 (by decide) (by decide) (by decide) (by decide) ?_
      refine lv_aload_n hx hb d_Qo_known_36 rfl (lv_at hl 0 rfl) ?_
      refine lv_iconst (v := 0) hx hb d_Qo_known_37 (by decide) ?_
      refine hw_calli (nd_runF (n := 1) (own := "QuantifierOut") (As := [.int 0]) (rest := []) hx hb hml hown hts hX hW hl.1 (c_Nd_isFree l D cI cJ cZ cN (ad i) _ l1 0 _ (nx q1) (ny q1) _ gr1 _ M n1 (by omega)) n1 tw_423 tw_425 tw_426 tw_427 tw_428 tw_429 tw_424 tw_11 tw_430 (by decide +kernel) rfl rfl ⟨by decide, by decide⟩ rfl rfl (Nat.le_of_ble_eq_true rfl) d_Qo_known_38 ⟨by decide, by decide⟩) hW hS hA (fun rf Mf H locs hpf hz hW hS => ?_)
      obtain ⟨erf, eMf⟩ := hpf
      rw [eMf] at hW
      have erf : rf = if nx q1 = true then 1 else 0 := erf
      refine lv_if_eq (tgt := 48) hx hb d_Qo_known_41 (by decide) (fun c_41 => ?_) (fun c_41 => ?_)
      · skip
        refine lv_iconst (v := 0) hx hb d_Qo_known_48 (by decide) ?_
        refine vx_ret (W.widen (k := 2) (n := 12) (by decide) (by decide) ?_)
        exact hw_reti hx hb hr hlocks hW hS ⟨⟨i, 0, hi, by omega, ei, rfl, by rw [e1]; show 0 = (if nx q1 = true then (1 : Int32) else 0); cases hz9 : nx q1; rfl; rw [hz9] at erf; rw [c_41] at erf; exact absurd erf (by decide)⟩, ⟨_, _, hI⟩, fun _ _ => rfl⟩ d_Qo_known_49
      · skip
        refine lv_iconst (v := 1) hx hb d_Qo_known_44 (by decide) ?_
        refine lv_goto (tgt := 49) hx hb d_Qo_known_45 (by decide) ?_
        refine vx_ret (W.widen (k := 2) (n := 12) (by decide) (by decide) ?_)
        exact hw_reti hx hb hr hlocks hW hS ⟨⟨i, 0, hi, by omega, ei, rfl, by rw [e1]; show 1 = (if nx q1 = true then (1 : Int32) else 0); cases hz9 : nx q1; rw [hz9] at erf; exact absurd erf c_41; rfl⟩, ⟨_, _, hI⟩, fun _ _ => rfl⟩ d_Qo_known_49
    · skip
      refine lv_tableIn (off := 43) (tgt := 50) hx hb d_Qo_known_7 (by decide) (by decide) (by decide) (by decide) ?_
      refine lv_aload_n hx hb d_Qo_known_50 rfl (lv_at hl 0 rfl) ?_
      refine lv_iconst (v := 1) hx hb d_Qo_known_51 (by decide) ?_
      refine hw_calli (nd_runF (n := 1) (own := "QuantifierOut") (As := [.int 1]) (rest := []) hx hb hml hown hts hX hW hl.1 (c_Nd_isFree l D cI cJ cZ cN (ad i) _ l1 1 _ (nx q1) (ny q1) _ gr1 _ M n1 (by omega)) n1 tw_423 tw_425 tw_426 tw_427 tw_428 tw_429 tw_424 tw_11 tw_430 (by decide +kernel) rfl rfl ⟨by decide, by decide⟩ rfl rfl (Nat.le_of_ble_eq_true rfl) d_Qo_known_52 ⟨by decide, by decide⟩) hW hS hA (fun rf Mf H locs hpf hz hW hS => ?_)
      obtain ⟨erf, eMf⟩ := hpf
      rw [eMf] at hW
      have erf : rf = if ny q1 = true then 1 else 0 := erf
      refine lv_if_eq (tgt := 62) hx hb d_Qo_known_55 (by decide) (fun c_41 => ?_) (fun c_41 => ?_)
      · skip
        refine lv_iconst (v := 0) hx hb d_Qo_known_62 (by decide) ?_
        refine vx_ret (W.widen (k := 2) (n := 12) (by decide) (by decide) ?_)
        exact hw_reti hx hb hr hlocks hW hS ⟨⟨i, 1, hi, by omega, ei, rfl, by rw [e1]; show 0 = (if ny q1 = true then (1 : Int32) else 0); cases hz9 : ny q1; rfl; rw [hz9] at erf; rw [c_41] at erf; exact absurd erf (by decide)⟩, ⟨_, _, hI⟩, fun _ _ => rfl⟩ d_Qo_known_63
      · skip
        refine lv_iconst (v := 1) hx hb d_Qo_known_58 (by decide) ?_
        refine lv_goto (tgt := 63) hx hb d_Qo_known_59 (by decide) ?_
        refine vx_ret (W.widen (k := 2) (n := 12) (by decide) (by decide) ?_)
        exact hw_reti hx hb hr hlocks hW hS ⟨⟨i, 1, hi, by omega, ei, rfl, by rw [e1]; show 1 = (if ny q1 = true then (1 : Int32) else 0); cases hz9 : ny q1; rw [hz9] at erf; exact absurd erf c_41; rfl⟩, ⟨_, _, hI⟩, fun _ _ => rfl⟩ d_Qo_known_63
    · skip
      refine lv_tableIn (off := 57) (tgt := 64) hx hb d_Qo_known_7 (by decide) (by decide) (by decide) (by decide) ?_
      refine lv_aload_n hx hb d_Qo_known_64 rfl (lv_at hl 0 rfl) ?_
      refine hw_calli (nd_runF (n := 0) (own := "QuantifierOut") (As := []) (rest := []) hx hb hml hown hts hX hW hl.1 (c_Nd_size l D cI cJ cZ cN (ad i) _ l1 (nL q1).length _ _ _ _ F1 _ M n1 lc1 (by omega)) n1 tw_300 tw_302 tw_303 tw_304 tw_305 tw_306 tw_301 tw_11 tw_307 (by decide +kernel) rfl rfl ⟨by decide, by decide⟩ rfl rfl (Nat.le_of_ble_eq_true rfl) d_Qo_known_65 ⟨by decide, by decide⟩) hW hS hA (fun z1 Mz H locs hps hz hW hS => ?_)
      obtain ⟨ez1, eMz⟩ := hps
      rw [eMz] at hW
      refine vx_ret (W.widen (k := 2) (n := 12) (by decide) (by decide) ?_)
      exact hw_reti hx hb hr hlocks hW hS ⟨⟨i, 2, hi, by omega, ei, rfl, by rw [e1, ez1]; rfl⟩, ⟨_, _, hI⟩, fun _ _ => rfl⟩ d_Qo_known_68
    · skip
      refine lv_tableIn (off := 62) (tgt := 69) hx hb d_Qo_known_7 (by decide) (by decide) (by decide) (by decide) ?_
      refine lv_aload_n hx hb d_Qo_known_69 rfl (lv_at hl 0 rfl) ?_
      refine nd_get1 (own := "QuantifierOut") hx hb hts hown hW n1 tw_240 d_Qo_known_70 ?_
      refine vx_ret (W.widen (k := 2) (n := 12) (by decide) (by decide) ?_)
      exact hw_reti hx hb hr hlocks hW hS ⟨⟨i, 3, hi, by omega, ei, rfl, by rw [e1]; rfl⟩, ⟨_, _, hI⟩, fun _ _ => rfl⟩ d_Qo_known_73
set_option maxHeartbeats 4000000 in
set_option maxRecDepth 100000 in
theorem c_Qo_holds (hl0 : l.stackTraces = false) (M : Nat → Option va_E) (sz n : Nat) (tb : Nat → Option nq) (ad : Nat → Nat) (qs : Nat → nq) (hI : qo_I cI cJ cN h0 na v va vb om oa ob im ia ib ro mk ka kb fa la Z M tb n ad qs) (xp xx xy : Int32) : vx_Met l y_Qo_holds (.code y_Qo_holds b_Qo_holds 5 (some .boolean) :: ww) ({ frames := 23, cells := 2, slots := 12, locals := 1300 }) (hx_Pc D qcl (qty cI cJ cZ cN) [.ref h0, .int xp, .int xx, .int xy] M sz) (va_Qi (fun r M1 => qo_K cI cJ cN h0 na v va vb om oa ob im ia ib ro mk ka kb fa la Z M n qs (∃ i : Nat, i < n ∧ xp = nI i ∧ (xx.toInt.natAbs ≤ 50 ∧ xy.toInt.natAbs ≤ 50) ∧ it_b r (nP (qs i) (xx.toInt : Rat) (xy.toInt : Rat))) M1) (hw_B D qcl (qty cI cJ cZ cN) M sz) (hw_A M sz)) (hx_X D qcl (qty cI cJ cZ cN) M sz (fun E M1 => qo_K cI cJ cN h0 na v va vb om oa ob im ia ib ro mk ka kb fa la Z M n qs ((¬ (∃ i, i < n ∧ xp = nI i) ∧ E = "java/lang/IndexOutOfBoundsException") ∨ ((∃ i, i < n ∧ xp = nI i) ∧ ¬ (xx.toInt.natAbs ≤ 50 ∧ xy.toInt.natAbs ≤ 50) ∧ E = "java/lang/IllegalArgumentException")) M1)) 2 12 (hw_A M sz) := by
  obtain ⟨hC, i1, hT, hE, hD, hP, hD2, hla9, hz9, hL9, hN9⟩ := id hI
  obtain ⟨hC1, hC2, hn60⟩ := id hC
  refine hx_met (by decide) (Nat.le_of_ble_eq_true rfl) ?_
  intro p e s m below meth c hx hb hr hml hown hlocks hnm hts hsz hX hW hZ hno ls hl
  subst hsz
  have hA : ∀ q, s.heap.size ≤ q → hw_A M s.heap.size q := fun q h => Or.inr h
  have hS : va_S (hw_A M s.heap.size) s.heap s.heap [] := va_S.rf
  have hl : lv_has ls 5 [(0, .ref h0), (1, .int xp), (2, .int xx), (3, .int xy)] := hl
  have hown : s.vm.findClass "QuantifierOut" = some m.cls := hown
  refine lv_aload_n hx hb d_Qo_holds_0 rfl (lv_at hl 0 rfl) ?_
  refine lv_iload_n hx hb d_Qo_holds_1 rfl (lv_at hl 1 rfl) ?_
  refine hx_callq (hx_runV (n := 1) (own := "QuantifierOut") (As := [.int xp]) (rest := []) hx hb hml hown hts hX hW hl.1 hZ hS hA (c_Qo_nodeAt l D cI cJ cZ cN hl0 h0 na v ro n _ ad M hC xp) hC1 rfl tw_280 tw_282 ts_4 tw_1 tw_283 (by decide +kernel) rfl rfl ⟨by decide, by decide⟩ rfl rfl (Nat.le_of_ble_eq_true rfl) d_Qo_holds_2 ⟨by decide, by decide⟩) hW hS hA (fun E9 ce9 q9 M1 H locs hpn hW hS hq1 hq2 hq3 => ?_) (fun rp M1 H locs hpn hz hW hS => ?_)
  · exact hx_out hno hlocks hq1 hq2 hq3 hW hS (by rw [hpn.2.2]; exact ⟨Or.inl ⟨fun z9 => by obtain ⟨i, hi, ei⟩ := z9; exact hpn.2.1 i hi ei, hpn.1⟩, ⟨_, _, hI⟩, fun _ _ => rfl⟩) (by decide) (by decide)
  obtain ⟨i, hi, ei, er, eMn⟩ := hpn
  rw [eMn] at hW
  subst er
  refine lv_astore (lv' := [(4, .ref (ad i)), (0, .ref h0), (1, .int xp), (2, .int xx), (3, .int xy)]) hx hb d_Qo_holds_5 hl (by decide) rfl (fun ls hl => ?_)
  refine lv_iload_n hx hb d_Qo_holds_7 rfl (lv_at hl 3 rfl) ?_
  obtain ⟨q1, hq1⟩ : ∃ q, q = qs i := ⟨_, rfl⟩
  have t1 : tb (ad i) = some q1 := by rw [hq1]; exact i1 i hi
  have e1 := hq1.symm
  obtain ⟨⟨l1, gr1, F1, n1, lc1, lf1, gg_i⟩, ok1⟩ := id (hT _ _ t1)
  refine hw_calli (hw_runS (n := 1) (own := "QuantifierOut") (As := [.int xx]) (rest := []) hx hb hml hown hts hX hW hl.1 (c_Qo_isValue l D cI cJ cZ cN xx _ M) tw_439 tw_440 tw_1 tw_441 (by decide +kernel) rfl rfl ⟨by decide, by decide⟩ rfl rfl (Nat.le_of_ble_eq_true rfl) d_Qo_holds_8 ⟨by decide, by decide⟩) hW hS hA (fun rfxx Mf H locs hpf hz hW hS => ?_)
  obtain ⟨hfxx, eMf⟩ := hpf
  rw [eMf] at hW
  refine lv_if_eq (tgt := 21) hx hb d_Qo_holds_11 (by decide) (fun c_11 => ?_) (fun c_11 => ?_)
  · skip
    exact hx_throw (is := 88) (text := "x and y are -50 .. 50") hx hb hl0 (by rw [hml]; exact hl.1.symm) hown hts hX xf_I tw_198 tw_10 (by decide) xt_44 xb_44 xg_44 hno hlocks hZ hW hS ⟨Or.inr ⟨⟨i, hi, ei⟩, (fun z9 => it_b0 hfxx c_11 z9.1), rfl⟩, ⟨_, _, hI⟩, fun _ _ => rfl⟩ d_Qo_holds_21 d_Qo_holds_24 d_Qo_holds_25 d_Qo_holds_27 d_Qo_holds_30 (by decide) (Nat.le_of_ble_eq_true rfl) (by decide) (by decide) (by decide) (by decide)
  · skip
    refine lv_iload_n hx hb d_Qo_holds_14 rfl (lv_at hl 4 rfl) ?_
    refine hw_calli (hw_runS (n := 1) (own := "QuantifierOut") (As := [.int xy]) (rest := []) hx hb hml hown hts hX hW hl.1 (c_Qo_isValue l D cI cJ cZ cN xy _ M) tw_439 tw_440 tw_1 tw_441 (by decide +kernel) rfl rfl ⟨by decide, by decide⟩ rfl rfl (Nat.le_of_ble_eq_true rfl) d_Qo_holds_15 ⟨by decide, by decide⟩) hW hS hA (fun rfxy Mf H locs hpf hz hW hS => ?_)
    obtain ⟨hfxy, eMf⟩ := hpf
    rw [eMf] at hW
    refine lv_if_ne (tgt := 31) hx hb d_Qo_holds_18 (by decide) (fun c_18 => ?_) (fun c_18 => ?_)
    · skip
      have hvv : xx.toInt.natAbs ≤ 50 ∧ xy.toInt.natAbs ≤ 50 := ⟨it_b1 hfxx c_11, it_b1 hfxy c_18⟩
      refine lv_aload_n hx hb d_Qo_holds_31 rfl (lv_at hl 1 rfl) ?_
      refine hw_get (own := "QuantifierOut") (v := .ref v) hx hb hts i_Qo hown hW hC1 rfl 1 (by decide) (hts _ tw_98) (fun _ h9 => h9) rfl d_Qo_holds_32 ?_
      refine lv_iload_n hx hb d_Qo_holds_35 rfl (lv_at hl 3 rfl) ?_
      refine lv_iload_n hx hb d_Qo_holds_36 rfl (lv_at hl 4 rfl) ?_
      obtain ⟨fv, gv, hE⟩ := id hE
      refine hw_callv (hw_runV (n := 2) (own := "QuantifierOut") (As := [.int xx, .int xy]) (rest := []) hx hb hml hown hts hX hW hl.1 (c_Vs_putWhole l D cI cJ cZ cN v va vb om im _ fv gv xx xy M hE.1 hD.1) hE.1.1 rfl tw_443 tw_444 tw_445 tw_2 tw_446 (by decide +kernel) rfl rfl ⟨by decide, by decide⟩ rfl rfl (Nat.le_of_ble_eq_true rfl) d_Qo_holds_37 ⟨by decide, by decide⟩) hW hS hA (fun M3 H locs hp hz hW hS => ?_)
      obtain ⟨f3, hf3⟩ : ∃ A9, A9 = vp_updL (vp_updL fv 0 (xx : Int32).toInt64) 1 (xy : Int32).toInt64 := ⟨_, rfl⟩
      obtain ⟨g3, hg3⟩ : ∃ A9, A9 = vp_updL (vp_updL gv 0 1) 1 1 := ⟨_, rfl⟩
      rw [← hf3, ← hg3] at hp
      have fr3 : ∀ r9, r9 ≠ va → r9 ≠ vb → M3 r9 = M r9 := fun r9 z2 z3 => by rw [hp, va_up_ne _ _ z3, va_up_ne _ _ z2]
      obtain ⟨hV, ⟨n8, f8, g8, hmo⟩, ⟨n9, f9, g9, hmi⟩⟩ := id hE
      obtain ⟨d1, d2, d3, d4, d5, d6, d7, d8, d9, d10, d11, d12, d13, d14, d15, d16⟩ := id hD
      have hE3 : ev_S cJ M3 v va vb om oa ob im ia ib f3 g3 := ⟨⟨(fr3 v (hw_ne hV.1 hV.2.1 (by simp)) (hw_ne hV.1 hV.2.2 (by simp))).trans hV.1, by rw [hp, va_up_ne _ _ d1, va_up_self], by rw [hp, va_up_self]⟩, ⟨n8, f8, g8, (fr3 om (hw_ne hmo.1 hV.2.1 (by simp)) (hw_ne hmo.1 hV.2.2 (by simp))).trans hmo.1, (fr3 oa (Ne.symm d2) (Ne.symm d6)).trans hmo.2.1, (fr3 ob (Ne.symm d3) (Ne.symm d7)).trans hmo.2.2⟩, ⟨n9, f9, g9, (fr3 im (hw_ne hmi.1 hV.2.1 (by simp)) (hw_ne hmi.1 hV.2.2 (by simp))).trans hmi.1, (fr3 ia (Ne.symm d4) (Ne.symm d8)).trans hmi.2.1, (fr3 ib (Ne.symm d5) (Ne.symm d9)).trans hmi.2.2⟩⟩
      have hfr3 : (∀ x, x ≠ va → x ≠ vb → x ≠ om → x ≠ oa → x ≠ ob → x ≠ im → x ≠ ia → x ≠ ib → M3 x = M x) := fun x z1 z2 z3 z4 z5 z6 z7 z8 => fr3 x z1 z2
      have hT3 := (gd_fr_of hT hE hfr3).2
      have c0 : f3 0 = (xx : Int32).toInt64 := by rw [hf3]; rfl
      have c1 : f3 1 = (xy : Int32).toInt64 := by rw [hf3]; rfl
      have c2 : g3 0 = 1 := by rw [hg3]; rfl
      have c3 : g3 1 = 1 := by rw [hg3]; rfl
      have h1l : (1 : Int64).toInt = 1 := rfl
      have hb3 : vx_b f3 g3 (nd q1) := by
        intro i hi
        have hv2 := VB_mono ok1.2.2.2.1
        have hv3 : VB 2 = 60 := rfl
        rcases (show i = 0 ∨ i = 1 by omega) with z9 | z9 <;> subst z9
        · rw [c0, c2, nm_i2l, h1l]; have := hvv.1; exact ⟨by omega, by omega, by omega⟩
        · rw [c1, c3, nm_i2l, h1l]; have := hvv.2; exact ⟨by omega, by omega, by omega⟩
      have hrk : nr q1 ≤ 15 := by have h8 := ok1.2.2.2.2.1; have h9 := ok1.2.2.1; have h7 := ok1.2.2.2.1; have : nk_neg (nK q1) ≤ 1 := by { unfold nk_neg; split <;> omega }; omega
      have hC13 := (fr3 h0 (hw_ne hC1 hV.2.1 (by simp)) (hw_ne hC1 hV.2.2 (by simp))).trans hC1
      refine lv_aload hx hb d_Qo_holds_40 (lv_at hl 0 rfl) ?_
      refine lv_aload_n hx hb d_Qo_holds_42 rfl (lv_at hl 1 rfl) ?_
      refine hw_get (own := "QuantifierOut") (v := .ref v) hx hb hts i_Qo hown hW hC13 rfl 1 (by decide) (hts _ tw_98) (fun _ h9 => h9) rfl d_Qo_holds_43 ?_
      obtain ⟨⟨la3, gr3, F3, hc3, _⟩, _⟩ := hT3 _ _ t1
      refine hw_calli (it_run 1 rfl (own := "QuantifierOut") (rest := []) hx hb hml hown hts hX hW hl.1 (it_all l D cI cJ cZ cN v va vb om oa ob im ia ib tb hD 15 (ad i) q1 t1 hrk M3 _ f3 g3 hT3 hE3 hb3) hc3.2 tw_451 rfl rfl ⟨by decide, by decide⟩ rfl (Nat.le_of_ble_eq_true rfl) d_Qo_holds_46 ⟨by decide, by decide⟩) hW hS hA (fun r1 M4 H locs hp4 hz hW hS => ?_)
      obtain ⟨p1, p2, p3⟩ := hp4
      have hvX : vX f3 g3 = ((xx : Int32).toInt : Rat) := by unfold vX; rw [c0, c2, nm_i2l, h1l, qm_fr_int]
      have hvY : vY f3 g3 = ((xy : Int32).toInt : Rat) := by unfold vY; rw [c1, c3, nm_i2l, h1l, qm_fr_int]
      rw [hvX, hvY] at p1
      have hfr4 : (∀ x, x ≠ va → x ≠ vb → x ≠ om → x ≠ oa → x ≠ ob → x ≠ im → x ≠ ia → x ≠ ib → M4 x = M x) := fun x z1 z2 z3 z4 z5 z6 z7 z8 => (p2 x (Or.inr ⟨z6, z7, z8⟩) (Or.inr ⟨z3, z4, z5⟩)).trans (hfr3 x z1 z2 z3 z4 z5 z6 z7 z8)
      obtain ⟨gg4, hT4⟩ := gd_fr_of hT hE hfr4
      obtain ⟨hI4, hZ4⟩ := qo_look hI gg4 hT4 ⟨f3, g3, p3⟩
      have hr01 : r1 = 0 ∨ r1 = 1 := by rcases p1 with ⟨z, _⟩ | ⟨z, _⟩; exact Or.inr z; exact Or.inl z
      refine vx_ret (W.widen (k := 2) (n := 12) (by decide) (by decide) ?_)
      exact hw_retz hx hb hr (nar01 hr01) hlocks hW hS ⟨⟨i, hi, ei, hvv, by rw [e1]; exact p1⟩, ⟨_, _, hI4⟩, hZ4⟩ d_Qo_holds_49
    · skip
      exact hx_throw (is := 88) (text := "x and y are -50 .. 50") hx hb hl0 (by rw [hml]; exact hl.1.symm) hown hts hX xf_I tw_198 tw_10 (by decide) xt_44 xb_44 xg_44 hno hlocks hZ hW hS ⟨Or.inr ⟨⟨i, hi, ei⟩, (fun z9 => it_b0 hfxy c_18 z9.2), rfl⟩, ⟨_, _, hI⟩, fun _ _ => rfl⟩ d_Qo_holds_21 d_Qo_holds_24 d_Qo_holds_25 d_Qo_holds_27 d_Qo_holds_30 (by decide) (Nat.le_of_ble_eq_true rfl) (by decide) (by decide) (by decide) (by decide)
set_option maxHeartbeats 4000000 in
set_option maxRecDepth 100000 in
theorem c_Qo_decide (hl0 : l.stackTraces = false) (M : Nat → Option va_E) (sz n : Nat) (tb : Nat → Option nq) (ad : Nat → Nat) (qs : Nat → nq) (hI : qo_I cI cJ cN h0 na v va vb om oa ob im ia ib ro mk ka kb fa la Z M tb n ad qs) (xp : Int32) : vx_Met l y_Qo_decide (.code y_Qo_decide b_Qo_decide 3 (some .boolean) :: ww) ({ frames := 23, cells := 2, slots := 12, locals := 1300 }) (hx_Pc D qcl (qty cI cJ cZ cN) [.ref h0, .int xp] M sz) (va_Qi (fun r M1 => qo_K cI cJ cN h0 na v va vb om oa ob im ia ib ro mk ka kb fa la Z M n qs (∃ i : Nat, i < n ∧ xp = nI i ∧ (nx (qs i) = false ∧ ny (qs i) = false) ∧ it_b r (nP (qs i) 0 0)) M1) (hw_B D qcl (qty cI cJ cZ cN) M sz) (hw_A M sz)) (hx_X D qcl (qty cI cJ cZ cN) M sz (fun E M1 => qo_K cI cJ cN h0 na v va vb om oa ob im ia ib ro mk ka kb fa la Z M n qs ((¬ (∃ i, i < n ∧ xp = nI i) ∧ E = "java/lang/IndexOutOfBoundsException") ∨ (∃ i, i < n ∧ xp = nI i ∧ ¬ (nx (qs i) = false ∧ ny (qs i) = false) ∧ E = "java/lang/IllegalStateException")) M1)) 2 12 (hw_A M sz) := by
  obtain ⟨hC, i1, hT, hE, hD, hP, hD2, hla9, hz9, hL9, hN9⟩ := id hI
  obtain ⟨hC1, hC2, hn60⟩ := id hC
  refine hx_met (by decide) (Nat.le_of_ble_eq_true rfl) ?_
  intro p e s m below meth c hx hb hr hml hown hlocks hnm hts hsz hX hW hZ hno ls hl
  subst hsz
  have hA : ∀ q, s.heap.size ≤ q → hw_A M s.heap.size q := fun q h => Or.inr h
  have hS : va_S (hw_A M s.heap.size) s.heap s.heap [] := va_S.rf
  have hl : lv_has ls 3 [(0, .ref h0), (1, .int xp)] := hl
  have hown : s.vm.findClass "QuantifierOut" = some m.cls := hown
  refine lv_aload_n hx hb d_Qo_decide_0 rfl (lv_at hl 0 rfl) ?_
  refine lv_iload_n hx hb d_Qo_decide_1 rfl (lv_at hl 1 rfl) ?_
  refine hx_callq (hx_runV (n := 1) (own := "QuantifierOut") (As := [.int xp]) (rest := []) hx hb hml hown hts hX hW hl.1 hZ hS hA (c_Qo_nodeAt l D cI cJ cZ cN hl0 h0 na v ro n _ ad M hC xp) hC1 rfl tw_280 tw_282 ts_4 tw_1 tw_283 (by decide +kernel) rfl rfl ⟨by decide, by decide⟩ rfl rfl (Nat.le_of_ble_eq_true rfl) d_Qo_decide_2 ⟨by decide, by decide⟩) hW hS hA (fun E9 ce9 q9 M1 H locs hpn hW hS hq1 hq2 hq3 => ?_) (fun rp M1 H locs hpn hz hW hS => ?_)
  · exact hx_out hno hlocks hq1 hq2 hq3 hW hS (by rw [hpn.2.2]; exact ⟨Or.inl ⟨fun z9 => by obtain ⟨i, hi, ei⟩ := z9; exact hpn.2.1 i hi ei, hpn.1⟩, ⟨_, _, hI⟩, fun _ _ => rfl⟩) (by decide) (by decide)
  obtain ⟨i, hi, ei, er, eMn⟩ := hpn
  rw [eMn] at hW
  subst er
  refine lv_astore_n (lv' := [(2, .ref (ad i)), (0, .ref h0), (1, .int xp)]) hx hb d_Qo_decide_5 rfl hl (by decide) rfl (fun ls hl => ?_)
  obtain ⟨q1, hq1⟩ : ∃ q, q = qs i := ⟨_, rfl⟩
  have t1 : tb (ad i) = some q1 := by rw [hq1]; exact i1 i hi
  have e1 := hq1.symm
  obtain ⟨⟨l1, gr1, F1, n1, lc1, lf1, gg_i⟩, ok1⟩ := id (hT _ _ t1)
  refine lv_aload_n hx hb d_Qo_decide_6 rfl (lv_at hl 0 rfl) ?_
  refine nd_get0 (own := "QuantifierOut") hx hb hts hown hW n1 tw_232 d_Qo_decide_7 ?_
  refine lv_if_eq (tgt := 23) hx hb d_Qo_decide_10 (by decide) (fun c_10 => ?_) (fun c_10 => ?_)
  · skip
    have hnf : nx q1 = false ∧ ny q1 = false := (nd_fr0 _ _).mp c_10
    refine lv_aload_n hx hb d_Qo_decide_23 rfl (lv_at hl 1 rfl) ?_
    refine hw_get (own := "QuantifierOut") (v := .ref v) hx hb hts i_Qo hown hW hC1 rfl 1 (by decide) (hts _ tw_98) (fun _ h9 => h9) rfl d_Qo_decide_24 ?_
    refine lv_iconst (v := 0) hx hb d_Qo_decide_27 (by decide) ?_
    refine lv_iconst (v := 0) hx hb d_Qo_decide_28 (by decide) ?_
    obtain ⟨fv, gv, hE⟩ := id hE
    refine hw_callv (hw_runV (n := 2) (own := "QuantifierOut") (As := [.int 0, .int 0]) (rest := []) hx hb hml hown hts hX hW hl.1 (c_Vs_putWhole l D cI cJ cZ cN v va vb om im _ fv gv 0 0 M hE.1 hD.1) hE.1.1 rfl tw_443 tw_444 tw_445 tw_2 tw_446 (by decide +kernel) rfl rfl ⟨by decide, by decide⟩ rfl rfl (Nat.le_of_ble_eq_true rfl) d_Qo_decide_29 ⟨by decide, by decide⟩) hW hS hA (fun M3 H locs hp hz hW hS => ?_)
    obtain ⟨f3, hf3⟩ : ∃ A9, A9 = vp_updL (vp_updL fv 0 (0 : Int32).toInt64) 1 (0 : Int32).toInt64 := ⟨_, rfl⟩
    obtain ⟨g3, hg3⟩ : ∃ A9, A9 = vp_updL (vp_updL gv 0 1) 1 1 := ⟨_, rfl⟩
    rw [← hf3, ← hg3] at hp
    have fr3 : ∀ r9, r9 ≠ va → r9 ≠ vb → M3 r9 = M r9 := fun r9 z2 z3 => by rw [hp, va_up_ne _ _ z3, va_up_ne _ _ z2]
    obtain ⟨hV, ⟨n8, f8, g8, hmo⟩, ⟨n9, f9, g9, hmi⟩⟩ := id hE
    obtain ⟨d1, d2, d3, d4, d5, d6, d7, d8, d9, d10, d11, d12, d13, d14, d15, d16⟩ := id hD
    have hE3 : ev_S cJ M3 v va vb om oa ob im ia ib f3 g3 := ⟨⟨(fr3 v (hw_ne hV.1 hV.2.1 (by simp)) (hw_ne hV.1 hV.2.2 (by simp))).trans hV.1, by rw [hp, va_up_ne _ _ d1, va_up_self], by rw [hp, va_up_self]⟩, ⟨n8, f8, g8, (fr3 om (hw_ne hmo.1 hV.2.1 (by simp)) (hw_ne hmo.1 hV.2.2 (by simp))).trans hmo.1, (fr3 oa (Ne.symm d2) (Ne.symm d6)).trans hmo.2.1, (fr3 ob (Ne.symm d3) (Ne.symm d7)).trans hmo.2.2⟩, ⟨n9, f9, g9, (fr3 im (hw_ne hmi.1 hV.2.1 (by simp)) (hw_ne hmi.1 hV.2.2 (by simp))).trans hmi.1, (fr3 ia (Ne.symm d4) (Ne.symm d8)).trans hmi.2.1, (fr3 ib (Ne.symm d5) (Ne.symm d9)).trans hmi.2.2⟩⟩
    have hfr3 : (∀ x, x ≠ va → x ≠ vb → x ≠ om → x ≠ oa → x ≠ ob → x ≠ im → x ≠ ia → x ≠ ib → M3 x = M x) := fun x z1 z2 z3 z4 z5 z6 z7 z8 => fr3 x z1 z2
    have hT3 := (gd_fr_of hT hE hfr3).2
    have c0 : f3 0 = (0 : Int32).toInt64 := by rw [hf3]; rfl
    have c1 : f3 1 = (0 : Int32).toInt64 := by rw [hf3]; rfl
    have c2 : g3 0 = 1 := by rw [hg3]; rfl
    have c3 : g3 1 = 1 := by rw [hg3]; rfl
    have h1l : (1 : Int64).toInt = 1 := rfl
    have hb3 : vx_b f3 g3 (nd q1) := by
      intro i hi
      have hv2 := VB_mono ok1.2.2.2.1
      have hv3 : VB 2 = 60 := rfl
      rcases (show i = 0 ∨ i = 1 by omega) with z9 | z9 <;> subst z9
      · rw [c0, c2, nm_i2l, h1l]; have := (show (0 : Int32).toInt = 0 from rfl); exact ⟨by omega, by omega, by omega⟩
      · rw [c1, c3, nm_i2l, h1l]; have := (show (0 : Int32).toInt = 0 from rfl); exact ⟨by omega, by omega, by omega⟩
    have hrk : nr q1 ≤ 15 := by have h8 := ok1.2.2.2.2.1; have h9 := ok1.2.2.1; have h7 := ok1.2.2.2.1; have : nk_neg (nK q1) ≤ 1 := by { unfold nk_neg; split <;> omega }; omega
    have hC13 := (fr3 h0 (hw_ne hC1 hV.2.1 (by simp)) (hw_ne hC1 hV.2.2 (by simp))).trans hC1
    refine lv_aload_n hx hb d_Qo_decide_32 rfl (lv_at hl 0 rfl) ?_
    refine lv_aload_n hx hb d_Qo_decide_33 rfl (lv_at hl 1 rfl) ?_
    refine hw_get (own := "QuantifierOut") (v := .ref v) hx hb hts i_Qo hown hW hC13 rfl 1 (by decide) (hts _ tw_98) (fun _ h9 => h9) rfl d_Qo_decide_34 ?_
    obtain ⟨⟨la3, gr3, F3, hc3, _⟩, _⟩ := hT3 _ _ t1
    refine hw_calli (it_run 1 rfl (own := "QuantifierOut") (rest := []) hx hb hml hown hts hX hW hl.1 (it_all l D cI cJ cZ cN v va vb om oa ob im ia ib tb hD 15 (ad i) q1 t1 hrk M3 _ f3 g3 hT3 hE3 hb3) hc3.2 tw_451 rfl rfl ⟨by decide, by decide⟩ rfl (Nat.le_of_ble_eq_true rfl) d_Qo_decide_37 ⟨by decide, by decide⟩) hW hS hA (fun r1 M4 H locs hp4 hz hW hS => ?_)
    obtain ⟨p1, p2, p3⟩ := hp4
    have hvX : vX f3 g3 = ((0 : Int32).toInt : Rat) := by unfold vX; rw [c0, c2, nm_i2l, h1l, qm_fr_int]
    have hvY : vY f3 g3 = ((0 : Int32).toInt : Rat) := by unfold vY; rw [c1, c3, nm_i2l, h1l, qm_fr_int]
    rw [hvX, hvY] at p1
    have hfr4 : (∀ x, x ≠ va → x ≠ vb → x ≠ om → x ≠ oa → x ≠ ob → x ≠ im → x ≠ ia → x ≠ ib → M4 x = M x) := fun x z1 z2 z3 z4 z5 z6 z7 z8 => (p2 x (Or.inr ⟨z6, z7, z8⟩) (Or.inr ⟨z3, z4, z5⟩)).trans (hfr3 x z1 z2 z3 z4 z5 z6 z7 z8)
    obtain ⟨gg4, hT4⟩ := gd_fr_of hT hE hfr4
    obtain ⟨hI4, hZ4⟩ := qo_look hI gg4 hT4 ⟨f3, g3, p3⟩
    have hr01 : r1 = 0 ∨ r1 = 1 := by rcases p1 with ⟨z, _⟩ | ⟨z, _⟩; exact Or.inr z; exact Or.inl z
    have h00 : (((0 : Int32).toInt : Int) : Rat) = 0 := rfl
    rw [h00] at p1
    refine vx_ret (W.widen (k := 2) (n := 12) (by decide) (by decide) ?_)
    exact hw_retz hx hb hr (nar01 hr01) hlocks hW hS ⟨⟨i, hi, ei, by rw [e1]; exact hnf, by rw [e1]; exact p1⟩, ⟨_, _, hI4⟩, hZ4⟩ d_Qo_decide_40
  · skip
    exact hx_throw (is := 103) (text := "x or y is free") hx hb hl0 (by rw [hml]; exact hl.1.symm) hown hts hX xf_S tw_127 tw_9 (by decide) xt_105 xb_105 xg_105 hno hlocks hZ hW hS ⟨Or.inr ⟨i, hi, ei, (fun z9 => by rw [e1] at z9; exact c_10 ((nd_fr0 _ _).mpr z9)), rfl⟩, ⟨_, _, hI⟩, fun _ _ => rfl⟩ d_Qo_decide_13 d_Qo_decide_16 d_Qo_decide_17 d_Qo_decide_19 d_Qo_decide_22 (by decide) (Nat.le_of_ble_eq_true rfl) (by decide) (by decide) (by decide) (by decide)
set_option maxHeartbeats 4000000 in
set_option maxRecDepth 100000 in
theorem c_Qo_findPieces (hl0 : l.stackTraces = false) (M : Nat → Option va_E) (sz n : Nat) (tb : Nat → Option nq) (ad : Nat → Nat) (qs : Nat → nq) (hI : qo_I cI cJ cN h0 na v va vb om oa ob im ia ib ro mk ka kb fa la Z M tb n ad qs) (xp : Int32) : vx_Met l y_Qo_findPieces (.code y_Qo_findPieces b_Qo_findPieces 4 none :: ww) ({ frames := 27, cells := 2, slots := 12, locals := 1500 }) (hx_Pc D qcl (qty cI cJ cZ cN) [.ref h0, .int xp] M sz) (va_Qv (fun M1 => ∃ i : Nat, i < n ∧ xp = nI i ∧ (nx (qs i) ≠ ny (qs i) ∧ nd (qs i) ≤ 1) ∧ qo_I cI cJ cN h0 na v va vb om oa ob im ia ib ro mk ka kb fa la Z M1 tb n ad qs ∧ (∀ z, Z z → M1 z = M z) ∧ ∃ (n0 : Nat) (f g : Nat → Int64) (mm : Nat) (Ff Fl : Nat → Int32), pc_S cI cJ M1 ro mk ka kb fa la (some (ad i)) n0 f g mm Ff Fl ∧ pc_R (qs i) n0 f g mm Ff Fl) (hw_B D qcl (qty cI cJ cZ cN) M sz) (hw_A M sz)) (hx_X D qcl (qty cI cJ cZ cN) M sz (fun E M1 => qo_K cI cJ cN h0 na v va vb om oa ob im ia ib ro mk ka kb fa la Z M n qs ((¬ (∃ i, i < n ∧ xp = nI i) ∧ E = "java/lang/IndexOutOfBoundsException") ∨ (∃ i, i < n ∧ xp = nI i ∧ ¬ (nx (qs i) ≠ ny (qs i) ∧ nd (qs i) ≤ 1) ∧ E = "java/lang/IllegalStateException")) M1)) 2 12 (hw_A M sz) := by
  obtain ⟨hC, i1, hT, hE, hD, hP, hD2, hla9, hz9, hL9, hN9⟩ := id hI
  obtain ⟨hC1, hC2, hn60⟩ := id hC
  refine hx_met (by decide) (Nat.le_of_ble_eq_true rfl) ?_
  intro p e s m below meth c hx hb hr hml hown hlocks hnm hts hsz hX hW hZ hno ls hl
  subst hsz
  have hA : ∀ q, s.heap.size ≤ q → hw_A M s.heap.size q := fun q h => Or.inr h
  have hS : va_S (hw_A M s.heap.size) s.heap s.heap [] := va_S.rf
  have hl : lv_has ls 4 [(0, .ref h0), (1, .int xp)] := hl
  have hown : s.vm.findClass "QuantifierOut" = some m.cls := hown
  obtain ⟨Q9, hQ9⟩ : ∃ X : State → Prop, X = vx_MQ below (va_Qv (fun M1 => ∃ i : Nat, i < n ∧ xp = nI i ∧ (nx (qs i) ≠ ny (qs i) ∧ nd (qs i) ≤ 1) ∧ qo_I cI cJ cN h0 na v va vb om oa ob im ia ib ro mk ka kb fa la Z M1 tb n ad qs ∧ (∀ z, Z z → M1 z = M z) ∧ ∃ (n0 : Nat) (f g : Nat → Int64) (mm : Nat) (Ff Fl : Nat → Int32), pc_S cI cJ M1 ro mk ka kb fa la (some (ad i)) n0 f g mm Ff Fl ∧ pc_R (qs i) n0 f g mm Ff Fl) (hw_B D qcl (qty cI cJ cZ cN) M s.heap.size) (hw_A M s.heap.size)) (hx_X D qcl (qty cI cJ cZ cN) M s.heap.size (fun E M1 => qo_K cI cJ cN h0 na v va vb om oa ob im ia ib ro mk ka kb fa la Z M n qs ((¬ (∃ i, i < n ∧ xp = nI i) ∧ E = "java/lang/IndexOutOfBoundsException") ∨ (∃ i, i < n ∧ xp = nI i ∧ ¬ (nx (qs i) ≠ ny (qs i) ∧ nd (qs i) ≤ 1) ∧ E = "java/lang/IllegalStateException")) M1)) [.ref h0, .int xp].toArray s 2 12 (hw_A M s.heap.size) := ⟨_, rfl⟩
  refine lv_aload_n hx hb d_Qo_findPieces_0 rfl (lv_at hl 0 rfl) ?_
  refine lv_iload_n hx hb d_Qo_findPieces_1 rfl (lv_at hl 1 rfl) ?_
  refine hx_callq (hx_runV (n := 1) (own := "QuantifierOut") (As := [.int xp]) (rest := []) hx hb hml hown hts hX hW hl.1 hZ hS hA (c_Qo_nodeAt l D cI cJ cZ cN hl0 h0 na v ro n _ ad M hC xp) hC1 rfl tw_280 tw_282 ts_4 tw_1 tw_283 (by decide +kernel) rfl rfl ⟨by decide, by decide⟩ rfl rfl (Nat.le_of_ble_eq_true rfl) d_Qo_findPieces_2 ⟨by decide, by decide⟩) hW hS hA (fun E9 ce9 q9 M1 H locs hpn hW hS hq1 hq2 hq3 => ?_) (fun rp M1 H locs hpn hz hW hS => ?_)
  · exact hx_out hno hlocks hq1 hq2 hq3 hW hS (by rw [hpn.2.2]; exact ⟨Or.inl ⟨fun z9 => by obtain ⟨i, hi, ei⟩ := z9; exact hpn.2.1 i hi ei, hpn.1⟩, ⟨_, _, hI⟩, fun _ _ => rfl⟩) (by decide) (by decide)
  obtain ⟨i, hi, ei, er, eMn⟩ := hpn
  rw [eMn] at hW
  subst er
  refine lv_astore_n (lv' := [(2, .ref (ad i)), (0, .ref h0), (1, .int xp)]) hx hb d_Qo_findPieces_5 rfl hl (by decide) rfl (fun ls hl => ?_)
  obtain ⟨q1, hq1⟩ : ∃ q, q = qs i := ⟨_, rfl⟩
  have t1 : tb (ad i) = some q1 := by rw [hq1]; exact i1 i hi
  have e1 := hq1.symm
  obtain ⟨⟨l1, gr1, F1, n1, lc1, lf1, gg_i⟩, ok1⟩ := id (hT _ _ t1)
  have dep1 := ok1.2.2.2.1
  have tail : ∀ (fl : Int32), it_b fl (nx q1 ≠ ny q1) → ∀ (ls : Array Slot), lv_has ls 4 [(3, .int fl), (2, .ref (ad i)), (0, .ref h0), (1, .int xp)] → W p l e ({ frames := 27, cells := 2, slots := 12, locals := 1500 }) s m [.ref h0, .int xp].toArray below meth c H locs 1 6 Q9 (F0 m 28 ls []) := by
    intro fl hfl ls hl
    refine lv_iload_n hx hb d_Qo_findPieces_28 rfl (lv_at hl 0 rfl) ?_
    refine lv_if_eq (tgt := 40) hx hb d_Qo_findPieces_29 (by decide) (fun c_29 => ?_) (fun c_29 => ?_)
    · skip
      rw [hQ9]
      exact hx_throw (is := 149) (text := "it has no set") hx hb hl0 (by rw [hml]; exact hl.1.symm) hown hts hX xf_S tw_127 tw_9 (by decide) xt_105 xb_105 xg_105 hno hlocks hZ hW hS ⟨Or.inr ⟨i, hi, ei, (fun z9 => by rw [e1] at z9; exact it_b0 hfl c_29 z9.1), rfl⟩, ⟨_, _, hI⟩, fun _ _ => rfl⟩ d_Qo_findPieces_40 d_Qo_findPieces_43 d_Qo_findPieces_44 d_Qo_findPieces_46 d_Qo_findPieces_49 (by decide) (Nat.le_of_ble_eq_true rfl) (by decide) (by decide) (by decide) (by decide)
    · skip
      refine lv_aload_n hx hb d_Qo_findPieces_32 rfl (lv_at hl 1 rfl) ?_
      refine nd_get1 (own := "QuantifierOut") hx hb hts hown hW n1 tw_240 d_Qo_findPieces_33 ?_
      refine lv_iconst (v := 1) hx hb d_Qo_findPieces_36 (by decide) ?_
      refine lv_icmp_le (tgt := 50) hx hb d_Qo_findPieces_37 (by decide) (fun c_37 => ?_) (fun c_37 => ?_)
      · skip
        have hd1 : nd q1 ≤ 1 := (nI_leI (b := 1) (by omega) (by omega)).mp c_37
        have hxy := it_b1 hfl c_29
        refine lv_aload_n hx hb d_Qo_findPieces_50 rfl (lv_at hl 2 rfl) ?_
        refine hw_get (own := "QuantifierOut") (v := .ref ro) hx hb hts i_Qo hown hW hC1 rfl 2 (by decide) (hts _ tw_99) (fun _ h9 => h9) rfl d_Qo_findPieces_51 ?_
        refine lv_aload_n hx hb d_Qo_findPieces_54 rfl (lv_at hl 1 rfl) ?_
        refine lv_aload_n hx hb d_Qo_findPieces_55 rfl (lv_at hl 2 rfl) ?_
        refine hw_get (own := "QuantifierOut") (v := .ref v) hx hb hts i_Qo hown hW hC1 rfl 1 (by decide) (hts _ tw_98) (fun _ h9 => h9) rfl d_Qo_findPieces_56 ?_
        obtain ⟨fv, gv, hE1⟩ := id hE
        obtain ⟨ow, hP1⟩ := id hP
        have hro := hP1
        obtain ⟨n0, f0, g0, m0, Ff0, Fl0, hps, _⟩ := hro
        refine hw_callv (hw_runV (n := 2) (own := "QuantifierOut") (As := [.ref (ad i), .ref v]) (rest := []) hx hb hml hown hts hX hW hl.1 (c_Pc_find l D cI cJ cZ cN v va vb om oa ob im ia ib tb ro mk ka kb fa la (ad i) _ ow q1 t1 fv gv M hT hE1 hD hD2 hP1 (fun a2 q2 la2 gr ex ci h1 h2 => ⟨(hla9 a2 q2 la2 gr ex ci h1 h2).1, (hla9 a2 q2 la2 gr ex ci h1 h2).2.1⟩) hd1 hxy) hps.1 rfl tw_521 tw_522 tw_523 tw_4 tw_524 (by decide +kernel) rfl rfl ⟨by decide, by decide⟩ rfl rfl (Nat.le_of_ble_eq_true rfl) d_Qo_findPieces_59 ⟨by decide, by decide⟩) hW hS hA (fun M2 H locs hp2 hz hW hS => ?_)
        obtain ⟨hE2, hP2, hfr2⟩ := hp2
        obtain ⟨n2, f2, g2, m2, Ff2, Fl2, hps2, hR2⟩ := id hP2
        obtain ⟨q2, hq2, hRR⟩ := hR2 _ rfl
        have : q2 = q1 := Option.some.inj (hq2.symm.trans t1)
        subst this
        have hfi := qo_find hI hE2 ⟨_, hP2⟩ hfr2
        rw [hQ9]
        refine vx_ret (W.widen (k := 2) (n := 12) (by decide) (by decide) ?_)
        exact hw_retv hx hb hr hlocks hW hS ⟨i, hi, ei, by rw [e1]; exact ⟨hxy, hd1⟩, hfi.1, hfi.2, n2, f2, g2, m2, Ff2, Fl2, hps2, by rw [e1]; exact hRR⟩ d_Qo_findPieces_62
      · skip
        rw [hQ9]
        exact hx_throw (is := 149) (text := "it has no set") hx hb hl0 (by rw [hml]; exact hl.1.symm) hown hts hX xf_S tw_127 tw_9 (by decide) xt_105 xb_105 xg_105 hno hlocks hZ hW hS ⟨Or.inr ⟨i, hi, ei, (fun z9 => by rw [e1] at z9; exact c_37 ((nI_leI (b := 1) (by omega) (by omega)).mpr z9.2)), rfl⟩, ⟨_, _, hI⟩, fun _ _ => rfl⟩ d_Qo_findPieces_40 d_Qo_findPieces_43 d_Qo_findPieces_44 d_Qo_findPieces_46 d_Qo_findPieces_49 (by decide) (Nat.le_of_ble_eq_true rfl) (by decide) (by decide) (by decide) (by decide)
  refine lv_aload_n hx hb d_Qo_findPieces_6 rfl (lv_at hl 0 rfl) ?_
  refine nd_get0 (own := "QuantifierOut") hx hb hts hown hW n1 tw_232 d_Qo_findPieces_7 ?_
  refine lv_iconst (v := 1) hx hb d_Qo_findPieces_10 (by decide) ?_
  refine lv_icmp_eq (tgt := 22) hx hb d_Qo_findPieces_11 (by decide) (fun c_11 => ?_) (fun c_11 => ?_)
  · skip
    refine lv_iconst (v := 1) hx hb d_Qo_findPieces_22 (by decide) ?_
    refine lv_goto (tgt := 27) hx hb d_Qo_findPieces_23 (by decide) ?_
    refine lv_istore_n (lv' := [(3, .int 1), (2, .ref (ad i)), (0, .ref h0), (1, .int xp)]) hx hb d_Qo_findPieces_27 rfl hl (by decide) rfl (fun ls hl => ?_)
    rw [← hQ9]
    exact tail 1 (Or.inl ⟨rfl, by rw [((nd_fr1 _ _).mp c_11).1, ((nd_fr1 _ _).mp c_11).2]; decide⟩) ls hl
  · skip
    refine lv_aload_n hx hb d_Qo_findPieces_14 rfl (lv_at hl 0 rfl) ?_
    refine nd_get0 (own := "QuantifierOut") hx hb hts hown hW n1 tw_232 d_Qo_findPieces_15 ?_
    refine lv_iconst (v := 2) hx hb d_Qo_findPieces_18 (by decide) ?_
    refine lv_icmp_ne (tgt := 26) hx hb d_Qo_findPieces_19 (by decide) (fun c_19 => ?_) (fun c_19 => ?_)
    · skip
      refine lv_iconst (v := 0) hx hb d_Qo_findPieces_26 (by decide) ?_
      refine lv_istore_n (lv' := [(3, .int 0), (2, .ref (ad i)), (0, .ref h0), (1, .int xp)]) hx hb d_Qo_findPieces_27 rfl hl (by decide) rfl (fun ls hl => ?_)
      rw [← hQ9]
      exact tail 0 (Or.inr ⟨rfl, fun z9 => by cases h1 : nx q1 <;> cases h2 : ny q1 <;> rw [h1, h2] at z9 <;> first | exact z9 rfl | exact c_11 ((nd_fr1 _ _).mpr ⟨h1, h2⟩) | exact c_19 ((nd_fr2 _ _).mpr ⟨h1, h2⟩)⟩) ls hl
    · skip
      refine lv_iconst (v := 1) hx hb d_Qo_findPieces_22 (by decide) ?_
      refine lv_goto (tgt := 27) hx hb d_Qo_findPieces_23 (by decide) ?_
      refine lv_istore_n (lv' := [(3, .int 1), (2, .ref (ad i)), (0, .ref h0), (1, .int xp)]) hx hb d_Qo_findPieces_27 rfl hl (by decide) rfl (fun ls hl => ?_)
      rw [← hQ9]
      exact tail 1 (Or.inl ⟨rfl, by rw [((nd_fr2 _ _).mp c_19).1, ((nd_fr2 _ _).mp c_19).2]; decide⟩) ls hl
set_option maxHeartbeats 4000000 in
set_option maxRecDepth 100000 in
theorem c_Qo_pieces (hl0 : l.stackTraces = false) (M : Nat → Option va_E) (sz n : Nat) (tb : Nat → Option nq) (ad : Nat → Nat) (qs : Nat → nq) (hI : qo_I cI cJ cN h0 na v va vb om oa ob im ia ib ro mk ka kb fa la Z M tb n ad qs) (xp : Int32) : vx_Met l y_Qo_pieces (.code y_Qo_pieces b_Qo_pieces 2 (some .int) :: ww) ({ frames := 28, cells := 2, slots := 12, locals := 1530 }) (hx_Pc D qcl (qty cI cJ cZ cN) [.ref h0, .int xp] M sz) (va_Qi (fun r M1 => qo_K cI cJ cN h0 na v va vb om oa ob im ia ib ro mk ka kb fa la Z M n qs (∃ (i mm : Nat) (Lf Rt : Nat → Option (Rat × Bool)), i < n ∧ xp = nI i ∧ (nx (qs i) ≠ ny (qs i) ∧ nd (qs i) ≤ 1) ∧ mm ≤ 22 ∧ r = nI mm ∧ qp_sys (nS (qs i)) mm Lf Rt) M1) (hw_B D qcl (qty cI cJ cZ cN) M sz) (hw_A M sz)) (hx_X D qcl (qty cI cJ cZ cN) M sz (fun E M1 => qo_K cI cJ cN h0 na v va vb om oa ob im ia ib ro mk ka kb fa la Z M n qs ((¬ (∃ i, i < n ∧ xp = nI i) ∧ E = "java/lang/IndexOutOfBoundsException") ∨ (∃ i, i < n ∧ xp = nI i ∧ ¬ (nx (qs i) ≠ ny (qs i) ∧ nd (qs i) ≤ 1) ∧ E = "java/lang/IllegalStateException")) M1)) 2 12 (hw_A M sz) := by
  obtain ⟨hC, i1, hT, hE, hD, hP, hD2, hla9, hz9, hL9, hN9⟩ := id hI
  obtain ⟨hC1, hC2, hn60⟩ := id hC
  refine hx_met (by decide) (Nat.le_of_ble_eq_true rfl) ?_
  intro p e s m below meth c hx hb hr hml hown hlocks hnm hts hsz hX hW hZ hno ls hl
  subst hsz
  have hA : ∀ q, s.heap.size ≤ q → hw_A M s.heap.size q := fun q h => Or.inr h
  have hS : va_S (hw_A M s.heap.size) s.heap s.heap [] := va_S.rf
  have hl : lv_has ls 2 [(0, .ref h0), (1, .int xp)] := hl
  have hown : s.vm.findClass "QuantifierOut" = some m.cls := hown
  refine lv_aload_n hx hb d_Qo_pieces_0 rfl (lv_at hl 0 rfl) ?_
  refine lv_iload_n hx hb d_Qo_pieces_1 rfl (lv_at hl 1 rfl) ?_
  refine hx_callv (hx_runV (n := 1) (own := "QuantifierOut") (As := [.int xp]) (rest := []) hx hb hml hown hts hX hW hl.1 hZ hS hA (c_Qo_findPieces l D cI cJ cZ cN h0 na v va vb om oa ob im ia ib ro mk ka kb fa la Z hl0 M _ n tb ad qs hI xp) hC1 rfl tw_516 tw_518 ts_9 tw_1 tw_519 (by decide +kernel) rfl rfl ⟨by decide, by decide⟩ rfl rfl (Nat.le_of_ble_eq_true rfl) d_Qo_pieces_2 ⟨by decide, by decide⟩) hW hS hA (fun E9 ce9 q9 M2 H locs hpp hW hS hq1 hq2 hq3 => ?_) (fun M2 H locs hpp hz hW hS => ?_)
  · exact hx_out hno hlocks hq1 hq2 hq3 hW hS hpp (by decide) (by decide)
  obtain ⟨i, hi, ei, hset, hI2, hZ2, n0, f, g, mm, Ff, Fl, hps, hm21, hrow, hm22, fs, lS, hfl, hsys⟩ := hpp
  have hC12 := hI2.1.1
  have hro := hps.1
  refine lv_aload_n hx hb d_Qo_pieces_5 rfl (lv_at hl 0 rfl) ?_
  refine hw_get (own := "QuantifierOut") (v := .ref ro) hx hb hts i_Qo hown hW hC12 rfl 2 (by decide) (hts _ tw_99) (fun _ h9 => h9) rfl d_Qo_pieces_6 ?_
  refine hw_getN (host := "QuantifierOut") (own := "QuantifierOut") (v := .int (nI mm)) hx hb hts i_Pc hown hW hro rfl 3 (by decide) (va_Nw.use rfl (hX.1 _ (by decide))) (fun _ h9 => h9) rfl d_Qo_pieces_9 ?_
  refine vx_ret (W.widen (k := 2) (n := 12) (by decide) (by decide) ?_)
  exact hw_reti hx hb hr hlocks hW hS ⟨⟨i, mm, _, _, hi, ei, hset, hm22, rfl, hsys⟩, ⟨_, _, hI2⟩, hZ2⟩ d_Qo_pieces_12
set_option maxHeartbeats 4000000 in
set_option maxRecDepth 100000 in
theorem c_Qo_end (hl0 : l.stackTraces = false) (M : Nat → Option va_E) (sz n : Nat) (tb : Nat → Option nq) (ad : Nat → Nat) (qs : Nat → nq) (hI : qo_I cI cJ cN h0 na v va vb om oa ob im ia ib ro mk ka kb fa la Z M tb n ad qs) (xp xk xs xt : Int32) : vx_Met l y_Qo_end (.code y_Qo_end b_Qo_end 5 (some .long) :: ww) ({ frames := 28, cells := 3, slots := 18, locals := 1530 }) (hx_Pc D qcl (qty cI cJ cZ cN) [.ref h0, .int xp, .int xk, .int xs, .int xt] M sz) (va_Ql (fun r M1 => qo_K cI cJ cN h0 na v va vb om oa ob im ia ib ro mk ka kb fa la Z M n qs (∃ (i mm k sd pt : Nat) (Lf Rt : Nat → Option (Rat × Bool)), i < n ∧ xp = nI i ∧ (nx (qs i) ≠ ny (qs i) ∧ nd (qs i) ≤ 1) ∧ mm ≤ 22 ∧ qp_sys (nS (qs i)) mm Lf Rt ∧ k < mm ∧ xk = nI k ∧ sd < 2 ∧ xs = nI sd ∧ pt < 3 ∧ xt = nI pt ∧ r.toInt = pe_v (if sd = 0 then Lf k else Rt k) pt) M1) (hw_B D qcl (qty cI cJ cZ cN) M sz) (hw_A M sz)) (hx_X D qcl (qty cI cJ cZ cN) M sz (fun E M1 => qo_K cI cJ cN h0 na v va vb om oa ob im ia ib ro mk ka kb fa la Z M n qs (((¬ (∃ i, i < n ∧ xp = nI i) ∧ E = "java/lang/IndexOutOfBoundsException") ∨ (∃ i, i < n ∧ xp = nI i ∧ ¬ (nx (qs i) ≠ ny (qs i) ∧ nd (qs i) ≤ 1) ∧ E = "java/lang/IllegalStateException")) ∨ ∃ (i mm : Nat) (Lf Rt : Nat → Option (Rat × Bool)), i < n ∧ xp = nI i ∧ (nx (qs i) ≠ ny (qs i) ∧ nd (qs i) ≤ 1) ∧ mm ≤ 22 ∧ qp_sys (nS (qs i)) mm Lf Rt ∧ ((¬ (∃ k, k < mm ∧ xk = nI k) ∧ E = "java/lang/IndexOutOfBoundsException") ∨ ((∃ k, k < mm ∧ xk = nI k) ∧ ¬ ((∃ sd, sd < 2 ∧ xs = nI sd) ∧ ∃ pt, pt < 3 ∧ xt = nI pt) ∧ E = "java/lang/IllegalArgumentException"))) M1)) 3 18 (hw_A M sz) := by
  obtain ⟨hC, i1, hT, hE, hD, hP, hD2, hla9, hz9, hL9, hN9⟩ := id hI
  obtain ⟨hC1, hC2, hn60⟩ := id hC
  refine hx_met (by decide) (Nat.le_of_ble_eq_true rfl) ?_
  intro p e s m below meth c hx hb hr hml hown hlocks hnm hts hsz hX hW hZ hno ls hl
  subst hsz
  have hA : ∀ q, s.heap.size ≤ q → hw_A M s.heap.size q := fun q h => Or.inr h
  have hS : va_S (hw_A M s.heap.size) s.heap s.heap [] := va_S.rf
  have hl : lv_has ls 5 [(0, .ref h0), (1, .int xp), (2, .int xk), (3, .int xs), (4, .int xt)] := hl
  have hown : s.vm.findClass "QuantifierOut" = some m.cls := hown
  obtain ⟨Q9, hQ9⟩ : ∃ X : State → Prop, X = vx_MQ below (va_Ql (fun r M1 => qo_K cI cJ cN h0 na v va vb om oa ob im ia ib ro mk ka kb fa la Z M n qs (∃ (i mm k sd pt : Nat) (Lf Rt : Nat → Option (Rat × Bool)), i < n ∧ xp = nI i ∧ (nx (qs i) ≠ ny (qs i) ∧ nd (qs i) ≤ 1) ∧ mm ≤ 22 ∧ qp_sys (nS (qs i)) mm Lf Rt ∧ k < mm ∧ xk = nI k ∧ sd < 2 ∧ xs = nI sd ∧ pt < 3 ∧ xt = nI pt ∧ r.toInt = pe_v (if sd = 0 then Lf k else Rt k) pt) M1) (hw_B D qcl (qty cI cJ cZ cN) M s.heap.size) (hw_A M s.heap.size)) (hx_X D qcl (qty cI cJ cZ cN) M s.heap.size (fun E M1 => qo_K cI cJ cN h0 na v va vb om oa ob im ia ib ro mk ka kb fa la Z M n qs (((¬ (∃ i, i < n ∧ xp = nI i) ∧ E = "java/lang/IndexOutOfBoundsException") ∨ (∃ i, i < n ∧ xp = nI i ∧ ¬ (nx (qs i) ≠ ny (qs i) ∧ nd (qs i) ≤ 1) ∧ E = "java/lang/IllegalStateException")) ∨ ∃ (i mm : Nat) (Lf Rt : Nat → Option (Rat × Bool)), i < n ∧ xp = nI i ∧ (nx (qs i) ≠ ny (qs i) ∧ nd (qs i) ≤ 1) ∧ mm ≤ 22 ∧ qp_sys (nS (qs i)) mm Lf Rt ∧ ((¬ (∃ k, k < mm ∧ xk = nI k) ∧ E = "java/lang/IndexOutOfBoundsException") ∨ ((∃ k, k < mm ∧ xk = nI k) ∧ ¬ ((∃ sd, sd < 2 ∧ xs = nI sd) ∧ ∃ pt, pt < 3 ∧ xt = nI pt) ∧ E = "java/lang/IllegalArgumentException"))) M1)) [.ref h0, .int xp, .int xk, .int xs, .int xt].toArray s 3 18 (hw_A M s.heap.size) := ⟨_, rfl⟩
  refine lv_aload_n hx hb d_Qo_end_0 rfl (lv_at hl 0 rfl) ?_
  refine lv_iload_n hx hb d_Qo_end_1 rfl (lv_at hl 1 rfl) ?_
  refine hx_callv (hx_runV (n := 1) (own := "QuantifierOut") (As := [.int xp]) (rest := []) hx hb hml hown hts hX hW hl.1 hZ hS hA (c_Qo_findPieces l D cI cJ cZ cN h0 na v va vb om oa ob im ia ib ro mk ka kb fa la Z hl0 M _ n tb ad qs hI xp) hC1 rfl tw_516 tw_518 ts_9 tw_1 tw_519 (by decide +kernel) rfl rfl ⟨by decide, by decide⟩ rfl rfl (Nat.le_of_ble_eq_true rfl) d_Qo_end_2 ⟨by decide, by decide⟩) hW hS hA (fun E9 ce9 q9 M2 H locs hpp hW hS hq1 hq2 hq3 => ?_) (fun M2 H locs hpp hz hW hS => ?_)
  · exact hx_out hno hlocks hq1 hq2 hq3 hW hS ⟨Or.inl hpp.1, hpp.2⟩ (by decide) (by decide)
  obtain ⟨i, hi, ei, hset, hI2, hZ2, n0, f, g, mm, Ff, Fl, hps, hm21, hrow, hm22, fs, lS, hfl, hsys⟩ := hpp
  have hC12 := hI2.1.1
  have hro := hps.1
  refine lv_iload_n hx hb d_Qo_end_5 rfl (lv_at hl 2 rfl) ?_
  refine lv_if_lt (tgt := 20) hx hb d_Qo_end_6 (by decide) (fun c_6 => ?_) (fun c_6 => ?_)
  · skip
    exact hx_throw (is := 114) (text := "no such piece") hx hb hl0 (by rw [hml]; exact hl.1.symm) hown hts hX xf_O tw_284 tw_13 (by decide) xt_116 xb_116 xg_116 hno hlocks hZ hW hS ⟨Or.inr ⟨i, mm, _, _, hi, ei, hset, hm22, hsys, Or.inl ⟨(fun z9 => by obtain ⟨k, hk, ek⟩ := z9; rw [ek] at c_6; exact nI_pos (by omega) c_6), rfl⟩⟩, ⟨_, _, hI2⟩, hZ2⟩ d_Qo_end_20 d_Qo_end_23 d_Qo_end_24 d_Qo_end_26 d_Qo_end_29 (by decide) (Nat.le_of_ble_eq_true rfl) (by decide) (by decide) (by decide) (by decide)
  · skip
    obtain ⟨k, hk31, ek⟩ := nI_of c_6
    subst ek
    refine lv_iload_n hx hb d_Qo_end_9 rfl (lv_at hl 2 rfl) ?_
    refine lv_aload_n hx hb d_Qo_end_10 rfl (lv_at hl 0 rfl) ?_
    refine hw_get (own := "QuantifierOut") (v := .ref ro) hx hb hts i_Qo hown hW hC12 rfl 2 (by decide) (hts _ tw_99) (fun _ h9 => h9) rfl d_Qo_end_11 ?_
    refine hw_getN (host := "QuantifierOut") (own := "QuantifierOut") (v := .int (nI mm)) hx hb hts i_Pc hown hW hro rfl 3 (by decide) (va_Nw.use rfl (hX.1 _ (by decide))) (fun _ h9 => h9) rfl d_Qo_end_14 ?_
    refine lv_icmp_lt (tgt := 30) hx hb d_Qo_end_17 (by decide) (fun c_17 => ?_) (fun c_17 => ?_)
    · skip
      have hk : k < mm := (nI_ltI (by omega) (by omega)).mp c_17
      have tail2 : ∀ (sd pt : Nat), sd < 2 → xs = nI sd → pt < 3 → xt = nI pt → ∀ (ls : Array Slot), lv_has ls 5 [(0, .ref h0), (1, .int xp), (2, .int (nI k)), (3, .int xs), (4, .int xt)] → W p l e ({ frames := 28, cells := 3, slots := 18, locals := 1530 }) s m [.ref h0, .int xp, .int (nI k), .int xs, .int xt].toArray below meth c H locs 2 12 Q9 (F0 m 76 ls []) := by
        intro sd pt hsd esd hpt ept ls hl
        subst esd; subst ept
        refine lv_aload_n hx hb d_Qo_end_76 rfl (lv_at hl 0 rfl) ?_
        refine hw_get (own := "QuantifierOut") (v := .ref ro) hx hb hts i_Qo hown hW hC12 rfl 2 (by decide) (hts _ tw_99) (fun _ h9 => h9) rfl d_Qo_end_77 ?_
        refine lv_iload_n hx hb d_Qo_end_80 rfl (lv_at hl 2 rfl) ?_
        refine lv_iload_n hx hb d_Qo_end_81 rfl (lv_at hl 3 rfl) ?_
        refine lv_iload hx hb d_Qo_end_82 (lv_at hl 4 rfl) ?_
        obtain ⟨e3, e4, e5, e6⟩ := hfl k hk
        refine hw_calll (hw_runV (n := 3) (own := "QuantifierOut") (As := [.int (nI k), .int (nI sd), .int (nI pt)]) (rest := []) hx hb hml hown hts hX hW hl.1 (c_Pc_partOfEnd l D cI cJ cZ cN ro mk ka kb fa la n0 mm k sd pt (fs k) (lS k) _ (some (ad i)) f g Ff Fl M2 hps hm21 hrow hk hm22 e3 e4 (by omega) e6 hsd hpt) hro rfl tw_541 tw_542 tw_543 tw_4 tw_544 (by decide +kernel) rfl rfl ⟨by decide, by decide⟩ rfl rfl (Nat.le_of_ble_eq_true rfl) d_Qo_end_84 ⟨by decide, by decide⟩) hW hS hA (fun re M5 H locs hp9 hz hW hS => ?_)
        obtain ⟨ere, eM5⟩ := hp9
        rw [eM5] at hW
        rw [hQ9]
        refine vx_ret (W.widen (k := 3) (n := 18) (by decide) (by decide) ?_)
        exact hw_retl hx hb hr hlocks hW hS ⟨⟨i, mm, k, sd, pt, _, _, hi, ei, hset, hm22, hsys, hk, rfl, hsd, rfl, hpt, rfl, ere⟩, ⟨_, _, hI2⟩, hZ2⟩ d_Qo_end_87
      have tail1 : ∀ (sd : Nat), sd < 2 → xs = nI sd → ∀ (ls : Array Slot), lv_has ls 5 [(0, .ref h0), (1, .int xp), (2, .int (nI k)), (3, .int xs), (4, .int xt)] → W p l e ({ frames := 28, cells := 3, slots := 18, locals := 1530 }) s m [.ref h0, .int xp, .int (nI k), .int xs, .int xt].toArray below meth c H locs 2 12 Q9 (F0 m 49 ls []) := by
        intro sd hsd esd ls hl
        refine lv_iload hx hb d_Qo_end_49 (lv_at hl 4 rfl) ?_
        refine lv_if_eq (tgt := 76) hx hb d_Qo_end_51 (by decide) (fun c_51 => ?_) (fun c_51 => ?_)
        · skip
          exact tail2 sd 0 hsd esd (by omega) c_51 ls hl
        · skip
          refine lv_iload hx hb d_Qo_end_54 (lv_at hl 4 rfl) ?_
          refine lv_iconst (v := 1) hx hb d_Qo_end_56 (by decide) ?_
          refine lv_icmp_eq (tgt := 76) hx hb d_Qo_end_57 (by decide) (fun c_57 => ?_) (fun c_57 => ?_)
          · skip
            exact tail2 sd 1 hsd esd (by omega) c_57 ls hl
          · skip
            refine lv_iload hx hb d_Qo_end_60 (lv_at hl 4 rfl) ?_
            refine lv_iconst (v := 2) hx hb d_Qo_end_62 (by decide) ?_
            refine lv_icmp_eq (tgt := 76) hx hb d_Qo_end_63 (by decide) (fun c_63 => ?_) (fun c_63 => ?_)
            · skip
              exact tail2 sd 2 hsd esd (by omega) c_63 ls hl
            · skip
              rw [hQ9]
              exact hx_throw (is := 119) (text := "part is 0, 1 or 2") hx hb hl0 (by rw [hml]; exact hl.1.symm) hown hts hX xf_I tw_198 tw_10 (by decide) xt_44 xb_44 xg_44 hno hlocks hZ hW hS ⟨Or.inr ⟨i, mm, _, _, hi, ei, hset, hm22, hsys, Or.inr ⟨⟨k, hk, rfl⟩, (fun z9 => by obtain ⟨_, o, ho, eo⟩ := z9; rcases (show o = 0 ∨ o = 1 ∨ o = 2 by omega) with rfl | rfl | rfl; exact c_51 eo; exact c_57 eo; exact c_63 eo), rfl⟩⟩, ⟨_, _, hI2⟩, hZ2⟩ d_Qo_end_66 d_Qo_end_69 d_Qo_end_70 d_Qo_end_72 d_Qo_end_75 (by decide) (Nat.le_of_ble_eq_true rfl) (by decide) (by decide) (by decide) (by decide)
      refine lv_iload_n hx hb d_Qo_end_30 rfl (lv_at hl 3 rfl) ?_
      refine lv_if_eq (tgt := 49) hx hb d_Qo_end_31 (by decide) (fun c_31 => ?_) (fun c_31 => ?_)
      · skip
        rw [← hQ9]
        exact tail1 0 (by omega) c_31 ls hl
      · skip
        refine lv_iload_n hx hb d_Qo_end_34 rfl (lv_at hl 3 rfl) ?_
        refine lv_iconst (v := 1) hx hb d_Qo_end_35 (by decide) ?_
        refine lv_icmp_eq (tgt := 49) hx hb d_Qo_end_36 (by decide) (fun c_36 => ?_) (fun c_36 => ?_)
        · skip
          rw [← hQ9]
          exact tail1 1 (by omega) c_36 ls hl
        · skip
          exact hx_throw (is := 117) (text := "side is 0 or 1") hx hb hl0 (by rw [hml]; exact hl.1.symm) hown hts hX xf_I tw_198 tw_10 (by decide) xt_44 xb_44 xg_44 hno hlocks hZ hW hS ⟨Or.inr ⟨i, mm, _, _, hi, ei, hset, hm22, hsys, Or.inr ⟨⟨k, hk, rfl⟩, (fun z9 => by obtain ⟨⟨o, ho, eo⟩, _⟩ := z9; rcases (show o = 0 ∨ o = 1 by omega) with rfl | rfl; exact c_31 eo; exact c_36 eo), rfl⟩⟩, ⟨_, _, hI2⟩, hZ2⟩ d_Qo_end_39 d_Qo_end_42 d_Qo_end_43 d_Qo_end_45 d_Qo_end_48 (by decide) (Nat.le_of_ble_eq_true rfl) (by decide) (by decide) (by decide) (by decide)
    · skip
      exact hx_throw (is := 114) (text := "no such piece") hx hb hl0 (by rw [hml]; exact hl.1.symm) hown hts hX xf_O tw_284 tw_13 (by decide) xt_116 xb_116 xg_116 hno hlocks hZ hW hS ⟨Or.inr ⟨i, mm, _, _, hi, ei, hset, hm22, hsys, Or.inl ⟨(fun z9 => by obtain ⟨k9, hk9, ek9⟩ := z9; have := (nI_eq (by omega) (by omega)).mp ek9; exact c_17 ((nI_ltI (by omega) (by omega)).mpr (by omega))), rfl⟩⟩, ⟨_, _, hI2⟩, hZ2⟩ d_Qo_end_20 d_Qo_end_23 d_Qo_end_24 d_Qo_end_26 d_Qo_end_29 (by decide) (Nat.le_of_ble_eq_true rfl) (by decide) (by decide) (by decide) (by decide)
set_option maxHeartbeats 4000000 in
set_option maxRecDepth 100000 in
theorem c_Qo_alike (hl0 : l.stackTraces = false) (M : Nat → Option va_E) (sz n : Nat) (tb : Nat → Option nq) (ad : Nat → Nat) (qs : Nat → nq) (hI : qo_I cI cJ cN h0 na v va vb om oa ob im ia ib ro mk ka kb fa la Z M tb n ad qs) (xp xq : Int32) : vx_Met l y_Qo_alike (.code y_Qo_alike b_Qo_alike 5 (some .boolean) :: ww) ({ frames := 60, cells := 2, slots := 12, locals := 2600 }) (hx_Pc D qcl (qty cI cJ cZ cN) [.ref h0, .int xp, .int xq] M sz) (va_Qi (fun r M1 => qo_K cI cJ cN h0 na v va vb om oa ob im ia ib ro mk ka kb fa la Z M n qs (∃ i j : Nat, i < n ∧ j < n ∧ xp = nI i ∧ xq = nI j ∧ it_b r (∀ t, t < 25 → (gP (nP (qs i)) t ↔ gP (nP (qs j)) t))) M1) (hw_B D qcl (qty cI cJ cZ cN) M sz) (hw_A M sz)) (hx_X D qcl (qty cI cJ cZ cN) M sz (fun E M1 => qo_K cI cJ cN h0 na v va vb om oa ob im ia ib ro mk ka kb fa la Z M n qs (¬ ((∃ i, i < n ∧ xp = nI i) ∧ ∃ j, j < n ∧ xq = nI j) ∧ E = "java/lang/IndexOutOfBoundsException") M1)) 2 12 (hw_A M sz) := by
  obtain ⟨hC, i1, hT, hE, hD, hP, hD2, hla9, hz9, hL9, hN9⟩ := id hI
  obtain ⟨hC1, hC2, hn60⟩ := id hC
  refine hx_met (by decide) (Nat.le_of_ble_eq_true rfl) ?_
  intro p e s m below meth c hx hb hr hml hown hlocks hnm hts hsz hX hW hZ hno ls hl
  subst hsz
  have hA : ∀ q, s.heap.size ≤ q → hw_A M s.heap.size q := fun q h => Or.inr h
  have hS : va_S (hw_A M s.heap.size) s.heap s.heap [] := va_S.rf
  have hl : lv_has ls 5 [(0, .ref h0), (1, .int xp), (2, .int xq)] := hl
  have hown : s.vm.findClass "QuantifierOut" = some m.cls := hown
  refine lv_aload_n hx hb d_Qo_alike_0 rfl (lv_at hl 0 rfl) ?_
  refine lv_iload_n hx hb d_Qo_alike_1 rfl (lv_at hl 1 rfl) ?_
  refine hx_callq (hx_runV (n := 1) (own := "QuantifierOut") (As := [.int xp]) (rest := []) hx hb hml hown hts hX hW hl.1 hZ hS hA (c_Qo_nodeAt l D cI cJ cZ cN hl0 h0 na v ro n _ ad M hC xp) hC1 rfl tw_280 tw_282 ts_4 tw_1 tw_283 (by decide +kernel) rfl rfl ⟨by decide, by decide⟩ rfl rfl (Nat.le_of_ble_eq_true rfl) d_Qo_alike_2 ⟨by decide, by decide⟩) hW hS hA (fun E9 ce9 q9 M1 H locs hpn hW hS hq1 hq2 hq3 => ?_) (fun rp M1 H locs hpn hz hW hS => ?_)
  · exact hx_out hno hlocks hq1 hq2 hq3 hW hS (by rw [hpn.2.2]; exact ⟨⟨(fun z9 => by obtain ⟨⟨i, hi, ei⟩, _⟩ := z9; exact hpn.2.1 i hi ei), hpn.1⟩, ⟨_, _, hI⟩, fun _ _ => rfl⟩) (by decide) (by decide)
  obtain ⟨i, hi, ei, er, eMn⟩ := hpn
  rw [eMn] at hW
  subst er
  refine lv_astore_n (lv' := [(3, .ref (ad i)), (0, .ref h0), (1, .int xp), (2, .int xq)]) hx hb d_Qo_alike_5 rfl hl (by decide) rfl (fun ls hl => ?_)
  refine lv_aload_n hx hb d_Qo_alike_6 rfl (lv_at hl 1 rfl) ?_
  refine lv_iload_n hx hb d_Qo_alike_7 rfl (lv_at hl 3 rfl) ?_
  refine hx_callq (hx_runV (n := 1) (own := "QuantifierOut") (As := [.int xq]) (rest := []) hx hb hml hown hts hX hW hl.1 hZ hS hA (c_Qo_nodeAt l D cI cJ cZ cN hl0 h0 na v ro n _ ad M hC xq) hC1 rfl tw_280 tw_282 ts_4 tw_1 tw_283 (by decide +kernel) rfl rfl ⟨by decide, by decide⟩ rfl rfl (Nat.le_of_ble_eq_true rfl) d_Qo_alike_8 ⟨by decide, by decide⟩) hW hS hA (fun E9 ce9 q9 M2 H locs hpn hW hS hq1 hq2 hq3 => ?_) (fun rq M2 H locs hpn hz hW hS => ?_)
  · exact hx_out hno hlocks hq1 hq2 hq3 hW hS (by rw [hpn.2.2]; exact ⟨⟨(fun z9 => by obtain ⟨_, j, hj, ej⟩ := z9; exact hpn.2.1 j hj ej), hpn.1⟩, ⟨_, _, hI⟩, fun _ _ => rfl⟩) (by decide) (by decide)
  obtain ⟨j, hj, ej, er, eMn⟩ := hpn
  rw [eMn] at hW
  subst er
  obtain ⟨q1, hq1⟩ : ∃ q, q = qs i := ⟨_, rfl⟩
  have t1 : tb (ad i) = some q1 := by rw [hq1]; exact i1 i hi
  have e1 := hq1.symm
  obtain ⟨⟨l1, gr1, F1, n1, lc1, lf1, gg_i⟩, ok1⟩ := id (hT _ _ t1)
  obtain ⟨q2, hq2⟩ : ∃ q, q = qs j := ⟨_, rfl⟩
  have t2 : tb (ad j) = some q2 := by rw [hq2]; exact i1 j hj
  have e2 := hq2.symm
  obtain ⟨⟨l2, gr2, F2, n2, lc2, lf2, gg_j⟩, ok2⟩ := id (hT _ _ t2)
  have hrkq1 : nr q1 ≤ 15 := by have h8 := ok1.2.2.2.2.1; have h9 := ok1.2.2.1; have h7 := ok1.2.2.2.1; have : nk_neg (nK q1) ≤ 1 := by { unfold nk_neg; split <;> omega }; omega
  have hrkq2 : nr q2 ≤ 15 := by have h8 := ok2.2.2.2.2.1; have h9 := ok2.2.2.1; have h7 := ok2.2.2.2.1; have : nk_neg (nK q2) ≤ 1 := by { unfold nk_neg; split <;> omega }; omega
  obtain ⟨fv, gv, hE1⟩ := id hE
  refine lv_astore (lv' := [(4, .ref (ad j)), (3, .ref (ad i)), (0, .ref h0), (1, .int xp), (2, .int xq)]) hx hb d_Qo_alike_11 hl (by decide) rfl (fun ls hl => ?_)
  refine lv_aload_n hx hb d_Qo_alike_13 rfl (lv_at hl 1 rfl) ?_
  refine lv_aload_n hx hb d_Qo_alike_14 rfl (lv_at hl 2 rfl) ?_
  refine hw_get (own := "QuantifierOut") (v := .ref v) hx hb hts i_Qo hown hW hC1 rfl 1 (by decide) (hts _ tw_98) (fun _ h9 => h9) rfl d_Qo_alike_15 ?_
  refine hw_calli (nd_runF (n := 1) (own := "QuantifierOut") (As := [.ref v]) (rest := []) hx hb hml hown hts hX hW hl.1 (gd_all l D cI cJ cZ cN v va vb om oa ob im ia ib tb hD 15 (ad i) q1 t1 hrkq1 M _ _ _ hT hE1) n1 tw_571 tw_573 tw_574 tw_575 tw_576 tw_577 tw_572 tw_11 tw_578 (by decide +kernel) rfl rfl ⟨by decide, by decide⟩ rfl rfl (Nat.le_of_ble_eq_true rfl) d_Qo_alike_18 ⟨by decide, by decide⟩) hW hS hA (fun g1 M2 H locs hp1 hz hW hS => ?_)
  obtain ⟨o1, o2, o3, fv2, gv2, o4⟩ := hp1
  obtain ⟨hI2, hZ2⟩ := qo_look hI o2 o3 ⟨fv2, gv2, o4⟩
  have hC12 := hI2.1.1
  obtain ⟨⟨l4, gr4, F4, n4, _⟩, _⟩ := o3 _ _ t2
  refine lv_aload hx hb d_Qo_alike_21 (lv_at hl 0 rfl) ?_
  refine lv_aload_n hx hb d_Qo_alike_23 rfl (lv_at hl 2 rfl) ?_
  refine hw_get (own := "QuantifierOut") (v := .ref v) hx hb hts i_Qo hown hW hC12 rfl 1 (by decide) (hts _ tw_98) (fun _ h9 => h9) rfl d_Qo_alike_24 ?_
  refine hw_calli (nd_runF (n := 1) (own := "QuantifierOut") (As := [.ref v]) (rest := [.int g1]) hx hb hml hown hts hX hW hl.1 (gd_all l D cI cJ cZ cN v va vb om oa ob im ia ib tb hD 15 (ad j) q2 t2 hrkq2 M2 _ _ _ o3 o4) n4 tw_571 tw_573 tw_574 tw_575 tw_576 tw_577 tw_572 tw_11 tw_578 (by decide +kernel) rfl rfl ⟨by decide, by decide⟩ rfl rfl (Nat.le_of_ble_eq_true rfl) d_Qo_alike_27 ⟨by decide, by decide⟩) hW hS hA (fun g2 M3 H locs hp2 hz hW hS => ?_)
  obtain ⟨u1, u2, u3, fv3, gv3, u4⟩ := hp2
  obtain ⟨hI3, hZ3⟩ := qo_look hI2 u2 u3 ⟨fv3, gv3, u4⟩
  have hgeq := gd_eq o1 u1
  refine lv_icmp_ne (tgt := 37) hx hb d_Qo_alike_30 (by decide) (fun c_30 => ?_) (fun c_30 => ?_)
  · skip
    refine lv_iconst (v := 0) hx hb d_Qo_alike_37 (by decide) ?_
    refine vx_ret (W.widen (k := 2) (n := 12) (by decide) (by decide) ?_)
    exact hw_retz hx hb hr rfl hlocks hW hS ⟨⟨i, j, hi, hj, ei, ej, Or.inr ⟨rfl, by rw [e1, e2]; exact fun z9 => c_30 (hgeq.mpr z9)⟩⟩, ⟨_, _, hI3⟩, fun z z9 => (hZ3 z z9).trans (hZ2 z z9)⟩ d_Qo_alike_38
  · skip
    refine lv_iconst (v := 1) hx hb d_Qo_alike_33 (by decide) ?_
    refine lv_goto (tgt := 38) hx hb d_Qo_alike_34 (by decide) ?_
    refine vx_ret (W.widen (k := 2) (n := 12) (by decide) (by decide) ?_)
    exact hw_retz hx hb hr rfl hlocks hW hS ⟨⟨i, j, hi, hj, ei, ej, Or.inl ⟨rfl, by rw [e1, e2]; exact hgeq.mp c_30⟩⟩, ⟨_, _, hI3⟩, fun z z9 => (hZ3 z z9).trans (hZ2 z z9)⟩ d_Qo_alike_38
end G32

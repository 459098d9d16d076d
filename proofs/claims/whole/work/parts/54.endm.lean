/-! The reference: pieces, end -/
theorem md_R.J {cI cJ cZ : ClassId} {md kd on tw nu le fx fy si de ne it po ma ab be li fr to : Nat} {M1 : Nat → Option va_E} {n : Nat} {g : Nat → abn} {mm : Nat} {S : Rat → Prop} (h : md_R cI cJ cZ md kd on tw nu le fx fy si de ne it po ma ab be li fr to M1 n g mm S) : md_J cI cJ cZ md kd on tw nu le fx fy si de ne it po ma ab be li fr to M1 (nI 0) n g := by
  obtain ⟨u2, d2, NE2, IT2, PO2, MA2, AB2, BE2, st, mt, LI2, FR2, TO2, n1, fs, lS, h1, h2, h3, h4, h5, _⟩ := h
  exact ⟨u2, d2, nI mm, NE2, IT2, PO2, MA2, AB2, BE2, st, mt, h1, h2, h3, ⟨LI2, FR2, TO2, h4⟩, h5⟩
theorem md_J.cd {cI cJ cZ : ClassId} {md kd on tw nu le fx fy si de ne it po ma ab be li fr to : Nat} {M M1 : Nat → Option va_E} {cd cd2 : Int32} {n : Nat} {g : Nat → abn} {u2 d2 : Int64} {pz : Int32} (hD : md_D md kd on tw nu le fx fy si de ne it po ma ab be li fr to) (h : md_J cI cJ cZ md kd on tw nu le fx fy si de ne it po ma ab be li fr to M cd n g) (h0 : M md = some (.inr (8, [.int cd, .int (nI n), .ref kd, .ref on, .ref tw, .ref nu, .ref le, .ref fx, .ref fy, .ref si, .ref de, .ref ne, .ref it, .ref po, .ref ma, .ref ab, .ref be, .long u2, .long d2, .ref li, .int pz, .ref fr, .ref to]))) (h1 : M1 = va_up M md (some (.inr (8, [.int cd2, .int (nI n), .ref kd, .ref on, .ref tw, .ref nu, .ref le, .ref fx, .ref fy, .ref si, .ref de, .ref ne, .ref it, .ref po, .ref ma, .ref ab, .ref be, .long u2, .long d2, .ref li, .int pz, .ref fr, .ref to])))) : md_J cI cJ cZ md kd on tw nu le fx fy si de ne it po ma ab be li fr to M1 cd2 n g ∧ md_F md kd on tw nu le fx fy si de ne it po ma ab be li fr to M M1 := by
  obtain ⟨up, dn, pz', NE, IT, PO, MA, AB, BE, st, mt, hK, hT, hM, hL, hg⟩ := h
  have e := Option.some.inj (hK.1.symm.trans h0)
  simp only [Sum.inr.injEq, Prod.mk.injEq, List.cons.injEq, Value.long.injEq, Value.int.injEq, true_and, and_true] at e
  obtain ⟨e1, e2, e3⟩ := e
  subst e1 e2 e3
  have hf : ∀ x9, x9 ≠ md → M1 x9 = M x9 := fun x9 z9 => by rw [h1, va_up_ne _ _ z9]
  have hf2 : ∀ x9, x9 ≠ md → x9 ≠ ne → x9 ≠ it → x9 ≠ po → x9 ≠ ma → x9 ≠ ab → x9 ≠ be → M1 x9 = M x9 := fun x9 z0 z1 z2 z3 z4 z5 z6 => hf x9 z0
  exact ⟨⟨up, dn, pz', NE, IT, PO, MA, AB, BE, st, mt, md_W.cd hD hK (by rw [h1]; exact va_up_self _ _ _) hf, md_T.kept hD hT hf2, hM, md_L.kept hD hL hf2, hg⟩, md_F.of hf2⟩
def md_E (cI cJ cZ : ClassId) (md kd on tw nu le fx fy si de ne it po ma ab be li fr to : Nat) (n : Nat) (g : Nat → abn) (x1 k1 s1 t1 : Int32) (M : Nat → Option va_E) (r : Int64) (M1 : Nat → Option va_E) : Prop := ((cSet n g x1 ≠ 0 ∧ md_J cI cJ cZ md kd on tw nu le fx fy si de ne it po ma ab be li fr to M1 (nI (cSet n g x1)) n g) ∨ (cSet n g x1 = 0 ∧ ∃ (mm : Nat) (Lf Rt : Nat → Option (Rat × Bool)), qp_sys (aSet (g (ix x1))) mm Lf Rt ∧ md_J cI cJ cZ md kd on tw nu le fx fy si de ne it po ma ab be li fr to M1 (nI (cEnd mm k1 s1 t1)) n g ∧ (cEnd mm k1 s1 t1 = 0 → r.toInt = pe_v (if ix s1 = 0 then Lf (ix k1) else Rt (ix k1)) (ix t1)))) ∧ md_F md kd on tw nu le fx fy si de ne it po ma ab be li fr to M M1
section G54
variable (l : Launch) (D : va_G) (cI cJ cZ cN : ClassId) (md kd on tw nu le fx fy si de ne it po ma ab be li fr to : Nat)
set_option maxHeartbeats 4000000 in
set_option maxRecDepth 100000 in
theorem c_Md_pieces (cd : Int32) (n : Nat) (g : Nat → abn) (sz : Nat) (M : Nat → Option va_E) (hD : md_D md kd on tw nu le fx fy si de ne it po ma ab be li fr to) (hJ : md_J cI cJ cZ md kd on tw nu le fx fy si de ne it po ma ab be li fr to M cd n g) (pp : Int32) : Met l y_Md_pieces (.code y_Md_pieces b_Md_pieces 2 (some .int) :: ww) ({ frames := 9, cells := 0, slots := 0, locals := 300 }) (hw_Pc D qcl (qty cI cJ cZ cN) [.ref md, .int pp] M sz) (va_Qi (fun r M1 => md_A cI cJ cZ md kd on tw nu le fx fy si de ne it po ma ab be li fr to n g (cSet n g pp) (∃ (mm : Nat) (Lf Rt : Nat → Option (Rat × Bool)), r = nI mm ∧ qp_sys (aSet (g (ix pp))) mm Lf Rt) M M1) (hw_B D qcl (qty cI cJ cZ cN) M sz) (hw_A M sz)) 0 0 (hw_A M sz) := by
  obtain ⟨up9, dn9, pz9, _, _, _, _, _, _, _, _, hK9, _⟩ := id hJ
  refine hw_met (by decide) (Nat.le_of_ble_eq_true rfl) ?_
  intro p e s m below meth c hx hb hr hml hown hlocks hnm hts hsz hX hW ls hl
  subst hsz
  have hA : ∀ q, s.heap.size ≤ q → hw_A M s.heap.size q := fun q h => Or.inr h
  have hS : va_S (hw_A M s.heap.size) s.heap s.heap [] := va_S.rf
  have hl : lv_has ls 2 [(0, .ref md), (1, .int pp)] := hl
  have hown : s.vm.findClass "QuantifierOutModel" = some m.cls := hown
  obtain ⟨Q9, hQ9⟩ : ∃ X : State → Prop, X = MQ below (va_Qi (fun r M1 => md_A cI cJ cZ md kd on tw nu le fx fy si de ne it po ma ab be li fr to n g (cSet n g pp) (∃ (mm : Nat) (Lf Rt : Nat → Option (Rat × Bool)), r = nI mm ∧ qp_sys (aSet (g (ix pp))) mm Lf Rt) M M1) (hw_B D qcl (qty cI cJ cZ cN) M s.heap.size) (hw_A M s.heap.size)) [.ref md, .int pp].toArray s 0 0 (hw_A M s.heap.size) := ⟨_, rfl⟩
  rw [← hQ9]
  refine lv_aload_n hx hb d_Md_pieces_0 rfl (lv_at hl 0 rfl) ?_
  refine lv_iload_n hx hb d_Md_pieces_1 rfl (lv_at hl 1 rfl) ?_
  refine hw_calli (hw_runV (n := 1) (own := "QuantifierOutModel") (As := [.int pp]) (rest := []) hx hb hml hown hts hX hW hl.1 (c_Md_find l D cI cJ cZ cN md kd on tw nu le fx fy si de ne it po ma ab be li fr to cd n g _ M hD hJ pp) hK9.1 rfl tw_815 tw_817 ts_31 tw_5 tw_818 (by decide +kernel) rfl rfl ⟨by decide, by decide⟩ rfl rfl (Nat.le_of_ble_eq_true rfl) d_Md_pieces_2 ⟨by decide, by decide⟩) hW hS hA (fun rf Mf H locs hpf hz hW hS => ?_)
  obtain ⟨hcase, hF⟩ := hpf
  refine lv_if_eq (tgt := 15) hx hb d_Md_pieces_5 (by decide) (fun c_5 => ?_) (fun c_5 => ?_)
  · skip
    rcases hcase with ⟨a1, a2, a3⟩ | ⟨a1, a2, a3⟩
    · skip
      refine lv_iconst (v := 0) hx hb d_Md_pieces_15 (by decide) ?_
      rw [hQ9]
      exact hw_reti hx hb hr hlocks hW hS ⟨fun z9 => absurd z9 a1, a3, hF⟩ d_Md_pieces_16
    · exact absurd (a2.symm.trans c_5) (by decide)
  · skip
    rcases hcase with ⟨a1, a2, a3⟩ | ⟨a1, a2, mm, hR⟩
    · exact absurd a2 c_5
    · skip
      obtain ⟨u2, d2, NE2, IT2, PO2, MA2, AB2, BE2, st2, mt2, LI2, FR2, TO2, n1, fs, lS, hK2, hT2, hM2, ⟨hli2, hfr2, hto2⟩, hg2, hn27, hma2, hrow, hm28, hbd, hsys⟩ := id hR
      have w2_md := hK2.1
      have w2_md : Mf md = some (.inr (8, [.int (nI 0), .int (nI n), .ref kd, .ref on, .ref tw, .ref nu, .ref le, .ref fx, .ref fy, .ref si, .ref de, .ref ne, .ref it, .ref po, .ref ma, .ref ab, .ref be, .long u2, .long d2, .ref li, .int (nI mm), .ref fr, .ref to])) := w2_md
      refine lv_aload_n hx hb d_Md_pieces_8 rfl (lv_at hl 0 rfl) ?_
      refine hw_get (own := "QuantifierOutModel") (v := .int (nI mm)) hx hb hts i_Md hown hW w2_md rfl 20 (by decide) (hts _ tw_623) (fun _ h9 => h9) rfl d_Md_pieces_9 ?_
      refine lv_goto (tgt := 16) hx hb d_Md_pieces_12 (by decide) ?_
      rw [hQ9]
      exact hw_reti hx hb hr hlocks hW hS ⟨fun _ => ⟨mm, _, _, rfl, hsys⟩, by rw [a1]; exact md_R.J hR, hF⟩ d_Md_pieces_16
set_option maxHeartbeats 4000000 in
set_option maxRecDepth 100000 in
theorem c_Md_end (cd : Int32) (n : Nat) (g : Nat → abn) (sz : Nat) (M : Nat → Option va_E) (hD : md_D md kd on tw nu le fx fy si de ne it po ma ab be li fr to) (hJ : md_J cI cJ cZ md kd on tw nu le fx fy si de ne it po ma ab be li fr to M cd n g) (pp k1 s1 t1 : Int32) : Met l y_Md_end (.code y_Md_end b_Md_end 8 (some .long) :: ww) ({ frames := 9, cells := 0, slots := 0, locals := 300 }) (hw_Pc D qcl (qty cI cJ cZ cN) [.ref md, .int pp, .int k1, .int s1, .int t1] M sz) (va_Ql (fun r M1 => md_E cI cJ cZ md kd on tw nu le fx fy si de ne it po ma ab be li fr to n g pp k1 s1 t1 M r M1) (hw_B D qcl (qty cI cJ cZ cN) M sz) (hw_A M sz)) 0 0 (hw_A M sz) := by
  obtain ⟨up9, dn9, pz9, _, _, _, _, _, _, _, _, hK9, _⟩ := id hJ
  refine hw_met (by decide) (Nat.le_of_ble_eq_true rfl) ?_
  intro p e s m below meth c hx hb hr hml hown hlocks hnm hts hsz hX hW ls hl
  subst hsz
  have hA : ∀ q, s.heap.size ≤ q → hw_A M s.heap.size q := fun q h => Or.inr h
  have hS : va_S (hw_A M s.heap.size) s.heap s.heap [] := va_S.rf
  have hl : lv_has ls 8 [(0, .ref md), (1, .int pp), (2, .int k1), (3, .int s1), (4, .int t1)] := hl
  have hown : s.vm.findClass "QuantifierOutModel" = some m.cls := hown
  obtain ⟨Q9, hQ9⟩ : ∃ X : State → Prop, X = MQ below (va_Ql (fun r M1 => md_E cI cJ cZ md kd on tw nu le fx fy si de ne it po ma ab be li fr to n g pp k1 s1 t1 M r M1) (hw_B D qcl (qty cI cJ cZ cN) M s.heap.size) (hw_A M s.heap.size)) [.ref md, .int pp, .int k1, .int s1, .int t1].toArray s 0 0 (hw_A M s.heap.size) := ⟨_, rfl⟩
  rw [← hQ9]
  refine lv_aload_n hx hb d_Md_end_0 rfl (lv_at hl 0 rfl) ?_
  refine lv_iload_n hx hb d_Md_end_1 rfl (lv_at hl 1 rfl) ?_
  refine hw_calli (hw_runV (n := 1) (own := "QuantifierOutModel") (As := [.int pp]) (rest := []) hx hb hml hown hts hX hW hl.1 (c_Md_find l D cI cJ cZ cN md kd on tw nu le fx fy si de ne it po ma ab be li fr to cd n g _ M hD hJ pp) hK9.1 rfl tw_815 tw_817 ts_31 tw_5 tw_818 (by decide +kernel) rfl rfl ⟨by decide, by decide⟩ rfl rfl (Nat.le_of_ble_eq_true rfl) d_Md_end_2 ⟨by decide, by decide⟩) hW hS hA (fun rf Mf H locs hpf hz hW hS => ?_)
  obtain ⟨hcase, hF⟩ := hpf
  refine lv_if_ne (tgt := 10) hx hb d_Md_end_5 (by decide) (fun c_5 => ?_) (fun c_5 => ?_)
  · skip
    rcases hcase with ⟨a1, a2, a3⟩ | ⟨a1, a2, mm, hR⟩
    · exact absurd a2 c_5
    · skip
      obtain ⟨u2, d2, NE2, IT2, PO2, MA2, AB2, BE2, st2, mt2, LI2, FR2, TO2, n1, fs, lS, hK2, hT2, hM2, ⟨hli2, hfr2, hto2⟩, hg2, hn27, hma2, hrow, hm28, hbd, hsys⟩ := id hR
      have w2_md := hK2.1
      have w2_md : Mf md = some (.inr (8, [.int (nI 0), .int (nI n), .ref kd, .ref on, .ref tw, .ref nu, .ref le, .ref fx, .ref fy, .ref si, .ref de, .ref ne, .ref it, .ref po, .ref ma, .ref ab, .ref be, .long u2, .long d2, .ref li, .int (nI mm), .ref fr, .ref to])) := w2_md
      have w2_ma := hK2.2.2.2.2.1
      have w2_ma : Mf ma = some (.inl (cI, 3, .inl MA2)) := w2_ma
      have w2_ab := hK2.2.2.2.2.2.1
      have w2_ab : Mf ab = some (.inl (cJ, 192, .inr (.inl AB2))) := w2_ab
      have w2_be := hK2.2.2.2.2.2.2
      have w2_be : Mf be = some (.inl (cJ, 192, .inr (.inl BE2))) := w2_be
      refine lv_iload_n hx hb d_Md_end_10 rfl (lv_at hl 2 rfl) ?_
      obtain ⟨x1, ex1⟩ : ∃ y9 : Int64, y9 = (k1 : Int32).toInt64 := ⟨_, rfl⟩
      refine lv_i2l (v := x1) hx hb d_Md_end_11 ex1.symm ?_
      refine lv_lconst (v := 0) hx hb d_Md_end_12 (by decide) ?_
      refine lv_aload_n hx hb d_Md_end_13 rfl (lv_at hl 0 rfl) ?_
      refine hw_get (own := "QuantifierOutModel") (v := .int (nI mm)) hx hb hts i_Md hown hW w2_md rfl 20 (by decide) (hts _ tw_623) (fun _ h9 => h9) rfl d_Md_end_14 ?_
      refine lv_iconst (v := 1) hx hb d_Md_end_17 (by decide) ?_
      refine lv_isub hx hb d_Md_end_18 ?_
      refine lv_topi (fun x2 ex2 => ?_)
      obtain ⟨x3, ex3⟩ : ∃ y9 : Int64, y9 = (x2 : Int32).toInt64 := ⟨_, rfl⟩
      refine lv_i2l (v := x3) hx hb d_Md_end_19 ex3.symm ?_
      refine hw_calli (hw_runS (n := 3) (own := "QuantifierOutModel") (As := [.long x1, .long 0, .long x3]) (rest := []) hx hb hml hown hts hX hW hl.1 (c_Md_in l D cI cJ cZ cN x1 0 x3 _ Mf) tw_684 tw_685 tw_5 tw_686 (by decide +kernel) rfl rfl ⟨by decide, by decide⟩ rfl rfl (Nat.le_of_ble_eq_true rfl) d_Md_end_20 ⟨by decide, by decide⟩) hW hS hA (fun rk Mi9 H locs hpi hz hW hS => ?_)
      obtain ⟨hb_rk, eMi9⟩ := hpi
      rw [eMi9] at hW
      have tX3 : x3.toInt = (mm : Int) - 1 := by rw [ex3, nm_i2l, ex2, nm_isub (by rw [nI_toInt (by omega)]; have : (1 : Int32).toInt = 1 := rfl; omega), nI_toInt (by omega)]; rfl
      have gk : it_b rk (0 ≤ k1.toInt ∧ k1.toInt < (mm : Int)) := it_c hb_rk (by rw [tX3, ex1, nm_i2l, show (0 : Int64).toInt = 0 from rfl]; omega)
      refine lv_if_ne (tgt := 33) hx hb d_Md_end_23 (by decide) (fun c_23 => ?_) (fun c_23 => ?_)
      · skip
        have hk9 := it_b1 gk c_23
        obtain ⟨hkm, ek⟩ := ix_of (n := mm) (by omega) (p := k1) hk9
        refine lv_iload_n hx hb d_Md_end_33 rfl (lv_at hl 3 rfl) ?_
        obtain ⟨x4, ex4⟩ : ∃ y9 : Int64, y9 = (s1 : Int32).toInt64 := ⟨_, rfl⟩
        refine lv_i2l (v := x4) hx hb d_Md_end_34 ex4.symm ?_
        refine lv_lconst (v := 0) hx hb d_Md_end_35 (by decide) ?_
        refine lv_lconst (v := 1) hx hb d_Md_end_36 (by decide) ?_
        refine hw_calli (hw_runS (n := 3) (own := "QuantifierOutModel") (As := [.long x4, .long 0, .long 1]) (rest := []) hx hb hml hown hts hX hW hl.1 (c_Md_in l D cI cJ cZ cN x4 0 1 _ Mf) tw_684 tw_685 tw_5 tw_686 (by decide +kernel) rfl rfl ⟨by decide, by decide⟩ rfl rfl (Nat.le_of_ble_eq_true rfl) d_Md_end_37 ⟨by decide, by decide⟩) hW hS hA (fun rs Mi9 H locs hpi hz hW hS => ?_)
        obtain ⟨hb_rs, eMi9⟩ := hpi
        rw [eMi9] at hW
        have gs : it_b rs (0 ≤ s1.toInt ∧ s1.toInt ≤ 1) := it_c hb_rs (by rw [ex4, nm_i2l, show (0 : Int64).toInt = 0 from rfl, show (1 : Int64).toInt = 1 from rfl])
        refine lv_if_eq (tgt := 56) hx hb d_Md_end_40 (by decide) (fun c_40 => ?_) (fun c_40 => ?_)
        · skip
          have hce : cEnd mm k1 s1 t1 = 3 := by unfold cEnd; rw [if_neg (fun z => z hk9), if_pos (fun z => it_b0 gs c_40 z.1)]
          refine lv_aload_n hx hb d_Md_end_56 rfl (lv_at hl 0 rfl) ?_
          refine lv_iconst (v := 3) hx hb d_Md_end_57 (by decide) ?_
          refine hw_calli (hw_runV (n := 1) (own := "QuantifierOutModel") (As := [.int 3]) (rest := []) hx hb hml hown hts hX hW hl.1 (c_Md_raise l D cI cJ cZ cN md kd on tw nu le fx fy si de ne it po ma ab be li fr to (nI 0) n u2 d2 (nI mm) _ Mf hK2.1 3) hK2.1 rfl tw_823 tw_825 ts_32 tw_5 tw_826 (by decide +kernel) rfl rfl ⟨by decide, by decide⟩ rfl rfl (Nat.le_of_ble_eq_true rfl) d_Md_end_58 ⟨by decide, by decide⟩) hW hS hA (fun rr Mr H locs hpr hz hW hS => ?_)
          obtain ⟨err, eMr⟩ := hpr
          obtain ⟨hJr, hFr⟩ := md_J.cd hD (md_R.J hR) hK2.1 eMr
          obtain ⟨x5, ex5⟩ : ∃ y9 : Int64, y9 = (rr : Int32).toInt64 := ⟨_, rfl⟩
          refine lv_i2l (v := x5) hx hb d_Md_end_61 ex5.symm ?_
          rw [hQ9]
          exact hw_retl hx hb hr hlocks hW hS ⟨Or.inr ⟨a1, mm, _, _, hsys, by rw [hce]; exact hJr, fun z9 => by rw [hce] at z9; cases z9⟩, md_F.tr hF hFr⟩ d_Md_end_62
        · skip
          have hs9 := it_b1 gs c_40
          refine lv_iload hx hb d_Md_end_43 (lv_at hl 4 rfl) ?_
          obtain ⟨x6, ex6⟩ : ∃ y9 : Int64, y9 = (t1 : Int32).toInt64 := ⟨_, rfl⟩
          refine lv_i2l (v := x6) hx hb d_Md_end_45 ex6.symm ?_
          refine lv_lconst (v := 0) hx hb d_Md_end_46 (by decide) ?_
          refine lv_ldc2 (own := "QuantifierOutModel") (v := 2) hx hb hown (hts _ tw_687) d_Md_end_47 ?_
          refine hw_calli (hw_runS (n := 3) (own := "QuantifierOutModel") (As := [.long x6, .long 0, .long 2]) (rest := []) hx hb hml hown hts hX hW hl.1 (c_Md_in l D cI cJ cZ cN x6 0 2 _ Mf) tw_684 tw_685 tw_5 tw_686 (by decide +kernel) rfl rfl ⟨by decide, by decide⟩ rfl rfl (Nat.le_of_ble_eq_true rfl) d_Md_end_50 ⟨by decide, by decide⟩) hW hS hA (fun rt Mi9 H locs hpi hz hW hS => ?_)
          obtain ⟨hb_rt, eMi9⟩ := hpi
          rw [eMi9] at hW
          have gt : it_b rt (0 ≤ t1.toInt ∧ t1.toInt ≤ 2) := it_c hb_rt (by rw [ex6, nm_i2l, show (0 : Int64).toInt = 0 from rfl, show (2 : Int64).toInt = 2 from rfl])
          refine lv_if_ne (tgt := 63) hx hb d_Md_end_53 (by decide) (fun c_53 => ?_) (fun c_53 => ?_)
          · skip
            have ht9 := it_b1 gt c_53
            have hce : cEnd mm k1 s1 t1 = 0 := by unfold cEnd; rw [if_neg (fun z => z hk9), if_neg (fun z => z ⟨hs9, ht9⟩)]
            obtain ⟨hs2, es⟩ := ix_of (n := 2) (by decide) (p := s1) ⟨hs9.1, by omega⟩
            obtain ⟨ht3, et⟩ := ix_of (n := 3) (by decide) (p := t1) ⟨ht9.1, by omega⟩
            obtain ⟨kN, hkN⟩ : ∃ k, k = ix k1 := ⟨_, rfl⟩
            rw [← hkN] at hkm ek
            obtain ⟨bf, bt9, bf2, bt2⟩ := hbd kN hkm
            obtain ⟨MV, hMV⟩ : ∃ f : Nat → Rat, f = mk_v (kf (64 * 2) AB2) (kf (64 * 2) BE2) := ⟨_, rfl⟩
            have hfin : ∀ (r : Int64), r.toInt = pe_v (if ix s1 = 0 then qi_L MV (fs kN) else qi_R MV n1 (lS kN)) (ix t1) → md_E cI cJ cZ md kd on tw nu le fx fy si de ne it po ma ab be li fr to n g pp k1 s1 t1 M r Mf := fun r hr9 => ⟨Or.inr ⟨a1, mm, _, _, hsys, by rw [hce]; exact md_R.J hR, fun _ => by show r.toInt = pe_v (if ix s1 = 0 then qi_L (mk_v (kf (64 * 2) AB2) (kf (64 * 2) BE2)) (fs (ix k1)) else qi_R (mk_v (kf (64 * 2) AB2) (kf (64 * 2) BE2)) n1 (lS (ix k1))) (ix t1); rw [← hMV, ← hkN]; exact hr9⟩, hF⟩
            refine lv_iload_n hx hb d_Md_end_63 rfl (lv_at hl 3 rfl) ?_
            refine lv_if_ne (tgt := 76) hx hb d_Md_end_64 (by decide) (fun c_64 => ?_) (fun c_64 => ?_)
            · skip
              have hs0 : ¬ ix s1 = 0 := fun z => c_64 (by rw [es, z]; rfl)
              obtain ⟨vv, hvv⟩ : ∃ v, v = lS kN := ⟨_, rfl⟩
              rw [← hvv] at bt9 bt2
              have hfin : ∀ (r : Int64), r.toInt = pe_v (qi_R MV n1 vv) (ix t1) → md_E cI cJ cZ md kd on tw nu le fx fy si de ne it po ma ab be li fr to n g pp k1 s1 t1 M r Mf := fun r hr9 => hfin r (by rw [if_neg hs0, ← hvv]; exact hr9)
              refine lv_aload_n hx hb d_Md_end_76 rfl (lv_at hl 0 rfl) ?_
              refine hw_get (own := "QuantifierOutModel") (v := .ref to) hx hb hts i_Md hown hW w2_md rfl 22 (by decide) (hts _ tw_625) (fun _ h9 => h9) rfl d_Md_end_77 ?_
              refine lv_iload_n hx hb d_Md_end_80 rfl (lv_at hl 2 rfl) ?_
              refine hw_ild hx hb hW 0 hto2 rfl kN ek (by omega) (by decide) d_Md_end_81 ?_
              rw [bt9]
              refine lv_istore (lv' := [(5, .int (nI vv)), (0, .ref md), (1, .int pp), (2, .int k1), (3, .int s1), (4, .int t1)]) hx hb d_Md_end_82 hl (by decide) rfl (fun ls hl => ?_)
              refine lv_iload hx hb d_Md_end_84 (lv_at hl 0 rfl) ?_
              refine lv_iconst (v := 2) hx hb d_Md_end_86 (by decide) ?_
              refine lv_irem hx hb d_Md_end_87 (by decide) ?_
              refine lv_topi (fun x7 ex7 => ?_)
              have em : x7 = nI (vv % 2) := by rw [ex7]; exact pk_rem (d := 2) (by omega) (by omega) (by omega)
              rw [em]
              refine lv_if_ne (tgt := 95) hx hb d_Md_end_88 (by decide) (fun c_88 => ?_) (fun c_88 => ?_)
              · skip
                have hop : vv % 2 = 1 := by have : ¬ vv % 2 = 0 := fun z => c_88 (by rw [z]; rfl); omega
                refine lv_iconst (v := 0) hx hb d_Md_end_95 (by decide) ?_
                refine lv_istore (lv' := [(6, .int 0), (5, .int (nI vv)), (0, .ref md), (1, .int pp), (2, .int k1), (3, .int s1), (4, .int t1)]) hx hb d_Md_end_96 hl (by decide) rfl (fun ls hl => ?_)
                refine lv_iload hx hb d_Md_end_98 (lv_at hl 1 rfl) ?_
                refine lv_iload_n hx hb d_Md_end_100 rfl (lv_at hl 5 rfl) ?_
                refine lv_if_ne (tgt := 108) hx hb d_Md_end_101 (by decide) (fun c_101 => ?_) (fun c_101 => ?_)
                · skip
                  refine lv_iconst (v := 2) hx hb d_Md_end_108 (by decide) ?_
                  refine lv_aload_n hx hb d_Md_end_109 rfl (lv_at hl 2 rfl) ?_
                  refine hw_get (own := "QuantifierOutModel") (v := .ref ma) hx hb hts i_Md hown hW w2_md rfl 14 (by decide) (hts _ tw_617) (fun _ h9 => h9) rfl d_Md_end_110 ?_
                  refine lv_iconst (v := 2) hx hb d_Md_end_113 (by decide) ?_
                  refine hw_ild hx hb hW 0 w2_ma rfl 2 rfl (by decide) (by decide) d_Md_end_114 ?_
                  rw [hma2]
                  refine lv_imul hx hb d_Md_end_115 ?_
                  refine lv_topi (fun x8 ex8 => ?_)
                  have e2 : x8 = nI (2 * n1) := by rw [ex8]; exact pk_mul 2 n1
                  rw [e2]
                  refine lv_icmp_ne (tgt := 131) hx hb d_Md_end_116 (by decide) (fun c_116 => ?_) (fun c_116 => ?_)
                  · skip
                    have hv : ¬ vv = 2 * n1 := fun z => c_116 (by rw [z])
                    have hq9 : qi_R MV n1 vv = some (MV (vv / 2), true) := by unfold qi_R; rw [if_neg hv, if_pos hop]
                    obtain ⟨cx, hcx⟩ : ∃ c, c = vv / 2 := ⟨_, rfl⟩
                    rw [← hcx] at hq9
                    have hcn : cx < n1 := by omega
                    obtain ⟨w1, w2, w3, w4, w5⟩ := hrow.1 cx hcn
                    rw [← hMV] at w4 w5
                    refine lv_iload hx hb d_Md_end_131 (lv_at hl 6 rfl) ?_
                    refine lv_if_ne (tgt := 149) hx hb d_Md_end_133 (by decide) (fun c_133 => ?_) (fun c_133 => ?_)
                    · skip
                      have ht0 : ¬ ix t1 = 0 := fun z => c_133 (by rw [et, z]; rfl)
                      refine lv_sipush (v := 128) hx hb d_Md_end_149 (by decide) ?_
                      refine lv_iload hx hb d_Md_end_152 (lv_at hl 0 rfl) ?_
                      refine lv_if_eq (tgt := 170) hx hb d_Md_end_154 (by decide) (fun c_154 => ?_) (fun c_154 => ?_)
                      · skip
                        refine lv_iload hx hb d_Md_end_170 (lv_at hl 1 rfl) ?_
                        refine lv_iconst (v := 2) hx hb d_Md_end_172 (by decide) ?_
                        refine lv_idiv hx hb d_Md_end_173 (by decide) ?_
                        refine lv_topi (fun x9 ex9 => ?_)
                        have ed : x9 = nI (vv / 2) := by rw [ex9]; exact pk_div (d := 2) (by omega) (by omega) (by omega)
                        have ecx : x9 = nI cx := by rw [ed, hcx]
                        refine lv_iadd hx hb d_Md_end_174 ?_
                        refine lv_topi (fun x10 ex10 => ?_)
                        have ei : x10 = nI (64 * 2 + cx) := by rw [ex10, ecx]; exact nI_add 128 cx
                        rw [ei]
                        refine lv_istore (lv' := [(7, .int (nI (64 * 2 + cx))), (6, .int 0), (5, .int (nI vv)), (0, .ref md), (1, .int pp), (2, .int k1), (3, .int s1), (4, .int t1)]) hx hb d_Md_end_175 hl (by decide) rfl (fun ls hl => ?_)
                        refine lv_iload hx hb d_Md_end_177 (lv_at hl 7 rfl) ?_
                        refine lv_iconst (v := 1) hx hb d_Md_end_179 (by decide) ?_
                        refine lv_icmp_ne (tgt := 193) hx hb d_Md_end_180 (by decide) (fun c_180 => ?_) (fun c_180 => ?_)
                        · skip
                          refine lv_aload_n hx hb d_Md_end_193 rfl (lv_at hl 3 rfl) ?_
                          refine hw_get (own := "QuantifierOutModel") (v := .ref be) hx hb hts i_Md hown hW w2_md rfl 16 (by decide) (hts _ tw_619) (fun _ h9 => h9) rfl d_Md_end_194 ?_
                          refine lv_iload hx hb d_Md_end_197 (lv_at hl 0 rfl) ?_
                          refine hw_lld hx hb hW 1 w2_be rfl (64 * 2 + cx) rfl (by omega) (by decide) d_Md_end_199 ?_
                          rw [hQ9]
                          exact hw_retl hx hb hr hlocks hW hS (hfin _ (by rw [hq9]; unfold pe_v; show _ = if ix t1 = 0 then _ else if ix t1 = 1 then (MV cx).num else ((MV cx).den : Int); rw [if_neg ht0, if_neg (fun z => c_180 (by rw [et, z]; rfl))]; exact w5)) d_Md_end_200
                        · skip
                          refine lv_aload_n hx hb d_Md_end_183 rfl (lv_at hl 3 rfl) ?_
                          refine hw_get (own := "QuantifierOutModel") (v := .ref ab) hx hb hts i_Md hown hW w2_md rfl 15 (by decide) (hts _ tw_618) (fun _ h9 => h9) rfl d_Md_end_184 ?_
                          refine lv_iload hx hb d_Md_end_187 (lv_at hl 0 rfl) ?_
                          refine hw_lld hx hb hW 1 w2_ab rfl (64 * 2 + cx) rfl (by omega) (by decide) d_Md_end_189 ?_
                          refine lv_goto (tgt := 200) hx hb d_Md_end_190 (by decide) ?_
                          rw [hQ9]
                          exact hw_retl hx hb hr hlocks hW hS (hfin _ (by rw [hq9]; unfold pe_v; show _ = if ix t1 = 0 then _ else if ix t1 = 1 then (MV cx).num else _; rw [if_neg ht0, if_pos (by rw [c_180]; rfl)]; exact w4)) d_Md_end_200
                      · skip
                        exact absurd rfl c_154
                    · skip
                      have ht0 : ix t1 = 0 := by rw [c_133]; rfl
                      refine lv_iload hx hb d_Md_end_136 (lv_at hl 0 rfl) ?_
                      refine lv_if_eq (tgt := 145) hx hb d_Md_end_138 (by decide) (fun c_138 => ?_) (fun c_138 => ?_)
                      · skip
                        refine lv_ldc2 (own := "QuantifierOutModel") (v := 2) hx hb hown (hts _ tw_687) d_Md_end_145 ?_
                        rw [hQ9]
                        exact hw_retl hx hb hr hlocks hW hS (hfin _ (by rw [hq9]; unfold pe_v; show _ = if ix t1 = 0 then (if true = true then (2 : Int) else 1) else if ix t1 = 1 then (MV cx).num else ((MV cx).den : Int); rw [if_pos ht0]; rfl)) d_Md_end_148
                      · skip
                        exact absurd rfl c_138
                  · skip
                    have hv : vv = 2 * n1 := (nI_eq (b := 2 * n1) (by omega) (by omega)).mp c_116
                    have hq9 : qi_R MV n1 vv = none := by unfold qi_R; rw [if_pos hv]
                    refine lv_iload hx hb d_Md_end_119 (lv_at hl 6 rfl) ?_
                    refine lv_iconst (v := 2) hx hb d_Md_end_121 (by decide) ?_
                    refine lv_icmp_ne (tgt := 129) hx hb d_Md_end_122 (by decide) (fun c_122 => ?_) (fun c_122 => ?_)
                    · skip
                      refine lv_lconst (v := 0) hx hb d_Md_end_129 (by decide) ?_
                      rw [hQ9]
                      exact hw_retl hx hb hr hlocks hW hS (hfin _ (by rw [hq9]; unfold pe_v; rw [if_neg (fun z => c_122 (by rw [et, z]; rfl))]; rfl)) d_Md_end_130
                    · skip
                      refine lv_lconst (v := 1) hx hb d_Md_end_125 (by decide) ?_
                      refine lv_goto (tgt := 130) hx hb d_Md_end_126 (by decide) ?_
                      rw [hQ9]
                      exact hw_retl hx hb hr hlocks hW hS (hfin _ (by rw [hq9]; unfold pe_v; rw [if_pos (by rw [c_122]; rfl)]; rfl)) d_Md_end_130
                · skip
                  exact absurd (by rw [c_101]; rfl) hs0
              · skip
                have hop : vv % 2 = 0 := (nI_eq (b := 0) (by omega) (by omega)).mp c_88
                refine lv_iconst (v := 1) hx hb d_Md_end_91 (by decide) ?_
                refine lv_goto (tgt := 96) hx hb d_Md_end_92 (by decide) ?_
                refine lv_istore (lv' := [(6, .int 1), (5, .int (nI vv)), (0, .ref md), (1, .int pp), (2, .int k1), (3, .int s1), (4, .int t1)]) hx hb d_Md_end_96 hl (by decide) rfl (fun ls hl => ?_)
                refine lv_iload hx hb d_Md_end_98 (lv_at hl 1 rfl) ?_
                refine lv_iload_n hx hb d_Md_end_100 rfl (lv_at hl 5 rfl) ?_
                refine lv_if_ne (tgt := 108) hx hb d_Md_end_101 (by decide) (fun c_101 => ?_) (fun c_101 => ?_)
                · skip
                  refine lv_iconst (v := 2) hx hb d_Md_end_108 (by decide) ?_
                  refine lv_aload_n hx hb d_Md_end_109 rfl (lv_at hl 2 rfl) ?_
                  refine hw_get (own := "QuantifierOutModel") (v := .ref ma) hx hb hts i_Md hown hW w2_md rfl 14 (by decide) (hts _ tw_617) (fun _ h9 => h9) rfl d_Md_end_110 ?_
                  refine lv_iconst (v := 2) hx hb d_Md_end_113 (by decide) ?_
                  refine hw_ild hx hb hW 0 w2_ma rfl 2 rfl (by decide) (by decide) d_Md_end_114 ?_
                  rw [hma2]
                  refine lv_imul hx hb d_Md_end_115 ?_
                  refine lv_topi (fun x11 ex11 => ?_)
                  have e2 : x11 = nI (2 * n1) := by rw [ex11]; exact pk_mul 2 n1
                  rw [e2]
                  refine lv_icmp_ne (tgt := 131) hx hb d_Md_end_116 (by decide) (fun c_116 => ?_) (fun c_116 => ?_)
                  · skip
                    have hv : ¬ vv = 2 * n1 := fun z => c_116 (by rw [z])
                    have hq9 : qi_R MV n1 vv = some (MV (vv / 2), false) := by unfold qi_R; rw [if_neg hv, if_neg (by omega)]
                    obtain ⟨cx, hcx⟩ : ∃ c, c = vv / 2 := ⟨_, rfl⟩
                    rw [← hcx] at hq9
                    have hcn : cx < n1 := by omega
                    obtain ⟨w1, w2, w3, w4, w5⟩ := hrow.1 cx hcn
                    rw [← hMV] at w4 w5
                    refine lv_iload hx hb d_Md_end_131 (lv_at hl 6 rfl) ?_
                    refine lv_if_ne (tgt := 149) hx hb d_Md_end_133 (by decide) (fun c_133 => ?_) (fun c_133 => ?_)
                    · skip
                      have ht0 : ¬ ix t1 = 0 := fun z => c_133 (by rw [et, z]; rfl)
                      refine lv_sipush (v := 128) hx hb d_Md_end_149 (by decide) ?_
                      refine lv_iload hx hb d_Md_end_152 (lv_at hl 0 rfl) ?_
                      refine lv_if_eq (tgt := 170) hx hb d_Md_end_154 (by decide) (fun c_154 => ?_) (fun c_154 => ?_)
                      · skip
                        exact absurd c_154 (by decide)
                      · skip
                        refine lv_iload_n hx hb d_Md_end_157 rfl (lv_at hl 5 rfl) ?_
                        refine lv_if_ne (tgt := 170) hx hb d_Md_end_158 (by decide) (fun c_158 => ?_) (fun c_158 => ?_)
                        · skip
                          refine lv_iload hx hb d_Md_end_170 (lv_at hl 1 rfl) ?_
                          refine lv_iconst (v := 2) hx hb d_Md_end_172 (by decide) ?_
                          refine lv_idiv hx hb d_Md_end_173 (by decide) ?_
                          refine lv_topi (fun x12 ex12 => ?_)
                          have ed : x12 = nI (vv / 2) := by rw [ex12]; exact pk_div (d := 2) (by omega) (by omega) (by omega)
                          have ecx : x12 = nI cx := by rw [ed, hcx]
                          refine lv_iadd hx hb d_Md_end_174 ?_
                          refine lv_topi (fun x13 ex13 => ?_)
                          have ei : x13 = nI (64 * 2 + cx) := by rw [ex13, ecx]; exact nI_add 128 cx
                          rw [ei]
                          refine lv_istore (lv' := [(7, .int (nI (64 * 2 + cx))), (6, .int 1), (5, .int (nI vv)), (0, .ref md), (1, .int pp), (2, .int k1), (3, .int s1), (4, .int t1)]) hx hb d_Md_end_175 hl (by decide) rfl (fun ls hl => ?_)
                          refine lv_iload hx hb d_Md_end_177 (lv_at hl 7 rfl) ?_
                          refine lv_iconst (v := 1) hx hb d_Md_end_179 (by decide) ?_
                          refine lv_icmp_ne (tgt := 193) hx hb d_Md_end_180 (by decide) (fun c_180 => ?_) (fun c_180 => ?_)
                          · skip
                            refine lv_aload_n hx hb d_Md_end_193 rfl (lv_at hl 3 rfl) ?_
                            refine hw_get (own := "QuantifierOutModel") (v := .ref be) hx hb hts i_Md hown hW w2_md rfl 16 (by decide) (hts _ tw_619) (fun _ h9 => h9) rfl d_Md_end_194 ?_
                            refine lv_iload hx hb d_Md_end_197 (lv_at hl 0 rfl) ?_
                            refine hw_lld hx hb hW 1 w2_be rfl (64 * 2 + cx) rfl (by omega) (by decide) d_Md_end_199 ?_
                            rw [hQ9]
                            exact hw_retl hx hb hr hlocks hW hS (hfin _ (by rw [hq9]; unfold pe_v; show _ = if ix t1 = 0 then _ else if ix t1 = 1 then (MV cx).num else ((MV cx).den : Int); rw [if_neg ht0, if_neg (fun z => c_180 (by rw [et, z]; rfl))]; exact w5)) d_Md_end_200
                          · skip
                            refine lv_aload_n hx hb d_Md_end_183 rfl (lv_at hl 3 rfl) ?_
                            refine hw_get (own := "QuantifierOutModel") (v := .ref ab) hx hb hts i_Md hown hW w2_md rfl 15 (by decide) (hts _ tw_618) (fun _ h9 => h9) rfl d_Md_end_184 ?_
                            refine lv_iload hx hb d_Md_end_187 (lv_at hl 0 rfl) ?_
                            refine hw_lld hx hb hW 1 w2_ab rfl (64 * 2 + cx) rfl (by omega) (by decide) d_Md_end_189 ?_
                            refine lv_goto (tgt := 200) hx hb d_Md_end_190 (by decide) ?_
                            rw [hQ9]
                            exact hw_retl hx hb hr hlocks hW hS (hfin _ (by rw [hq9]; unfold pe_v; show _ = if ix t1 = 0 then _ else if ix t1 = 1 then (MV cx).num else _; rw [if_neg ht0, if_pos (by rw [c_180]; rfl)]; exact w4)) d_Md_end_200
                        · skip
                          exact absurd (by rw [c_158]; rfl) hs0
                    · skip
                      have ht0 : ix t1 = 0 := by rw [c_133]; rfl
                      refine lv_iload hx hb d_Md_end_136 (lv_at hl 0 rfl) ?_
                      refine lv_if_eq (tgt := 145) hx hb d_Md_end_138 (by decide) (fun c_138 => ?_) (fun c_138 => ?_)
                      · skip
                        exact absurd c_138 (by decide)
                      · skip
                        refine lv_lconst (v := 1) hx hb d_Md_end_141 (by decide) ?_
                        refine lv_goto (tgt := 148) hx hb d_Md_end_142 (by decide) ?_
                        rw [hQ9]
                        exact hw_retl hx hb hr hlocks hW hS (hfin _ (by rw [hq9]; unfold pe_v; show _ = if ix t1 = 0 then (if false = true then (2 : Int) else 1) else if ix t1 = 1 then (MV cx).num else ((MV cx).den : Int); rw [if_pos ht0]; rfl)) d_Md_end_148
                  · skip
                    have hv : vv = 2 * n1 := (nI_eq (b := 2 * n1) (by omega) (by omega)).mp c_116
                    have hq9 : qi_R MV n1 vv = none := by unfold qi_R; rw [if_pos hv]
                    refine lv_iload hx hb d_Md_end_119 (lv_at hl 6 rfl) ?_
                    refine lv_iconst (v := 2) hx hb d_Md_end_121 (by decide) ?_
                    refine lv_icmp_ne (tgt := 129) hx hb d_Md_end_122 (by decide) (fun c_122 => ?_) (fun c_122 => ?_)
                    · skip
                      refine lv_lconst (v := 0) hx hb d_Md_end_129 (by decide) ?_
                      rw [hQ9]
                      exact hw_retl hx hb hr hlocks hW hS (hfin _ (by rw [hq9]; unfold pe_v; rw [if_neg (fun z => c_122 (by rw [et, z]; rfl))]; rfl)) d_Md_end_130
                    · skip
                      refine lv_lconst (v := 1) hx hb d_Md_end_125 (by decide) ?_
                      refine lv_goto (tgt := 130) hx hb d_Md_end_126 (by decide) ?_
                      rw [hQ9]
                      exact hw_retl hx hb hr hlocks hW hS (hfin _ (by rw [hq9]; unfold pe_v; rw [if_pos (by rw [c_122]; rfl)]; rfl)) d_Md_end_130
                · skip
                  exact absurd (by rw [c_101]; rfl) hs0
            · skip
              have hs0 : ix s1 = 0 := by rw [c_64]; rfl
              obtain ⟨vv, hvv⟩ : ∃ v, v = fs kN := ⟨_, rfl⟩
              rw [← hvv] at bf bf2
              have hfin : ∀ (r : Int64), r.toInt = pe_v (qi_L MV vv) (ix t1) → md_E cI cJ cZ md kd on tw nu le fx fy si de ne it po ma ab be li fr to n g pp k1 s1 t1 M r Mf := fun r hr9 => hfin r (by rw [if_pos hs0, ← hvv]; exact hr9)
              refine lv_aload_n hx hb d_Md_end_67 rfl (lv_at hl 0 rfl) ?_
              refine hw_get (own := "QuantifierOutModel") (v := .ref fr) hx hb hts i_Md hown hW w2_md rfl 21 (by decide) (hts _ tw_624) (fun _ h9 => h9) rfl d_Md_end_68 ?_
              refine lv_iload_n hx hb d_Md_end_71 rfl (lv_at hl 2 rfl) ?_
              refine hw_ild hx hb hW 0 hfr2 rfl kN ek (by omega) (by decide) d_Md_end_72 ?_
              rw [bf]
              refine lv_goto (tgt := 82) hx hb d_Md_end_73 (by decide) ?_
              refine lv_istore (lv' := [(5, .int (nI vv)), (0, .ref md), (1, .int pp), (2, .int k1), (3, .int s1), (4, .int t1)]) hx hb d_Md_end_82 hl (by decide) rfl (fun ls hl => ?_)
              refine lv_iload hx hb d_Md_end_84 (lv_at hl 0 rfl) ?_
              refine lv_iconst (v := 2) hx hb d_Md_end_86 (by decide) ?_
              refine lv_irem hx hb d_Md_end_87 (by decide) ?_
              refine lv_topi (fun x14 ex14 => ?_)
              have em : x14 = nI (vv % 2) := by rw [ex14]; exact pk_rem (d := 2) (by omega) (by omega) (by omega)
              rw [em]
              refine lv_if_ne (tgt := 95) hx hb d_Md_end_88 (by decide) (fun c_88 => ?_) (fun c_88 => ?_)
              · skip
                have hop : vv % 2 = 1 := by have : ¬ vv % 2 = 0 := fun z => c_88 (by rw [z]; rfl); omega
                refine lv_iconst (v := 0) hx hb d_Md_end_95 (by decide) ?_
                refine lv_istore (lv' := [(6, .int 0), (5, .int (nI vv)), (0, .ref md), (1, .int pp), (2, .int k1), (3, .int s1), (4, .int t1)]) hx hb d_Md_end_96 hl (by decide) rfl (fun ls hl => ?_)
                refine lv_iload hx hb d_Md_end_98 (lv_at hl 1 rfl) ?_
                refine lv_iload_n hx hb d_Md_end_100 rfl (lv_at hl 5 rfl) ?_
                refine lv_if_ne (tgt := 108) hx hb d_Md_end_101 (by decide) (fun c_101 => ?_) (fun c_101 => ?_)
                · skip
                  exact absurd (by rw [es, hs0]; rfl) c_101
                · skip
                  refine lv_iconst (v := 0) hx hb d_Md_end_104 (by decide) ?_
                  refine lv_goto (tgt := 116) hx hb d_Md_end_105 (by decide) ?_
                  refine lv_icmp_ne (tgt := 131) hx hb d_Md_end_116 (by decide) (fun c_116 => ?_) (fun c_116 => ?_)
                  · skip
                    have hv : ¬ vv = 0 := fun z => c_116 (by rw [z]; rfl)
                    have hq9 : qi_L MV vv = some (MV (vv / 2), true) := by unfold qi_L; rw [if_neg hv, if_pos hop]
                    obtain ⟨cx, hcx⟩ : ∃ c, c = vv / 2 := ⟨_, rfl⟩
                    rw [← hcx] at hq9
                    have hcn : cx < n1 := by omega
                    obtain ⟨w1, w2, w3, w4, w5⟩ := hrow.1 cx hcn
                    rw [← hMV] at w4 w5
                    refine lv_iload hx hb d_Md_end_131 (lv_at hl 6 rfl) ?_
                    refine lv_if_ne (tgt := 149) hx hb d_Md_end_133 (by decide) (fun c_133 => ?_) (fun c_133 => ?_)
                    · skip
                      have ht0 : ¬ ix t1 = 0 := fun z => c_133 (by rw [et, z]; rfl)
                      refine lv_sipush (v := 128) hx hb d_Md_end_149 (by decide) ?_
                      refine lv_iload hx hb d_Md_end_152 (lv_at hl 0 rfl) ?_
                      refine lv_if_eq (tgt := 170) hx hb d_Md_end_154 (by decide) (fun c_154 => ?_) (fun c_154 => ?_)
                      · skip
                        refine lv_iload hx hb d_Md_end_170 (lv_at hl 1 rfl) ?_
                        refine lv_iconst (v := 2) hx hb d_Md_end_172 (by decide) ?_
                        refine lv_idiv hx hb d_Md_end_173 (by decide) ?_
                        refine lv_topi (fun x15 ex15 => ?_)
                        have ed : x15 = nI (vv / 2) := by rw [ex15]; exact pk_div (d := 2) (by omega) (by omega) (by omega)
                        have ecx : x15 = nI cx := by rw [ed, hcx]
                        refine lv_iadd hx hb d_Md_end_174 ?_
                        refine lv_topi (fun x16 ex16 => ?_)
                        have ei : x16 = nI (64 * 2 + cx) := by rw [ex16, ecx]; exact nI_add 128 cx
                        rw [ei]
                        refine lv_istore (lv' := [(7, .int (nI (64 * 2 + cx))), (6, .int 0), (5, .int (nI vv)), (0, .ref md), (1, .int pp), (2, .int k1), (3, .int s1), (4, .int t1)]) hx hb d_Md_end_175 hl (by decide) rfl (fun ls hl => ?_)
                        refine lv_iload hx hb d_Md_end_177 (lv_at hl 7 rfl) ?_
                        refine lv_iconst (v := 1) hx hb d_Md_end_179 (by decide) ?_
                        refine lv_icmp_ne (tgt := 193) hx hb d_Md_end_180 (by decide) (fun c_180 => ?_) (fun c_180 => ?_)
                        · skip
                          refine lv_aload_n hx hb d_Md_end_193 rfl (lv_at hl 3 rfl) ?_
                          refine hw_get (own := "QuantifierOutModel") (v := .ref be) hx hb hts i_Md hown hW w2_md rfl 16 (by decide) (hts _ tw_619) (fun _ h9 => h9) rfl d_Md_end_194 ?_
                          refine lv_iload hx hb d_Md_end_197 (lv_at hl 0 rfl) ?_
                          refine hw_lld hx hb hW 1 w2_be rfl (64 * 2 + cx) rfl (by omega) (by decide) d_Md_end_199 ?_
                          rw [hQ9]
                          exact hw_retl hx hb hr hlocks hW hS (hfin _ (by rw [hq9]; unfold pe_v; show _ = if ix t1 = 0 then _ else if ix t1 = 1 then (MV cx).num else ((MV cx).den : Int); rw [if_neg ht0, if_neg (fun z => c_180 (by rw [et, z]; rfl))]; exact w5)) d_Md_end_200
                        · skip
                          refine lv_aload_n hx hb d_Md_end_183 rfl (lv_at hl 3 rfl) ?_
                          refine hw_get (own := "QuantifierOutModel") (v := .ref ab) hx hb hts i_Md hown hW w2_md rfl 15 (by decide) (hts _ tw_618) (fun _ h9 => h9) rfl d_Md_end_184 ?_
                          refine lv_iload hx hb d_Md_end_187 (lv_at hl 0 rfl) ?_
                          refine hw_lld hx hb hW 1 w2_ab rfl (64 * 2 + cx) rfl (by omega) (by decide) d_Md_end_189 ?_
                          refine lv_goto (tgt := 200) hx hb d_Md_end_190 (by decide) ?_
                          rw [hQ9]
                          exact hw_retl hx hb hr hlocks hW hS (hfin _ (by rw [hq9]; unfold pe_v; show _ = if ix t1 = 0 then _ else if ix t1 = 1 then (MV cx).num else _; rw [if_neg ht0, if_pos (by rw [c_180]; rfl)]; exact w4)) d_Md_end_200
                      · skip
                        exact absurd rfl c_154
                    · skip
                      have ht0 : ix t1 = 0 := by rw [c_133]; rfl
                      refine lv_iload hx hb d_Md_end_136 (lv_at hl 0 rfl) ?_
                      refine lv_if_eq (tgt := 145) hx hb d_Md_end_138 (by decide) (fun c_138 => ?_) (fun c_138 => ?_)
                      · skip
                        refine lv_ldc2 (own := "QuantifierOutModel") (v := 2) hx hb hown (hts _ tw_687) d_Md_end_145 ?_
                        rw [hQ9]
                        exact hw_retl hx hb hr hlocks hW hS (hfin _ (by rw [hq9]; unfold pe_v; show _ = if ix t1 = 0 then (if true = true then (2 : Int) else 1) else if ix t1 = 1 then (MV cx).num else ((MV cx).den : Int); rw [if_pos ht0]; rfl)) d_Md_end_148
                      · skip
                        exact absurd rfl c_138
                  · skip
                    have hv : vv = 0 := (nI_eq (b := 0) (by omega) (by omega)).mp c_116
                    have hq9 : qi_L MV vv = none := by unfold qi_L; rw [if_pos hv]
                    refine lv_iload hx hb d_Md_end_119 (lv_at hl 6 rfl) ?_
                    refine lv_iconst (v := 2) hx hb d_Md_end_121 (by decide) ?_
                    refine lv_icmp_ne (tgt := 129) hx hb d_Md_end_122 (by decide) (fun c_122 => ?_) (fun c_122 => ?_)
                    · skip
                      refine lv_lconst (v := 0) hx hb d_Md_end_129 (by decide) ?_
                      rw [hQ9]
                      exact hw_retl hx hb hr hlocks hW hS (hfin _ (by rw [hq9]; unfold pe_v; rw [if_neg (fun z => c_122 (by rw [et, z]; rfl))]; rfl)) d_Md_end_130
                    · skip
                      refine lv_lconst (v := 1) hx hb d_Md_end_125 (by decide) ?_
                      refine lv_goto (tgt := 130) hx hb d_Md_end_126 (by decide) ?_
                      rw [hQ9]
                      exact hw_retl hx hb hr hlocks hW hS (hfin _ (by rw [hq9]; unfold pe_v; rw [if_pos (by rw [c_122]; rfl)]; rfl)) d_Md_end_130
              · skip
                have hop : vv % 2 = 0 := (nI_eq (b := 0) (by omega) (by omega)).mp c_88
                refine lv_iconst (v := 1) hx hb d_Md_end_91 (by decide) ?_
                refine lv_goto (tgt := 96) hx hb d_Md_end_92 (by decide) ?_
                refine lv_istore (lv' := [(6, .int 1), (5, .int (nI vv)), (0, .ref md), (1, .int pp), (2, .int k1), (3, .int s1), (4, .int t1)]) hx hb d_Md_end_96 hl (by decide) rfl (fun ls hl => ?_)
                refine lv_iload hx hb d_Md_end_98 (lv_at hl 1 rfl) ?_
                refine lv_iload_n hx hb d_Md_end_100 rfl (lv_at hl 5 rfl) ?_
                refine lv_if_ne (tgt := 108) hx hb d_Md_end_101 (by decide) (fun c_101 => ?_) (fun c_101 => ?_)
                · skip
                  exact absurd (by rw [es, hs0]; rfl) c_101
                · skip
                  refine lv_iconst (v := 0) hx hb d_Md_end_104 (by decide) ?_
                  refine lv_goto (tgt := 116) hx hb d_Md_end_105 (by decide) ?_
                  refine lv_icmp_ne (tgt := 131) hx hb d_Md_end_116 (by decide) (fun c_116 => ?_) (fun c_116 => ?_)
                  · skip
                    have hv : ¬ vv = 0 := fun z => c_116 (by rw [z]; rfl)
                    have hq9 : qi_L MV vv = some (MV (vv / 2 - 1), false) := by unfold qi_L; rw [if_neg hv, if_neg (by omega)]
                    obtain ⟨cx, hcx⟩ : ∃ c, c = vv / 2 - 1 := ⟨_, rfl⟩
                    rw [← hcx] at hq9
                    have hcn : cx < n1 := by omega
                    obtain ⟨w1, w2, w3, w4, w5⟩ := hrow.1 cx hcn
                    rw [← hMV] at w4 w5
                    refine lv_iload hx hb d_Md_end_131 (lv_at hl 6 rfl) ?_
                    refine lv_if_ne (tgt := 149) hx hb d_Md_end_133 (by decide) (fun c_133 => ?_) (fun c_133 => ?_)
                    · skip
                      have ht0 : ¬ ix t1 = 0 := fun z => c_133 (by rw [et, z]; rfl)
                      refine lv_sipush (v := 128) hx hb d_Md_end_149 (by decide) ?_
                      refine lv_iload hx hb d_Md_end_152 (lv_at hl 0 rfl) ?_
                      refine lv_if_eq (tgt := 170) hx hb d_Md_end_154 (by decide) (fun c_154 => ?_) (fun c_154 => ?_)
                      · skip
                        exact absurd c_154 (by decide)
                      · skip
                        refine lv_iload_n hx hb d_Md_end_157 rfl (lv_at hl 5 rfl) ?_
                        refine lv_if_ne (tgt := 170) hx hb d_Md_end_158 (by decide) (fun c_158 => ?_) (fun c_158 => ?_)
                        · skip
                          exact absurd (by rw [es, hs0]; rfl) c_158
                        · skip
                          refine lv_iload hx hb d_Md_end_161 (lv_at hl 1 rfl) ?_
                          refine lv_iconst (v := 2) hx hb d_Md_end_163 (by decide) ?_
                          refine lv_idiv hx hb d_Md_end_164 (by decide) ?_
                          refine lv_topi (fun x17 ex17 => ?_)
                          have ed : x17 = nI (vv / 2) := by rw [ex17]; exact pk_div (d := 2) (by omega) (by omega) (by omega)
                          refine lv_iconst (v := 1) hx hb d_Md_end_165 (by decide) ?_
                          refine lv_isub hx hb d_Md_end_166 ?_
                          refine lv_topi (fun x18 ex18 => ?_)
                          have ecx : x18 = nI cx := by rw [ex18, ed, hcx]; exact pk_sub (b := 1) (by omega)
                          refine lv_goto (tgt := 174) hx hb d_Md_end_167 (by decide) ?_
                          refine lv_iadd hx hb d_Md_end_174 ?_
                          refine lv_topi (fun x19 ex19 => ?_)
                          have ei : x19 = nI (64 * 2 + cx) := by rw [ex19, ecx]; exact nI_add 128 cx
                          rw [ei]
                          refine lv_istore (lv' := [(7, .int (nI (64 * 2 + cx))), (6, .int 1), (5, .int (nI vv)), (0, .ref md), (1, .int pp), (2, .int k1), (3, .int s1), (4, .int t1)]) hx hb d_Md_end_175 hl (by decide) rfl (fun ls hl => ?_)
                          refine lv_iload hx hb d_Md_end_177 (lv_at hl 7 rfl) ?_
                          refine lv_iconst (v := 1) hx hb d_Md_end_179 (by decide) ?_
                          refine lv_icmp_ne (tgt := 193) hx hb d_Md_end_180 (by decide) (fun c_180 => ?_) (fun c_180 => ?_)
                          · skip
                            refine lv_aload_n hx hb d_Md_end_193 rfl (lv_at hl 3 rfl) ?_
                            refine hw_get (own := "QuantifierOutModel") (v := .ref be) hx hb hts i_Md hown hW w2_md rfl 16 (by decide) (hts _ tw_619) (fun _ h9 => h9) rfl d_Md_end_194 ?_
                            refine lv_iload hx hb d_Md_end_197 (lv_at hl 0 rfl) ?_
                            refine hw_lld hx hb hW 1 w2_be rfl (64 * 2 + cx) rfl (by omega) (by decide) d_Md_end_199 ?_
                            rw [hQ9]
                            exact hw_retl hx hb hr hlocks hW hS (hfin _ (by rw [hq9]; unfold pe_v; show _ = if ix t1 = 0 then _ else if ix t1 = 1 then (MV cx).num else ((MV cx).den : Int); rw [if_neg ht0, if_neg (fun z => c_180 (by rw [et, z]; rfl))]; exact w5)) d_Md_end_200
                          · skip
                            refine lv_aload_n hx hb d_Md_end_183 rfl (lv_at hl 3 rfl) ?_
                            refine hw_get (own := "QuantifierOutModel") (v := .ref ab) hx hb hts i_Md hown hW w2_md rfl 15 (by decide) (hts _ tw_618) (fun _ h9 => h9) rfl d_Md_end_184 ?_
                            refine lv_iload hx hb d_Md_end_187 (lv_at hl 0 rfl) ?_
                            refine hw_lld hx hb hW 1 w2_ab rfl (64 * 2 + cx) rfl (by omega) (by decide) d_Md_end_189 ?_
                            refine lv_goto (tgt := 200) hx hb d_Md_end_190 (by decide) ?_
                            rw [hQ9]
                            exact hw_retl hx hb hr hlocks hW hS (hfin _ (by rw [hq9]; unfold pe_v; show _ = if ix t1 = 0 then _ else if ix t1 = 1 then (MV cx).num else _; rw [if_neg ht0, if_pos (by rw [c_180]; rfl)]; exact w4)) d_Md_end_200
                    · skip
                      have ht0 : ix t1 = 0 := by rw [c_133]; rfl
                      refine lv_iload hx hb d_Md_end_136 (lv_at hl 0 rfl) ?_
                      refine lv_if_eq (tgt := 145) hx hb d_Md_end_138 (by decide) (fun c_138 => ?_) (fun c_138 => ?_)
                      · skip
                        exact absurd c_138 (by decide)
                      · skip
                        refine lv_lconst (v := 1) hx hb d_Md_end_141 (by decide) ?_
                        refine lv_goto (tgt := 148) hx hb d_Md_end_142 (by decide) ?_
                        rw [hQ9]
                        exact hw_retl hx hb hr hlocks hW hS (hfin _ (by rw [hq9]; unfold pe_v; show _ = if ix t1 = 0 then (if false = true then (2 : Int) else 1) else if ix t1 = 1 then (MV cx).num else ((MV cx).den : Int); rw [if_pos ht0]; rfl)) d_Md_end_148
                  · skip
                    have hv : vv = 0 := (nI_eq (b := 0) (by omega) (by omega)).mp c_116
                    have hq9 : qi_L MV vv = none := by unfold qi_L; rw [if_pos hv]
                    refine lv_iload hx hb d_Md_end_119 (lv_at hl 6 rfl) ?_
                    refine lv_iconst (v := 2) hx hb d_Md_end_121 (by decide) ?_
                    refine lv_icmp_ne (tgt := 129) hx hb d_Md_end_122 (by decide) (fun c_122 => ?_) (fun c_122 => ?_)
                    · skip
                      refine lv_lconst (v := 0) hx hb d_Md_end_129 (by decide) ?_
                      rw [hQ9]
                      exact hw_retl hx hb hr hlocks hW hS (hfin _ (by rw [hq9]; unfold pe_v; rw [if_neg (fun z => c_122 (by rw [et, z]; rfl))]; rfl)) d_Md_end_130
                    · skip
                      refine lv_lconst (v := 1) hx hb d_Md_end_125 (by decide) ?_
                      refine lv_goto (tgt := 130) hx hb d_Md_end_126 (by decide) ?_
                      rw [hQ9]
                      exact hw_retl hx hb hr hlocks hW hS (hfin _ (by rw [hq9]; unfold pe_v; rw [if_pos (by rw [c_122]; rfl)]; rfl)) d_Md_end_130
          · skip
            have hce : cEnd mm k1 s1 t1 = 3 := by unfold cEnd; rw [if_neg (fun z => z hk9), if_pos (fun z => it_b0 gt c_53 z.2)]
            refine lv_aload_n hx hb d_Md_end_56 rfl (lv_at hl 0 rfl) ?_
            refine lv_iconst (v := 3) hx hb d_Md_end_57 (by decide) ?_
            refine hw_calli (hw_runV (n := 1) (own := "QuantifierOutModel") (As := [.int 3]) (rest := []) hx hb hml hown hts hX hW hl.1 (c_Md_raise l D cI cJ cZ cN md kd on tw nu le fx fy si de ne it po ma ab be li fr to (nI 0) n u2 d2 (nI mm) _ Mf hK2.1 3) hK2.1 rfl tw_823 tw_825 ts_32 tw_5 tw_826 (by decide +kernel) rfl rfl ⟨by decide, by decide⟩ rfl rfl (Nat.le_of_ble_eq_true rfl) d_Md_end_58 ⟨by decide, by decide⟩) hW hS hA (fun rr Mr H locs hpr hz hW hS => ?_)
            obtain ⟨err, eMr⟩ := hpr
            obtain ⟨hJr, hFr⟩ := md_J.cd hD (md_R.J hR) hK2.1 eMr
            obtain ⟨x20, ex20⟩ : ∃ y9 : Int64, y9 = (rr : Int32).toInt64 := ⟨_, rfl⟩
            refine lv_i2l (v := x20) hx hb d_Md_end_61 ex20.symm ?_
            rw [hQ9]
            exact hw_retl hx hb hr hlocks hW hS ⟨Or.inr ⟨a1, mm, _, _, hsys, by rw [hce]; exact hJr, fun z9 => by rw [hce] at z9; cases z9⟩, md_F.tr hF hFr⟩ d_Md_end_62
      · skip
        have hce : cEnd mm k1 s1 t1 = 1 := by unfold cEnd; rw [if_pos (it_b0 gk c_23)]
        refine lv_aload_n hx hb d_Md_end_26 rfl (lv_at hl 0 rfl) ?_
        refine lv_iconst (v := 1) hx hb d_Md_end_27 (by decide) ?_
        refine hw_calli (hw_runV (n := 1) (own := "QuantifierOutModel") (As := [.int 1]) (rest := []) hx hb hml hown hts hX hW hl.1 (c_Md_raise l D cI cJ cZ cN md kd on tw nu le fx fy si de ne it po ma ab be li fr to (nI 0) n u2 d2 (nI mm) _ Mf hK2.1 1) hK2.1 rfl tw_823 tw_825 ts_32 tw_5 tw_826 (by decide +kernel) rfl rfl ⟨by decide, by decide⟩ rfl rfl (Nat.le_of_ble_eq_true rfl) d_Md_end_28 ⟨by decide, by decide⟩) hW hS hA (fun rr Mr H locs hpr hz hW hS => ?_)
        obtain ⟨err, eMr⟩ := hpr
        obtain ⟨hJr, hFr⟩ := md_J.cd hD (md_R.J hR) hK2.1 eMr
        obtain ⟨x21, ex21⟩ : ∃ y9 : Int64, y9 = (rr : Int32).toInt64 := ⟨_, rfl⟩
        refine lv_i2l (v := x21) hx hb d_Md_end_31 ex21.symm ?_
        rw [hQ9]
        exact hw_retl hx hb hr hlocks hW hS ⟨Or.inr ⟨a1, mm, _, _, hsys, by rw [hce]; exact hJr, fun z9 => by rw [hce] at z9; cases z9⟩, md_F.tr hF hFr⟩ d_Md_end_32
  · skip
    rcases hcase with ⟨a1, a2, a3⟩ | ⟨a1, a2, a3⟩
    · skip
      refine lv_lconst (v := 0) hx hb d_Md_end_8 (by decide) ?_
      rw [hQ9]
      exact hw_retl hx hb hr hlocks hW hS ⟨Or.inl ⟨a1, a3⟩, hF⟩ d_Md_end_9
    · exact absurd (a2.symm.trans c_5) (by decide)
end G54

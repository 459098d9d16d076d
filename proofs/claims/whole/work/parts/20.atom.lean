/-! Atom.isTrueAt -/
def VB (d : Nat) : Nat := if d = 0 then 24021 else if d = 1 then 1201 else 60
def vx_b (fv gv : Nat → Int64) (d : Nat) : Prop := ∀ i, i < 2 → 0 < (gv i).toInt ∧ (gv i).toInt ≤ VB d ∧ (fv i).toInt.natAbs ≤ VB d
theorem VB_le (d : Nat) : VB d ≤ 24021 := by unfold VB; split; omega; split <;> omega
def vX (fv gv : Nat → Int64) : Rat := qm_fr (fv 0).toInt (gv 0).toInt
def vY (fv gv : Nat → Int64) : Rat := qm_fr (fv 1).toInt (gv 1).toInt
theorem at_sum {L : Int × Int × Int} {u d v e : Int} (hd : 0 < d) (he : 0 < e) {s : Int} (hs : s = L.1 * u * e + L.2.1 * v * d + L.2.2 * d * e) : (qm_at L (qm_fr u d) (qm_fr v e) = 0 ↔ s = 0) ∧ (qm_at L (qm_fr u d) (qm_fr v e) < 0 ↔ s < 0) ∧ (qm_at L (qm_fr u d) (qm_fr v e) ≤ 0 ↔ s ≤ 0) := by
  have h := qm_at_ss L hd he (u := u) (v := v)
  rw [← hs] at h
  exact ⟨h.2.trans Rat.intCast_eq_zero_iff, h.1.trans Rat.intCast_neg_iff, (qm_ss_le h).trans Rat.intCast_nonpos⟩
section G20
variable (l : Launch) (D : va_G) (cI cJ cZ cN : ClassId)
set_option maxHeartbeats 4000000 in
set_option maxRecDepth 100000 in
theorem c_At_isTrueAt (h0 sz la op v va vb om im d : Nat) (fr dp gr ca cb cc : Int32) (L : Int × Int × Int) (fv gv : Nat → Int64) (rm : Room) (M : Nat → Option va_E) (hat : M h0 = some (.inr (1, [.int fr, .int dp, .ref la, .int gr, .int ca, .int cb, .int cc, .int (nI op)]))) (ha : ca.toInt = L.1) (hb9 : cb.toInt = L.2.1) (hc9 : cc.toInt = L.2.2) (hL : L.1.natAbs ≤ 5 ∧ L.2.1.natAbs ≤ 5 ∧ L.2.2.natAbs ≤ 5) (hop : op < 3) (hV : vs_S cJ M v va vb om im fv gv) (hvb : vx_b fv gv d) (hrc : rm.cells = 0) (hrs : rm.slots = 0) : Met l y_At_isTrueAt (.code y_At_isTrueAt b_At_isTrueAt 8 (some .boolean) :: ww) (rm) (hw_Pc D qcl (qty cI cJ cZ cN) [.ref h0, .ref v] M sz) (va_Qi (fun r M1 => it_b r (qm_atom L op (vX fv gv) (vY fv gv)) ∧ M1 = M) (hw_B D qcl (qty cI cJ cZ cN) M sz) (hw_A M sz)) 0 0 (hw_A M sz) := by
  obtain ⟨hv, hva, hvb9⟩ := hV
  refine hw_met (by decide) (Nat.le_of_ble_eq_true rfl) ?_
  intro p e s m below meth c hx hb hr hml hown hlocks hnm hts hsz hX hW ls hl
  subst hsz
  have hA : ∀ q, s.heap.size ≤ q → hw_A M s.heap.size q := fun q h => Or.inr h
  have hS : va_S (hw_A M s.heap.size) s.heap s.heap [] := va_S.rf
  have hl : lv_has ls 8 [(0, .ref h0), (1, .ref v)] := hl
  have hown : s.vm.findClass "QuantifierOut$Atom" = some m.cls := hown
  refine lv_aload_n hx hb d_At_isTrueAt_0 rfl (lv_at hl 1 rfl) ?_
  refine hw_get (own := "QuantifierOut$Atom") (v := .ref vb) hx hb hts i_Vs hown hW hv rfl 1 (by decide) (hts _ tw_57) (fun _ h9 => h9) rfl d_At_isTrueAt_1 ?_
  refine lv_iconst (v := 0) hx hb d_At_isTrueAt_4 (by decide) ?_
  refine hw_lld hx hb hW 1 hvb9 rfl 0 rfl (by omega) (by decide) d_At_isTrueAt_5 ?_
  refine lv_topl (fun gx egx => ?_)
  refine lv_lstore_n (lv' := [(2, .long gx), (0, .ref h0), (1, .ref v)]) hx hb d_At_isTrueAt_6 rfl hl (by decide) rfl (fun ls hl => ?_)
  refine lv_aload_n hx hb d_At_isTrueAt_7 rfl (lv_at hl 2 rfl) ?_
  refine hw_get (own := "QuantifierOut$Atom") (v := .ref vb) hx hb hts i_Vs hown hW hv rfl 1 (by decide) (hts _ tw_57) (fun _ h9 => h9) rfl d_At_isTrueAt_8 ?_
  refine lv_iconst (v := 1) hx hb d_At_isTrueAt_11 (by decide) ?_
  refine hw_lld hx hb hW 1 hvb9 rfl 1 rfl (by omega) (by decide) d_At_isTrueAt_12 ?_
  refine lv_topl (fun gy egy => ?_)
  refine lv_lstore (lv' := [(4, .long gy), (2, .long gx), (0, .ref h0), (1, .ref v)]) hx hb d_At_isTrueAt_13 hl (by decide) rfl (fun ls hl => ?_)
  refine lv_aload_n hx hb d_At_isTrueAt_15 rfl (lv_at hl 2 rfl) ?_
  refine hw_get (own := "QuantifierOut$Atom") (v := .int ca) hx hb hts i_At hown hW hat rfl 4 (by decide) (hts _ tw_224) (fun _ h9 => h9) rfl d_At_isTrueAt_16 ?_
  obtain ⟨x1, ex1⟩ : ∃ y9 : Int64, y9 = (ca : Int32).toInt64 := ⟨_, rfl⟩
  refine lv_i2l (v := x1) hx hb d_At_isTrueAt_19 ex1.symm ?_
  refine lv_aload_n hx hb d_At_isTrueAt_20 rfl (lv_at hl 3 rfl) ?_
  refine hw_get (own := "QuantifierOut$Atom") (v := .ref va) hx hb hts i_Vs hown hW hv rfl 0 (by decide) (hts _ tw_54) (fun _ h9 => h9) rfl d_At_isTrueAt_21 ?_
  refine lv_iconst (v := 0) hx hb d_At_isTrueAt_24 (by decide) ?_
  refine hw_lld hx hb hW 1 hva rfl 0 rfl (by omega) (by decide) d_At_isTrueAt_25 ?_
  refine lv_topl (fun ux eux => ?_)
  refine lv_lmul hx hb d_At_isTrueAt_26 ?_
  refine lv_topl (fun x2 ex2 => ?_)
  refine lv_lload hx hb d_At_isTrueAt_27 (lv_at hl 0 rfl) ?_
  refine lv_lmul hx hb d_At_isTrueAt_29 ?_
  refine lv_topl (fun x3 ex3 => ?_)
  refine lv_aload_n hx hb d_At_isTrueAt_30 rfl (lv_at hl 2 rfl) ?_
  refine hw_get (own := "QuantifierOut$Atom") (v := .int cb) hx hb hts i_At hown hW hat rfl 5 (by decide) (hts _ tw_225) (fun _ h9 => h9) rfl d_At_isTrueAt_31 ?_
  obtain ⟨x4, ex4⟩ : ∃ y9 : Int64, y9 = (cb : Int32).toInt64 := ⟨_, rfl⟩
  refine lv_i2l (v := x4) hx hb d_At_isTrueAt_34 ex4.symm ?_
  refine lv_aload_n hx hb d_At_isTrueAt_35 rfl (lv_at hl 3 rfl) ?_
  refine hw_get (own := "QuantifierOut$Atom") (v := .ref va) hx hb hts i_Vs hown hW hv rfl 0 (by decide) (hts _ tw_54) (fun _ h9 => h9) rfl d_At_isTrueAt_36 ?_
  refine lv_iconst (v := 1) hx hb d_At_isTrueAt_39 (by decide) ?_
  refine hw_lld hx hb hW 1 hva rfl 1 rfl (by omega) (by decide) d_At_isTrueAt_40 ?_
  refine lv_topl (fun uy euy => ?_)
  refine lv_lmul hx hb d_At_isTrueAt_41 ?_
  refine lv_topl (fun x5 ex5 => ?_)
  refine lv_lload_n hx hb d_At_isTrueAt_42 rfl (lv_at hl 1 rfl) ?_
  refine lv_lmul hx hb d_At_isTrueAt_43 ?_
  refine lv_topl (fun x6 ex6 => ?_)
  refine lv_ladd hx hb d_At_isTrueAt_44 ?_
  refine lv_topl (fun x7 ex7 => ?_)
  refine lv_aload_n hx hb d_At_isTrueAt_45 rfl (lv_at hl 2 rfl) ?_
  refine hw_get (own := "QuantifierOut$Atom") (v := .int cc) hx hb hts i_At hown hW hat rfl 6 (by decide) (hts _ tw_226) (fun _ h9 => h9) rfl d_At_isTrueAt_46 ?_
  obtain ⟨x8, ex8⟩ : ∃ y9 : Int64, y9 = (cc : Int32).toInt64 := ⟨_, rfl⟩
  refine lv_i2l (v := x8) hx hb d_At_isTrueAt_49 ex8.symm ?_
  refine lv_lload_n hx hb d_At_isTrueAt_50 rfl (lv_at hl 1 rfl) ?_
  refine lv_lmul hx hb d_At_isTrueAt_51 ?_
  refine lv_topl (fun x9 ex9 => ?_)
  refine lv_lload hx hb d_At_isTrueAt_52 (lv_at hl 0 rfl) ?_
  refine lv_lmul hx hb d_At_isTrueAt_54 ?_
  refine lv_topl (fun x10 ex10 => ?_)
  refine lv_ladd hx hb d_At_isTrueAt_55 ?_
  refine lv_topl (fun x11 ex11 => ?_)
  refine lv_lstore (lv' := [(6, .long x11), (4, .long gy), (2, .long gx), (0, .ref h0), (1, .ref v)]) hx hb d_At_isTrueAt_56 hl (by decide) rfl (fun ls hl => ?_)
  refine lv_aload_n hx hb d_At_isTrueAt_58 rfl (lv_at hl 3 rfl) ?_
  refine hw_get (own := "QuantifierOut$Atom") (v := .int (nI op)) hx hb hts i_At hown hW hat rfl 7 (by decide) (hts _ tw_227) (fun _ h9 => h9) rfl d_At_isTrueAt_59 ?_
  have hvb0 := VB_le d
  obtain ⟨p1, p2, p3⟩ := hvb 0 (by omega); obtain ⟨p4, p5, p6⟩ := hvb 1 (by omega)
  obtain ⟨l1, l2, l3⟩ := hL
  have ta : x1.toInt = L.1 := by rw [ex1, nm_i2l, ha]
  have tb : x4.toInt = L.2.1 := by rw [ex4, nm_i2l, hb9]
  have tc : x8.toInt = L.2.2 := by rw [ex8, nm_i2l, hc9]
  have q1 : (fv 0).toInt.natAbs ≤ 24021 := by omega
  have q2 : (fv 1).toInt.natAbs ≤ 24021 := by omega
  have q3 : (gv 0).toInt.natAbs ≤ 24021 := by omega
  have q4 : (gv 1).toInt.natAbs ≤ 24021 := by omega
  have z1 := nm_mulb l1 q1
  have tx2 : x2.toInt = L.1 * (fv 0).toInt := by rw [ex2, nm_lmul (by rw [ta, eux]; omega), ta, eux]
  have z2 := nm_mulb z1 q4
  have tx3 : x3.toInt = L.1 * (fv 0).toInt * (gv 1).toInt := by rw [ex3, nm_lmul (by rw [tx2, egy]; omega), tx2, egy]
  have z3 := nm_mulb l2 q2
  have tx5 : x5.toInt = L.2.1 * (fv 1).toInt := by rw [ex5, nm_lmul (by rw [tb, euy]; omega), tb, euy]
  have z4 := nm_mulb z3 q3
  have tx6 : x6.toInt = L.2.1 * (fv 1).toInt * (gv 0).toInt := by rw [ex6, nm_lmul (by rw [tx5, egx]; omega), tx5, egx]
  have tx7 : x7.toInt = L.1 * (fv 0).toInt * (gv 1).toInt + L.2.1 * (fv 1).toInt * (gv 0).toInt := by rw [ex7, nm_ladd (by rw [tx3, tx6]; omega), tx3, tx6]
  have z5 := nm_mulb l3 q3
  have tx9 : x9.toInt = L.2.2 * (gv 0).toInt := by rw [ex9, nm_lmul (by rw [tc, egx]; omega), tc, egx]
  have z6 := nm_mulb z5 q4
  have tx10 : x10.toInt = L.2.2 * (gv 0).toInt * (gv 1).toInt := by rw [ex10, nm_lmul (by rw [tx9, egy]; omega), tx9, egy]
  have tx11 : x11.toInt = L.1 * (fv 0).toInt * (gv 1).toInt + L.2.1 * (fv 1).toInt * (gv 0).toInt + L.2.2 * (gv 0).toInt * (gv 1).toInt := by rw [ex11, nm_ladd (by rw [tx7, tx10]; omega), tx7, tx10]
  obtain ⟨r0, r1, r2⟩ := at_sum p1 p4 tx11
  have h00 : (0 : Int64).toInt = 0 := rfl
  rcases (show op = 0 ∨ op = 1 ∨ op = 2 by omega) with rfl | rfl | rfl
  · skip
    refine lv_lookup (off := 26) (tgt := 88) hx hb d_At_isTrueAt_62 (by decide) (by decide) (by decide) ?_
    refine lv_lload hx hb d_At_isTrueAt_88 (lv_at hl 0 rfl) ?_
    refine lv_lconst (v := 0) hx hb d_At_isTrueAt_90 (by decide) ?_
    refine W.lcmp hx hb d_At_isTrueAt_91 ?_
    refine lv_if_ne (tgt := 99) hx hb d_At_isTrueAt_92 (by decide) (fun c_l => ?_) (fun c_l => ?_)
    · skip
      first | rw [lg_cmp_eq] at c_l | rw [ne_eq, lg_cmp_eq] at c_l | simp only [ne_eq, lg_cmp_eq, not_not, Decidable.not_not] at c_l
      refine lv_iconst (v := 0) hx hb d_At_isTrueAt_99 (by decide) ?_
      refine hw_retz hx hb hr rfl hlocks hW hS ⟨Or.inr ⟨rfl, ?_⟩, rfl⟩ d_At_isTrueAt_100
      unfold qm_atom vX vY; rw [if_pos rfl]
      rw [nm_leq, h00] at c_l
      exact fun q => absurd (r0.mp q) (by omega)
    · skip
      first | rw [lg_cmp_eq] at c_l | rw [ne_eq, lg_cmp_eq] at c_l | simp only [ne_eq, lg_cmp_eq, not_not, Decidable.not_not] at c_l
      refine lv_iconst (v := 1) hx hb d_At_isTrueAt_95 (by decide) ?_
      refine lv_goto (tgt := 100) hx hb d_At_isTrueAt_96 (by decide) ?_
      refine hw_retz hx hb hr rfl hlocks hW hS ⟨Or.inl ⟨rfl, ?_⟩, rfl⟩ d_At_isTrueAt_100
      unfold qm_atom vX vY; rw [if_pos rfl]
      rw [nm_leq, h00] at c_l
      exact r0.mpr (by omega)
  · skip
    refine lv_lookup (off := 39) (tgt := 101) hx hb d_At_isTrueAt_62 (by decide) (by decide) (by decide) ?_
    refine lv_lload hx hb d_At_isTrueAt_101 (lv_at hl 0 rfl) ?_
    refine lv_lconst (v := 0) hx hb d_At_isTrueAt_103 (by decide) ?_
    refine W.lcmp hx hb d_At_isTrueAt_104 ?_
    refine lv_if_ge (tgt := 112) hx hb d_At_isTrueAt_105 (by decide) (fun c_l => ?_) (fun c_l => ?_)
    · skip
      rw [lg_cmp_ge] at c_l
      refine lv_iconst (v := 0) hx hb d_At_isTrueAt_112 (by decide) ?_
      refine hw_retz hx hb hr rfl hlocks hW hS ⟨Or.inr ⟨rfl, ?_⟩, rfl⟩ d_At_isTrueAt_113
      unfold qm_atom vX vY; rw [if_neg (by decide), if_pos rfl]
      rw [nm_lle, h00] at c_l
      exact fun q => absurd (r1.mp q) (by omega)
    · skip
      rw [lg_cmp_ge] at c_l
      refine lv_iconst (v := 1) hx hb d_At_isTrueAt_108 (by decide) ?_
      refine lv_goto (tgt := 113) hx hb d_At_isTrueAt_109 (by decide) ?_
      refine hw_retz hx hb hr rfl hlocks hW hS ⟨Or.inl ⟨rfl, ?_⟩, rfl⟩ d_At_isTrueAt_113
      unfold qm_atom vX vY; rw [if_neg (by decide), if_pos rfl]
      rw [nm_lle, h00] at c_l
      exact r1.mpr (by omega)
  · skip
    refine lv_lookup (off := 52) (tgt := 114) hx hb d_At_isTrueAt_62 (by decide) (by decide) (by decide) ?_
    refine lv_lload hx hb d_At_isTrueAt_114 (lv_at hl 0 rfl) ?_
    refine lv_lconst (v := 0) hx hb d_At_isTrueAt_116 (by decide) ?_
    refine W.lcmp hx hb d_At_isTrueAt_117 ?_
    refine lv_if_gt (tgt := 125) hx hb d_At_isTrueAt_118 (by decide) (fun c_l => ?_) (fun c_l => ?_)
    · skip
      rw [lg_cmp_gt] at c_l
      refine lv_iconst (v := 0) hx hb d_At_isTrueAt_125 (by decide) ?_
      refine hw_retz hx hb hr rfl hlocks hW hS ⟨Or.inr ⟨rfl, ?_⟩, rfl⟩ d_At_isTrueAt_126
      unfold qm_atom vX vY; rw [if_neg (by decide), if_neg (by decide)]
      rw [nm_llt, h00] at c_l
      exact fun q => absurd (r2.mp q) (by omega)
    · skip
      rw [lg_cmp_gt] at c_l
      refine lv_iconst (v := 1) hx hb d_At_isTrueAt_121 (by decide) ?_
      refine lv_goto (tgt := 126) hx hb d_At_isTrueAt_122 (by decide) ?_
      refine hw_retz hx hb hr rfl hlocks hW hS ⟨Or.inl ⟨rfl, ?_⟩, rfl⟩ d_At_isTrueAt_126
      unfold qm_atom vX vY; rw [if_neg (by decide), if_neg (by decide)]
      rw [nm_llt, h00] at c_l
      exact r2.mpr (by omega)
end G20

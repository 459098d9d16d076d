/-! Marks.moveTo: a stop's fraction lies where the stop says; Values.putWhole, marksFor -/
theorem mo_even {f g : Nat → Int64} {n k : Nat} {x : Rat} (hi : qm_inc (mk_v f g) n) (hk : k ≤ n) (h1 : 0 < k → mk_v f g (k - 1) < x) (h2 : k < n → x < mk_v f g k) : qi_at (mk_v f g) n (2 * k) x := by
  refine Or.inr ⟨k, hk, rfl, fun j hj => ?_, fun j hj hn => ?_⟩
  · have a := h1 (by omega)
    rcases Nat.lt_or_ge j (k - 1) with c | c
    · have := hi j (k - 1) c (by omega)
      grind
    · rw [show j = k - 1 by omega]; exact a
  · have a := h2 (by omega)
    rcases Nat.lt_or_ge k j with c | c
    · have := hi k j c hn
      grind
    · rw [show j = k by omega]; exact a
theorem mo_dn {u d : Int} (hd : 0 < d) : qm_fr (u - d) d < qm_fr u d := by
  rw [qm_fr_lt hd hd, Int.sub_mul]
  have := Int.mul_pos hd hd
  omega
theorem mo_up {u d : Int} (hd : 0 < d) : qm_fr u d < qm_fr (u + d) d := by
  rw [qm_fr_lt hd hd, Int.add_mul]
  have := Int.mul_pos hd hd
  omega
theorem mo_mid {u d v e : Int} (hd : 0 < d) (he : 0 < e) (h : qm_fr u d < qm_fr v e) : qm_fr u d < qm_fr (u + v) (d + e) ∧ qm_fr (u + v) (d + e) < qm_fr v e := by
  rw [qm_fr_lt hd he] at h
  have hs : 0 < d + e := by omega
  refine ⟨(qm_fr_lt hd hs).mpr ?_, (qm_fr_lt hs he).mpr ?_⟩
  · rw [Int.mul_add, Int.add_mul]; omega
  · rw [Int.mul_add, Int.add_mul]; omega
def mo_P (f g : Nat → Int64) (n B st : Nat) (x y : Int64) : Prop := 0 < y.toInt ∧ y.toInt ≤ 2 * B + 1 ∧ x.toInt.natAbs ≤ 2 * B ∧ qi_at (mk_v f g) n st (qm_fr x.toInt y.toInt)
section G18
variable (l : Launch) (D : va_G) (cI cJ cZ cN : ClassId)
set_option maxHeartbeats 4000000 in
set_option maxRecDepth 100000 in
theorem c_Mk_moveTo (h0 ma mb n B sz st j v va vb om im : Nat) (f g fv gv : Nat → Int64) (M : Nat → Option va_E) (hM : mk_S cJ M h0 ma mb n f g) (hn : n ≤ 21) (hro : mk_row f g n B) (hB : B ≤ 1000000) (hst : st < 2 * n + 1) (hj : j < 2) (hV : vs_S cJ M v va vb om im fv gv) (hne : va ≠ vb) : Met l y_Mk_moveTo (.code y_Mk_moveTo b_Mk_moveTo 5 none :: ww) ({ frames := 1, cells := 0, slots := 0, locals := 30 }) (hw_Pc D qcl (qty cI cJ cZ cN) [.ref h0, .int (nI st), .int (nI j), .ref v] M sz) (va_Qv (fun M1 => ∃ x y : Int64, M1 = va_up (va_up M va (some (.inl (cJ, 2, .inr (.inl (vp_updL fv j x)))))) vb (some (.inl (cJ, 2, .inr (.inl (vp_updL gv j y))))) ∧ mo_P f g n B st x y) (hw_B D qcl (qty cI cJ cZ cN) M sz) (hw_A M sz)) 0 0 (hw_A M sz) := by
  obtain ⟨hk, hfa, hgb⟩ := hM
  refine hw_met (by decide) (Nat.le_of_ble_eq_true rfl) ?_
  intro p e s m below meth c hx hb hr hml hown hlocks hnm hts hsz hX hW ls hl
  subst hsz
  have hA : ∀ q, s.heap.size ≤ q → hw_A M s.heap.size q := fun q h => Or.inr h
  have hS : va_S (hw_A M s.heap.size) s.heap s.heap [] := va_S.rf
  have hl : lv_has ls 5 [(0, .ref h0), (1, .int (nI st)), (2, .int (nI j)), (3, .ref v)] := hl
  have hown : s.vm.findClass "QuantifierOut$Marks" = some m.cls := hown
  obtain ⟨Q9, hQ9⟩ : ∃ X : State → Prop, X = MQ below (va_Qv (fun M1 => ∃ x y : Int64, M1 = va_up (va_up M va (some (.inl (cJ, 2, .inr (.inl (vp_updL fv j x)))))) vb (some (.inl (cJ, 2, .inr (.inl (vp_updL gv j y))))) ∧ mo_P f g n B st x y) (hw_B D qcl (qty cI cJ cZ cN) M s.heap.size) (hw_A M s.heap.size)) [.ref h0, .int (nI st), .int (nI j), .ref v].toArray s 0 0 (hw_A M s.heap.size) := ⟨_, rfl⟩
  rw [← hQ9]
  refine lv_iload_n hx hb d_Mk_moveTo_0 rfl (lv_at hl 1 rfl) ?_
  refine lv_iconst (v := 2) hx hb d_Mk_moveTo_1 (by decide) ?_
  refine lv_idiv hx hb d_Mk_moveTo_2 (by decide) ?_
  refine lv_topi (fun nx enx => ?_)
  have enx2 : nx = nI (st / 2) := by rw [enx, show (2 : Int32) = nI 2 from rfl, pk_div (by omega) (by omega) (by omega)]
  subst enx2
  refine lv_istore (lv' := [(4, .int (nI (st / 2))), (0, .ref h0), (1, .int (nI st)), (2, .int (nI j)), (3, .ref v)]) hx hb d_Mk_moveTo_3 hl (by decide) rfl (fun ls hl => ?_)
  refine lv_aload_n hx hb d_Mk_moveTo_5 rfl (lv_at hl 1 rfl) ?_
  refine hw_get (own := "QuantifierOut$Marks") (v := .int (nI n)) hx hb hts i_Mk hown hW hk rfl 2 (by decide) (hts _ tw_43) (fun _ h9 => h9) rfl d_Mk_moveTo_6 ?_
  refine lv_if_ne (tgt := 22) hx hb d_Mk_moveTo_9 (by decide) (fun c_9 => ?_) (fun c_9 => ?_)
  · skip
    have hnp : 0 < n := by
      rcases Nat.eq_zero_or_pos n with q | q
      · exact absurd (by rw [q]; rfl) c_9
      · exact q
    refine lv_iload_n hx hb d_Mk_moveTo_22 rfl (lv_at hl 2 rfl) ?_
    refine lv_iconst (v := 2) hx hb d_Mk_moveTo_23 (by decide) ?_
    refine lv_irem hx hb d_Mk_moveTo_24 (by decide) ?_
    refine lv_topi (fun rm erm => ?_)
    have erm2 : rm = nI (st % 2) := by rw [erm, show (2 : Int32) = nI 2 from rfl]; exact pk_rem (by omega) (by omega) (by omega)
    refine lv_iconst (v := 1) hx hb d_Mk_moveTo_25 (by decide) ?_
    have rest : st % 2 = 0 → W p l e ({ frames := 1, cells := 0, slots := 0, locals := 30 }) s m [.ref h0, .int (nI st), .int (nI j), .ref v].toArray below meth c s.heap [] 0 0 Q9 (F0 m 60 ls []) := by
      intro hev
      obtain ⟨k, hk2⟩ : ∃ k, st = 2 * k := ⟨st / 2, by omega⟩
      have hdv : st / 2 = k := by omega
      rw [hdv] at hl
      refine lv_iload hx hb d_Mk_moveTo_60 (lv_at hl 0 rfl) ?_
      refine lv_if_ne (tgt := 92) hx hb d_Mk_moveTo_62 (by decide) (fun c_62 => ?_) (fun c_62 => ?_)
      · skip
        have hkp : 0 < k := by
          rcases Nat.eq_zero_or_pos k with q | q
          · exact absurd (by rw [q]; rfl) c_62
          · exact q
        refine lv_iload hx hb d_Mk_moveTo_92 (lv_at hl 0 rfl) ?_
        refine lv_aload_n hx hb d_Mk_moveTo_94 rfl (lv_at hl 1 rfl) ?_
        refine hw_get (own := "QuantifierOut$Marks") (v := .int (nI n)) hx hb hts i_Mk hown hW hk rfl 2 (by decide) (hts _ tw_43) (fun _ h9 => h9) rfl d_Mk_moveTo_95 ?_
        refine lv_icmp_lt (tgt := 143) hx hb d_Mk_moveTo_98 (by decide) (fun c_98 => ?_) (fun c_98 => ?_)
        · skip
          have hkn : k < n := (nI_ltI (by omega) (by omega)).mp c_98
          refine lv_aload_n hx hb d_Mk_moveTo_143 rfl (lv_at hl 4 rfl) ?_
          refine lv_iload_n hx hb d_Mk_moveTo_144 rfl (lv_at hl 3 rfl) ?_
          refine lv_aload_n hx hb d_Mk_moveTo_145 rfl (lv_at hl 1 rfl) ?_
          refine hw_get (own := "QuantifierOut$Marks") (v := .ref ma) hx hb hts i_Mk hown hW hk rfl 0 (by decide) (hts _ tw_41) (fun _ h9 => h9) rfl d_Mk_moveTo_146 ?_
          refine lv_iload hx hb d_Mk_moveTo_149 (lv_at hl 0 rfl) ?_
          refine lv_iconst (v := 1) hx hb d_Mk_moveTo_151 (by decide) ?_
          refine lv_isub hx hb d_Mk_moveTo_152 ?_
          refine lv_topi (fun x1 ex1 => ?_)
          refine hw_lld hx hb hW 1 hfa rfl (k - 1) (by rw [ex1, show k = k - 1 + 1 by omega]; exact nI_pred (k - 1)) (by omega) (by decide) d_Mk_moveTo_153 ?_
          refine lv_topl (fun fa efa => ?_)
          refine lv_aload_n hx hb d_Mk_moveTo_154 rfl (lv_at hl 1 rfl) ?_
          refine hw_get (own := "QuantifierOut$Marks") (v := .ref ma) hx hb hts i_Mk hown hW hk rfl 0 (by decide) (hts _ tw_41) (fun _ h9 => h9) rfl d_Mk_moveTo_155 ?_
          refine lv_iload hx hb d_Mk_moveTo_158 (lv_at hl 0 rfl) ?_
          refine hw_lld hx hb hW 1 hfa rfl k rfl (by omega) (by decide) d_Mk_moveTo_160 ?_
          refine lv_topl (fun fb efb => ?_)
          refine lv_ladd hx hb d_Mk_moveTo_161 ?_
          refine lv_topl (fun x2 ex2 => ?_)
          refine lv_aload_n hx hb d_Mk_moveTo_162 rfl (lv_at hl 1 rfl) ?_
          refine hw_get (own := "QuantifierOut$Marks") (v := .ref mb) hx hb hts i_Mk hown hW hk rfl 1 (by decide) (hts _ tw_42) (fun _ h9 => h9) rfl d_Mk_moveTo_163 ?_
          refine lv_iload hx hb d_Mk_moveTo_166 (lv_at hl 0 rfl) ?_
          refine lv_iconst (v := 1) hx hb d_Mk_moveTo_168 (by decide) ?_
          refine lv_isub hx hb d_Mk_moveTo_169 ?_
          refine lv_topi (fun x3 ex3 => ?_)
          refine hw_lld hx hb hW 1 hgb rfl (k - 1) (by rw [ex3, show k = k - 1 + 1 by omega]; exact nI_pred (k - 1)) (by omega) (by decide) d_Mk_moveTo_170 ?_
          refine lv_topl (fun ga ega => ?_)
          refine lv_aload_n hx hb d_Mk_moveTo_171 rfl (lv_at hl 1 rfl) ?_
          refine hw_get (own := "QuantifierOut$Marks") (v := .ref mb) hx hb hts i_Mk hown hW hk rfl 1 (by decide) (hts _ tw_42) (fun _ h9 => h9) rfl d_Mk_moveTo_172 ?_
          refine lv_iload hx hb d_Mk_moveTo_175 (lv_at hl 0 rfl) ?_
          refine hw_lld hx hb hW 1 hgb rfl k rfl (by omega) (by decide) d_Mk_moveTo_177 ?_
          refine lv_topl (fun gb egb => ?_)
          refine lv_ladd hx hb d_Mk_moveTo_178 ?_
          refine lv_topl (fun x4 ex4 => ?_)
          refine hw_callv (hw_runV (n := 3) (own := "QuantifierOut$Marks") (As := [.int (nI j), .long x2, .long x4]) (rest := []) hx hb hml hown hts hX hW hl.1 (c_Vs_put l D cI cJ cZ cN v va vb om im _ j fv gv (nI j) x2 x4 M hV.1 hV.2.1 hV.2.2 hne rfl hj) hV.1 rfl tw_496 tw_448 tw_449 tw_2 tw_450 (by decide +kernel) rfl rfl ⟨by decide, by decide⟩ rfl rfl (Nat.le_of_ble_eq_true rfl) d_Mk_moveTo_179 ⟨by decide, by decide⟩) hW hS hA (fun M1 H locs hp hz hW hS => ?_)
          rw [hQ9]
          refine hw_retv hx hb hr hlocks hW hS ⟨x2, x4, hp, ?_⟩ d_Mk_moveTo_182
          obtain ⟨b1, b2, b3⟩ := hro.1 (k - 1) (by omega)
          obtain ⟨c1, c2, c3⟩ := hro.1 k hkn
          have tx : x2.toInt = (f (k - 1)).toInt + (f k).toInt := by rw [ex2, nm_ladd (by rw [efa, efb]; omega), efa, efb]
          have ty : x4.toInt = (g (k - 1)).toInt + (g k).toInt := by rw [ex4, nm_ladd (by rw [ega, egb]; omega), ega, egb]
          refine ⟨by rw [ty]; omega, by rw [ty]; omega, by rw [tx]; omega, ?_⟩
          rw [hk2, tx, ty]
          have hm := mo_mid b1 c1 (hro.2 (k - 1) k (by omega) hkn)
          exact mo_even hro.2 (Nat.le_of_lt hkn) (fun _ => hm.1) (fun _ => hm.2)
        · skip
          have hkn : k = n := by
            rcases Nat.lt_or_ge k n with q | q
            · exact absurd ((nI_ltI (by omega) (by omega)).mpr q) c_98
            · omega
          refine lv_aload_n hx hb d_Mk_moveTo_101 rfl (lv_at hl 4 rfl) ?_
          refine lv_iload_n hx hb d_Mk_moveTo_102 rfl (lv_at hl 3 rfl) ?_
          refine lv_aload_n hx hb d_Mk_moveTo_103 rfl (lv_at hl 1 rfl) ?_
          refine hw_get (own := "QuantifierOut$Marks") (v := .ref ma) hx hb hts i_Mk hown hW hk rfl 0 (by decide) (hts _ tw_41) (fun _ h9 => h9) rfl d_Mk_moveTo_104 ?_
          refine lv_aload_n hx hb d_Mk_moveTo_107 rfl (lv_at hl 1 rfl) ?_
          refine hw_get (own := "QuantifierOut$Marks") (v := .int (nI n)) hx hb hts i_Mk hown hW hk rfl 2 (by decide) (hts _ tw_43) (fun _ h9 => h9) rfl d_Mk_moveTo_108 ?_
          refine lv_iconst (v := 1) hx hb d_Mk_moveTo_111 (by decide) ?_
          refine lv_isub hx hb d_Mk_moveTo_112 ?_
          refine lv_topi (fun x5 ex5 => ?_)
          refine hw_lld hx hb hW 1 hfa rfl (n - 1) (by rw [ex5, show n = n - 1 + 1 by omega]; exact nI_pred (n - 1)) (by omega) (by decide) d_Mk_moveTo_113 ?_
          refine lv_topl (fun fa efa => ?_)
          refine lv_aload_n hx hb d_Mk_moveTo_114 rfl (lv_at hl 1 rfl) ?_
          refine hw_get (own := "QuantifierOut$Marks") (v := .ref mb) hx hb hts i_Mk hown hW hk rfl 1 (by decide) (hts _ tw_42) (fun _ h9 => h9) rfl d_Mk_moveTo_115 ?_
          refine lv_aload_n hx hb d_Mk_moveTo_118 rfl (lv_at hl 1 rfl) ?_
          refine hw_get (own := "QuantifierOut$Marks") (v := .int (nI n)) hx hb hts i_Mk hown hW hk rfl 2 (by decide) (hts _ tw_43) (fun _ h9 => h9) rfl d_Mk_moveTo_119 ?_
          refine lv_iconst (v := 1) hx hb d_Mk_moveTo_122 (by decide) ?_
          refine lv_isub hx hb d_Mk_moveTo_123 ?_
          refine lv_topi (fun x6 ex6 => ?_)
          refine hw_lld hx hb hW 1 hgb rfl (n - 1) (by rw [ex6, show n = n - 1 + 1 by omega]; exact nI_pred (n - 1)) (by omega) (by decide) d_Mk_moveTo_124 ?_
          refine lv_topl (fun ga ega => ?_)
          refine lv_ladd hx hb d_Mk_moveTo_125 ?_
          refine lv_topl (fun x7 ex7 => ?_)
          refine lv_aload_n hx hb d_Mk_moveTo_126 rfl (lv_at hl 1 rfl) ?_
          refine hw_get (own := "QuantifierOut$Marks") (v := .ref mb) hx hb hts i_Mk hown hW hk rfl 1 (by decide) (hts _ tw_42) (fun _ h9 => h9) rfl d_Mk_moveTo_127 ?_
          refine lv_aload_n hx hb d_Mk_moveTo_130 rfl (lv_at hl 1 rfl) ?_
          refine hw_get (own := "QuantifierOut$Marks") (v := .int (nI n)) hx hb hts i_Mk hown hW hk rfl 2 (by decide) (hts _ tw_43) (fun _ h9 => h9) rfl d_Mk_moveTo_131 ?_
          refine lv_iconst (v := 1) hx hb d_Mk_moveTo_134 (by decide) ?_
          refine lv_isub hx hb d_Mk_moveTo_135 ?_
          refine lv_topi (fun x8 ex8 => ?_)
          refine hw_lld hx hb hW 1 hgb rfl (n - 1) (by rw [ex8, show n = n - 1 + 1 by omega]; exact nI_pred (n - 1)) (by omega) (by decide) d_Mk_moveTo_136 ?_
          refine lv_topl (fun gb egb => ?_)
          refine hw_callv (hw_runV (n := 3) (own := "QuantifierOut$Marks") (As := [.int (nI j), .long x7, .long gb]) (rest := []) hx hb hml hown hts hX hW hl.1 (c_Vs_put l D cI cJ cZ cN v va vb om im _ j fv gv (nI j) x7 gb M hV.1 hV.2.1 hV.2.2 hne rfl hj) hV.1 rfl tw_496 tw_448 tw_449 tw_2 tw_450 (by decide +kernel) rfl rfl ⟨by decide, by decide⟩ rfl rfl (Nat.le_of_ble_eq_true rfl) d_Mk_moveTo_137 ⟨by decide, by decide⟩) hW hS hA (fun M1 H locs hp hz hW hS => ?_)
          refine lv_goto (tgt := 182) hx hb d_Mk_moveTo_140 (by decide) ?_
          rw [hQ9]
          refine hw_retv hx hb hr hlocks hW hS ⟨x7, gb, hp, ?_⟩ d_Mk_moveTo_182
          obtain ⟨b1, b2, b3⟩ := hro.1 (n - 1) (by omega)
          have tx : x7.toInt = (f (n - 1)).toInt + (g (n - 1)).toInt := by rw [ex7, nm_ladd (by rw [efa, ega]; omega), efa, ega]
          have ty : gb.toInt = (g (n - 1)).toInt := by rw [egb]
          refine ⟨by rw [ty]; exact b1, by rw [ty]; omega, by rw [tx]; omega, ?_⟩
          rw [hk2, hkn, tx, ty]
          exact mo_even hro.2 (Nat.le_refl n) (fun _ => mo_up b1) (fun h => absurd h (Nat.lt_irrefl n))
      · skip
        have hk0 : k = 0 := by
          rcases Nat.eq_zero_or_pos k with q | q
          · exact q
          · exact absurd c_62 (nI_ne0 q (by omega))
        refine lv_aload_n hx hb d_Mk_moveTo_65 rfl (lv_at hl 4 rfl) ?_
        refine lv_iload_n hx hb d_Mk_moveTo_66 rfl (lv_at hl 3 rfl) ?_
        refine lv_aload_n hx hb d_Mk_moveTo_67 rfl (lv_at hl 1 rfl) ?_
        refine hw_get (own := "QuantifierOut$Marks") (v := .ref ma) hx hb hts i_Mk hown hW hk rfl 0 (by decide) (hts _ tw_41) (fun _ h9 => h9) rfl d_Mk_moveTo_68 ?_
        refine lv_iconst (v := 0) hx hb d_Mk_moveTo_71 (by decide) ?_
        refine hw_lld hx hb hW 1 hfa rfl 0 rfl (by omega) (by decide) d_Mk_moveTo_72 ?_
        refine lv_topl (fun f0 ef0 => ?_)
        refine lv_aload_n hx hb d_Mk_moveTo_73 rfl (lv_at hl 1 rfl) ?_
        refine hw_get (own := "QuantifierOut$Marks") (v := .ref mb) hx hb hts i_Mk hown hW hk rfl 1 (by decide) (hts _ tw_42) (fun _ h9 => h9) rfl d_Mk_moveTo_74 ?_
        refine lv_iconst (v := 0) hx hb d_Mk_moveTo_77 (by decide) ?_
        refine hw_lld hx hb hW 1 hgb rfl 0 rfl (by omega) (by decide) d_Mk_moveTo_78 ?_
        refine lv_topl (fun g0 eg0 => ?_)
        refine lv_lsub hx hb d_Mk_moveTo_79 ?_
        refine lv_topl (fun x9 ex9 => ?_)
        refine lv_aload_n hx hb d_Mk_moveTo_80 rfl (lv_at hl 1 rfl) ?_
        refine hw_get (own := "QuantifierOut$Marks") (v := .ref mb) hx hb hts i_Mk hown hW hk rfl 1 (by decide) (hts _ tw_42) (fun _ h9 => h9) rfl d_Mk_moveTo_81 ?_
        refine lv_iconst (v := 0) hx hb d_Mk_moveTo_84 (by decide) ?_
        refine hw_lld hx hb hW 1 hgb rfl 0 rfl (by omega) (by decide) d_Mk_moveTo_85 ?_
        refine lv_topl (fun g1 eg1 => ?_)
        refine hw_callv (hw_runV (n := 3) (own := "QuantifierOut$Marks") (As := [.int (nI j), .long x9, .long g1]) (rest := []) hx hb hml hown hts hX hW hl.1 (c_Vs_put l D cI cJ cZ cN v va vb om im _ j fv gv (nI j) x9 g1 M hV.1 hV.2.1 hV.2.2 hne rfl hj) hV.1 rfl tw_496 tw_448 tw_449 tw_2 tw_450 (by decide +kernel) rfl rfl ⟨by decide, by decide⟩ rfl rfl (Nat.le_of_ble_eq_true rfl) d_Mk_moveTo_86 ⟨by decide, by decide⟩) hW hS hA (fun M1 H locs hp hz hW hS => ?_)
        refine lv_goto (tgt := 182) hx hb d_Mk_moveTo_89 (by decide) ?_
        rw [hQ9]
        refine hw_retv hx hb hr hlocks hW hS ⟨x9, g1, hp, ?_⟩ d_Mk_moveTo_182
        obtain ⟨b1, b2, b3⟩ := hro.1 0 hnp
        have tx : x9.toInt = (f 0).toInt - (g 0).toInt := by rw [ex9, nm_lsub (by rw [ef0, eg0]; omega), ef0, eg0]
        have ty : g1.toInt = (g 0).toInt := by rw [eg1]
        refine ⟨by rw [ty]; exact b1, by rw [ty]; omega, by rw [tx]; omega, ?_⟩
        rw [hk2, hk0, tx, ty]
        exact mo_even hro.2 (Nat.zero_le n) (fun h => absurd h (Nat.lt_irrefl 0)) (fun _ => mo_dn b1)
    refine lv_icmp_ne (tgt := 60) hx hb d_Mk_moveTo_26 (by decide) (fun c_26 => ?_) (fun c_26 => ?_)
    · skip
      exact rest (by
        rcases Nat.mod_two_eq_zero_or_one st with q | q
        · exact q
        · exact absurd (by rw [erm2, q]; rfl) c_26)
    · skip
      have hod : st % 2 = 1 := by
        rcases Nat.mod_two_eq_zero_or_one st with q | q
        · rw [erm2, q] at c_26; exact absurd c_26 (by decide)
        · exact q
      refine lv_iload hx hb d_Mk_moveTo_29 (lv_at hl 0 rfl) ?_
      refine lv_aload_n hx hb d_Mk_moveTo_31 rfl (lv_at hl 1 rfl) ?_
      refine hw_get (own := "QuantifierOut$Marks") (v := .int (nI n)) hx hb hts i_Mk hown hW hk rfl 2 (by decide) (hts _ tw_43) (fun _ h9 => h9) rfl d_Mk_moveTo_32 ?_
      refine lv_icmp_ge (tgt := 60) hx hb d_Mk_moveTo_35 (by decide) (fun c_35 => ?_) (fun c_35 => ?_)
      · skip
        exact absurd ((nI_leI (by omega) (by omega)).mp c_35) (by omega)
      · skip
        refine lv_aload_n hx hb d_Mk_moveTo_38 rfl (lv_at hl 4 rfl) ?_
        refine lv_iload_n hx hb d_Mk_moveTo_39 rfl (lv_at hl 3 rfl) ?_
        refine lv_aload_n hx hb d_Mk_moveTo_40 rfl (lv_at hl 1 rfl) ?_
        refine hw_get (own := "QuantifierOut$Marks") (v := .ref ma) hx hb hts i_Mk hown hW hk rfl 0 (by decide) (hts _ tw_41) (fun _ h9 => h9) rfl d_Mk_moveTo_41 ?_
        refine lv_iload hx hb d_Mk_moveTo_44 (lv_at hl 0 rfl) ?_
        refine hw_lld hx hb hW 1 hfa rfl (st / 2) rfl (by omega) (by decide) d_Mk_moveTo_46 ?_
        refine lv_topl (fun fa efa => ?_)
        refine lv_aload_n hx hb d_Mk_moveTo_47 rfl (lv_at hl 1 rfl) ?_
        refine hw_get (own := "QuantifierOut$Marks") (v := .ref mb) hx hb hts i_Mk hown hW hk rfl 1 (by decide) (hts _ tw_42) (fun _ h9 => h9) rfl d_Mk_moveTo_48 ?_
        refine lv_iload hx hb d_Mk_moveTo_51 (lv_at hl 0 rfl) ?_
        refine hw_lld hx hb hW 1 hgb rfl (st / 2) rfl (by omega) (by decide) d_Mk_moveTo_53 ?_
        refine lv_topl (fun ga ega => ?_)
        refine hw_callv (hw_runV (n := 3) (own := "QuantifierOut$Marks") (As := [.int (nI j), .long fa, .long ga]) (rest := []) hx hb hml hown hts hX hW hl.1 (c_Vs_put l D cI cJ cZ cN v va vb om im _ j fv gv (nI j) fa ga M hV.1 hV.2.1 hV.2.2 hne rfl hj) hV.1 rfl tw_496 tw_448 tw_449 tw_2 tw_450 (by decide +kernel) rfl rfl ⟨by decide, by decide⟩ rfl rfl (Nat.le_of_ble_eq_true rfl) d_Mk_moveTo_54 ⟨by decide, by decide⟩) hW hS hA (fun M1 H locs hp hz hW hS => ?_)
        refine lv_goto (tgt := 182) hx hb d_Mk_moveTo_57 (by decide) ?_
        rw [hQ9]
        refine hw_retv hx hb hr hlocks hW hS ⟨fa, ga, hp, ?_⟩ d_Mk_moveTo_182
        obtain ⟨b1, b2, b3⟩ := hro.1 (st / 2) (by omega)
        refine ⟨by rw [ega]; exact b1, by rw [ega]; omega, by rw [efa]; omega, ?_⟩
        rw [efa, ega]
        have h := qi_mk (M := mk_v f g) (n := n) (i := st / 2) (by omega)
        rw [show 2 * (st / 2) + 1 = st by omega] at h
        exact h
  · skip
    have hn0 : n = 0 := by
      rcases Nat.eq_zero_or_pos n with q | q
      · exact q
      · exact absurd c_9 (nI_ne0 q (by omega))
    refine lv_aload_n hx hb d_Mk_moveTo_12 rfl (lv_at hl 4 rfl) ?_
    refine lv_iload_n hx hb d_Mk_moveTo_13 rfl (lv_at hl 3 rfl) ?_
    refine lv_lconst (v := 0) hx hb d_Mk_moveTo_14 (by decide) ?_
    refine lv_lconst (v := 1) hx hb d_Mk_moveTo_15 (by decide) ?_
    refine hw_callv (hw_runV (n := 3) (own := "QuantifierOut$Marks") (As := [.int (nI j), .long 0, .long 1]) (rest := []) hx hb hml hown hts hX hW hl.1 (c_Vs_put l D cI cJ cZ cN v va vb om im _ j fv gv (nI j) 0 1 M hV.1 hV.2.1 hV.2.2 hne rfl hj) hV.1 rfl tw_496 tw_448 tw_449 tw_2 tw_450 (by decide +kernel) rfl rfl ⟨by decide, by decide⟩ rfl rfl (Nat.le_of_ble_eq_true rfl) d_Mk_moveTo_16 ⟨by decide, by decide⟩) hW hS hA (fun M1 H locs hp hz hW hS => ?_)
    refine lv_goto (tgt := 182) hx hb d_Mk_moveTo_19 (by decide) ?_
    rw [hQ9]
    refine hw_retv hx hb hr hlocks hW hS ⟨0, 1, hp, ?_⟩ d_Mk_moveTo_182
    have h1 : (1 : Int64).toInt = 1 := rfl
    have h00 : (0 : Int64).toInt = 0 := rfl
    refine ⟨by rw [h1]; omega, by rw [h1]; omega, by rw [h00]; omega, Or.inr ⟨0, by omega, by omega, fun j2 h => absurd h (Nat.not_lt_zero j2), fun j2 _ h => by omega⟩⟩
theorem va_up4 {M : Nat → Option va_E} {a b : Nat} {x y x2 y2 : Option va_E} (h : a ≠ b) : va_up (va_up (va_up (va_up M a x) b y) a x2) b y2 = va_up (va_up M a x2) b y2 := by
  funext q
  simp only [va_up]
  by_cases h1 : q = b <;> by_cases h2 : q = a <;> simp [h1, h2]
set_option maxHeartbeats 4000000 in
set_option maxRecDepth 100000 in
theorem c_Vs_putWhole (h0 va vb om im sz : Nat) (f g : Nat → Int64) (x y : Int32) (M : Nat → Option va_E) (hV : vs_S cJ M h0 va vb om im f g) (hne : va ≠ vb) : Met l y_Vs_putWhole (.code y_Vs_putWhole b_Vs_putWhole 3 none :: ww) ({ frames := 1, cells := 0, slots := 0, locals := 30 }) (hw_Pc D qcl (qty cI cJ cZ cN) [.ref h0, .int x, .int y] M sz) (va_Qv (fun M1 => M1 = va_up (va_up M va (some (.inl (cJ, 2, .inr (.inl (vp_updL (vp_updL f 0 x.toInt64) 1 y.toInt64)))))) vb (some (.inl (cJ, 2, .inr (.inl (vp_updL (vp_updL g 0 1) 1 1)))))) (hw_B D qcl (qty cI cJ cZ cN) M sz) (hw_A M sz)) 0 0 (hw_A M sz) := by
  refine hw_met (by decide) (Nat.le_of_ble_eq_true rfl) ?_
  intro p e s m below meth c hx hb hr hml hown hlocks hnm hts hsz hX hW ls hl
  subst hsz
  have hA : ∀ q, s.heap.size ≤ q → hw_A M s.heap.size q := fun q h => Or.inr h
  have hS : va_S (hw_A M s.heap.size) s.heap s.heap [] := va_S.rf
  have hl : lv_has ls 3 [(0, .ref h0), (1, .int x), (2, .int y)] := hl
  have hown : s.vm.findClass "QuantifierOut$Values" = some m.cls := hown
  refine lv_aload_n hx hb d_Vs_putWhole_0 rfl (lv_at hl 0 rfl) ?_
  refine lv_iconst (v := 0) hx hb d_Vs_putWhole_1 (by decide) ?_
  refine lv_iload_n hx hb d_Vs_putWhole_2 rfl (lv_at hl 1 rfl) ?_
  obtain ⟨x1, ex1⟩ : ∃ y9 : Int64, y9 = (x : Int32).toInt64 := ⟨_, rfl⟩
  refine lv_i2l (v := x1) hx hb d_Vs_putWhole_3 ex1.symm ?_
  refine lv_lconst (v := 1) hx hb d_Vs_putWhole_4 (by decide) ?_
  refine hw_callv (hw_runV (n := 3) (own := "QuantifierOut$Values") (As := [.int 0, .long x1, .long 1]) (rest := []) hx hb hml hown hts hX hW hl.1 (c_Vs_put l D cI cJ cZ cN h0 va vb om im _ 0 f g 0 x1 1 M hV.1 hV.2.1 hV.2.2 hne rfl (by omega)) hV.1 rfl tw_447 tw_448 tw_449 tw_2 tw_450 (by decide +kernel) rfl rfl ⟨by decide, by decide⟩ rfl rfl (Nat.le_of_ble_eq_true rfl) d_Vs_putWhole_5 ⟨by decide, by decide⟩) hW hS hA (fun M1 H locs hp hz hW hS => ?_)
  have n1 : h0 ≠ va := hw_ne hV.1 hV.2.1 (by simp)
  have n2 : h0 ≠ vb := hw_ne hV.1 hV.2.2 (by simp)
  have hV1 : vs_S cJ M1 h0 va vb om im (vp_updL f 0 x1) (vp_updL g 0 1) := by
    subst hp
    exact ⟨by rw [va_up_ne _ _ n2, va_up_ne _ _ n1]; exact hV.1, by rw [va_up_ne _ _ hne]; exact va_up_self _ _ _, va_up_self _ _ _⟩
  refine lv_aload_n hx hb d_Vs_putWhole_8 rfl (lv_at hl 0 rfl) ?_
  refine lv_iconst (v := 1) hx hb d_Vs_putWhole_9 (by decide) ?_
  refine lv_iload_n hx hb d_Vs_putWhole_10 rfl (lv_at hl 2 rfl) ?_
  obtain ⟨x2, ex2⟩ : ∃ y9 : Int64, y9 = (y : Int32).toInt64 := ⟨_, rfl⟩
  refine lv_i2l (v := x2) hx hb d_Vs_putWhole_11 ex2.symm ?_
  refine lv_lconst (v := 1) hx hb d_Vs_putWhole_12 (by decide) ?_
  refine hw_callv (hw_runV (n := 3) (own := "QuantifierOut$Values") (As := [.int 1, .long x2, .long 1]) (rest := []) hx hb hml hown hts hX hW hl.1 (c_Vs_put l D cI cJ cZ cN h0 va vb om im _ 1 (vp_updL f 0 x1) (vp_updL g 0 1) 1 x2 1 M1 hV1.1 hV1.2.1 hV1.2.2 hne rfl (by omega)) hV1.1 rfl tw_447 tw_448 tw_449 tw_2 tw_450 (by decide +kernel) rfl rfl ⟨by decide, by decide⟩ rfl rfl (Nat.le_of_ble_eq_true rfl) d_Vs_putWhole_13 ⟨by decide, by decide⟩) hW hS hA (fun M2 H locs hp2 hz hW hS => ?_)
  exact hw_retv hx hb hr hlocks hW hS (by rw [hp2, hp, va_up4 hne, ex1, ex2]) d_Vs_putWhole_16
set_option maxHeartbeats 4000000 in
set_option maxRecDepth 100000 in
theorem c_Vs_marksFor (h0 va vb om im sz dp : Nat) (M : Nat → Option va_E) (hV : M h0 = some (.inr (7, [.ref va, .ref vb, .ref om, .ref im]))) (hdp : dp < 1000) : Met l y_Vs_marksFor (.code y_Vs_marksFor b_Vs_marksFor 2 (some (.object "QuantifierOut$Marks")) :: ww) ({ frames := 0, cells := 0, slots := 0, locals := 0 }) (hw_Pc D qcl (qty cI cJ cZ cN) [.ref h0, .int (nI dp)] M sz) (va_Qq (fun r M1 => r = some (if dp < 2 then im else om) ∧ M1 = M) (hw_B D qcl (qty cI cJ cZ cN) M sz) (hw_A M sz)) 0 0 (hw_A M sz) := by
  refine hw_met (by decide) (Nat.le_of_ble_eq_true rfl) ?_
  intro p e s m below meth c hx hb hr hml hown hlocks hnm hts hsz hX hW ls hl
  subst hsz
  have hA : ∀ q, s.heap.size ≤ q → hw_A M s.heap.size q := fun q h => Or.inr h
  have hS : va_S (hw_A M s.heap.size) s.heap s.heap [] := va_S.rf
  have hl : lv_has ls 2 [(0, .ref h0), (1, .int (nI dp))] := hl
  have hown : s.vm.findClass "QuantifierOut$Values" = some m.cls := hown
  refine lv_iload_n hx hb d_Vs_marksFor_0 rfl (lv_at hl 1 rfl) ?_
  refine lv_iconst (v := 2) hx hb d_Vs_marksFor_1 (by decide) ?_
  refine lv_icmp_ge (tgt := 12) hx hb d_Vs_marksFor_2 (by decide) (fun c_2 => ?_) (fun c_2 => ?_)
  · skip
    refine lv_aload_n hx hb d_Vs_marksFor_12 rfl (lv_at hl 0 rfl) ?_
    refine hw_get (own := "QuantifierOut$Values") (v := .ref om) hx hb hts i_Vs hown hW hV rfl 2 (by decide) (hts _ tw_60) (fun _ h9 => h9) rfl d_Vs_marksFor_13 ?_
    have h9 : ¬ dp < 2 := fun q => absurd ((nI_leI (a := 2) (by omega) (by omega)).mp c_2) (by omega)
    exact hw_reta hx hb hr (Or.inl ⟨_, rfl⟩) hlocks hW hS ⟨by rw [if_neg h9], rfl⟩ d_Vs_marksFor_16
  · skip
    refine lv_aload_n hx hb d_Vs_marksFor_5 rfl (lv_at hl 0 rfl) ?_
    refine hw_get (own := "QuantifierOut$Values") (v := .ref im) hx hb hts i_Vs hown hW hV rfl 3 (by decide) (hts _ tw_61) (fun _ h9 => h9) rfl d_Vs_marksFor_6 ?_
    refine lv_goto (tgt := 16) hx hb d_Vs_marksFor_9 (by decide) ?_
    have h9 : dp < 2 := by
      rcases Nat.lt_or_ge dp 2 with q | q
      · exact q
      · exact absurd ((nI_leI (a := 2) (by omega) (by omega)).mpr q) c_2
    exact hw_reta hx hb hr (Or.inl ⟨_, rfl⟩) hlocks hW hS ⟨by rw [if_pos h9], rfl⟩ d_Vs_marksFor_16
end G18

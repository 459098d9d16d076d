/-! Marks.insert -/
section G15
variable (l : Launch) (D : va_G) (cI cJ cZ cN : ClassId)
set_option maxHeartbeats 4000000 in
set_option maxRecDepth 100000 in
/-- Marks.insert(above, below): the fraction is put in its place, if it is one and new -/
theorem c_Mk_insert (h0 ma mb n B sz : Nat) (f g : Nat → Int64) (u d : Int64) (M : Nat → Option va_E) (hM : mk_S cJ M h0 ma mb n f g) (hne : ma ≠ mb) (hn : n ≤ 21) (hro : mk_row f g n B) (hB : B ≤ 1000000) (huB : u.toInt.natAbs ≤ B) (hdB : d.toInt.natAbs ≤ B) : Met l y_Mk_insert (.code y_Mk_insert b_Mk_insert 10 none :: ww) ({ frames := 1, cells := 0, slots := 0, locals := 60 }) (hw_Pc D qcl (qty cI cJ cZ cN) [.ref h0, .long u, .long d] M sz) (va_Qv (fun M1 => ∃ (n2 : Nat) (f2 g2 : Nat → Int64), mk_S cJ M1 h0 ma mb n2 f2 g2 ∧ (∀ q, q ≠ h0 → q ≠ ma → q ≠ mb → M1 q = M q) ∧ mk_ins n f g u.toInt d.toInt B n2 f2 g2) (hw_B D qcl (qty cI cJ cZ cN) M sz) (hw_A M sz)) 0 0 (hw_A M sz) := by
  obtain ⟨hk, hfa, hgb⟩ := hM
  refine hw_met (by decide) (Nat.le_of_ble_eq_true rfl) ?_
  intro p e s m below meth c hx hb hr hml hown hlocks hnm hts hsz hX hW ls hl
  subst hsz
  have hA : ∀ q, s.heap.size ≤ q → hw_A M s.heap.size q := fun q h => Or.inr h
  have hS : va_S (hw_A M s.heap.size) s.heap s.heap [] := va_S.rf
  have hl : lv_has ls 10 [(0, .ref h0), (1, .long u), (3, .long d)] := hl
  have hown : s.vm.findClass "QuantifierOut$Marks" = some m.cls := hown
  obtain ⟨Q9, hQ9⟩ : ∃ X : State → Prop, X = MQ below (va_Qv (fun M1 => ∃ (n2 : Nat) (f2 g2 : Nat → Int64), mk_S cJ M1 h0 ma mb n2 f2 g2 ∧ (∀ q, q ≠ h0 → q ≠ ma → q ≠ mb → M1 q = M q) ∧ mk_ins n f g u.toInt d.toInt B n2 f2 g2) (hw_B D qcl (qty cI cJ cZ cN) M s.heap.size) (hw_A M s.heap.size)) [.ref h0, .long u, .long d].toArray s 0 0 (hw_A M s.heap.size) := ⟨_, rfl⟩
  rw [← hQ9]
  have hk0 := hk; have hfa0 := hfa; have hgb0 := hgb
  refine lv_lload_n hx hb d_Mk_insert_0 rfl (lv_at hl 2 rfl) ?_
  refine lv_lconst (v := 0) hx hb d_Mk_insert_1 (by decide) ?_
  refine W.lcmp hx hb d_Mk_insert_2 ?_
  refine lv_if_eq (tgt := 15) hx hb d_Mk_insert_3 (by decide) (fun c_2 => ?_) (fun c_2 => ?_)
  · skip
    rw [lg_cmp_eq] at c_2
    rw [hQ9]
    exact hw_retv hx hb hr hlocks hW hS ⟨n, f, g, ⟨hk, hfa, hgb⟩, fun _ _ _ _ => rfl, mk_ins_0 hn hro (Or.inl (by rw [c_2]; rfl))⟩ d_Mk_insert_15
  · skip
    rw [lg_cmp_eq] at c_2
    refine lv_aload_n hx hb d_Mk_insert_6 rfl (lv_at hl 0 rfl) ?_
    refine hw_get (own := "QuantifierOut$Marks") (v := .int (nI n)) hx hb hts i_Mk hown hW hk rfl 2 (by decide) (hts _ tw_43) (fun _ h9 => h9) rfl d_Mk_insert_7 ?_
    refine lv_bipush (v := 21) hx hb d_Mk_insert_10 (by decide) ?_
    refine lv_icmp_lt (tgt := 16) hx hb d_Mk_insert_12 (by decide) (fun c_12 => ?_) (fun c_12 => ?_)
    · skip
      have hlt : n < 21 := (nI_ltI (b := 21) (by omega) (by decide)).mp c_12
      have key : ∀ (up dn : Int64) (ls : Array Slot), 0 < dn.toInt → dn.toInt ≤ B → up.toInt.natAbs ≤ B → qm_fr up.toInt dn.toInt = qm_fr u.toInt d.toInt → lv_has ls 10 [(7, .long dn), (5, .long up), (0, .ref h0)] → W p l e ({ frames := 1, cells := 0, slots := 0, locals := 60 }) s m [.ref h0, .long u, .long d].toArray below meth c s.heap [] 0 0 Q9 (F0 m 44 ls []) := by
        intro up dn ls hdn hdnB hupB hval hl
        have hcmp : ∀ i, i < n → ((f i * dn).toInt = (f i).toInt * dn.toInt ∧ (up * g i).toInt = up.toInt * (g i).toInt) := fun i hi => mk_cmp hB (hro.1 i hi).1 (hro.1 i hi).2.1 (hro.1 i hi).2.2 hdn hdnB hupB
        have hflt : ∀ i, i < n → (mk_v f g i < qm_fr up.toInt dn.toInt ↔ (f i).toInt * dn.toInt < up.toInt * (g i).toInt) := fun i hi => qm_fr_lt (hro.1 i hi).1 hdn
        have hfgt : ∀ i, i < n → (qm_fr up.toInt dn.toInt < mk_v f g i ↔ up.toInt * (g i).toInt < (f i).toInt * dn.toInt) := fun i hi => qm_fr_lt hdn (hro.1 i hi).1
        have hfeq : ∀ i, i < n → (mk_v f g i = qm_fr up.toInt dn.toInt ↔ (f i).toInt * dn.toInt = up.toInt * (g i).toInt) := fun i hi => qm_fr_eq (hro.1 i hi).1 hdn
        have tail : ∀ (k : Nat) (ls : Array Slot), k ≤ n → (∀ i, k ≤ i → i < n → qm_fr up.toInt dn.toInt < mk_v f g i) → (∀ i, i + 1 = k → ¬ qm_fr up.toInt dn.toInt < mk_v f g i) → lv_has ls 10 [(9, .int (nI k)), (7, .long dn), (5, .long up), (0, .ref h0)] → W p l e ({ frames := 1, cells := 0, slots := 0, locals := 60 }) s m [.ref h0, .long u, .long d].toArray below meth c s.heap [] 0 0 Q9 (F0 m 89 ls []) := by
          intro k ls hkn h1 h2 hl
          refine lv_iload hx hb d_Mk_insert_89 (lv_at hl 0 rfl) ?_
          refine lv_if_le (tgt := 123) hx hb d_Mk_insert_91 (by decide) (fun c_91 => ?_) (fun c_91 => ?_)
          · skip
            have hk9 : k = 0 := by
              cases k with
              | zero => rfl
              | succ z => exact absurd c_91 (nI_nle (by omega) (by omega))
            have hbel : ∀ i, i < k → mk_v f g i < qm_fr up.toInt dn.toInt := by
              intro i hi
              omega
            refine lv_aload_n hx hb d_Mk_insert_123 rfl (lv_at hl 3 rfl) ?_
            refine hw_get (own := "QuantifierOut$Marks") (v := .ref ma) hx hb hts i_Mk hown hW hk rfl 0 (by decide) (hts _ tw_41) (fun _ h9 => h9) rfl d_Mk_insert_124 ?_
            refine lv_iload hx hb d_Mk_insert_127 (lv_at hl 0 rfl) ?_
            refine lv_aload_n hx hb d_Mk_insert_129 rfl (lv_at hl 3 rfl) ?_
            refine hw_get (own := "QuantifierOut$Marks") (v := .ref ma) hx hb hts i_Mk hown hW hk rfl 0 (by decide) (hts _ tw_41) (fun _ h9 => h9) rfl d_Mk_insert_130 ?_
            refine lv_iload hx hb d_Mk_insert_133 (lv_at hl 0 rfl) ?_
            refine lv_iconst (v := 1) hx hb d_Mk_insert_135 (by decide) ?_
            refine lv_iadd hx hb d_Mk_insert_136 ?_
            refine lv_topi (fun x1 ex1 => ?_)
            refine lv_aload_n hx hb d_Mk_insert_137 rfl (lv_at hl 3 rfl) ?_
            refine hw_get (own := "QuantifierOut$Marks") (v := .int (nI n)) hx hb hts i_Mk hown hW hk rfl 2 (by decide) (hts _ tw_43) (fun _ h9 => h9) rfl d_Mk_insert_138 ?_
            refine lv_iload hx hb d_Mk_insert_141 (lv_at hl 0 rfl) ?_
            refine lv_isub hx hb d_Mk_insert_143 ?_
            refine lv_topi (fun x2 ex2 => ?_)
            refine hw_cpl (own := "QuantifierOut$Marks") hx hb (hml.trans hl.1.symm) hown hts tw_483 tw_322 tw_321 tw_16 hW hS 1 hfa hfa rfl k (k + 1) (n - k) rfl (by rw [ex1]; exact nI_1 k) (by rw [ex2]; exact pk_sub hkn) (by omega) (by omega) (by decide) (by decide) (by decide) (by decide) d_Mk_insert_144 (fun H locs hW hS => ?_)
            have hW : hw_W D qcl (qty cI cJ cZ cN) _ (va_up M ma (some (.inl (cJ, 21, .inr (.inl (va_cpy f f k (k + 1) (n - k))))))) s H := hW
            generalize hM3 : va_up M ma (some (.inl (cJ, 21, .inr (.inl (va_cpy f f k (k + 1) (n - k)))))) = M3 at hW
            have n_h0_ma : h0 ≠ ma := (hw_ne hk hfa (by simp))
            have hk : M3 h0 = some (.inr (2, [.ref ma, .ref mb, .int (nI n)])) := by rw [← hM3, va_up_ne _ _ n_h0_ma]; exact hk
            have hgb : M3 mb = some (.inl (cJ, 21, .inr (.inl g))) := by rw [← hM3, va_up_ne _ _ (Ne.symm hne)]; exact hgb
            have hfa : M3 ma = some (.inl (cJ, 21, .inr (.inl (va_cpy f f k (k + 1) (n - k))))) := by rw [← hM3]; exact va_up_self _ _ _
            refine lv_aload_n hx hb d_Mk_insert_147 rfl (lv_at hl 3 rfl) ?_
            refine hw_get (own := "QuantifierOut$Marks") (v := .ref mb) hx hb hts i_Mk hown hW hk rfl 1 (by decide) (hts _ tw_42) (fun _ h9 => h9) rfl d_Mk_insert_148 ?_
            refine lv_iload hx hb d_Mk_insert_151 (lv_at hl 0 rfl) ?_
            refine lv_aload_n hx hb d_Mk_insert_153 rfl (lv_at hl 3 rfl) ?_
            refine hw_get (own := "QuantifierOut$Marks") (v := .ref mb) hx hb hts i_Mk hown hW hk rfl 1 (by decide) (hts _ tw_42) (fun _ h9 => h9) rfl d_Mk_insert_154 ?_
            refine lv_iload hx hb d_Mk_insert_157 (lv_at hl 0 rfl) ?_
            refine lv_iconst (v := 1) hx hb d_Mk_insert_159 (by decide) ?_
            refine lv_iadd hx hb d_Mk_insert_160 ?_
            refine lv_topi (fun x4 ex4 => ?_)
            refine lv_aload_n hx hb d_Mk_insert_161 rfl (lv_at hl 3 rfl) ?_
            refine hw_get (own := "QuantifierOut$Marks") (v := .int (nI n)) hx hb hts i_Mk hown hW hk rfl 2 (by decide) (hts _ tw_43) (fun _ h9 => h9) rfl d_Mk_insert_162 ?_
            refine lv_iload hx hb d_Mk_insert_165 (lv_at hl 0 rfl) ?_
            refine lv_isub hx hb d_Mk_insert_167 ?_
            refine lv_topi (fun x5 ex5 => ?_)
            refine hw_cpl (own := "QuantifierOut$Marks") hx hb (hml.trans hl.1.symm) hown hts tw_483 tw_322 tw_321 tw_16 hW hS 1 hgb hgb rfl k (k + 1) (n - k) rfl (by rw [ex4]; exact nI_1 k) (by rw [ex5]; exact pk_sub hkn) (by omega) (by omega) (by decide) (by decide) (by decide) (by decide) d_Mk_insert_168 (fun H locs hW hS => ?_)
            have hW : hw_W D qcl (qty cI cJ cZ cN) _ (va_up M3 mb (some (.inl (cJ, 21, .inr (.inl (va_cpy g g k (k + 1) (n - k))))))) s H := hW
            generalize hM6 : va_up M3 mb (some (.inl (cJ, 21, .inr (.inl (va_cpy g g k (k + 1) (n - k)))))) = M6 at hW
            have n_h0_mb : h0 ≠ mb := (hw_ne hk hgb (by simp))
            have hk : M6 h0 = some (.inr (2, [.ref ma, .ref mb, .int (nI n)])) := by rw [← hM6, va_up_ne _ _ n_h0_mb]; exact hk
            have hfa : M6 ma = some (.inl (cJ, 21, .inr (.inl (va_cpy f f k (k + 1) (n - k))))) := by rw [← hM6, va_up_ne _ _ hne]; exact hfa
            have hgb : M6 mb = some (.inl (cJ, 21, .inr (.inl (va_cpy g g k (k + 1) (n - k))))) := by rw [← hM6]; exact va_up_self _ _ _
            refine lv_aload_n hx hb d_Mk_insert_171 rfl (lv_at hl 3 rfl) ?_
            refine hw_get (own := "QuantifierOut$Marks") (v := .ref ma) hx hb hts i_Mk hown hW hk rfl 0 (by decide) (hts _ tw_41) (fun _ h9 => h9) rfl d_Mk_insert_172 ?_
            refine lv_iload hx hb d_Mk_insert_175 (lv_at hl 0 rfl) ?_
            refine lv_lload hx hb d_Mk_insert_177 (lv_at hl 2 rfl) ?_
            refine hw_lst hx hb hW hS 1 hfa rfl k rfl (by omega) (by decide) d_Mk_insert_179 (fun H locs hW hS => ?_)
            have hW : hw_W D qcl (qty cI cJ cZ cN) _ (va_up M6 ma (some (.inl (cJ, 21, .inr (.inl (vp_updL (va_cpy f f k (k + 1) (n - k)) k up)))))) s H := hW
            generalize hM7 : va_up M6 ma (some (.inl (cJ, 21, .inr (.inl (vp_updL (va_cpy f f k (k + 1) (n - k)) k up))))) = M7 at hW
            have hk : M7 h0 = some (.inr (2, [.ref ma, .ref mb, .int (nI n)])) := by rw [← hM7, va_up_ne _ _ n_h0_ma]; exact hk
            have hgb : M7 mb = some (.inl (cJ, 21, .inr (.inl (va_cpy g g k (k + 1) (n - k))))) := by rw [← hM7, va_up_ne _ _ (Ne.symm hne)]; exact hgb
            have hfa : M7 ma = some (.inl (cJ, 21, .inr (.inl (vp_updL (va_cpy f f k (k + 1) (n - k)) k up)))) := by rw [← hM7]; exact va_up_self _ _ _
            refine lv_aload_n hx hb d_Mk_insert_180 rfl (lv_at hl 3 rfl) ?_
            refine hw_get (own := "QuantifierOut$Marks") (v := .ref mb) hx hb hts i_Mk hown hW hk rfl 1 (by decide) (hts _ tw_42) (fun _ h9 => h9) rfl d_Mk_insert_181 ?_
            refine lv_iload hx hb d_Mk_insert_184 (lv_at hl 0 rfl) ?_
            refine lv_lload hx hb d_Mk_insert_186 (lv_at hl 1 rfl) ?_
            refine hw_lst hx hb hW hS 1 hgb rfl k rfl (by omega) (by decide) d_Mk_insert_188 (fun H locs hW hS => ?_)
            have hW : hw_W D qcl (qty cI cJ cZ cN) _ (va_up M7 mb (some (.inl (cJ, 21, .inr (.inl (vp_updL (va_cpy g g k (k + 1) (n - k)) k dn)))))) s H := hW
            generalize hM8 : va_up M7 mb (some (.inl (cJ, 21, .inr (.inl (vp_updL (va_cpy g g k (k + 1) (n - k)) k dn))))) = M8 at hW
            have hk : M8 h0 = some (.inr (2, [.ref ma, .ref mb, .int (nI n)])) := by rw [← hM8, va_up_ne _ _ n_h0_mb]; exact hk
            have hfa : M8 ma = some (.inl (cJ, 21, .inr (.inl (vp_updL (va_cpy f f k (k + 1) (n - k)) k up)))) := by rw [← hM8, va_up_ne _ _ hne]; exact hfa
            have hgb : M8 mb = some (.inl (cJ, 21, .inr (.inl (vp_updL (va_cpy g g k (k + 1) (n - k)) k dn)))) := by rw [← hM8]; exact va_up_self _ _ _
            refine lv_aload_n hx hb d_Mk_insert_189 rfl (lv_at hl 3 rfl) ?_
            refine lv_dup hx hb d_Mk_insert_190 rfl ?_
            refine hw_get (own := "QuantifierOut$Marks") (v := .int (nI n)) hx hb hts i_Mk hown hW hk rfl 2 (by decide) (hts _ tw_43) (fun _ h9 => h9) rfl d_Mk_insert_191 ?_
            refine lv_iconst (v := 1) hx hb d_Mk_insert_194 (by decide) ?_
            refine lv_iadd hx hb d_Mk_insert_195 ?_
            refine lv_topi (fun x9 ex9 => ?_)
            refine hw_put (own := "QuantifierOut$Marks") (v := .int x9) (ty := .int) hx hb hts i_Mk ft_Mk tk_Mk n_Mk hown hW hS hk rfl 2 (by decide) (hts _ tw_43) (fun _ h9 => h9) rfl (tk_Mk 2 (by decide)) rfl rfl (Nat.le_of_ble_eq_true rfl) d_Mk_insert_196 (fun H locs hW hS => ?_)
            have hW : hw_W D qcl (qty cI cJ cZ cN) _ (va_up M8 h0 (some (.inr (2, [.ref ma, .ref mb, .int x9])))) s H := hW
            generalize hM10 : va_up M8 h0 (some (.inr (2, [.ref ma, .ref mb, .int x9]))) = M10 at hW
            have hfa : M10 ma = some (.inl (cJ, 21, .inr (.inl (vp_updL (va_cpy f f k (k + 1) (n - k)) k up)))) := by rw [← hM10, va_up_ne _ _ (Ne.symm n_h0_ma)]; exact hfa
            have hgb : M10 mb = some (.inl (cJ, 21, .inr (.inl (vp_updL (va_cpy g g k (k + 1) (n - k)) k dn)))) := by rw [← hM10, va_up_ne _ _ (Ne.symm n_h0_mb)]; exact hgb
            have hk : M10 h0 = some (.inr (2, [.ref ma, .ref mb, .int x9])) := by rw [← hM10]; exact va_up_self _ _ _
            rw [hQ9]
            refine hw_retv hx hb hr hlocks hW hS ⟨n + 1, _, _, ⟨?_, hfa, hgb⟩, fun q q1 q2 q3 => ?_, mk_ins_in hlt hro hkn hdn hdnB hupB hval h1 hbel⟩ d_Mk_insert_199
            · rw [hk, ex9, nI_1]
            · rw [← hM10, va_up_ne _ _ q1, ← hM8, va_up_ne _ _ q3, ← hM7, va_up_ne _ _ q2, ← hM6, va_up_ne _ _ q3, ← hM3, va_up_ne _ _ q2]
          · skip
            obtain ⟨z, rfl⟩ : ∃ z, k = z + 1 := by
              cases k with
              | zero => exact absurd (show nI 0 ≤ 0 by decide) c_91
              | succ z => exact ⟨z, rfl⟩
            refine lv_aload_n hx hb d_Mk_insert_94 rfl (lv_at hl 3 rfl) ?_
            refine hw_get (own := "QuantifierOut$Marks") (v := .ref ma) hx hb hts i_Mk hown hW hk rfl 0 (by decide) (hts _ tw_41) (fun _ h9 => h9) rfl d_Mk_insert_95 ?_
            refine lv_iload hx hb d_Mk_insert_98 (lv_at hl 0 rfl) ?_
            refine lv_iconst (v := 1) hx hb d_Mk_insert_100 (by decide) ?_
            refine lv_isub hx hb d_Mk_insert_101 ?_
            refine lv_topi (fun x11 ex11 => ?_)
            refine hw_lld hx hb hW 1 hfa rfl z (by rw [ex11]; exact nI_pred z) (by omega) (by decide) d_Mk_insert_102 ?_
            refine lv_topl (fun fz efz => ?_)
            refine lv_lload hx hb d_Mk_insert_103 (lv_at hl 1 rfl) ?_
            refine lv_lmul hx hb d_Mk_insert_105 ?_
            refine lv_topl (fun x12 ex12 => ?_)
            refine lv_lload hx hb d_Mk_insert_106 (lv_at hl 2 rfl) ?_
            refine lv_aload_n hx hb d_Mk_insert_108 rfl (lv_at hl 3 rfl) ?_
            refine hw_get (own := "QuantifierOut$Marks") (v := .ref mb) hx hb hts i_Mk hown hW hk rfl 1 (by decide) (hts _ tw_42) (fun _ h9 => h9) rfl d_Mk_insert_109 ?_
            refine lv_iload hx hb d_Mk_insert_112 (lv_at hl 0 rfl) ?_
            refine lv_iconst (v := 1) hx hb d_Mk_insert_114 (by decide) ?_
            refine lv_isub hx hb d_Mk_insert_115 ?_
            refine lv_topi (fun x13 ex13 => ?_)
            refine hw_lld hx hb hW 1 hgb rfl z (by rw [ex13]; exact nI_pred z) (by omega) (by decide) d_Mk_insert_116 ?_
            refine lv_topl (fun gz egz => ?_)
            refine lv_lmul hx hb d_Mk_insert_117 ?_
            refine lv_topl (fun x14 ex14 => ?_)
            obtain ⟨k1, k2⟩ := hcmp z (by omega)
            refine W.lcmp hx hb d_Mk_insert_118 ?_
            refine lv_if_ne (tgt := 123) hx hb d_Mk_insert_119 (by decide) (fun c_118 => ?_) (fun c_118 => ?_)
            · skip
              first | rw [lg_cmp_eq] at c_118 | rw [ne_eq, lg_cmp_eq] at c_118 | simp only [ne_eq, lg_cmp_eq, not_not, Decidable.not_not] at c_118
              have hlast : mk_v f g (z + 1 - 1) < qm_fr up.toInt dn.toInt := by
                rw [show z + 1 - 1 = z by omega]
                have q1 := h2 z rfl
                have q2 : ¬ mk_v f g z = qm_fr up.toInt dn.toInt := fun q => c_118 (by rw [nm_leq, ex12, ex14, efz, egz, k1, k2]; exact (hfeq z (by omega)).mp q)
                grind
              generalize z + 1 = k at *
              have hbel : ∀ i, i < k → mk_v f g i < qm_fr up.toInt dn.toInt := by
                intro i hi
                rcases Nat.lt_or_ge i (k - 1) with q | q
                · have := hro.2 i (k - 1) q (by omega)
                  grind
                · rw [show i = k - 1 by omega]; exact hlast
              refine lv_aload_n hx hb d_Mk_insert_123 rfl (lv_at hl 3 rfl) ?_
              refine hw_get (own := "QuantifierOut$Marks") (v := .ref ma) hx hb hts i_Mk hown hW hk rfl 0 (by decide) (hts _ tw_41) (fun _ h9 => h9) rfl d_Mk_insert_124 ?_
              refine lv_iload hx hb d_Mk_insert_127 (lv_at hl 0 rfl) ?_
              refine lv_aload_n hx hb d_Mk_insert_129 rfl (lv_at hl 3 rfl) ?_
              refine hw_get (own := "QuantifierOut$Marks") (v := .ref ma) hx hb hts i_Mk hown hW hk rfl 0 (by decide) (hts _ tw_41) (fun _ h9 => h9) rfl d_Mk_insert_130 ?_
              refine lv_iload hx hb d_Mk_insert_133 (lv_at hl 0 rfl) ?_
              refine lv_iconst (v := 1) hx hb d_Mk_insert_135 (by decide) ?_
              refine lv_iadd hx hb d_Mk_insert_136 ?_
              refine lv_topi (fun x15 ex15 => ?_)
              refine lv_aload_n hx hb d_Mk_insert_137 rfl (lv_at hl 3 rfl) ?_
              refine hw_get (own := "QuantifierOut$Marks") (v := .int (nI n)) hx hb hts i_Mk hown hW hk rfl 2 (by decide) (hts _ tw_43) (fun _ h9 => h9) rfl d_Mk_insert_138 ?_
              refine lv_iload hx hb d_Mk_insert_141 (lv_at hl 0 rfl) ?_
              refine lv_isub hx hb d_Mk_insert_143 ?_
              refine lv_topi (fun x16 ex16 => ?_)
              refine hw_cpl (own := "QuantifierOut$Marks") hx hb (hml.trans hl.1.symm) hown hts tw_483 tw_322 tw_321 tw_16 hW hS 1 hfa hfa rfl k (k + 1) (n - k) rfl (by rw [ex15]; exact nI_1 k) (by rw [ex16]; exact pk_sub hkn) (by omega) (by omega) (by decide) (by decide) (by decide) (by decide) d_Mk_insert_144 (fun H locs hW hS => ?_)
              have hW : hw_W D qcl (qty cI cJ cZ cN) _ (va_up M ma (some (.inl (cJ, 21, .inr (.inl (va_cpy f f k (k + 1) (n - k))))))) s H := hW
              generalize hM17 : va_up M ma (some (.inl (cJ, 21, .inr (.inl (va_cpy f f k (k + 1) (n - k)))))) = M17 at hW
              have n_h0_ma : h0 ≠ ma := (hw_ne hk hfa (by simp))
              have hk : M17 h0 = some (.inr (2, [.ref ma, .ref mb, .int (nI n)])) := by rw [← hM17, va_up_ne _ _ n_h0_ma]; exact hk
              have hgb : M17 mb = some (.inl (cJ, 21, .inr (.inl g))) := by rw [← hM17, va_up_ne _ _ (Ne.symm hne)]; exact hgb
              have hfa : M17 ma = some (.inl (cJ, 21, .inr (.inl (va_cpy f f k (k + 1) (n - k))))) := by rw [← hM17]; exact va_up_self _ _ _
              refine lv_aload_n hx hb d_Mk_insert_147 rfl (lv_at hl 3 rfl) ?_
              refine hw_get (own := "QuantifierOut$Marks") (v := .ref mb) hx hb hts i_Mk hown hW hk rfl 1 (by decide) (hts _ tw_42) (fun _ h9 => h9) rfl d_Mk_insert_148 ?_
              refine lv_iload hx hb d_Mk_insert_151 (lv_at hl 0 rfl) ?_
              refine lv_aload_n hx hb d_Mk_insert_153 rfl (lv_at hl 3 rfl) ?_
              refine hw_get (own := "QuantifierOut$Marks") (v := .ref mb) hx hb hts i_Mk hown hW hk rfl 1 (by decide) (hts _ tw_42) (fun _ h9 => h9) rfl d_Mk_insert_154 ?_
              refine lv_iload hx hb d_Mk_insert_157 (lv_at hl 0 rfl) ?_
              refine lv_iconst (v := 1) hx hb d_Mk_insert_159 (by decide) ?_
              refine lv_iadd hx hb d_Mk_insert_160 ?_
              refine lv_topi (fun x18 ex18 => ?_)
              refine lv_aload_n hx hb d_Mk_insert_161 rfl (lv_at hl 3 rfl) ?_
              refine hw_get (own := "QuantifierOut$Marks") (v := .int (nI n)) hx hb hts i_Mk hown hW hk rfl 2 (by decide) (hts _ tw_43) (fun _ h9 => h9) rfl d_Mk_insert_162 ?_
              refine lv_iload hx hb d_Mk_insert_165 (lv_at hl 0 rfl) ?_
              refine lv_isub hx hb d_Mk_insert_167 ?_
              refine lv_topi (fun x19 ex19 => ?_)
              refine hw_cpl (own := "QuantifierOut$Marks") hx hb (hml.trans hl.1.symm) hown hts tw_483 tw_322 tw_321 tw_16 hW hS 1 hgb hgb rfl k (k + 1) (n - k) rfl (by rw [ex18]; exact nI_1 k) (by rw [ex19]; exact pk_sub hkn) (by omega) (by omega) (by decide) (by decide) (by decide) (by decide) d_Mk_insert_168 (fun H locs hW hS => ?_)
              have hW : hw_W D qcl (qty cI cJ cZ cN) _ (va_up M17 mb (some (.inl (cJ, 21, .inr (.inl (va_cpy g g k (k + 1) (n - k))))))) s H := hW
              generalize hM20 : va_up M17 mb (some (.inl (cJ, 21, .inr (.inl (va_cpy g g k (k + 1) (n - k)))))) = M20 at hW
              have n_h0_mb : h0 ≠ mb := (hw_ne hk hgb (by simp))
              have hk : M20 h0 = some (.inr (2, [.ref ma, .ref mb, .int (nI n)])) := by rw [← hM20, va_up_ne _ _ n_h0_mb]; exact hk
              have hfa : M20 ma = some (.inl (cJ, 21, .inr (.inl (va_cpy f f k (k + 1) (n - k))))) := by rw [← hM20, va_up_ne _ _ hne]; exact hfa
              have hgb : M20 mb = some (.inl (cJ, 21, .inr (.inl (va_cpy g g k (k + 1) (n - k))))) := by rw [← hM20]; exact va_up_self _ _ _
              refine lv_aload_n hx hb d_Mk_insert_171 rfl (lv_at hl 3 rfl) ?_
              refine hw_get (own := "QuantifierOut$Marks") (v := .ref ma) hx hb hts i_Mk hown hW hk rfl 0 (by decide) (hts _ tw_41) (fun _ h9 => h9) rfl d_Mk_insert_172 ?_
              refine lv_iload hx hb d_Mk_insert_175 (lv_at hl 0 rfl) ?_
              refine lv_lload hx hb d_Mk_insert_177 (lv_at hl 2 rfl) ?_
              refine hw_lst hx hb hW hS 1 hfa rfl k rfl (by omega) (by decide) d_Mk_insert_179 (fun H locs hW hS => ?_)
              have hW : hw_W D qcl (qty cI cJ cZ cN) _ (va_up M20 ma (some (.inl (cJ, 21, .inr (.inl (vp_updL (va_cpy f f k (k + 1) (n - k)) k up)))))) s H := hW
              generalize hM21 : va_up M20 ma (some (.inl (cJ, 21, .inr (.inl (vp_updL (va_cpy f f k (k + 1) (n - k)) k up))))) = M21 at hW
              have hk : M21 h0 = some (.inr (2, [.ref ma, .ref mb, .int (nI n)])) := by rw [← hM21, va_up_ne _ _ n_h0_ma]; exact hk
              have hgb : M21 mb = some (.inl (cJ, 21, .inr (.inl (va_cpy g g k (k + 1) (n - k))))) := by rw [← hM21, va_up_ne _ _ (Ne.symm hne)]; exact hgb
              have hfa : M21 ma = some (.inl (cJ, 21, .inr (.inl (vp_updL (va_cpy f f k (k + 1) (n - k)) k up)))) := by rw [← hM21]; exact va_up_self _ _ _
              refine lv_aload_n hx hb d_Mk_insert_180 rfl (lv_at hl 3 rfl) ?_
              refine hw_get (own := "QuantifierOut$Marks") (v := .ref mb) hx hb hts i_Mk hown hW hk rfl 1 (by decide) (hts _ tw_42) (fun _ h9 => h9) rfl d_Mk_insert_181 ?_
              refine lv_iload hx hb d_Mk_insert_184 (lv_at hl 0 rfl) ?_
              refine lv_lload hx hb d_Mk_insert_186 (lv_at hl 1 rfl) ?_
              refine hw_lst hx hb hW hS 1 hgb rfl k rfl (by omega) (by decide) d_Mk_insert_188 (fun H locs hW hS => ?_)
              have hW : hw_W D qcl (qty cI cJ cZ cN) _ (va_up M21 mb (some (.inl (cJ, 21, .inr (.inl (vp_updL (va_cpy g g k (k + 1) (n - k)) k dn)))))) s H := hW
              generalize hM22 : va_up M21 mb (some (.inl (cJ, 21, .inr (.inl (vp_updL (va_cpy g g k (k + 1) (n - k)) k dn))))) = M22 at hW
              have hk : M22 h0 = some (.inr (2, [.ref ma, .ref mb, .int (nI n)])) := by rw [← hM22, va_up_ne _ _ n_h0_mb]; exact hk
              have hfa : M22 ma = some (.inl (cJ, 21, .inr (.inl (vp_updL (va_cpy f f k (k + 1) (n - k)) k up)))) := by rw [← hM22, va_up_ne _ _ hne]; exact hfa
              have hgb : M22 mb = some (.inl (cJ, 21, .inr (.inl (vp_updL (va_cpy g g k (k + 1) (n - k)) k dn)))) := by rw [← hM22]; exact va_up_self _ _ _
              refine lv_aload_n hx hb d_Mk_insert_189 rfl (lv_at hl 3 rfl) ?_
              refine lv_dup hx hb d_Mk_insert_190 rfl ?_
              refine hw_get (own := "QuantifierOut$Marks") (v := .int (nI n)) hx hb hts i_Mk hown hW hk rfl 2 (by decide) (hts _ tw_43) (fun _ h9 => h9) rfl d_Mk_insert_191 ?_
              refine lv_iconst (v := 1) hx hb d_Mk_insert_194 (by decide) ?_
              refine lv_iadd hx hb d_Mk_insert_195 ?_
              refine lv_topi (fun x23 ex23 => ?_)
              refine hw_put (own := "QuantifierOut$Marks") (v := .int x23) (ty := .int) hx hb hts i_Mk ft_Mk tk_Mk n_Mk hown hW hS hk rfl 2 (by decide) (hts _ tw_43) (fun _ h9 => h9) rfl (tk_Mk 2 (by decide)) rfl rfl (Nat.le_of_ble_eq_true rfl) d_Mk_insert_196 (fun H locs hW hS => ?_)
              have hW : hw_W D qcl (qty cI cJ cZ cN) _ (va_up M22 h0 (some (.inr (2, [.ref ma, .ref mb, .int x23])))) s H := hW
              generalize hM24 : va_up M22 h0 (some (.inr (2, [.ref ma, .ref mb, .int x23]))) = M24 at hW
              have hfa : M24 ma = some (.inl (cJ, 21, .inr (.inl (vp_updL (va_cpy f f k (k + 1) (n - k)) k up)))) := by rw [← hM24, va_up_ne _ _ (Ne.symm n_h0_ma)]; exact hfa
              have hgb : M24 mb = some (.inl (cJ, 21, .inr (.inl (vp_updL (va_cpy g g k (k + 1) (n - k)) k dn)))) := by rw [← hM24, va_up_ne _ _ (Ne.symm n_h0_mb)]; exact hgb
              have hk : M24 h0 = some (.inr (2, [.ref ma, .ref mb, .int x23])) := by rw [← hM24]; exact va_up_self _ _ _
              rw [hQ9]
              refine hw_retv hx hb hr hlocks hW hS ⟨n + 1, _, _, ⟨?_, hfa, hgb⟩, fun q q1 q2 q3 => ?_, mk_ins_in hlt hro hkn hdn hdnB hupB hval h1 hbel⟩ d_Mk_insert_199
              · rw [hk, ex23, nI_1]
              · rw [← hM24, va_up_ne _ _ q1, ← hM22, va_up_ne _ _ q3, ← hM21, va_up_ne _ _ q2, ← hM20, va_up_ne _ _ q3, ← hM17, va_up_ne _ _ q2]
            · skip
              first | rw [lg_cmp_eq] at c_118 | rw [ne_eq, lg_cmp_eq] at c_118 | simp only [ne_eq, lg_cmp_eq, not_not, Decidable.not_not] at c_118
              have heq : mk_v f g z = qm_fr up.toInt dn.toInt := (hfeq z (by omega)).mpr (by rw [← k1, ← k2, ← efz, ← egz]; rw [← ex12, ← ex14, c_118])
              rw [hQ9]
              exact hw_retv hx hb hr hlocks hW hS ⟨n, f, g, ⟨hk, hfa, hgb⟩, fun _ _ _ _ => rfl, mk_ins_eq hn hro (show z < n by omega) (heq.trans hval)⟩ d_Mk_insert_122
        have loop : ∀ (k : Nat) (ls : Array Slot), k ≤ n → (∀ i, k ≤ i → i < n → qm_fr up.toInt dn.toInt < mk_v f g i) → lv_has ls 10 [(9, .int (nI k)), (7, .long dn), (5, .long up), (0, .ref h0)] → W p l e ({ frames := 1, cells := 0, slots := 0, locals := 60 }) s m [.ref h0, .long u, .long d].toArray below meth c s.heap [] 0 0 Q9 (F0 m 50 ls []) := by
          intro k
          induction k with
          | zero =>
            intro ls hkn h1 hl
            refine lv_iload hx hb d_Mk_insert_50 (lv_at hl 0 rfl) ?_
            refine lv_if_le (tgt := 89) hx hb d_Mk_insert_52 (by decide) (fun c_52 => ?_) (fun c_52 => ?_)
            · skip
              exact tail 0 ls hkn h1 (fun i h => absurd h (by omega)) hl
            · skip
              exact absurd (show nI 0 ≤ 0 by decide) c_52
          | succ z ih =>
            intro ls hkn h1 hl
            refine lv_iload hx hb d_Mk_insert_50 (lv_at hl 0 rfl) ?_
            refine lv_if_le (tgt := 89) hx hb d_Mk_insert_52 (by decide) (fun c_52 => ?_) (fun c_52 => ?_)
            · skip
              exact absurd c_52 (nI_nle (by omega) (by omega))
            · skip
              refine lv_aload_n hx hb d_Mk_insert_55 rfl (lv_at hl 3 rfl) ?_
              refine hw_get (own := "QuantifierOut$Marks") (v := .ref ma) hx hb hts i_Mk hown hW hk rfl 0 (by decide) (hts _ tw_41) (fun _ h9 => h9) rfl d_Mk_insert_56 ?_
              refine lv_iload hx hb d_Mk_insert_59 (lv_at hl 0 rfl) ?_
              refine lv_iconst (v := 1) hx hb d_Mk_insert_61 (by decide) ?_
              refine lv_isub hx hb d_Mk_insert_62 ?_
              refine lv_topi (fun x25 ex25 => ?_)
              refine hw_lld hx hb hW 1 hfa rfl z (by rw [ex25]; exact nI_pred z) (by omega) (by decide) d_Mk_insert_63 ?_
              refine lv_topl (fun fz efz => ?_)
              refine lv_lload hx hb d_Mk_insert_64 (lv_at hl 1 rfl) ?_
              refine lv_lmul hx hb d_Mk_insert_66 ?_
              refine lv_topl (fun x26 ex26 => ?_)
              refine lv_lload hx hb d_Mk_insert_67 (lv_at hl 2 rfl) ?_
              refine lv_aload_n hx hb d_Mk_insert_69 rfl (lv_at hl 3 rfl) ?_
              refine hw_get (own := "QuantifierOut$Marks") (v := .ref mb) hx hb hts i_Mk hown hW hk rfl 1 (by decide) (hts _ tw_42) (fun _ h9 => h9) rfl d_Mk_insert_70 ?_
              refine lv_iload hx hb d_Mk_insert_73 (lv_at hl 0 rfl) ?_
              refine lv_iconst (v := 1) hx hb d_Mk_insert_75 (by decide) ?_
              refine lv_isub hx hb d_Mk_insert_76 ?_
              refine lv_topi (fun x27 ex27 => ?_)
              refine hw_lld hx hb hW 1 hgb rfl z (by rw [ex27]; exact nI_pred z) (by omega) (by decide) d_Mk_insert_77 ?_
              refine lv_topl (fun gz egz => ?_)
              refine lv_lmul hx hb d_Mk_insert_78 ?_
              refine lv_topl (fun x28 ex28 => ?_)
              obtain ⟨k1, k2⟩ := hcmp z (by omega)
              refine W.lcmp hx hb d_Mk_insert_79 ?_
              refine lv_if_le (tgt := 89) hx hb d_Mk_insert_80 (by decide) (fun c_79 => ?_) (fun c_79 => ?_)
              · skip
                rw [lg_cmp_le] at c_79
                exact tail (z + 1) ls hkn h1 (fun i h q => by
                  have e9 : i = z := by omega
                  subst e9
                  have q2 := (hfgt i (by omega)).mp q
                  rw [nm_lle, ex26, ex28, efz, egz, k1, k2] at c_79
                  omega) hl
              · skip
                rw [lg_cmp_le] at c_79
                obtain ⟨kk, ekk⟩ : ∃ y9 : Int32, y9 = (nI (z + 1)) + Int32.ofInt (-1) := ⟨_, rfl⟩
                refine lv_iinc (v := kk) (lv' := [(9, .int kk), (7, .long dn), (5, .long up), (0, .ref h0)]) hx hb d_Mk_insert_83 hl (k := 0) rfl ekk.symm (by decide) rfl (fun ls hl => ?_)
                have ekk2 : kk = nI z := by rw [ekk]; exact pk_m1 z
                subst ekk2
                refine lv_goto (tgt := 50) hx hb d_Mk_insert_86 (by decide) ?_
                refine ih ls (by omega) (fun i hi1 hi2 => ?_) (lv_sub hl [0, 1, 2, 3] rfl)
                rcases Nat.lt_or_ge z i with q | q
                · exact h1 i (by omega) hi2
                · have e9 : i = z := by omega
                  subst e9
                  refine (hfgt i hi2).mpr ?_
                  rw [nm_lle, ex26, ex28, efz, egz, k1, k2] at c_79
                  omega
        refine lv_aload_n hx hb d_Mk_insert_44 rfl (lv_at hl 2 rfl) ?_
        refine hw_get (own := "QuantifierOut$Marks") (v := .int (nI n)) hx hb hts i_Mk hown hW hk rfl 2 (by decide) (hts _ tw_43) (fun _ h9 => h9) rfl d_Mk_insert_45 ?_
        refine lv_istore (lv' := [(9, .int (nI n)), (7, .long dn), (5, .long up), (0, .ref h0)]) hx hb d_Mk_insert_48 hl (by decide) rfl (fun ls hl => ?_)
        exact loop n ls (Nat.le_refl n) (fun i h1 h2 => absurd h1 (by omega)) (lv_sub hl [0, 1, 2, 3] rfl)
      refine lv_lload_n hx hb d_Mk_insert_16 rfl (lv_at hl 2 rfl) ?_
      refine lv_lconst (v := 0) hx hb d_Mk_insert_17 (by decide) ?_
      refine W.lcmp hx hb d_Mk_insert_18 ?_
      refine lv_if_ge (tgt := 27) hx hb d_Mk_insert_19 (by decide) (fun c_18 => ?_) (fun c_18 => ?_)
      · skip
        rw [lg_cmp_ge] at c_18
        refine lv_lload_n hx hb d_Mk_insert_27 rfl (lv_at hl 1 rfl) ?_
        refine lv_lstore (lv' := [(5, .long u), (0, .ref h0), (1, .long u), (3, .long d)]) hx hb d_Mk_insert_28 hl (by decide) rfl (fun ls hl => ?_)
        refine lv_lload_n hx hb d_Mk_insert_30 rfl (lv_at hl 3 rfl) ?_
        refine lv_lconst (v := 0) hx hb d_Mk_insert_31 (by decide) ?_
        refine W.lcmp hx hb d_Mk_insert_32 ?_
        refine lv_if_ge (tgt := 41) hx hb d_Mk_insert_33 (by decide) (fun c_32 => ?_) (fun c_32 => ?_)
        · skip
          rw [lg_cmp_ge] at c_32
          refine lv_lload_n hx hb d_Mk_insert_41 rfl (lv_at hl 3 rfl) ?_
          refine lv_lstore (lv' := [(7, .long d), (5, .long u), (0, .ref h0), (1, .long u), (3, .long d)]) hx hb d_Mk_insert_42 hl (by decide) rfl (fun ls hl => ?_)
          rw [nm_lle] at c_18
          have hd0 : d.toInt ≠ 0 := fun q => c_2 (nm_leq.mpr q)
          have h00 : (0 : Int64).toInt = 0 := rfl
          exact key u d ls (by omega) (by omega) huB rfl (lv_sub hl [0, 1, 2] rfl)
        · skip
          rw [lg_cmp_ge] at c_32
          exact absurd c_18 c_32
      · skip
        rw [lg_cmp_ge] at c_18
        refine lv_lload_n hx hb d_Mk_insert_22 rfl (lv_at hl 1 rfl) ?_
        refine lv_lneg hx hb d_Mk_insert_23 ?_
        refine lv_topl (fun x29 ex29 => ?_)
        refine lv_goto (tgt := 28) hx hb d_Mk_insert_24 (by decide) ?_
        refine lv_lstore (lv' := [(5, .long x29), (0, .ref h0), (1, .long u), (3, .long d)]) hx hb d_Mk_insert_28 hl (by decide) rfl (fun ls hl => ?_)
        refine lv_lload_n hx hb d_Mk_insert_30 rfl (lv_at hl 3 rfl) ?_
        refine lv_lconst (v := 0) hx hb d_Mk_insert_31 (by decide) ?_
        refine W.lcmp hx hb d_Mk_insert_32 ?_
        refine lv_if_ge (tgt := 41) hx hb d_Mk_insert_33 (by decide) (fun c_32 => ?_) (fun c_32 => ?_)
        · skip
          rw [lg_cmp_ge] at c_32
          exact absurd c_32 c_18
        · skip
          rw [lg_cmp_ge] at c_32
          refine lv_lload_n hx hb d_Mk_insert_36 rfl (lv_at hl 3 rfl) ?_
          refine lv_lneg hx hb d_Mk_insert_37 ?_
          refine lv_topl (fun x30 ex30 => ?_)
          refine lv_goto (tgt := 42) hx hb d_Mk_insert_38 (by decide) ?_
          refine lv_lstore (lv' := [(7, .long x30), (5, .long x29), (0, .ref h0), (1, .long u), (3, .long d)]) hx hb d_Mk_insert_42 hl (by decide) rfl (fun ls hl => ?_)
          rw [nm_lle] at c_18
          have h00 : (0 : Int64).toInt = 0 := rfl
          have eu : x29.toInt = -u.toInt := by rw [ex29]; exact nm_lneg (by omega)
          have ed : x30.toInt = -d.toInt := by rw [ex30]; exact nm_lneg (by omega)
          exact key x29 x30 ls (by omega) (by omega) (by omega) (by rw [eu, ed]; exact qm_fr_neg (by omega)) (lv_sub hl [0, 1, 2] rfl)
    · skip
      have hge : 21 ≤ n := Nat.le_of_not_lt (fun q => c_12 ((nI_ltI (b := 21) (by omega) (by decide)).mpr q))
      rw [hQ9]
      exact hw_retv hx hb hr hlocks hW hS ⟨n, f, g, ⟨hk, hfa, hgb⟩, fun _ _ _ _ => rfl, mk_ins_0 hn hro (Or.inr hge)⟩ d_Mk_insert_15
end G15

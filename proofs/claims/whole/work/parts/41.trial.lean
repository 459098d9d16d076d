section G41
variable (l : Launch) (D : va_G) (cI cJ cZ cN : ClassId) (md kd on tw nu le fx fy si de ne it po ma ab be li fr to : Nat)
set_option maxHeartbeats 4000000 in
set_option maxRecDepth 100000 in
theorem c_Md_trial (cd : Int32) (n : Nat) (up dn : Int64) (pz : Int32) (NE IT : Nat → Int32) (PO : Nat → Int64) (MA : Nat → Int32) (AB BE : Nat → Int64) (lv n0 i N Dn T1 T2 sz : Nat) (M : Nat → Option va_E) (hD : md_D md kd on tw nu le fx fy si de ne it po ma ab be li fr to) (hK : md_W cI cJ cZ md kd on tw nu le fx fy si de ne it po ma ab be li fr to M cd n up dn pz NE IT PO MA AB BE) (hlv : lv < 3) (hma : MA lv = nI n0) (hn0 : n0 < 64) (hi : i ≤ 2 * n0) (hr9 : kr (kf (64 * lv) AB) (kf (64 * lv) BE) n0 N Dn) (h1 : 2 * (N * Dn) ≤ T1) (h2 : N + Dn ≤ T1) (h3 : 2 * (Dn * Dn) ≤ T2) (h4 : Dn ≤ T2) (h5 : 1 ≤ T2) (h6 : T1 ≤ 1000000000000000000) (h7 : T2 ≤ 1000000000000000000) : Met l y_Md_trial (.code y_Md_trial b_Md_trial 5 none :: ww) ({ frames := 1, cells := 0, slots := 0, locals := 40 }) (hw_Pc D qcl (qty cI cJ cZ cN) [.ref md, .int (nI lv), .int (nI i)] M sz) (va_Qv (fun M1 => ∃ u d : Int64, 0 < d.toInt ∧ d.toInt ≤ T2 ∧ u.toInt.natAbs ≤ T1 ∧ qi_at (mk_v (kf (64 * lv) AB) (kf (64 * lv) BE)) n0 i (qm_fr u.toInt d.toInt) ∧ md_W cI cJ cZ md kd on tw nu le fx fy si de ne it po ma ab be li fr to M1 cd n u d pz NE IT PO MA AB BE ∧ ∀ x9, x9 ≠ md → x9 ≠ ne → x9 ≠ it → x9 ≠ po → x9 ≠ ma → x9 ≠ ab → x9 ≠ be → M1 x9 = M x9) (hw_B D qcl (qty cI cJ cZ cN) M sz) (hw_A M sz)) 0 0 (hw_A M sz) := by
  refine hw_met (by decide) (Nat.le_of_ble_eq_true rfl) ?_
  intro p e s m below meth c hx hb hr hml hown hlocks hnm hts hsz hX hW ls hl
  subst hsz
  have hA : ∀ q, s.heap.size ≤ q → hw_A M s.heap.size q := fun q h => Or.inr h
  have hS : va_S (hw_A M s.heap.size) s.heap s.heap [] := va_S.rf
  have hl : lv_has ls 5 [(0, .ref md), (1, .int (nI lv)), (2, .int (nI i))] := hl
  have hown : s.vm.findClass "QuantifierOutModel" = some m.cls := hown
  obtain ⟨Q9, hQ9⟩ : ∃ X : State → Prop, X = MQ below (va_Qv (fun M1 => ∃ u d : Int64, 0 < d.toInt ∧ d.toInt ≤ T2 ∧ u.toInt.natAbs ≤ T1 ∧ qi_at (mk_v (kf (64 * lv) AB) (kf (64 * lv) BE)) n0 i (qm_fr u.toInt d.toInt) ∧ md_W cI cJ cZ md kd on tw nu le fx fy si de ne it po ma ab be li fr to M1 cd n u d pz NE IT PO MA AB BE ∧ ∀ x9, x9 ≠ md → x9 ≠ ne → x9 ≠ it → x9 ≠ po → x9 ≠ ma → x9 ≠ ab → x9 ≠ be → M1 x9 = M x9) (hw_B D qcl (qty cI cJ cZ cN) M s.heap.size) (hw_A M s.heap.size)) [.ref md, .int (nI lv), .int (nI i)].toArray s 0 0 (hw_A M s.heap.size) := ⟨_, rfl⟩
  rw [← hQ9]
  have w_md := hK.1
  have w_md : M md = some (.inr (8, [.int cd, .int (nI n), .ref kd, .ref on, .ref tw, .ref nu, .ref le, .ref fx, .ref fy, .ref si, .ref de, .ref ne, .ref it, .ref po, .ref ma, .ref ab, .ref be, .long up, .long dn, .ref li, .int pz, .ref fr, .ref to])) := w_md
  have w_ma := hK.2.2.2.2.1
  have w_ma : M ma = some (.inl (cI, 3, .inl MA)) := w_ma
  have w_ab := hK.2.2.2.2.2.1
  have w_ab : M ab = some (.inl (cJ, 192, .inr (.inl AB))) := w_ab
  have w_be := hK.2.2.2.2.2.2
  have w_be : M be = some (.inl (cJ, 192, .inr (.inl BE))) := w_be
  refine lv_bipush (v := 64) hx hb d_Md_trial_0 (by decide) ?_
  refine lv_iload_n hx hb d_Md_trial_2 rfl (lv_at hl 1 rfl) ?_
  refine lv_imul hx hb d_Md_trial_3 ?_
  refine lv_topi (fun x1 ex1 => ?_)
  refine lv_iload_n hx hb d_Md_trial_4 rfl (lv_at hl 2 rfl) ?_
  refine lv_iconst (v := 2) hx hb d_Md_trial_5 (by decide) ?_
  refine lv_idiv hx hb d_Md_trial_6 (by decide) ?_
  refine lv_topi (fun i2 ei2 => ?_)
  have ei2b : i2 = nI (i / 2) := by rw [ei2]; exact pk_div (a := i) (d := 2) (by omega) (by omega) (by omega)
  rw [ei2b]
  refine lv_iadd hx hb d_Md_trial_7 ?_
  refine lv_topi (fun x2 ex2 => ?_)
  have ek : x2 = nI (64 * lv + i / 2) := by rw [ex2, ex1, show (64 : Int32) = nI 64 from rfl, pk_mul]; exact nI_add _ _
  rw [ek]
  refine lv_istore_n (lv' := [(3, .int (nI (64 * lv + i / 2))), (0, .ref md), (1, .int (nI lv)), (2, .int (nI i))]) hx hb d_Md_trial_8 rfl hl (by decide) rfl (fun ls hl => ?_)
  refine lv_aload_n hx hb d_Md_trial_9 rfl (lv_at hl 1 rfl) ?_
  refine hw_get (own := "QuantifierOutModel") (v := .ref ma) hx hb hts i_Md hown hW w_md rfl 14 (by decide) (hts _ tw_617) (fun _ h9 => h9) rfl d_Md_trial_10 ?_
  refine lv_iload_n hx hb d_Md_trial_13 rfl (lv_at hl 2 rfl) ?_
  refine hw_ild hx hb hW 0 w_ma rfl lv rfl (by omega) (by decide) d_Md_trial_14 ?_
  rw [hma]
  refine lv_istore (lv' := [(4, .int (nI n0)), (3, .int (nI (64 * lv + i / 2))), (0, .ref md), (1, .int (nI lv)), (2, .int (nI i))]) hx hb d_Md_trial_15 hl (by decide) rfl (fun ls hl => ?_)
  refine lv_iload hx hb d_Md_trial_17 (lv_at hl 0 rfl) ?_
  refine lv_if_ne (tgt := 31) hx hb d_Md_trial_19 (by decide) (fun c_19 => ?_) (fun c_19 => ?_)
  · skip
    have hn1 : 0 < n0 := Nat.pos_of_ne_zero (fun z9 => c_19 (by rw [z9]; rfl))
    refine lv_iload_n hx hb d_Md_trial_31 rfl (lv_at hl 4 rfl) ?_
    refine lv_iconst (v := 2) hx hb d_Md_trial_32 (by decide) ?_
    refine lv_irem hx hb d_Md_trial_33 (by decide) ?_
    refine lv_topi (fun rm9 erm9 => ?_)
    have erm2 : rm9 = nI (i % 2) := by rw [erm9]; exact pk_rem (a := i) (d := 2) (by omega) (by omega) (by omega)
    refine lv_iconst (v := 1) hx hb d_Md_trial_34 (by decide) ?_
    refine lv_icmp_ne (tgt := 57) hx hb d_Md_trial_35 (by decide) (fun c_35 => ?_) (fun c_35 => ?_)
    · skip
      have ho1 : i % 2 ≠ 1 := fun z9 => c_35 (by rw [erm2, z9]; rfl)
      have hi2 : i = 2 * (i / 2) := by omega
      refine lv_iload_n hx hb d_Md_trial_57 rfl (lv_at hl 4 rfl) ?_
      refine lv_if_ne (tgt := 87) hx hb d_Md_trial_58 (by decide) (fun c_58 => ?_) (fun c_58 => ?_)
      · skip
        have hi0 : i ≠ 0 := fun z9 => c_58 (by rw [z9]; rfl)
        obtain ⟨e1, e2, e3, e4, e5⟩ := hr9.1 (i / 2 - 1) (by omega)
        unfold kf at e1 e2 e3
        refine lv_iload_n hx hb d_Md_trial_87 rfl (lv_at hl 4 rfl) ?_
        refine lv_iconst (v := 2) hx hb d_Md_trial_88 (by decide) ?_
        refine lv_iload hx hb d_Md_trial_89 (lv_at hl 0 rfl) ?_
        refine lv_imul hx hb d_Md_trial_91 ?_
        refine lv_topi (fun x3 ex3 => ?_)
        have em : x3 = nI (2 * n0) := by rw [ex3]; exact pk_mul 2 n0
        rw [em]
        refine lv_icmp_ne (tgt := 127) hx hb d_Md_trial_92 (by decide) (fun c_92 => ?_) (fun c_92 => ?_)
        · skip
          have hl9 : i ≠ 2 * n0 := fun z9 => c_92 (by rw [z9])
          obtain ⟨g1, g2, g3, g4, g5⟩ := hr9.1 (i / 2) (by omega)
          unfold kf at g1 g2 g3
          refine lv_aload_n hx hb d_Md_trial_127 rfl (lv_at hl 2 rfl) ?_
          refine lv_aload_n hx hb d_Md_trial_128 rfl (lv_at hl 2 rfl) ?_
          refine hw_get (own := "QuantifierOutModel") (v := .ref ab) hx hb hts i_Md hown hW w_md rfl 15 (by decide) (hts _ tw_618) (fun _ h9 => h9) rfl d_Md_trial_129 ?_
          refine lv_iload_n hx hb d_Md_trial_132 rfl (lv_at hl 1 rfl) ?_
          refine lv_iconst (v := 1) hx hb d_Md_trial_133 (by decide) ?_
          refine lv_isub hx hb d_Md_trial_134 ?_
          refine lv_topi (fun x4 ex4 => ?_)
          have epx4 : x4 = nI (64 * lv + (i / 2 - 1)) := by rw [ex4, show 64 * lv + i / 2 = 64 * lv + (i / 2 - 1) + 1 by omega]; exact nI_pred _
          refine hw_lld hx hb hW 1 w_ab rfl (64 * lv + (i / 2 - 1)) epx4 (by omega) (by decide) d_Md_trial_135 ?_
          refine lv_aload_n hx hb d_Md_trial_136 rfl (lv_at hl 2 rfl) ?_
          refine hw_get (own := "QuantifierOutModel") (v := .ref be) hx hb hts i_Md hown hW w_md rfl 16 (by decide) (hts _ tw_619) (fun _ h9 => h9) rfl d_Md_trial_137 ?_
          refine lv_iload_n hx hb d_Md_trial_140 rfl (lv_at hl 1 rfl) ?_
          refine hw_lld hx hb hW 1 w_be rfl (64 * lv + i / 2) rfl (by omega) (by decide) d_Md_trial_141 ?_
          refine lv_lmul hx hb d_Md_trial_142 ?_
          refine lv_topl (fun x5 ex5 => ?_)
          refine lv_aload_n hx hb d_Md_trial_143 rfl (lv_at hl 2 rfl) ?_
          refine hw_get (own := "QuantifierOutModel") (v := .ref ab) hx hb hts i_Md hown hW w_md rfl 15 (by decide) (hts _ tw_618) (fun _ h9 => h9) rfl d_Md_trial_144 ?_
          refine lv_iload_n hx hb d_Md_trial_147 rfl (lv_at hl 1 rfl) ?_
          refine hw_lld hx hb hW 1 w_ab rfl (64 * lv + i / 2) rfl (by omega) (by decide) d_Md_trial_148 ?_
          refine lv_aload_n hx hb d_Md_trial_149 rfl (lv_at hl 2 rfl) ?_
          refine hw_get (own := "QuantifierOutModel") (v := .ref be) hx hb hts i_Md hown hW w_md rfl 16 (by decide) (hts _ tw_619) (fun _ h9 => h9) rfl d_Md_trial_150 ?_
          refine lv_iload_n hx hb d_Md_trial_153 rfl (lv_at hl 1 rfl) ?_
          refine lv_iconst (v := 1) hx hb d_Md_trial_154 (by decide) ?_
          refine lv_isub hx hb d_Md_trial_155 ?_
          refine lv_topi (fun x6 ex6 => ?_)
          have epx6 : x6 = nI (64 * lv + (i / 2 - 1)) := by rw [ex6, show 64 * lv + i / 2 = 64 * lv + (i / 2 - 1) + 1 by omega]; exact nI_pred _
          refine hw_lld hx hb hW 1 w_be rfl (64 * lv + (i / 2 - 1)) epx6 (by omega) (by decide) d_Md_trial_156 ?_
          refine lv_lmul hx hb d_Md_trial_157 ?_
          refine lv_topl (fun x7 ex7 => ?_)
          refine lv_ladd hx hb d_Md_trial_158 ?_
          refine lv_topl (fun x8 ex8 => ?_)
          refine lv_ldc2 (own := "QuantifierOutModel") (v := 2) hx hb hown (hts _ tw_687) d_Md_trial_159 ?_
          refine lv_aload_n hx hb d_Md_trial_162 rfl (lv_at hl 2 rfl) ?_
          refine hw_get (own := "QuantifierOutModel") (v := .ref be) hx hb hts i_Md hown hW w_md rfl 16 (by decide) (hts _ tw_619) (fun _ h9 => h9) rfl d_Md_trial_163 ?_
          refine lv_iload_n hx hb d_Md_trial_166 rfl (lv_at hl 1 rfl) ?_
          refine lv_iconst (v := 1) hx hb d_Md_trial_167 (by decide) ?_
          refine lv_isub hx hb d_Md_trial_168 ?_
          refine lv_topi (fun x9 ex9 => ?_)
          have epx9 : x9 = nI (64 * lv + (i / 2 - 1)) := by rw [ex9, show 64 * lv + i / 2 = 64 * lv + (i / 2 - 1) + 1 by omega]; exact nI_pred _
          refine hw_lld hx hb hW 1 w_be rfl (64 * lv + (i / 2 - 1)) epx9 (by omega) (by decide) d_Md_trial_169 ?_
          refine lv_lmul hx hb d_Md_trial_170 ?_
          refine lv_topl (fun x10 ex10 => ?_)
          refine lv_aload_n hx hb d_Md_trial_171 rfl (lv_at hl 2 rfl) ?_
          refine hw_get (own := "QuantifierOutModel") (v := .ref be) hx hb hts i_Md hown hW w_md rfl 16 (by decide) (hts _ tw_619) (fun _ h9 => h9) rfl d_Md_trial_172 ?_
          refine lv_iload_n hx hb d_Md_trial_175 rfl (lv_at hl 1 rfl) ?_
          refine hw_lld hx hb hW 1 w_be rfl (64 * lv + i / 2) rfl (by omega) (by decide) d_Md_trial_176 ?_
          refine lv_lmul hx hb d_Md_trial_177 ?_
          refine lv_topl (fun x11 ex11 => ?_)
          have m1 := nm_mulb e3 (show (BE (64 * lv + i / 2)).toInt.natAbs ≤ Dn by omega)
          have m2 := nm_mulb g3 (show (BE (64 * lv + (i / 2 - 1))).toInt.natAbs ≤ Dn by omega)
          have m3 := nm_mulb (show (BE (64 * lv + (i / 2 - 1))).toInt.natAbs ≤ Dn by omega) (show (BE (64 * lv + i / 2)).toInt.natAbs ≤ Dn by omega)
          have t1 : x5.toInt = (AB (64 * lv + (i / 2 - 1))).toInt * (BE (64 * lv + i / 2)).toInt := by rw [ex5]; exact nm_lmul (by omega)
          have t2 : x7.toInt = (AB (64 * lv + i / 2)).toInt * (BE (64 * lv + (i / 2 - 1))).toInt := by rw [ex7]; exact nm_lmul (by omega)
          have ta : x8.toInt = (AB (64 * lv + (i / 2 - 1))).toInt * (BE (64 * lv + i / 2)).toInt + (AB (64 * lv + i / 2)).toInt * (BE (64 * lv + (i / 2 - 1))).toInt := by rw [ex8, nm_ladd (by rw [t1, t2]; omega), t1, t2]
          have t3 : x10.toInt = 2 * (BE (64 * lv + (i / 2 - 1))).toInt := by rw [ex10]; exact nm_lmul (x := 2) (by have : (2 : Int64).toInt = 2 := rfl; rw [this]; omega)
          have m4 : (2 * (BE (64 * lv + (i / 2 - 1))).toInt * (BE (64 * lv + i / 2)).toInt).natAbs ≤ 2 * (Dn * Dn) := by rw [Int.mul_assoc]; exact nm_mulb (show (2 : Int).natAbs ≤ 2 by decide) m3
          have tb : x11.toInt = 2 * (BE (64 * lv + (i / 2 - 1))).toInt * (BE (64 * lv + i / 2)).toInt := by rw [ex11, nm_lmul (by rw [t3]; omega), t3]
          have hb0 : 0 < 2 * (BE (64 * lv + (i / 2 - 1))).toInt * (BE (64 * lv + i / 2)).toInt := Int.mul_pos (by omega) g1
          refine hw_callv (hw_runV (n := 2) (own := "QuantifierOutModel") (As := [.long x8, .long x11]) (rest := []) hx hb hml hown hts hX hW hl.1 (c_Md_lowest l D cI cJ cZ cN md kd on tw nu le fx fy si de ne it po ma ab be li fr to cd n up dn pz _ M hK.1 x8 x11 (by rw [tb]; omega) (by rw [ta]; omega) (by rw [tb]; omega)) hK.1 rfl tw_771 tw_773 ts_23 tw_5 tw_774 (by decide +kernel) rfl rfl ⟨by decide, by decide⟩ rfl rfl (Nat.le_of_ble_eq_true rfl) d_Md_trial_178 ⟨by decide, by decide⟩) hW hS hA (fun Mla H locs hpl hz hW hS => ?_)
          obtain ⟨ua, da, hua, hda, eMla⟩ := hpl
          have hfla : ∀ x9, x9 ≠ md → Mla x9 = M x9 := fun x9 z9 => by rw [eMla, va_up_ne _ _ z9]
          have hKla : md_W cI cJ cZ md kd on tw nu le fx fy si de ne it po ma ab be li fr to Mla cd n ua da pz NE IT PO MA AB BE := ⟨by rw [eMla]; exact va_up_self _ _ _, (hfla ne (Ne.symm (show md ≠ ne from hD 0 10 (by decide) (by decide)))).trans hK.2.1, (hfla it (Ne.symm (show md ≠ it from hD 0 11 (by decide) (by decide)))).trans hK.2.2.1, (hfla po (Ne.symm (show md ≠ po from hD 0 12 (by decide) (by decide)))).trans hK.2.2.2.1, (hfla ma (Ne.symm (show md ≠ ma from hD 0 13 (by decide) (by decide)))).trans hK.2.2.2.2.1, (hfla ab (Ne.symm (show md ≠ ab from hD 0 14 (by decide) (by decide)))).trans hK.2.2.2.2.2.1, (hfla be (Ne.symm (show md ≠ be from hD 0 15 (by decide) (by decide)))).trans hK.2.2.2.2.2.2⟩
          have hlt : qm_fr (AB (64 * lv + (i / 2 - 1))).toInt (BE (64 * lv + (i / 2 - 1))).toInt < qm_fr (AB (64 * lv + i / 2)).toInt (BE (64 * lv + i / 2)).toInt := hr9.2 (i / 2 - 1) (i / 2) (by omega) (by omega)
          have hmm := tr_mid e1 g1 hlt
          rw [hQ9]
          obtain ⟨w1, w2⟩ := fr_bd (a := (x8).toInt) (b := (x11).toInt) (by rw [tb]; omega)
          have w3 := (qm_fr (x8).toInt (x11).toInt).den_pos
          have hval : qm_fr ua.toInt da.toInt = qm_fr (x8).toInt (x11).toInt := by rw [hua, hda]; exact fr_self _
          refine hw_retv hx hb hr hlocks hW hS ⟨ua, da, by rw [hda]; omega, ?_, ?_, ?_, hKla, fun x9 z0 z1 z2 z3 z4 z5 z6 => hfla x9 z0⟩ d_Md_trial_181
          · rw [hda]; have h8 : x11.toInt.natAbs ≤ T2 := by { rw [tb]; omega }; omega
          · rw [hua]; have h8 : x8.toInt.natAbs ≤ T1 := by { rw [ta]; omega }; omega
          · rw [hval]; rw [ta, tb]; have h8 := mo_even (f := kf (64 * lv) AB) (g := kf (64 * lv) BE) (x := qm_fr ((AB (64 * lv + (i / 2 - 1))).toInt * (BE (64 * lv + i / 2)).toInt + (AB (64 * lv + i / 2)).toInt * (BE (64 * lv + (i / 2 - 1))).toInt) (2 * (BE (64 * lv + (i / 2 - 1))).toInt * (BE (64 * lv + i / 2)).toInt)) hr9.2 (show i / 2 ≤ n0 by omega) (fun _ => hmm.1) (fun _ => hmm.2); rw [← hi2] at h8; exact h8
        · skip
          have hl9 : i = 2 * n0 := (nI_eq (by omega) (by omega)).mp c_92
          refine lv_aload_n hx hb d_Md_trial_95 rfl (lv_at hl 2 rfl) ?_
          refine lv_aload_n hx hb d_Md_trial_96 rfl (lv_at hl 2 rfl) ?_
          refine hw_get (own := "QuantifierOutModel") (v := .ref ab) hx hb hts i_Md hown hW w_md rfl 15 (by decide) (hts _ tw_618) (fun _ h9 => h9) rfl d_Md_trial_97 ?_
          refine lv_iload_n hx hb d_Md_trial_100 rfl (lv_at hl 1 rfl) ?_
          refine lv_iconst (v := 1) hx hb d_Md_trial_101 (by decide) ?_
          refine lv_isub hx hb d_Md_trial_102 ?_
          refine lv_topi (fun x12 ex12 => ?_)
          have epx12 : x12 = nI (64 * lv + (i / 2 - 1)) := by rw [ex12, show 64 * lv + i / 2 = 64 * lv + (i / 2 - 1) + 1 by omega]; exact nI_pred _
          refine hw_lld hx hb hW 1 w_ab rfl (64 * lv + (i / 2 - 1)) epx12 (by omega) (by decide) d_Md_trial_103 ?_
          refine lv_aload_n hx hb d_Md_trial_104 rfl (lv_at hl 2 rfl) ?_
          refine hw_get (own := "QuantifierOutModel") (v := .ref be) hx hb hts i_Md hown hW w_md rfl 16 (by decide) (hts _ tw_619) (fun _ h9 => h9) rfl d_Md_trial_105 ?_
          refine lv_iload_n hx hb d_Md_trial_108 rfl (lv_at hl 1 rfl) ?_
          refine lv_iconst (v := 1) hx hb d_Md_trial_109 (by decide) ?_
          refine lv_isub hx hb d_Md_trial_110 ?_
          refine lv_topi (fun x13 ex13 => ?_)
          have epx13 : x13 = nI (64 * lv + (i / 2 - 1)) := by rw [ex13, show 64 * lv + i / 2 = 64 * lv + (i / 2 - 1) + 1 by omega]; exact nI_pred _
          refine hw_lld hx hb hW 1 w_be rfl (64 * lv + (i / 2 - 1)) epx13 (by omega) (by decide) d_Md_trial_111 ?_
          refine lv_ladd hx hb d_Md_trial_112 ?_
          refine lv_topl (fun x14 ex14 => ?_)
          refine lv_aload_n hx hb d_Md_trial_113 rfl (lv_at hl 2 rfl) ?_
          refine hw_get (own := "QuantifierOutModel") (v := .ref be) hx hb hts i_Md hown hW w_md rfl 16 (by decide) (hts _ tw_619) (fun _ h9 => h9) rfl d_Md_trial_114 ?_
          refine lv_iload_n hx hb d_Md_trial_117 rfl (lv_at hl 1 rfl) ?_
          refine lv_iconst (v := 1) hx hb d_Md_trial_118 (by decide) ?_
          refine lv_isub hx hb d_Md_trial_119 ?_
          refine lv_topi (fun x15 ex15 => ?_)
          have epx15 : x15 = nI (64 * lv + (i / 2 - 1)) := by rw [ex15, show 64 * lv + i / 2 = 64 * lv + (i / 2 - 1) + 1 by omega]; exact nI_pred _
          refine hw_lld hx hb hW 1 w_be rfl (64 * lv + (i / 2 - 1)) epx15 (by omega) (by decide) d_Md_trial_120 ?_
          have ta : x14.toInt = (AB (64 * lv + (i / 2 - 1))).toInt + (BE (64 * lv + (i / 2 - 1))).toInt := by rw [ex14]; exact nm_ladd (by omega)
          refine hw_callv (hw_runV (n := 2) (own := "QuantifierOutModel") (As := [.long x14, .long (BE (64 * lv + (i / 2 - 1)))]) (rest := []) hx hb hml hown hts hX hW hl.1 (c_Md_lowest l D cI cJ cZ cN md kd on tw nu le fx fy si de ne it po ma ab be li fr to cd n up dn pz _ M hK.1 x14 (BE (64 * lv + (i / 2 - 1))) (by omega) (by rw [ta]; omega) (by omega)) hK.1 rfl tw_771 tw_773 ts_23 tw_5 tw_774 (by decide +kernel) rfl rfl ⟨by decide, by decide⟩ rfl rfl (Nat.le_of_ble_eq_true rfl) d_Md_trial_121 ⟨by decide, by decide⟩) hW hS hA (fun Mla H locs hpl hz hW hS => ?_)
          obtain ⟨ua, da, hua, hda, eMla⟩ := hpl
          have hfla : ∀ x9, x9 ≠ md → Mla x9 = M x9 := fun x9 z9 => by rw [eMla, va_up_ne _ _ z9]
          have hKla : md_W cI cJ cZ md kd on tw nu le fx fy si de ne it po ma ab be li fr to Mla cd n ua da pz NE IT PO MA AB BE := ⟨by rw [eMla]; exact va_up_self _ _ _, (hfla ne (Ne.symm (show md ≠ ne from hD 0 10 (by decide) (by decide)))).trans hK.2.1, (hfla it (Ne.symm (show md ≠ it from hD 0 11 (by decide) (by decide)))).trans hK.2.2.1, (hfla po (Ne.symm (show md ≠ po from hD 0 12 (by decide) (by decide)))).trans hK.2.2.2.1, (hfla ma (Ne.symm (show md ≠ ma from hD 0 13 (by decide) (by decide)))).trans hK.2.2.2.2.1, (hfla ab (Ne.symm (show md ≠ ab from hD 0 14 (by decide) (by decide)))).trans hK.2.2.2.2.2.1, (hfla be (Ne.symm (show md ≠ be from hD 0 15 (by decide) (by decide)))).trans hK.2.2.2.2.2.2⟩
          refine lv_goto (tgt := 181) hx hb d_Md_trial_124 (by decide) ?_
          rw [hQ9]
          obtain ⟨w1, w2⟩ := fr_bd (a := (x14).toInt) (b := (BE (64 * lv + (i / 2 - 1))).toInt) (by omega)
          have w3 := (qm_fr (x14).toInt (BE (64 * lv + (i / 2 - 1))).toInt).den_pos
          have hval : qm_fr ua.toInt da.toInt = qm_fr (x14).toInt (BE (64 * lv + (i / 2 - 1))).toInt := by rw [hua, hda]; exact fr_self _
          refine hw_retv hx hb hr hlocks hW hS ⟨ua, da, by rw [hda]; omega, ?_, ?_, ?_, hKla, fun x9 z0 z1 z2 z3 z4 z5 z6 => hfla x9 z0⟩ d_Md_trial_181
          · rw [hda]; omega
          · rw [hua]; have h8 : x14.toInt.natAbs ≤ T1 := by { rw [ta]; omega }; omega
          · rw [hval]; rw [ta]; have h9 := mo_up (u := (AB (64 * lv + (i / 2 - 1))).toInt) e1; have h8 := mo_even (f := kf (64 * lv) AB) (g := kf (64 * lv) BE) (x := qm_fr ((AB (64 * lv + (i / 2 - 1))).toInt + (BE (64 * lv + (i / 2 - 1))).toInt) (BE (64 * lv + (i / 2 - 1))).toInt) hr9.2 (show i / 2 ≤ n0 by omega) (fun _ => h9) (fun h => absurd h (by omega)); rw [← hi2] at h8; exact h8
      · skip
        have hi0 : i = 0 := (nI_eq (b := 0) (by omega) (by omega)).mp c_58
        obtain ⟨g1, g2, g3, g4, g5⟩ := hr9.1 (i / 2) (by omega)
        unfold kf at g1 g2 g3
        refine lv_aload_n hx hb d_Md_trial_61 rfl (lv_at hl 2 rfl) ?_
        refine lv_aload_n hx hb d_Md_trial_62 rfl (lv_at hl 2 rfl) ?_
        refine hw_get (own := "QuantifierOutModel") (v := .ref ab) hx hb hts i_Md hown hW w_md rfl 15 (by decide) (hts _ tw_618) (fun _ h9 => h9) rfl d_Md_trial_63 ?_
        refine lv_iload_n hx hb d_Md_trial_66 rfl (lv_at hl 1 rfl) ?_
        refine hw_lld hx hb hW 1 w_ab rfl (64 * lv + i / 2) rfl (by omega) (by decide) d_Md_trial_67 ?_
        refine lv_aload_n hx hb d_Md_trial_68 rfl (lv_at hl 2 rfl) ?_
        refine hw_get (own := "QuantifierOutModel") (v := .ref be) hx hb hts i_Md hown hW w_md rfl 16 (by decide) (hts _ tw_619) (fun _ h9 => h9) rfl d_Md_trial_69 ?_
        refine lv_iload_n hx hb d_Md_trial_72 rfl (lv_at hl 1 rfl) ?_
        refine hw_lld hx hb hW 1 w_be rfl (64 * lv + i / 2) rfl (by omega) (by decide) d_Md_trial_73 ?_
        refine lv_lsub hx hb d_Md_trial_74 ?_
        refine lv_topl (fun x16 ex16 => ?_)
        refine lv_aload_n hx hb d_Md_trial_75 rfl (lv_at hl 2 rfl) ?_
        refine hw_get (own := "QuantifierOutModel") (v := .ref be) hx hb hts i_Md hown hW w_md rfl 16 (by decide) (hts _ tw_619) (fun _ h9 => h9) rfl d_Md_trial_76 ?_
        refine lv_iload_n hx hb d_Md_trial_79 rfl (lv_at hl 1 rfl) ?_
        refine hw_lld hx hb hW 1 w_be rfl (64 * lv + i / 2) rfl (by omega) (by decide) d_Md_trial_80 ?_
        have ta : x16.toInt = (AB (64 * lv + i / 2)).toInt - (BE (64 * lv + i / 2)).toInt := by rw [ex16]; exact nm_lsub (by omega)
        refine hw_callv (hw_runV (n := 2) (own := "QuantifierOutModel") (As := [.long x16, .long (BE (64 * lv + i / 2))]) (rest := []) hx hb hml hown hts hX hW hl.1 (c_Md_lowest l D cI cJ cZ cN md kd on tw nu le fx fy si de ne it po ma ab be li fr to cd n up dn pz _ M hK.1 x16 (BE (64 * lv + i / 2)) (by omega) (by rw [ta]; omega) (by omega)) hK.1 rfl tw_771 tw_773 ts_23 tw_5 tw_774 (by decide +kernel) rfl rfl ⟨by decide, by decide⟩ rfl rfl (Nat.le_of_ble_eq_true rfl) d_Md_trial_81 ⟨by decide, by decide⟩) hW hS hA (fun Mla H locs hpl hz hW hS => ?_)
        obtain ⟨ua, da, hua, hda, eMla⟩ := hpl
        have hfla : ∀ x9, x9 ≠ md → Mla x9 = M x9 := fun x9 z9 => by rw [eMla, va_up_ne _ _ z9]
        have hKla : md_W cI cJ cZ md kd on tw nu le fx fy si de ne it po ma ab be li fr to Mla cd n ua da pz NE IT PO MA AB BE := ⟨by rw [eMla]; exact va_up_self _ _ _, (hfla ne (Ne.symm (show md ≠ ne from hD 0 10 (by decide) (by decide)))).trans hK.2.1, (hfla it (Ne.symm (show md ≠ it from hD 0 11 (by decide) (by decide)))).trans hK.2.2.1, (hfla po (Ne.symm (show md ≠ po from hD 0 12 (by decide) (by decide)))).trans hK.2.2.2.1, (hfla ma (Ne.symm (show md ≠ ma from hD 0 13 (by decide) (by decide)))).trans hK.2.2.2.2.1, (hfla ab (Ne.symm (show md ≠ ab from hD 0 14 (by decide) (by decide)))).trans hK.2.2.2.2.2.1, (hfla be (Ne.symm (show md ≠ be from hD 0 15 (by decide) (by decide)))).trans hK.2.2.2.2.2.2⟩
        refine lv_goto (tgt := 181) hx hb d_Md_trial_84 (by decide) ?_
        rw [hQ9]
        obtain ⟨w1, w2⟩ := fr_bd (a := (x16).toInt) (b := (BE (64 * lv + i / 2)).toInt) (by omega)
        have w3 := (qm_fr (x16).toInt (BE (64 * lv + i / 2)).toInt).den_pos
        have hval : qm_fr ua.toInt da.toInt = qm_fr (x16).toInt (BE (64 * lv + i / 2)).toInt := by rw [hua, hda]; exact fr_self _
        refine hw_retv hx hb hr hlocks hW hS ⟨ua, da, by rw [hda]; omega, ?_, ?_, ?_, hKla, fun x9 z0 z1 z2 z3 z4 z5 z6 => hfla x9 z0⟩ d_Md_trial_181
        · rw [hda]; omega
        · rw [hua]; have h8 : x16.toInt.natAbs ≤ T1 := by { rw [ta]; omega }; omega
        · rw [hval]; rw [ta]; have h9 := mo_dn (u := (AB (64 * lv + i / 2)).toInt) g1; have h8 := mo_even (f := kf (64 * lv) AB) (g := kf (64 * lv) BE) (x := qm_fr ((AB (64 * lv + i / 2)).toInt - (BE (64 * lv + i / 2)).toInt) (BE (64 * lv + i / 2)).toInt) hr9.2 (show i / 2 ≤ n0 by omega) (fun h => absurd h (by omega)) (fun _ => h9); rw [← hi2] at h8; exact h8
    · skip
      have ho : i % 2 = 1 := by rw [erm2] at c_35; exact (nI_eq (b := 1) (by omega) (by omega)).mp c_35
      obtain ⟨g1, g2, g3, g4, g5⟩ := hr9.1 (i / 2) (by omega)
      unfold kf at g1 g2 g3
      refine lv_aload_n hx hb d_Md_trial_38 rfl (lv_at hl 2 rfl) ?_
      refine lv_aload_n hx hb d_Md_trial_39 rfl (lv_at hl 2 rfl) ?_
      refine hw_get (own := "QuantifierOutModel") (v := .ref ab) hx hb hts i_Md hown hW w_md rfl 15 (by decide) (hts _ tw_618) (fun _ h9 => h9) rfl d_Md_trial_40 ?_
      refine lv_iload_n hx hb d_Md_trial_43 rfl (lv_at hl 1 rfl) ?_
      refine hw_lld hx hb hW 1 w_ab rfl (64 * lv + i / 2) rfl (by omega) (by decide) d_Md_trial_44 ?_
      refine lv_aload_n hx hb d_Md_trial_45 rfl (lv_at hl 2 rfl) ?_
      refine hw_get (own := "QuantifierOutModel") (v := .ref be) hx hb hts i_Md hown hW w_md rfl 16 (by decide) (hts _ tw_619) (fun _ h9 => h9) rfl d_Md_trial_46 ?_
      refine lv_iload_n hx hb d_Md_trial_49 rfl (lv_at hl 1 rfl) ?_
      refine hw_lld hx hb hW 1 w_be rfl (64 * lv + i / 2) rfl (by omega) (by decide) d_Md_trial_50 ?_
      refine hw_callv (hw_runV (n := 2) (own := "QuantifierOutModel") (As := [.long (AB (64 * lv + i / 2)), .long (BE (64 * lv + i / 2))]) (rest := []) hx hb hml hown hts hX hW hl.1 (c_Md_lowest l D cI cJ cZ cN md kd on tw nu le fx fy si de ne it po ma ab be li fr to cd n up dn pz _ M hK.1 (AB (64 * lv + i / 2)) (BE (64 * lv + i / 2)) (by omega) (by omega) (by omega)) hK.1 rfl tw_771 tw_773 ts_23 tw_5 tw_774 (by decide +kernel) rfl rfl ⟨by decide, by decide⟩ rfl rfl (Nat.le_of_ble_eq_true rfl) d_Md_trial_51 ⟨by decide, by decide⟩) hW hS hA (fun Mla H locs hpl hz hW hS => ?_)
      obtain ⟨ua, da, hua, hda, eMla⟩ := hpl
      have hfla : ∀ x9, x9 ≠ md → Mla x9 = M x9 := fun x9 z9 => by rw [eMla, va_up_ne _ _ z9]
      have hKla : md_W cI cJ cZ md kd on tw nu le fx fy si de ne it po ma ab be li fr to Mla cd n ua da pz NE IT PO MA AB BE := ⟨by rw [eMla]; exact va_up_self _ _ _, (hfla ne (Ne.symm (show md ≠ ne from hD 0 10 (by decide) (by decide)))).trans hK.2.1, (hfla it (Ne.symm (show md ≠ it from hD 0 11 (by decide) (by decide)))).trans hK.2.2.1, (hfla po (Ne.symm (show md ≠ po from hD 0 12 (by decide) (by decide)))).trans hK.2.2.2.1, (hfla ma (Ne.symm (show md ≠ ma from hD 0 13 (by decide) (by decide)))).trans hK.2.2.2.2.1, (hfla ab (Ne.symm (show md ≠ ab from hD 0 14 (by decide) (by decide)))).trans hK.2.2.2.2.2.1, (hfla be (Ne.symm (show md ≠ be from hD 0 15 (by decide) (by decide)))).trans hK.2.2.2.2.2.2⟩
      refine lv_goto (tgt := 181) hx hb d_Md_trial_54 (by decide) ?_
      rw [hQ9]
      obtain ⟨w1, w2⟩ := fr_bd (a := (AB (64 * lv + i / 2)).toInt) (b := (BE (64 * lv + i / 2)).toInt) (by omega)
      have w3 := (qm_fr (AB (64 * lv + i / 2)).toInt (BE (64 * lv + i / 2)).toInt).den_pos
      have hval : qm_fr ua.toInt da.toInt = qm_fr (AB (64 * lv + i / 2)).toInt (BE (64 * lv + i / 2)).toInt := by rw [hua, hda]; exact fr_self _
      refine hw_retv hx hb hr hlocks hW hS ⟨ua, da, by rw [hda]; omega, ?_, ?_, ?_, hKla, fun x9 z0 z1 z2 z3 z4 z5 z6 => hfla x9 z0⟩ d_Md_trial_181
      · rw [hda]; omega
      · rw [hua]; omega
      · rw [hval]; exact Or.inl ⟨i / 2, by omega, by omega, rfl⟩
  · skip
    have hn00 : n0 = 0 := (nI_eq (b := 0) (by omega) (by omega)).mp c_19
    refine lv_aload_n hx hb d_Md_trial_22 rfl (lv_at hl 2 rfl) ?_
    refine lv_lconst (v := 0) hx hb d_Md_trial_23 (by decide) ?_
    refine lv_lconst (v := 1) hx hb d_Md_trial_24 (by decide) ?_
    refine hw_callv (hw_runV (n := 2) (own := "QuantifierOutModel") (As := [.long 0, .long 1]) (rest := []) hx hb hml hown hts hX hW hl.1 (c_Md_lowest l D cI cJ cZ cN md kd on tw nu le fx fy si de ne it po ma ab be li fr to cd n up dn pz _ M hK.1 0 1 (by decide) (by decide) (by decide)) hK.1 rfl tw_771 tw_773 ts_23 tw_5 tw_774 (by decide +kernel) rfl rfl ⟨by decide, by decide⟩ rfl rfl (Nat.le_of_ble_eq_true rfl) d_Md_trial_25 ⟨by decide, by decide⟩) hW hS hA (fun Mla H locs hpl hz hW hS => ?_)
    obtain ⟨ua, da, hua, hda, eMla⟩ := hpl
    have hfla : ∀ x9, x9 ≠ md → Mla x9 = M x9 := fun x9 z9 => by rw [eMla, va_up_ne _ _ z9]
    have hKla : md_W cI cJ cZ md kd on tw nu le fx fy si de ne it po ma ab be li fr to Mla cd n ua da pz NE IT PO MA AB BE := ⟨by rw [eMla]; exact va_up_self _ _ _, (hfla ne (Ne.symm (show md ≠ ne from hD 0 10 (by decide) (by decide)))).trans hK.2.1, (hfla it (Ne.symm (show md ≠ it from hD 0 11 (by decide) (by decide)))).trans hK.2.2.1, (hfla po (Ne.symm (show md ≠ po from hD 0 12 (by decide) (by decide)))).trans hK.2.2.2.1, (hfla ma (Ne.symm (show md ≠ ma from hD 0 13 (by decide) (by decide)))).trans hK.2.2.2.2.1, (hfla ab (Ne.symm (show md ≠ ab from hD 0 14 (by decide) (by decide)))).trans hK.2.2.2.2.2.1, (hfla be (Ne.symm (show md ≠ be from hD 0 15 (by decide) (by decide)))).trans hK.2.2.2.2.2.2⟩
    refine lv_goto (tgt := 181) hx hb d_Md_trial_28 (by decide) ?_
    rw [hQ9]
    obtain ⟨w1, w2⟩ := fr_bd (a := ((0 : Int64)).toInt) (b := ((1 : Int64)).toInt) (by decide)
    have w3 := (qm_fr ((0 : Int64)).toInt ((1 : Int64)).toInt).den_pos
    have hval : qm_fr ua.toInt da.toInt = qm_fr ((0 : Int64)).toInt ((1 : Int64)).toInt := by rw [hua, hda]; exact fr_self _
    refine hw_retv hx hb hr hlocks hW hS ⟨ua, da, by rw [hda]; omega, ?_, ?_, ?_, hKla, fun x9 z0 z1 z2 z3 z4 z5 z6 => hfla x9 z0⟩ d_Md_trial_181
    · rw [hda]; have h8 : (1 : Int64).toInt.natAbs = 1 := rfl; omega
    · rw [hua]; have h8 : (0 : Int64).toInt.natAbs = 0 := rfl; omega
    · rw [hval]; exact Or.inr ⟨0, by omega, by omega, fun j hj => absurd hj (Nat.not_lt_zero j), fun j _ hj => absurd hj (by omega)⟩
end G41

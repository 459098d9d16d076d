/-! Quantified.isTrueAt -/
theorem uL_id (f : Nat → Int64) (k : Nat) : vp_updL f k (f k) = f := by
  funext i
  unfold vp_updL
  split
  · rename_i h; rw [h]
  · rfl
theorem uL_uL (f : Nat → Int64) (k : Nat) (x y : Int64) : vp_updL (vp_updL f k x) k y = vp_updL f k y := by
  funext i
  unfold vp_updL
  split <;> rfl
theorem qf_XY {fv gv : Nat → Int64} {j o : Nat} {x y : Int64} (hjo : j + o = 1) (P : Rat → Rat → Prop) : P (vX (vp_updL fv j x) (vp_updL gv j y)) (vY (vp_updL fv j x) (vp_updL gv j y)) ↔ nP_j j P (qm_fr x.toInt y.toInt) (qm_fr (fv o).toInt (gv o).toInt) := by
  rcases (show j = 0 ∨ j = 1 by omega) with e | e
  · subst e
    have e2 : o = 1 := by omega
    subst e2
    exact Iff.rfl
  · subst e
    have e2 : o = 0 := by omega
    subst e2
    exact Iff.rfl
theorem qf_P {fv gv : Nat → Int64} {j o : Nat} {kk : Bool} {P P1 : Rat → Rat → Prop} (hjo : j + o = 1) (h : ∀ x y, P x y ↔ if kk = true then (if j = 0 then ∀ u, P1 u y else ∀ u, P1 x u) else (if j = 0 then ∃ u, P1 u y else ∃ u, P1 x u)) : P (vX fv gv) (vY fv gv) ↔ if kk = true then ∀ u, nP_j j P1 u (qm_fr (fv o).toInt (gv o).toInt) else ∃ u, nP_j j P1 u (qm_fr (fv o).toInt (gv o).toInt) := by
  rw [h]
  rcases (show j = 0 ∨ j = 1 by omega) with e | e
  · subst e
    have e2 : o = 1 := by omega
    subst e2
    cases kk <;> exact Iff.rfl
  · subst e
    have e2 : o = 0 := by omega
    subst e2
    cases kk <;> exact Iff.rfl
def qf_I (M : Nat → Rat) (n : Nat) (B : Rat → Prop) (kk : Bool) (tr : Int32) (s : Nat) : Prop := (tr = (if kk = true then 1 else 0) ∧ ∀ s', s' < s → ∀ u, qi_at M n s' u → (B u ↔ kk = true)) ∨ (¬ tr = (if kk = true then 1 else 0) ∧ (tr = 0 ∨ tr = 1) ∧ ∃ u, ¬ (B u ↔ kk = true))
theorem qf_end {M : Nat → Rat} {n : Nat} {B : Rat → Prop} {kk : Bool} {tr : Int32} {s : Nat} (hi : qm_inc M n) (h : qf_I M n B kk tr s) (hx : s = 2 * n + 1 ∨ ¬ tr = (if kk = true then 1 else 0)) : it_b tr (if kk = true then ∀ u, B u else ∃ u, B u) := by
  rcases h with ⟨h1, h2⟩ | ⟨h1, h2, u, h3⟩
  · rcases hx with hx | hx
    · have all : ∀ u, (B u ↔ kk = true) := fun u => by
        obtain ⟨s', hs, hu⟩ := qi_ex hi u
        exact h2 s' (by omega) u hu
      cases kk
      · exact Or.inr ⟨h1, fun ⟨u, hu⟩ => absurd ((all u).mp hu) (by decide)⟩
      · exact Or.inl ⟨h1, fun u => (all u).mpr rfl⟩
    · exact absurd h1 hx
  · cases kk
    · refine Or.inl ⟨h2.resolve_left (fun q => h1 (by rw [q]; rfl)), u, ?_⟩
      exact Classical.byContradiction fun q => h3 ⟨fun z => absurd z q, fun z => by cases z⟩
    · exact Or.inr ⟨h2.resolve_right (fun q => h1 (by rw [q]; rfl)), fun z => h3 ⟨fun _ => rfl, fun _ => z u⟩⟩
theorem qf_step {M : Nat → Rat} {n : Nat} {B : Rat → Prop} {kk : Bool} {tr r : Int32} {s : Nat} {u0 : Rat} (h : qf_I M n B kk tr s) (ht : tr = (if kk = true then 1 else 0)) (hu : qi_at M n s u0) (hr : it_b r (B u0)) (hc : ∀ u, qi_at M n s u → (B u ↔ B u0)) : qf_I M n B kk r (s + 1) := by
  rcases h with ⟨h1, h2⟩ | ⟨h1, _⟩
  · by_cases hq : r = (if kk = true then 1 else 0)
    · refine Or.inl ⟨hq, fun s' hs u hu' => ?_⟩
      rcases Nat.lt_or_ge s' s with c | c
      · exact h2 s' c u hu'
      · have e : s' = s := by omega
        subst e
        rw [hc u hu']
        cases kk
        · exact ⟨fun z => absurd z (it_b0 hr hq), fun z => by cases z⟩
        · exact ⟨fun _ => rfl, fun _ => it_b1 hr (by rw [hq]; decide)⟩
    · refine Or.inr ⟨hq, ?_, u0, fun z => ?_⟩
      · rcases hr with ⟨a, _⟩ | ⟨a, _⟩
        · exact Or.inr a
        · exact Or.inl a
      · rcases hr with ⟨a, b⟩ | ⟨a, b⟩
        · exact hq (by rw [a, if_pos (z.mp b)])
        · refine hq ?_
          rw [a, if_neg (fun w => b (z.mpr w))]
  · exact absurd ht h1
theorem nar01 {r : Int32} (h : r = 0 ∨ r = 1) : narrow .boolean (.int r) = .int r := by
  rcases h with h | h <;> rw [h] <;> rfl
/-- a contract with a weaker end -/
theorem it_weak {l : Launch} {y : MethodName} {ws : List Cond} {rm : Room} {Pc : Array Value → State → Prop} {S : Type} {post post2 : Int32 → S → Prop} {B : S → State → Prop} {A : Nat → Prop} {mc ms : Nat} {free : Addr → Prop} (h : Met l y ws rm Pc (va_Qi post B A) mc ms free) (hw : ∀ r u, post r u → post2 r u) : Met l y ws rm Pc (va_Qi post2 B A) mc ms free := by
  intro p e ha hc hk s m args below hf happ hP hK
  obtain ⟨n, o, h1, h2, h3, ⟨⟨⟨r, u, e1, e2, e3⟩, h5⟩, h6⟩⟩ := h p e ha hc hk s m args below hf happ hP hK
  exact ⟨n, o, h1, h2, h3, ⟨⟨r, u, e1, hw r u e2, e3⟩, h5⟩, h6⟩
section G22
variable (l : Launch) (D : va_G) (cI cJ cZ cN : ClassId) (v va vb om oa ob im ia ib : Nat) (tb : Nat → Option nq)
set_option maxHeartbeats 4000000 in
set_option maxRecDepth 100000 in
theorem c_Qf_isTrueAt (N : Nat) (ih : it_Met l D cI cJ cZ cN v va vb om oa ob im ia ib tb N) (h0 : Nat) (q : nq) (hq : tb h0 = some q) (hN : nr q ≤ N + 1) (M : Nat → Option va_E) (sz : Nat) (fv gv : Nat → Int64) (hT : tb_ok cI M tb) (hE : ev_S cJ M v va vb om oa ob im ia ib fv gv) (hb9 : vx_b fv gv (nd q)) (j a : Nat) (kk : Bool) (hK : nK q = .inr (.inr (.inr (j, a, kk)))) (hD : ev_D va vb om oa ob im ia ib) : Met l y_Qf_isTrueAt (.code y_Qf_isTrueAt b_Qf_isTrueAt 9 (some .boolean) :: ww) (it_rm (N + 1)) (hw_Pc D qcl (qty cI cJ cZ cN) [.ref h0, .ref v] M sz) (va_Qi (it_post cJ v va vb om oa ob im ia ib fv gv q M) (hw_B D qcl (qty cI cJ cZ cN) M sz) (hw_A M sz)) 0 0 (hw_A M sz) := by
  obtain ⟨⟨la, gr, F, ⟨hci, hc⟩, hla, hF, hg⟩, hok⟩ := hT h0 q hq
  have hk := hok.1
  unfold nk_ok at hk
  unfold nk_ex nk_ci at hc
  rw [hK] at hk hc
  dsimp only at hk hc
  obtain ⟨q1, hj, h1, h2, h3, h4, h5⟩ := hk
  obtain ⟨⟨la1, gr1, F1, hnd1, hla1, hF1, _⟩, hok1⟩ := hT a q1 h1
  obtain ⟨_, b1, b2, b3, b4, b5, b6, b7, b8⟩ := id hok1
  have hdq : nd q ≤ 2 := hok.2.2.2.1
  obtain ⟨o, hjo⟩ : ∃ o, j + o = 1 := ⟨1 - j, by omega⟩
  obtain ⟨hV, ⟨n8, f8, g8, hmo⟩, ⟨n9, f9, g9, hmi⟩⟩ := id hE
  obtain ⟨d1, d2, d3, d4, d5, d6, d7, d8, d9, d10, d11, d12, d13, d14, d15, d16⟩ := id hD
  have nv1 : v ≠ va := hw_ne hV.1 hV.2.1 (by simp)
  have nv2 : v ≠ vb := hw_ne hV.1 hV.2.2 (by simp)
  have nh_va : h0 ≠ va := hw_ne hc hV.2.1 (by simp)
  have nh_vb : h0 ≠ vb := hw_ne hc hV.2.2 (by simp)
  have nh_om : h0 ≠ om := hw_ne hc hmo.1 (by simp)
  have nv_om : v ≠ om := hw_ne hV.1 hmo.1 (by simp)
  have nh_oa : h0 ≠ oa := hw_ne hc hmo.2.1 (by simp)
  have nv_oa : v ≠ oa := hw_ne hV.1 hmo.2.1 (by simp)
  have nh_ob : h0 ≠ ob := hw_ne hc hmo.2.2 (by simp)
  have nv_ob : v ≠ ob := hw_ne hV.1 hmo.2.2 (by simp)
  have nh_im : h0 ≠ im := hw_ne hc hmi.1 (by simp)
  have nv_im : v ≠ im := hw_ne hV.1 hmi.1 (by simp)
  have nh_ia : h0 ≠ ia := hw_ne hc hmi.2.1 (by simp)
  have nv_ia : v ≠ ia := hw_ne hV.1 hmi.2.1 (by simp)
  have nh_ib : h0 ≠ ib := hw_ne hc hmi.2.2 (by simp)
  have nv_ib : v ≠ ib := hw_ne hV.1 hmi.2.2 (by simp)
  have n_om_va : om ≠ va := hw_ne hmo.1 hV.2.1 (by simp)
  have n_om_vb : om ≠ vb := hw_ne hmo.1 hV.2.2 (by simp)
  have n_om_oa : om ≠ oa := hw_ne hmo.1 hmo.2.1 (by simp)
  have n_om_ob : om ≠ ob := hw_ne hmo.1 hmo.2.2 (by simp)
  have n_om_ia : om ≠ ia := hw_ne hmo.1 hmi.2.1 (by simp)
  have n_om_ib : om ≠ ib := hw_ne hmo.1 hmi.2.2 (by simp)
  have n_im_va : im ≠ va := hw_ne hmi.1 hV.2.1 (by simp)
  have n_im_vb : im ≠ vb := hw_ne hmi.1 hV.2.2 (by simp)
  have n_im_oa : im ≠ oa := hw_ne hmi.1 hmo.2.1 (by simp)
  have n_im_ob : im ≠ ob := hw_ne hmi.1 hmo.2.2 (by simp)
  have n_im_ia : im ≠ ia := hw_ne hmi.1 hmi.2.1 (by simp)
  have n_im_ib : im ≠ ib := hw_ne hmi.1 hmi.2.2 (by simp)
  have hbo := hb9 o (by omega); have hbj := hb9 j hj
  have hfree : (if j = 0 then nx q1 else ny q1) = false → ∀ u u2 w9, nP_j j (nP q1) u w9 ↔ nP_j j (nP q1) u2 w9 := by
    intro hf u u2 w9
    unfold nP_j
    by_cases e : j = 0
    · rw [if_pos e] at hf; rw [if_pos e, if_pos e]; exact b7 hf u u2 w9
    · rw [if_neg e] at hf; rw [if_neg e, if_neg e]; exact b8 hf w9 u u2
  have hv0 := hV.1; have hva0 := hV.2.1; have hvb0 := hV.2.2
  refine hw_met (by decide) (Nat.le_of_ble_eq_true rfl) ?_
  intro p e s m below meth c hx hb hr hml hown hlocks hnm hts hsz hX hW ls hl
  subst hsz
  have hA : ∀ q, s.heap.size ≤ q → hw_A M s.heap.size q := fun q h => Or.inr h
  have hS : va_S (hw_A M s.heap.size) s.heap s.heap [] := va_S.rf
  have hl : lv_has ls 9 [(0, .ref h0), (1, .ref v)] := hl
  have hown : s.vm.findClass "QuantifierOut$Quantified" = some m.cls := hown
  obtain ⟨Q9, hQ9⟩ : ∃ X : State → Prop, X = MQ below (va_Qi (it_post cJ v va vb om oa ob im ia ib fv gv q M) (hw_B D qcl (qty cI cJ cZ cN) M s.heap.size) (hw_A M s.heap.size)) [.ref h0, .ref v].toArray s 0 0 (hw_A M s.heap.size) := ⟨_, rfl⟩
  rw [← hQ9]
  refine lv_aload_n hx hb d_Qf_isTrueAt_0 rfl (lv_at hl 1 rfl) ?_
  refine hw_get (own := "QuantifierOut$Quantified") (v := .ref va) hx hb hts i_Vs hown hW hv0 rfl 0 (by decide) (hts _ tw_53) (fun _ h9 => h9) rfl d_Qf_isTrueAt_1 ?_
  refine lv_aload_n hx hb d_Qf_isTrueAt_4 rfl (lv_at hl 0 rfl) ?_
  refine hw_get (own := "QuantifierOut$Quantified") (v := .int (nI j)) hx hb hts i_Qf hown hW hc rfl 4 (by decide) (hts _ tw_395) (fun _ h9 => h9) rfl d_Qf_isTrueAt_5 ?_
  refine hw_lld hx hb hW 1 hva0 rfl j rfl hj (by decide) d_Qf_isTrueAt_8 ?_
  refine lv_topl (fun fj efj => ?_)
  refine lv_lstore_n (lv' := [(2, .long fj), (0, .ref h0), (1, .ref v)]) hx hb d_Qf_isTrueAt_9 rfl hl (by decide) rfl (fun ls hl => ?_)
  refine lv_aload_n hx hb d_Qf_isTrueAt_10 rfl (lv_at hl 2 rfl) ?_
  refine hw_get (own := "QuantifierOut$Quantified") (v := .ref vb) hx hb hts i_Vs hown hW hv0 rfl 1 (by decide) (hts _ tw_58) (fun _ h9 => h9) rfl d_Qf_isTrueAt_11 ?_
  refine lv_aload_n hx hb d_Qf_isTrueAt_14 rfl (lv_at hl 1 rfl) ?_
  refine hw_get (own := "QuantifierOut$Quantified") (v := .int (nI j)) hx hb hts i_Qf hown hW hc rfl 4 (by decide) (hts _ tw_395) (fun _ h9 => h9) rfl d_Qf_isTrueAt_15 ?_
  refine hw_lld hx hb hW 1 hvb0 rfl j rfl hj (by decide) d_Qf_isTrueAt_18 ?_
  refine lv_topl (fun gj egj => ?_)
  refine lv_lstore (lv' := [(4, .long gj), (2, .long fj), (0, .ref h0), (1, .ref v)]) hx hb d_Qf_isTrueAt_19 hl (by decide) rfl (fun ls hl => ?_)
  refine lv_aload_n hx hb d_Qf_isTrueAt_21 rfl (lv_at hl 3 rfl) ?_
  refine lv_aload_n hx hb d_Qf_isTrueAt_22 rfl (lv_at hl 2 rfl) ?_
  refine hw_get (own := "QuantifierOut$Quantified") (v := .int (nI (nd q))) hx hb hts i_Qf hown hW hc rfl 1 (by decide) (hts _ tw_237) (fun x9 h9 => u_same (hts _ tw_238) x9 h9) rfl d_Qf_isTrueAt_23 ?_
  have hdlt : nd q < 1000 := by omega
  refine hw_callq (hw_runV (n := 1) (own := "QuantifierOut$Quantified") (As := [.int (nI (nd q))]) (rest := []) hx hb hml hown hts hX hW hl.1 (c_Vs_marksFor l D cI cJ cZ cN v va vb om im _ (nd q) M hv0 hdlt) hv0 rfl tw_466 tw_467 tw_468 tw_2 tw_469 (by decide +kernel) rfl rfl ⟨by show 0 + 1 ≤ N + 1 + 5; omega, by show 8 + (2 + 11 + 0) ≤ 60 * (N + 1) + 260; omega⟩ rfl rfl (Nat.le_of_ble_eq_true rfl) d_Qf_isTrueAt_26 ⟨Nat.le_refl 0, Nat.le_refl 0⟩) hW hS hA (fun rm9 Mq H locs hp hz hW hS => ?_)
  obtain ⟨er9, eM9⟩ := hp
  rw [eM9] at hW
  rcases (show nd q1 = 0 ∨ nd q1 = 1 by omega) with hd1 | hd1
  · skip
    have hdq2 : nd q = 1 := by omega
    have hVB : VB (nd q) = 1201 := by rw [hdq2]; rfl
    have hVB1 : VB (nd q1) = 24021 := by rw [hd1]; rfl
    rw [if_pos (by omega)] at er9
    subst er9
    refine lv_astore (lv' := [(6, .ref im), (4, .long gj), (2, .long fj), (0, .ref h0), (1, .ref v)]) hx hb d_Qf_isTrueAt_29 hl (by decide) rfl (fun ls hl => ?_)
    refine lv_aload hx hb d_Qf_isTrueAt_31 (lv_at hl 0 rfl) ?_
    refine lv_aload_n hx hb d_Qf_isTrueAt_33 rfl (lv_at hl 3 rfl) ?_
    refine hw_get (own := "QuantifierOut$Quantified") (v := .ref a) hx hb hts i_Qf hown hW hc rfl 5 (by decide) (hts _ tw_396) (fun _ h9 => h9) rfl d_Qf_isTrueAt_34 ?_
    refine lv_aload_n hx hb d_Qf_isTrueAt_37 rfl (lv_at hl 3 rfl) ?_
    refine hw_get (own := "QuantifierOut$Quantified") (v := .int (nI j)) hx hb hts i_Qf hown hW hc rfl 4 (by decide) (hts _ tw_395) (fun _ h9 => h9) rfl d_Qf_isTrueAt_38 ?_
    refine lv_aload_n hx hb d_Qf_isTrueAt_41 rfl (lv_at hl 4 rfl) ?_
    obtain ⟨B9, hB9⟩ : ∃ B9 : Nat, B9 = 10 * VB (nd q) := ⟨_, rfl⟩
    refine hw_callv (hw_runV (n := 3) (own := "QuantifierOut$Quantified") (As := [.ref a, .int (nI j), .ref v]) (rest := []) hx hb hml hown hts hX hW hl.1 (c_Mk_gather l D cI cJ cZ cN im ia ib n9 B9 (VB (nd q)) _ la1 (nL q1).length (nd q1) j o v va vb om im a (nk_ci (nK q1)) (nx q1) (ny q1) gr1 (nk_ex q1) f9 g9 fv gv F1 M hmi d11 (by omega) (by omega) hnd1 (by omega) hla1 b2 hjo (nl_len hF1 b5) hV hbo.2.2 (by have := hbo.1; have := hbo.2.1; omega) (by omega) d4 d5 d8 d9) hmi.1 rfl tw_470 tw_471 tw_472 tw_3 tw_473 (by decide +kernel) rfl rfl ⟨by show 3 + 1 ≤ N + 1 + 5; omega, by show 8 + (7 + 11 + 140) ≤ 60 * (N + 1) + 260; omega⟩ rfl rfl (Nat.le_of_ble_eq_true rfl) d_Qf_isTrueAt_42 ⟨Nat.le_refl 0, Nat.le_refl 0⟩) hW hS hA (fun Mg H locs hp hz hW hS => ?_)
    obtain ⟨n, f, g, hmk, hfg, hn21, hro, hnf, hcv⟩ := hp
    have hcell := ga_cell (j := j) (o := o) (x := (fv o).toInt) (y := (gv o).toInt) (n := n) (f := f) (g := g) hF1 hjo hbo.1 b6 (by omega) (by
      cases hq9 : (if j = 0 then nx q1 else ny q1)
      · exact Or.inl (hfree hq9)
      · exact Or.inr (hcv hq9))
    have fin : ∀ (sN : Nat) (H : Heap) (locs : List Loc) (M2 : Nat → Option va_E) (x y : Int64) (tr : Int32) (ls : Array Slot), hw_W D qcl (qty cI cJ cZ cN) (hw_A M s.heap.size) M2 s H → va_S (hw_A M s.heap.size) s.heap H locs → (∀ r9, r9 ≠ im → r9 ≠ ia → r9 ≠ ib → r9 ≠ va → r9 ≠ vb → M2 r9 = M r9) → mk_S cJ M2 im ia ib n f g → vs_S cJ M2 v va vb om im (vp_updL fv j x) (vp_updL gv j y) → (∃ n f g, mk_S cJ M2 om oa ob n f g) → it_b tr (nP q (vX fv gv) (vY fv gv)) → lv_has ls 9 [(8, .int (nI sN)), (7, .int tr), (6, .ref im), (4, .long gj), (2, .long fj), (0, .ref h0), (1, .ref v)] → W p l e (it_rm (N + 1)) s m [.ref h0, .ref v].toArray below meth c H locs 0 0 Q9 (F0 m 101 ls []) := by
      intro sN H locs M2 x y tr ls hW hS hfr hmk2 hV2 hO2 hres hl
      have hc2 : M2 h0 = some (.inr (6, [.int (nd_fr (nx q) (ny q)), .int (nI (nd q)), .ref la, .int gr, .int (nI j), .ref a, .int (if kk = true then 1 else 0)])) := (hfr h0 nh_im nh_ia nh_ib nh_va nh_vb).trans hc
      refine lv_aload_n hx hb d_Qf_isTrueAt_101 rfl (lv_at hl 6 rfl) ?_
      refine lv_aload_n hx hb d_Qf_isTrueAt_102 rfl (lv_at hl 5 rfl) ?_
      refine hw_get (own := "QuantifierOut$Quantified") (v := .int (nI j)) hx hb hts i_Qf hown hW hc2 rfl 4 (by decide) (hts _ tw_395) (fun _ h9 => h9) rfl d_Qf_isTrueAt_103 ?_
      refine lv_lload_n hx hb d_Qf_isTrueAt_106 rfl (lv_at hl 4 rfl) ?_
      refine lv_lload hx hb d_Qf_isTrueAt_107 (lv_at hl 3 rfl) ?_
      refine hw_callv (hw_runV (n := 3) (own := "QuantifierOut$Quantified") (As := [.int (nI j), .long fj, .long gj]) (rest := []) hx hb hml hown hts hX hW hl.1 (c_Vs_put l D cI cJ cZ cN v va vb om im _ j (vp_updL fv j x) (vp_updL gv j y) (nI j) fj gj M2 hV2.1 hV2.2.1 hV2.2.2 d1 rfl hj) hV2.1 rfl tw_498 tw_448 tw_449 tw_2 tw_450 (by decide +kernel) rfl rfl ⟨by show 0 + 1 ≤ N + 1 + 5; omega, by show 8 + (6 + 11 + 0) ≤ 60 * (N + 1) + 260; omega⟩ rfl rfl (Nat.le_of_ble_eq_true rfl) d_Qf_isTrueAt_109 ⟨Nat.le_refl 0, Nat.le_refl 0⟩) hW hS hA (fun M5 H locs hp hz hW hS => ?_)
      rw [uL_uL, uL_uL, efj, egj, uL_id, uL_id] at hp
      refine lv_iload hx hb d_Qf_isTrueAt_112 (lv_at hl 1 rfl) ?_
      rw [hQ9]
      have hM5 : ∀ r9, r9 ≠ va → r9 ≠ vb → M5 r9 = M2 r9 := fun r9 e1 e2 => by rw [hp, va_up_ne _ _ e2, va_up_ne _ _ e1]
      have h5a : M5 va = M va := by rw [hp, va_up_ne _ _ d1, va_up_self]; exact hV.2.1.symm
      have h5b : M5 vb = M vb := by rw [hp, va_up_self]; exact hV.2.2.symm
      have hV5 : vs_S cJ M5 v va vb om im fv gv := ⟨(hM5 v nv1 nv2).trans hV2.1, h5a.trans hV.2.1, h5b.trans hV.2.2⟩
      obtain ⟨n7, f7, g7, hO3⟩ := hO2
      have h01 : tr = 0 ∨ tr = 1 := by rcases hres with ⟨z, _⟩ | ⟨z, _⟩; exact Or.inr z; exact Or.inl z
      refine hw_retz hx hb hr (nar01 h01) hlocks hW hS ⟨hres, fun r9 c1 c2 => ?_, ⟨hV5, ⟨n7, f7, g7, ⟨(hM5 om n_om_va n_om_vb).trans hO3.1, (hM5 oa (Ne.symm d2) (Ne.symm d6)).trans hO3.2.1, (hM5 ob (Ne.symm d3) (Ne.symm d7)).trans hO3.2.2⟩⟩, ⟨n, f, g, ⟨(hM5 im n_im_va n_im_vb).trans hmk2.1, (hM5 ia (Ne.symm d4) (Ne.symm d8)).trans hmk2.2.1, (hM5 ib (Ne.symm d5) (Ne.symm d9)).trans hmk2.2.2⟩⟩⟩⟩ d_Qf_isTrueAt_114
      by_cases ea : r9 = va
      · rw [ea]; exact h5a
      by_cases eb : r9 = vb
      · rw [eb]; exact h5b
      rw [hdq2] at c1 c2
      have c1 := c1.resolve_left (by omega)
      exact (hM5 r9 ea eb).trans (hfr r9 c1.1 c1.2.1 c1.2.2 ea eb)
    have loop : ∀ (z sN : Nat), sN ≤ 2 * n + 1 → 2 * n + 2 ≤ sN + z → ∀ (H : Heap) (locs : List Loc) (M2 : Nat → Option va_E) (x y : Int64) (tr : Int32) (ls : Array Slot), hw_W D qcl (qty cI cJ cZ cN) (hw_A M s.heap.size) M2 s H → va_S (hw_A M s.heap.size) s.heap H locs → (∀ r9, r9 ≠ im → r9 ≠ ia → r9 ≠ ib → r9 ≠ va → r9 ≠ vb → M2 r9 = M r9) → mk_S cJ M2 im ia ib n f g → vs_S cJ M2 v va vb om im (vp_updL fv j x) (vp_updL gv j y) → (∃ n f g, mk_S cJ M2 om oa ob n f g) → qf_I (mk_v f g) n (fun u => nP_j j (nP q1) u (qm_fr (fv o).toInt (gv o).toInt)) kk tr sN → lv_has ls 9 [(8, .int (nI sN)), (7, .int tr), (6, .ref im), (4, .long gj), (2, .long fj), (0, .ref h0), (1, .ref v)] → W p l e (it_rm (N + 1)) s m [.ref h0, .ref v].toArray below meth c H locs 0 0 Q9 (F0 m 54 ls []) := by
      intro z
      induction z with
      | zero => intro sN e1 e2; exact absurd e2 (by omega)
      | succ z ihz =>
        intro sN hsN hz9 H locs M2 x y tr ls hW hS hfr hmk2 hV2 hO2 hI hl
        have hc2 : M2 h0 = some (.inr (6, [.int (nd_fr (nx q) (ny q)), .int (nI (nd q)), .ref la, .int gr, .int (nI j), .ref a, .int (if kk = true then 1 else 0)])) := (hfr h0 nh_im nh_ia nh_ib nh_va nh_vb).trans hc
        refine lv_iload hx hb d_Qf_isTrueAt_54 (lv_at hl 0 rfl) ?_
        refine lv_aload hx hb d_Qf_isTrueAt_56 (lv_at hl 2 rfl) ?_
        refine hw_calli (hw_runV (n := 0) (own := "QuantifierOut$Quantified") (As := []) (rest := [.int (nI sN)]) hx hb hml hown hts hX hW hl.1 (c_Mk_stops l D cI cJ cZ cN im ia ib n _ M2 hmk2.1 (by omega)) hmk2.1 rfl tw_488 tw_489 tw_490 tw_3 tw_491 (by decide +kernel) rfl rfl ⟨by show 0 + 1 ≤ N + 1 + 5; omega, by show 8 + (1 + 11 + 0) ≤ 60 * (N + 1) + 260; omega⟩ rfl rfl (Nat.le_of_ble_eq_true rfl) d_Qf_isTrueAt_58 ⟨Nat.le_refl 0, Nat.le_refl 0⟩) hW hS hA (fun st9 M3 H locs hp hz hW hS => ?_)
        obtain ⟨est, eM3⟩ := hp
        rw [eM3] at hW
        subst est
        refine lv_icmp_ge (tgt := 101) hx hb d_Qf_isTrueAt_61 (by decide) (fun c_61 => ?_) (fun c_61 => ?_)
        · skip
          have hge : 2 * n + 1 ≤ sN := (nI_leI (by omega) (by omega)).mp c_61
          refine fin sN H locs M2 x y tr ls hW hS hfr hmk2 hV2 hO2 ?_ hl
          rw [qf_P hjo h5]
          exact qf_end hro.2 hI (Or.inl (by omega))
        · skip
          have hlt : sN < 2 * n + 1 := by
            rcases Nat.lt_or_ge sN (2 * n + 1) with e9 | e9
            · exact e9
            · exact absurd ((nI_leI (by omega) (by omega)).mpr e9) c_61
          refine lv_iload hx hb d_Qf_isTrueAt_64 (lv_at hl 1 rfl) ?_
          refine lv_aload_n hx hb d_Qf_isTrueAt_66 rfl (lv_at hl 5 rfl) ?_
          refine hw_get (own := "QuantifierOut$Quantified") (v := .int (if kk = true then 1 else 0)) hx hb hts i_Qf hown hW hc2 rfl 6 (by decide) (hts _ tw_397) (fun _ h9 => h9) rfl d_Qf_isTrueAt_67 ?_
          refine lv_icmp_ne (tgt := 101) hx hb d_Qf_isTrueAt_70 (by decide) (fun c_70 => ?_) (fun c_70 => ?_)
          · skip
            refine fin sN H locs M2 x y tr ls hW hS hfr hmk2 hV2 hO2 ?_ hl
            rw [qf_P hjo h5]
            exact qf_end hro.2 hI (Or.inr c_70)
          · skip
            refine lv_aload hx hb d_Qf_isTrueAt_73 (lv_at hl 2 rfl) ?_
            refine lv_iload hx hb d_Qf_isTrueAt_75 (lv_at hl 0 rfl) ?_
            refine lv_aload_n hx hb d_Qf_isTrueAt_77 rfl (lv_at hl 5 rfl) ?_
            refine hw_get (own := "QuantifierOut$Quantified") (v := .int (nI j)) hx hb hts i_Qf hown hW hc2 rfl 4 (by decide) (hts _ tw_395) (fun _ h9 => h9) rfl d_Qf_isTrueAt_78 ?_
            refine lv_aload_n hx hb d_Qf_isTrueAt_81 rfl (lv_at hl 6 rfl) ?_
            refine hw_callv (hw_runV (n := 3) (own := "QuantifierOut$Quantified") (As := [.int (nI sN), .int (nI j), .ref v]) (rest := []) hx hb hml hown hts hX hW hl.1 (c_Mk_moveTo l D cI cJ cZ cN im ia ib n B9 _ sN j v va vb om im f g (vp_updL fv j x) (vp_updL gv j y) M2 hmk2 hn21 hro (by omega) hlt hj hV2 d1) hmk2.1 rfl tw_492 tw_493 tw_494 tw_3 tw_495 (by decide +kernel) rfl rfl ⟨by show 1 + 1 ≤ N + 1 + 5; omega, by show 8 + (5 + 11 + 30) ≤ 60 * (N + 1) + 260; omega⟩ rfl rfl (Nat.le_of_ble_eq_true rfl) d_Qf_isTrueAt_82 ⟨Nat.le_refl 0, Nat.le_refl 0⟩) hW hS hA (fun M3 H locs hp hz hW hS => ?_)
            obtain ⟨x3, y3, eM3, hmo3⟩ := hp
            rw [uL_uL, uL_uL] at eM3
            have hM3 : ∀ r9, r9 ≠ va → r9 ≠ vb → M3 r9 = M2 r9 := fun r9 e1 e2 => by rw [eM3, va_up_ne _ _ e2, va_up_ne _ _ e1]
            have hV3 : vs_S cJ M3 v va vb om im (vp_updL fv j x3) (vp_updL gv j y3) := ⟨(hM3 v nv1 nv2).trans hV2.1, by rw [eM3, va_up_ne _ _ d1, va_up_self], by rw [eM3, va_up_self]⟩
            have hmk3 : mk_S cJ M3 im ia ib n f g := ⟨(hM3 im n_im_va n_im_vb).trans hmk2.1, (hM3 ia (Ne.symm d4) (Ne.symm d8)).trans hmk2.2.1, (hM3 ib (Ne.symm d5) (Ne.symm d9)).trans hmk2.2.2⟩
            obtain ⟨n7, f7, g7, hO3⟩ := hO2
            have hO4 : ∃ n f g, mk_S cJ M3 om oa ob n f g := ⟨n7, f7, g7, ⟨(hM3 om n_om_va n_om_vb).trans hO3.1, (hM3 oa (Ne.symm d2) (Ne.symm d6)).trans hO3.2.1, (hM3 ob (Ne.symm d3) (Ne.symm d7)).trans hO3.2.2⟩⟩
            have hfr3 : ∀ r9, r9 ≠ im → r9 ≠ ia → r9 ≠ ib → r9 ≠ va → r9 ≠ vb → M3 r9 = M r9 := fun r9 e0 e1 e2 e3 e4 => (hM3 r9 e3 e4).trans (hfr r9 e0 e1 e2 e3 e4)
            have hE3 : ev_S cJ M3 v va vb om oa ob im ia ib (vp_updL fv j x3) (vp_updL gv j y3) := ⟨hV3, hO4, ⟨n, f, g, hmk3⟩⟩
            have hT3 : tb_ok cI M3 tb := tb_kept hT (fun a9 e9 ha9 k1 k2 => hfr3 a9 (fun z9 => k1 _ (Option.some.inj (ha9.symm.trans (z9 ▸ hmi.1)))) (fun z9 => k2 _ _ _ (Option.some.inj (ha9.symm.trans (z9 ▸ hmi.2.1)))) (fun z9 => k2 _ _ _ (Option.some.inj (ha9.symm.trans (z9 ▸ hmi.2.2)))) (fun z9 => k2 _ _ _ (Option.some.inj (ha9.symm.trans (z9 ▸ hV.2.1)))) (fun z9 => k2 _ _ _ (Option.some.inj (ha9.symm.trans (z9 ▸ hV.2.2)))))
            have hc3 : M3 h0 = some (.inr (6, [.int (nd_fr (nx q) (ny q)), .int (nI (nd q)), .ref la, .int gr, .int (nI j), .ref a, .int (if kk = true then 1 else 0)])) := (hfr3 h0 nh_im nh_ia nh_ib nh_va nh_vb).trans hc
            have hb3 : vx_b (vp_updL fv j x3) (vp_updL gv j y3) (nd q1) := by
              intro i hi
              by_cases e : i = j
              · subst e; rw [pk_uLs, pk_uLs]; exact ⟨hmo3.1, by have := hmo3.2.1; omega, by have := hmo3.2.2.1; omega⟩
              · rw [pk_uLn e, pk_uLn e]; have := hb9 i hi; exact ⟨this.1, by omega, by omega⟩
            refine lv_aload_n hx hb d_Qf_isTrueAt_85 rfl (lv_at hl 5 rfl) ?_
            refine hw_get (own := "QuantifierOut$Quantified") (v := .ref a) hx hb hts i_Qf hown hW hc3 rfl 5 (by decide) (hts _ tw_396) (fun _ h9 => h9) rfl d_Qf_isTrueAt_86 ?_
            refine lv_aload_n hx hb d_Qf_isTrueAt_89 rfl (lv_at hl 6 rfl) ?_
            obtain ⟨⟨la_a, gr_a, F_a, hc_a, _⟩, _⟩ := hT3 a q1 h1
            refine hw_calli (it_run 1 rfl (own := "QuantifierOut$Quantified") (rest := []) hx hb hml hown hts hX hW hl.1 (ih a q1 h1 (by omega) M3 _ (vp_updL fv j x3) (vp_updL gv j y3) hT3 hE3 hb3) hc_a.2 tw_497 rfl rfl ⟨by show N + 5 + 1 ≤ N + 1 + 5; omega, by show 8 + (9 + 11) + (60 * N + 260) ≤ 60 * (N + 1) + 260; omega⟩ rfl (Nat.le_of_ble_eq_true rfl) d_Qf_isTrueAt_90 ⟨Nat.le_refl 0, Nat.le_refl 0⟩) hW hS hA (fun r3 M4 H locs hp3 hz hW hS => ?_)
            obtain ⟨p1, p2, p3⟩ := hp3
            rw [qf_XY hjo (nP q1)] at p1
            refine lv_istore (lv' := [(7, .int r3), (8, .int (nI sN)), (6, .ref im), (4, .long gj), (2, .long fj), (0, .ref h0), (1, .ref v)]) hx hb d_Qf_isTrueAt_93 hl (by decide) rfl (fun ls hl => ?_)
            obtain ⟨s9, es9⟩ : ∃ y9 : Int32, y9 = (nI sN) + Int32.ofInt (1) := ⟨_, rfl⟩
            refine lv_iinc (v := s9) (lv' := [(8, .int s9), (7, .int r3), (6, .ref im), (4, .long gj), (2, .long fj), (0, .ref h0), (1, .ref v)]) hx hb d_Qf_isTrueAt_95 hl (k := 1) rfl es9.symm (by decide) rfl (fun ls hl => ?_)
            have es : s9 = nI (sN + 1) := by rw [es9]; exact nI_add sN 1
            subst es
            refine lv_goto (tgt := 54) hx hb d_Qf_isTrueAt_98 (by decide) ?_
            have hM4 : M4 = M3 := funext fun r9 => p2 r9 (Or.inl hd1) (Or.inl (by omega))
            rw [hM4] at hW
            refine ihz (sN + 1) (by omega) (by omega) H locs M3 x3 y3 r3 ls hW hS hfr3 hmk3 hV3 hO4 (qf_step hI c_70 hmo3.2.2.2 p1 (fun u hu => hcell sN u _ hu hmo3.2.2.2)) (lv_sub hl [0, 1, 2, 3, 4, 5, 6] rfl)
    have hfrg : ∀ r9, r9 ≠ im → r9 ≠ ia → r9 ≠ ib → r9 ≠ va → r9 ≠ vb → Mg r9 = M r9 := fun r9 e0 e1 e2 e3 e4 => hfg r9 e0 e1 e2
    have hcg : Mg h0 = some (.inr (6, [.int (nd_fr (nx q) (ny q)), .int (nI (nd q)), .ref la, .int gr, .int (nI j), .ref a, .int (if kk = true then 1 else 0)])) := (hfrg h0 nh_im nh_ia nh_ib nh_va nh_vb).trans hc
    have hVg : vs_S cJ Mg v va vb om im (vp_updL fv j (fv j)) (vp_updL gv j (gv j)) := by
      rw [uL_id, uL_id]
      exact ⟨(hfg v nv_im nv_ia nv_ib).trans hV.1, (hfg va (Ne.symm n_im_va) d4 d5).trans hV.2.1, (hfg vb (Ne.symm n_im_vb) d8 d9).trans hV.2.2⟩
    refine lv_aload_n hx hb d_Qf_isTrueAt_45 rfl (lv_at hl 3 rfl) ?_
    refine hw_get (own := "QuantifierOut$Quantified") (v := .int (if kk = true then 1 else 0)) hx hb hts i_Qf hown hW hcg rfl 6 (by decide) (hts _ tw_397) (fun _ h9 => h9) rfl d_Qf_isTrueAt_46 ?_
    refine lv_istore (lv' := [(7, .int (if kk = true then 1 else 0)), (6, .ref im), (4, .long gj), (2, .long fj), (0, .ref h0), (1, .ref v)]) hx hb d_Qf_isTrueAt_49 hl (by decide) rfl (fun ls hl => ?_)
    refine lv_iconst (v := 0) hx hb d_Qf_isTrueAt_51 (by decide) ?_
    refine lv_istore (lv' := [(8, .int 0), (7, .int (if kk = true then 1 else 0)), (6, .ref im), (4, .long gj), (2, .long fj), (0, .ref h0), (1, .ref v)]) hx hb d_Qf_isTrueAt_52 hl (by decide) rfl (fun ls hl => ?_)
    exact loop (2 * n + 2) 0 (by omega) (by omega) H locs Mg (fv j) (gv j) (if kk = true then 1 else 0) ls hW hS hfrg hmk hVg ⟨n8, f8, g8, (hfg om d16 n_om_ia n_om_ib).trans hmo.1, (hfg oa (Ne.symm n_im_oa) d12 d13).trans hmo.2.1, (hfg ob (Ne.symm n_im_ob) d14 d15).trans hmo.2.2⟩ (Or.inl ⟨rfl, fun s9 h9 => absurd h9 (Nat.not_lt_zero s9)⟩) (lv_sub hl [0, 1, 2, 3, 4, 5, 6] rfl)
  · skip
    have hdq2 : nd q = 2 := by omega
    have hVB : VB (nd q) = 60 := by rw [hdq2]; rfl
    have hVB1 : VB (nd q1) = 1201 := by rw [hd1]; rfl
    rw [if_neg (by omega)] at er9
    subst er9
    refine lv_astore (lv' := [(6, .ref om), (4, .long gj), (2, .long fj), (0, .ref h0), (1, .ref v)]) hx hb d_Qf_isTrueAt_29 hl (by decide) rfl (fun ls hl => ?_)
    refine lv_aload hx hb d_Qf_isTrueAt_31 (lv_at hl 0 rfl) ?_
    refine lv_aload_n hx hb d_Qf_isTrueAt_33 rfl (lv_at hl 3 rfl) ?_
    refine hw_get (own := "QuantifierOut$Quantified") (v := .ref a) hx hb hts i_Qf hown hW hc rfl 5 (by decide) (hts _ tw_396) (fun _ h9 => h9) rfl d_Qf_isTrueAt_34 ?_
    refine lv_aload_n hx hb d_Qf_isTrueAt_37 rfl (lv_at hl 3 rfl) ?_
    refine hw_get (own := "QuantifierOut$Quantified") (v := .int (nI j)) hx hb hts i_Qf hown hW hc rfl 4 (by decide) (hts _ tw_395) (fun _ h9 => h9) rfl d_Qf_isTrueAt_38 ?_
    refine lv_aload_n hx hb d_Qf_isTrueAt_41 rfl (lv_at hl 4 rfl) ?_
    obtain ⟨B9, hB9⟩ : ∃ B9 : Nat, B9 = 10 * VB (nd q) := ⟨_, rfl⟩
    refine hw_callv (hw_runV (n := 3) (own := "QuantifierOut$Quantified") (As := [.ref a, .int (nI j), .ref v]) (rest := []) hx hb hml hown hts hX hW hl.1 (c_Mk_gather l D cI cJ cZ cN om oa ob n8 B9 (VB (nd q)) _ la1 (nL q1).length (nd q1) j o v va vb om im a (nk_ci (nK q1)) (nx q1) (ny q1) gr1 (nk_ex q1) f8 g8 fv gv F1 M hmo d10 (by omega) (by omega) hnd1 (by omega) hla1 b2 hjo (nl_len hF1 b5) hV hbo.2.2 (by have := hbo.1; have := hbo.2.1; omega) (by omega) d2 d3 d6 d7) hmo.1 rfl tw_470 tw_471 tw_472 tw_3 tw_473 (by decide +kernel) rfl rfl ⟨by show 3 + 1 ≤ N + 1 + 5; omega, by show 8 + (7 + 11 + 140) ≤ 60 * (N + 1) + 260; omega⟩ rfl rfl (Nat.le_of_ble_eq_true rfl) d_Qf_isTrueAt_42 ⟨Nat.le_refl 0, Nat.le_refl 0⟩) hW hS hA (fun Mg H locs hp hz hW hS => ?_)
    obtain ⟨n, f, g, hmk, hfg, hn21, hro, hnf, hcv⟩ := hp
    have hcell := ga_cell (j := j) (o := o) (x := (fv o).toInt) (y := (gv o).toInt) (n := n) (f := f) (g := g) hF1 hjo hbo.1 b6 (by omega) (by
      cases hq9 : (if j = 0 then nx q1 else ny q1)
      · exact Or.inl (hfree hq9)
      · exact Or.inr (hcv hq9))
    have fin : ∀ (sN : Nat) (H : Heap) (locs : List Loc) (M2 : Nat → Option va_E) (x y : Int64) (tr : Int32) (ls : Array Slot), hw_W D qcl (qty cI cJ cZ cN) (hw_A M s.heap.size) M2 s H → va_S (hw_A M s.heap.size) s.heap H locs → (∀ r9, r9 ≠ om → r9 ≠ oa → r9 ≠ ob → r9 ≠ im → r9 ≠ ia → r9 ≠ ib → r9 ≠ va → r9 ≠ vb → M2 r9 = M r9) → mk_S cJ M2 om oa ob n f g → vs_S cJ M2 v va vb om im (vp_updL fv j x) (vp_updL gv j y) → (∃ n f g, mk_S cJ M2 im ia ib n f g) → it_b tr (nP q (vX fv gv) (vY fv gv)) → lv_has ls 9 [(8, .int (nI sN)), (7, .int tr), (6, .ref om), (4, .long gj), (2, .long fj), (0, .ref h0), (1, .ref v)] → W p l e (it_rm (N + 1)) s m [.ref h0, .ref v].toArray below meth c H locs 0 0 Q9 (F0 m 101 ls []) := by
      intro sN H locs M2 x y tr ls hW hS hfr hmk2 hV2 hO2 hres hl
      have hc2 : M2 h0 = some (.inr (6, [.int (nd_fr (nx q) (ny q)), .int (nI (nd q)), .ref la, .int gr, .int (nI j), .ref a, .int (if kk = true then 1 else 0)])) := (hfr h0 nh_om nh_oa nh_ob nh_im nh_ia nh_ib nh_va nh_vb).trans hc
      refine lv_aload_n hx hb d_Qf_isTrueAt_101 rfl (lv_at hl 6 rfl) ?_
      refine lv_aload_n hx hb d_Qf_isTrueAt_102 rfl (lv_at hl 5 rfl) ?_
      refine hw_get (own := "QuantifierOut$Quantified") (v := .int (nI j)) hx hb hts i_Qf hown hW hc2 rfl 4 (by decide) (hts _ tw_395) (fun _ h9 => h9) rfl d_Qf_isTrueAt_103 ?_
      refine lv_lload_n hx hb d_Qf_isTrueAt_106 rfl (lv_at hl 4 rfl) ?_
      refine lv_lload hx hb d_Qf_isTrueAt_107 (lv_at hl 3 rfl) ?_
      refine hw_callv (hw_runV (n := 3) (own := "QuantifierOut$Quantified") (As := [.int (nI j), .long fj, .long gj]) (rest := []) hx hb hml hown hts hX hW hl.1 (c_Vs_put l D cI cJ cZ cN v va vb om im _ j (vp_updL fv j x) (vp_updL gv j y) (nI j) fj gj M2 hV2.1 hV2.2.1 hV2.2.2 d1 rfl hj) hV2.1 rfl tw_498 tw_448 tw_449 tw_2 tw_450 (by decide +kernel) rfl rfl ⟨by show 0 + 1 ≤ N + 1 + 5; omega, by show 8 + (6 + 11 + 0) ≤ 60 * (N + 1) + 260; omega⟩ rfl rfl (Nat.le_of_ble_eq_true rfl) d_Qf_isTrueAt_109 ⟨Nat.le_refl 0, Nat.le_refl 0⟩) hW hS hA (fun M5 H locs hp hz hW hS => ?_)
      rw [uL_uL, uL_uL, efj, egj, uL_id, uL_id] at hp
      refine lv_iload hx hb d_Qf_isTrueAt_112 (lv_at hl 1 rfl) ?_
      rw [hQ9]
      have hM5 : ∀ r9, r9 ≠ va → r9 ≠ vb → M5 r9 = M2 r9 := fun r9 e1 e2 => by rw [hp, va_up_ne _ _ e2, va_up_ne _ _ e1]
      have h5a : M5 va = M va := by rw [hp, va_up_ne _ _ d1, va_up_self]; exact hV.2.1.symm
      have h5b : M5 vb = M vb := by rw [hp, va_up_self]; exact hV.2.2.symm
      have hV5 : vs_S cJ M5 v va vb om im fv gv := ⟨(hM5 v nv1 nv2).trans hV2.1, h5a.trans hV.2.1, h5b.trans hV.2.2⟩
      obtain ⟨n7, f7, g7, hO3⟩ := hO2
      have h01 : tr = 0 ∨ tr = 1 := by rcases hres with ⟨z, _⟩ | ⟨z, _⟩; exact Or.inr z; exact Or.inl z
      refine hw_retz hx hb hr (nar01 h01) hlocks hW hS ⟨hres, fun r9 c1 c2 => ?_, ⟨hV5, ⟨n, f, g, ⟨(hM5 om n_om_va n_om_vb).trans hmk2.1, (hM5 oa (Ne.symm d2) (Ne.symm d6)).trans hmk2.2.1, (hM5 ob (Ne.symm d3) (Ne.symm d7)).trans hmk2.2.2⟩⟩, ⟨n7, f7, g7, ⟨(hM5 im n_im_va n_im_vb).trans hO3.1, (hM5 ia (Ne.symm d4) (Ne.symm d8)).trans hO3.2.1, (hM5 ib (Ne.symm d5) (Ne.symm d9)).trans hO3.2.2⟩⟩⟩⟩ d_Qf_isTrueAt_114
      by_cases ea : r9 = va
      · rw [ea]; exact h5a
      by_cases eb : r9 = vb
      · rw [eb]; exact h5b
      rw [hdq2] at c1 c2
      have c1 := c1.resolve_left (by omega)
      have c2 := c2.resolve_left (by omega)
      exact (hM5 r9 ea eb).trans (hfr r9 c2.1 c2.2.1 c2.2.2 c1.1 c1.2.1 c1.2.2 ea eb)
    have loop : ∀ (z sN : Nat), sN ≤ 2 * n + 1 → 2 * n + 2 ≤ sN + z → ∀ (H : Heap) (locs : List Loc) (M2 : Nat → Option va_E) (x y : Int64) (tr : Int32) (ls : Array Slot), hw_W D qcl (qty cI cJ cZ cN) (hw_A M s.heap.size) M2 s H → va_S (hw_A M s.heap.size) s.heap H locs → (∀ r9, r9 ≠ om → r9 ≠ oa → r9 ≠ ob → r9 ≠ im → r9 ≠ ia → r9 ≠ ib → r9 ≠ va → r9 ≠ vb → M2 r9 = M r9) → mk_S cJ M2 om oa ob n f g → vs_S cJ M2 v va vb om im (vp_updL fv j x) (vp_updL gv j y) → (∃ n f g, mk_S cJ M2 im ia ib n f g) → qf_I (mk_v f g) n (fun u => nP_j j (nP q1) u (qm_fr (fv o).toInt (gv o).toInt)) kk tr sN → lv_has ls 9 [(8, .int (nI sN)), (7, .int tr), (6, .ref om), (4, .long gj), (2, .long fj), (0, .ref h0), (1, .ref v)] → W p l e (it_rm (N + 1)) s m [.ref h0, .ref v].toArray below meth c H locs 0 0 Q9 (F0 m 54 ls []) := by
      intro z
      induction z with
      | zero => intro sN e1 e2; exact absurd e2 (by omega)
      | succ z ihz =>
        intro sN hsN hz9 H locs M2 x y tr ls hW hS hfr hmk2 hV2 hO2 hI hl
        have hc2 : M2 h0 = some (.inr (6, [.int (nd_fr (nx q) (ny q)), .int (nI (nd q)), .ref la, .int gr, .int (nI j), .ref a, .int (if kk = true then 1 else 0)])) := (hfr h0 nh_om nh_oa nh_ob nh_im nh_ia nh_ib nh_va nh_vb).trans hc
        refine lv_iload hx hb d_Qf_isTrueAt_54 (lv_at hl 0 rfl) ?_
        refine lv_aload hx hb d_Qf_isTrueAt_56 (lv_at hl 2 rfl) ?_
        refine hw_calli (hw_runV (n := 0) (own := "QuantifierOut$Quantified") (As := []) (rest := [.int (nI sN)]) hx hb hml hown hts hX hW hl.1 (c_Mk_stops l D cI cJ cZ cN om oa ob n _ M2 hmk2.1 (by omega)) hmk2.1 rfl tw_488 tw_489 tw_490 tw_3 tw_491 (by decide +kernel) rfl rfl ⟨by show 0 + 1 ≤ N + 1 + 5; omega, by show 8 + (1 + 11 + 0) ≤ 60 * (N + 1) + 260; omega⟩ rfl rfl (Nat.le_of_ble_eq_true rfl) d_Qf_isTrueAt_58 ⟨Nat.le_refl 0, Nat.le_refl 0⟩) hW hS hA (fun st9 M3 H locs hp hz hW hS => ?_)
        obtain ⟨est, eM3⟩ := hp
        rw [eM3] at hW
        subst est
        refine lv_icmp_ge (tgt := 101) hx hb d_Qf_isTrueAt_61 (by decide) (fun c_61 => ?_) (fun c_61 => ?_)
        · skip
          have hge : 2 * n + 1 ≤ sN := (nI_leI (by omega) (by omega)).mp c_61
          refine fin sN H locs M2 x y tr ls hW hS hfr hmk2 hV2 hO2 ?_ hl
          rw [qf_P hjo h5]
          exact qf_end hro.2 hI (Or.inl (by omega))
        · skip
          have hlt : sN < 2 * n + 1 := by
            rcases Nat.lt_or_ge sN (2 * n + 1) with e9 | e9
            · exact e9
            · exact absurd ((nI_leI (by omega) (by omega)).mpr e9) c_61
          refine lv_iload hx hb d_Qf_isTrueAt_64 (lv_at hl 1 rfl) ?_
          refine lv_aload_n hx hb d_Qf_isTrueAt_66 rfl (lv_at hl 5 rfl) ?_
          refine hw_get (own := "QuantifierOut$Quantified") (v := .int (if kk = true then 1 else 0)) hx hb hts i_Qf hown hW hc2 rfl 6 (by decide) (hts _ tw_397) (fun _ h9 => h9) rfl d_Qf_isTrueAt_67 ?_
          refine lv_icmp_ne (tgt := 101) hx hb d_Qf_isTrueAt_70 (by decide) (fun c_70 => ?_) (fun c_70 => ?_)
          · skip
            refine fin sN H locs M2 x y tr ls hW hS hfr hmk2 hV2 hO2 ?_ hl
            rw [qf_P hjo h5]
            exact qf_end hro.2 hI (Or.inr c_70)
          · skip
            refine lv_aload hx hb d_Qf_isTrueAt_73 (lv_at hl 2 rfl) ?_
            refine lv_iload hx hb d_Qf_isTrueAt_75 (lv_at hl 0 rfl) ?_
            refine lv_aload_n hx hb d_Qf_isTrueAt_77 rfl (lv_at hl 5 rfl) ?_
            refine hw_get (own := "QuantifierOut$Quantified") (v := .int (nI j)) hx hb hts i_Qf hown hW hc2 rfl 4 (by decide) (hts _ tw_395) (fun _ h9 => h9) rfl d_Qf_isTrueAt_78 ?_
            refine lv_aload_n hx hb d_Qf_isTrueAt_81 rfl (lv_at hl 6 rfl) ?_
            refine hw_callv (hw_runV (n := 3) (own := "QuantifierOut$Quantified") (As := [.int (nI sN), .int (nI j), .ref v]) (rest := []) hx hb hml hown hts hX hW hl.1 (c_Mk_moveTo l D cI cJ cZ cN om oa ob n B9 _ sN j v va vb om im f g (vp_updL fv j x) (vp_updL gv j y) M2 hmk2 hn21 hro (by omega) hlt hj hV2 d1) hmk2.1 rfl tw_492 tw_493 tw_494 tw_3 tw_495 (by decide +kernel) rfl rfl ⟨by show 1 + 1 ≤ N + 1 + 5; omega, by show 8 + (5 + 11 + 30) ≤ 60 * (N + 1) + 260; omega⟩ rfl rfl (Nat.le_of_ble_eq_true rfl) d_Qf_isTrueAt_82 ⟨Nat.le_refl 0, Nat.le_refl 0⟩) hW hS hA (fun M3 H locs hp hz hW hS => ?_)
            obtain ⟨x3, y3, eM3, hmo3⟩ := hp
            rw [uL_uL, uL_uL] at eM3
            have hM3 : ∀ r9, r9 ≠ va → r9 ≠ vb → M3 r9 = M2 r9 := fun r9 e1 e2 => by rw [eM3, va_up_ne _ _ e2, va_up_ne _ _ e1]
            have hV3 : vs_S cJ M3 v va vb om im (vp_updL fv j x3) (vp_updL gv j y3) := ⟨(hM3 v nv1 nv2).trans hV2.1, by rw [eM3, va_up_ne _ _ d1, va_up_self], by rw [eM3, va_up_self]⟩
            have hmk3 : mk_S cJ M3 om oa ob n f g := ⟨(hM3 om n_om_va n_om_vb).trans hmk2.1, (hM3 oa (Ne.symm d2) (Ne.symm d6)).trans hmk2.2.1, (hM3 ob (Ne.symm d3) (Ne.symm d7)).trans hmk2.2.2⟩
            obtain ⟨n7, f7, g7, hO3⟩ := hO2
            have hO4 : ∃ n f g, mk_S cJ M3 im ia ib n f g := ⟨n7, f7, g7, ⟨(hM3 im n_im_va n_im_vb).trans hO3.1, (hM3 ia (Ne.symm d4) (Ne.symm d8)).trans hO3.2.1, (hM3 ib (Ne.symm d5) (Ne.symm d9)).trans hO3.2.2⟩⟩
            have hfr3 : ∀ r9, r9 ≠ om → r9 ≠ oa → r9 ≠ ob → r9 ≠ im → r9 ≠ ia → r9 ≠ ib → r9 ≠ va → r9 ≠ vb → M3 r9 = M r9 := fun r9 e0 e1 e2 e3 e4 e5 e6 e7 => (hM3 r9 e6 e7).trans (hfr r9 e0 e1 e2 e3 e4 e5 e6 e7)
            have hE3 : ev_S cJ M3 v va vb om oa ob im ia ib (vp_updL fv j x3) (vp_updL gv j y3) := ⟨hV3, ⟨n, f, g, hmk3⟩, hO4⟩
            have hT3 : tb_ok cI M3 tb := tb_kept hT (fun a9 e9 ha9 k1 k2 => hfr3 a9 (fun z9 => k1 _ (Option.some.inj (ha9.symm.trans (z9 ▸ hmo.1)))) (fun z9 => k2 _ _ _ (Option.some.inj (ha9.symm.trans (z9 ▸ hmo.2.1)))) (fun z9 => k2 _ _ _ (Option.some.inj (ha9.symm.trans (z9 ▸ hmo.2.2)))) (fun z9 => k1 _ (Option.some.inj (ha9.symm.trans (z9 ▸ hmi.1)))) (fun z9 => k2 _ _ _ (Option.some.inj (ha9.symm.trans (z9 ▸ hmi.2.1)))) (fun z9 => k2 _ _ _ (Option.some.inj (ha9.symm.trans (z9 ▸ hmi.2.2)))) (fun z9 => k2 _ _ _ (Option.some.inj (ha9.symm.trans (z9 ▸ hV.2.1)))) (fun z9 => k2 _ _ _ (Option.some.inj (ha9.symm.trans (z9 ▸ hV.2.2)))))
            have hc3 : M3 h0 = some (.inr (6, [.int (nd_fr (nx q) (ny q)), .int (nI (nd q)), .ref la, .int gr, .int (nI j), .ref a, .int (if kk = true then 1 else 0)])) := (hfr3 h0 nh_om nh_oa nh_ob nh_im nh_ia nh_ib nh_va nh_vb).trans hc
            have hb3 : vx_b (vp_updL fv j x3) (vp_updL gv j y3) (nd q1) := by
              intro i hi
              by_cases e : i = j
              · subst e; rw [pk_uLs, pk_uLs]; exact ⟨hmo3.1, by have := hmo3.2.1; omega, by have := hmo3.2.2.1; omega⟩
              · rw [pk_uLn e, pk_uLn e]; have := hb9 i hi; exact ⟨this.1, by omega, by omega⟩
            refine lv_aload_n hx hb d_Qf_isTrueAt_85 rfl (lv_at hl 5 rfl) ?_
            refine hw_get (own := "QuantifierOut$Quantified") (v := .ref a) hx hb hts i_Qf hown hW hc3 rfl 5 (by decide) (hts _ tw_396) (fun _ h9 => h9) rfl d_Qf_isTrueAt_86 ?_
            refine lv_aload_n hx hb d_Qf_isTrueAt_89 rfl (lv_at hl 6 rfl) ?_
            obtain ⟨⟨la_a, gr_a, F_a, hc_a, _⟩, _⟩ := hT3 a q1 h1
            refine hw_calli (it_run 1 rfl (own := "QuantifierOut$Quantified") (rest := []) hx hb hml hown hts hX hW hl.1 (ih a q1 h1 (by omega) M3 _ (vp_updL fv j x3) (vp_updL gv j y3) hT3 hE3 hb3) hc_a.2 tw_497 rfl rfl ⟨by show N + 5 + 1 ≤ N + 1 + 5; omega, by show 8 + (9 + 11) + (60 * N + 260) ≤ 60 * (N + 1) + 260; omega⟩ rfl (Nat.le_of_ble_eq_true rfl) d_Qf_isTrueAt_90 ⟨Nat.le_refl 0, Nat.le_refl 0⟩) hW hS hA (fun r3 M4 H locs hp3 hz hW hS => ?_)
            obtain ⟨p1, p2, p3⟩ := hp3
            rw [qf_XY hjo (nP q1)] at p1
            refine lv_istore (lv' := [(7, .int r3), (8, .int (nI sN)), (6, .ref om), (4, .long gj), (2, .long fj), (0, .ref h0), (1, .ref v)]) hx hb d_Qf_isTrueAt_93 hl (by decide) rfl (fun ls hl => ?_)
            obtain ⟨s9, es9⟩ : ∃ y9 : Int32, y9 = (nI sN) + Int32.ofInt (1) := ⟨_, rfl⟩
            refine lv_iinc (v := s9) (lv' := [(8, .int s9), (7, .int r3), (6, .ref om), (4, .long gj), (2, .long fj), (0, .ref h0), (1, .ref v)]) hx hb d_Qf_isTrueAt_95 hl (k := 1) rfl es9.symm (by decide) rfl (fun ls hl => ?_)
            have es : s9 = nI (sN + 1) := by rw [es9]; exact nI_add sN 1
            subst es
            refine lv_goto (tgt := 54) hx hb d_Qf_isTrueAt_98 (by decide) ?_
            have hq4 : ∀ r9, r9 ≠ im → r9 ≠ ia → r9 ≠ ib → M4 r9 = M3 r9 := fun r9 e1 e2 e3 => p2 r9 (Or.inr ⟨e1, e2, e3⟩) (Or.inl (by omega))
            have hmk4 : mk_S cJ M4 om oa ob n f g := ⟨(hq4 om d16 n_om_ia n_om_ib).trans hmk3.1, (hq4 oa (Ne.symm n_im_oa) d12 d13).trans hmk3.2.1, (hq4 ob (Ne.symm n_im_ob) d14 d15).trans hmk3.2.2⟩
            have hfr4 : ∀ r9, r9 ≠ om → r9 ≠ oa → r9 ≠ ob → r9 ≠ im → r9 ≠ ia → r9 ≠ ib → r9 ≠ va → r9 ≠ vb → M4 r9 = M r9 := fun r9 e0 e1 e2 e3 e4 e5 e6 e7 => (hq4 r9 e3 e4 e5).trans (hfr3 r9 e0 e1 e2 e3 e4 e5 e6 e7)
            refine ihz (sN + 1) (by omega) (by omega) H locs M4 x3 y3 r3 ls hW hS hfr4 hmk4 p3.1 p3.2.2 (qf_step hI c_70 hmo3.2.2.2 p1 (fun u hu => hcell sN u _ hu hmo3.2.2.2)) (lv_sub hl [0, 1, 2, 3, 4, 5, 6] rfl)
    have hfrg : ∀ r9, r9 ≠ om → r9 ≠ oa → r9 ≠ ob → r9 ≠ im → r9 ≠ ia → r9 ≠ ib → r9 ≠ va → r9 ≠ vb → Mg r9 = M r9 := fun r9 e0 e1 e2 e3 e4 e5 e6 e7 => hfg r9 e0 e1 e2
    have hcg : Mg h0 = some (.inr (6, [.int (nd_fr (nx q) (ny q)), .int (nI (nd q)), .ref la, .int gr, .int (nI j), .ref a, .int (if kk = true then 1 else 0)])) := (hfrg h0 nh_om nh_oa nh_ob nh_im nh_ia nh_ib nh_va nh_vb).trans hc
    have hVg : vs_S cJ Mg v va vb om im (vp_updL fv j (fv j)) (vp_updL gv j (gv j)) := by
      rw [uL_id, uL_id]
      exact ⟨(hfg v nv_om nv_oa nv_ob).trans hV.1, (hfg va (Ne.symm n_om_va) d2 d3).trans hV.2.1, (hfg vb (Ne.symm n_om_vb) d6 d7).trans hV.2.2⟩
    refine lv_aload_n hx hb d_Qf_isTrueAt_45 rfl (lv_at hl 3 rfl) ?_
    refine hw_get (own := "QuantifierOut$Quantified") (v := .int (if kk = true then 1 else 0)) hx hb hts i_Qf hown hW hcg rfl 6 (by decide) (hts _ tw_397) (fun _ h9 => h9) rfl d_Qf_isTrueAt_46 ?_
    refine lv_istore (lv' := [(7, .int (if kk = true then 1 else 0)), (6, .ref om), (4, .long gj), (2, .long fj), (0, .ref h0), (1, .ref v)]) hx hb d_Qf_isTrueAt_49 hl (by decide) rfl (fun ls hl => ?_)
    refine lv_iconst (v := 0) hx hb d_Qf_isTrueAt_51 (by decide) ?_
    refine lv_istore (lv' := [(8, .int 0), (7, .int (if kk = true then 1 else 0)), (6, .ref om), (4, .long gj), (2, .long fj), (0, .ref h0), (1, .ref v)]) hx hb d_Qf_isTrueAt_52 hl (by decide) rfl (fun ls hl => ?_)
    exact loop (2 * n + 2) 0 (by omega) (by omega) H locs Mg (fv j) (gv j) (if kk = true then 1 else 0) ls hW hS hfrg hmk hVg ⟨n9, f9, g9, (hfg im (Ne.symm d16) n_im_oa n_im_ob).trans hmi.1, (hfg ia (Ne.symm n_om_ia) (Ne.symm d12) (Ne.symm d14)).trans hmi.2.1, (hfg ib (Ne.symm n_om_ib) (Ne.symm d13) (Ne.symm d15)).trans hmi.2.2⟩ (Or.inl ⟨rfl, fun s9 h9 => absurd h9 (Nat.not_lt_zero s9)⟩) (lv_sub hl [0, 1, 2, 3, 4, 5, 6] rfl)
/-- every node keeps the contract -/
theorem it_all (hD : ev_D va vb om oa ob im ia ib) (N : Nat) : it_Met l D cI cJ cZ cN v va vb om oa ob im ia ib tb N := by
  have hat : ∀ (N : Nat) (a : Nat) (q : nq) (op : Nat), nK q = .inl op → tb a = some q → ∀ (M : Nat → Option va_E) (sz : Nat) (fv gv : Nat → Int64), tb_ok cI M tb → ev_S cJ M v va vb om oa ob im ia ib fv gv → vx_b fv gv (nd q) → Met l (it_y (nK q)) (.code (it_y (nK q)) (it_bc (nK q)) (it_ml (nK q)) (some .boolean) :: ww) (it_rm N) (hw_Pc D qcl (qty cI cJ cZ cN) [.ref a, .ref v] M sz) (va_Qi (it_post cJ v va vb om oa ob im ia ib fv gv q M) (hw_B D qcl (qty cI cJ cZ cN) M sz) (hw_A M sz)) 0 0 (hw_A M sz) := by
    intro N a q op hK ha M sz fv gv hT hE hb
    obtain ⟨⟨la, gr, F, ⟨hci, hc⟩, hla, hF, hg⟩, hok⟩ := hT a q ha
    have hk := hok.1
    unfold nk_ok at hk
    unfold nk_ex nk_ci at hc
    rw [hK] at hk hc
    dsimp only at hk hc
    obtain ⟨l0, h1, h2, h3, h4, h5, h6⟩ := hk
    have hb5 := hok.2.2.2.2.2.1 l0 (by rw [h1]; exact List.mem_singleton.mpr rfl)
    rw [h1] at hc
    have hi : ∀ z : Int, z.natAbs ≤ 5 → (Int32.ofInt z).toInt = z := fun z hz => by
      rw [Int32.toInt_ofInt]
      exact nm_b32 (by omega)
    have key := c_At_isTrueAt l D cI cJ cZ cN a sz la op v va vb om im (nd q) _ _ gr _ _ _ l0 fv gv (it_rm N) M hc (hi _ hb5.1) (hi _ hb5.2.1) (hi _ hb5.2.2) hb5 h3 hE.1 hb rfl rfl
    have hpost : (fun (r : Int32) (M1 : Nat → Option va_E) => it_b r (qm_atom l0 op (vX fv gv) (vY fv gv)) ∧ M1 = M) = (fun r M1 => it_b r (qm_atom l0 op (vX fv gv) (vY fv gv)) ∧ M1 = M) := rfl
    rw [hK]
    refine it_weak key (fun r M1 h => ⟨?_, ?_, ?_⟩)
    · have h9 := h.1
      unfold it_b at h9 ⊢
      rw [h2]
      exact h9
    · rw [h.2]; exact it_fr_rf
    · rw [h.2]; exact hE
  induction N with
  | zero =>
    intro a q ha hN M sz fv gv hT hE hb
    match hK : nK q with
    | .inl op => rw [← hK]; exact hat 0 a q op hK ha M sz fv gv hT hE hb
    | .inr (.inl (x, y, k)) =>
      have hk := (hT a q ha).2.1
      unfold nk_ok at hk
      rw [hK] at hk
      obtain ⟨q1, q2, _, _, h, _⟩ := hk
      omega
    | .inr (.inr (.inl x)) =>
      have hk := (hT a q ha).2.1
      unfold nk_ok at hk
      rw [hK] at hk
      obtain ⟨q1, _, h, _⟩ := hk
      omega
    | .inr (.inr (.inr (j, x, k))) =>
      have hk := (hT a q ha).2.1
      unfold nk_ok at hk
      rw [hK] at hk
      obtain ⟨q1, _, _, h, _⟩ := hk
      omega
  | succ N ih =>
    intro a q ha hN M sz fv gv hT hE hb
    match hK : nK q with
    | .inl op => rw [← hK]; exact hat (N + 1) a q op hK ha M sz fv gv hT hE hb
    | .inr (.inl (x, y, k)) => exact c_Pr_isTrueAt l D cI cJ cZ cN v va vb om oa ob im ia ib tb N ih a q ha hN M sz fv gv hT hE hb x y k hK
    | .inr (.inr (.inl x)) => exact c_Ng_isTrueAt l D cI cJ cZ cN v va vb om oa ob im ia ib tb N ih a q ha hN M sz fv gv hT hE hb x hK
    | .inr (.inr (.inr (j, x, k))) => exact c_Qf_isTrueAt l D cI cJ cZ cN v va vb om oa ob im ia ib tb N ih a q ha hN M sz fv gv hT hE hb j x k hK hD
end G22

/-! Node.isTrueAt: what is claimed of every kind of node, and the call by the receiver's kind; Pair and Negation -/
def ev_S (cJ : ClassId) (M : Nat → Option va_E) (v va vb om oa ob im ia ib : Nat) (fv gv : Nat → Int64) : Prop := vs_S cJ M v va vb om im fv gv ∧ (∃ n f g, mk_S cJ M om oa ob n f g) ∧ ∃ n f g, mk_S cJ M im ia ib n f g
def ev_D (va vb om oa ob im ia ib : Nat) : Prop := va ≠ vb ∧ va ≠ oa ∧ va ≠ ob ∧ va ≠ ia ∧ va ≠ ib ∧ vb ≠ oa ∧ vb ≠ ob ∧ vb ≠ ia ∧ vb ≠ ib ∧ oa ≠ ob ∧ ia ≠ ib ∧ oa ≠ ia ∧ oa ≠ ib ∧ ob ≠ ia ∧ ob ≠ ib ∧ om ≠ im
/-- what a node of depth d may have written on -/
def it_fr (om oa ob im ia ib d : Nat) (M M1 : Nat → Option va_E) : Prop := ∀ q, (d = 0 ∨ (q ≠ im ∧ q ≠ ia ∧ q ≠ ib)) → (d < 2 ∨ (q ≠ om ∧ q ≠ oa ∧ q ≠ ob)) → M1 q = M q
theorem it_fr_rf {om oa ob im ia ib d : Nat} {M : Nat → Option va_E} : it_fr om oa ob im ia ib d M M := fun _ _ _ => rfl
theorem it_fr_tr {om oa ob im ia ib d d1 d2 : Nat} {M M1 M2 : Nat → Option va_E} (h1 : it_fr om oa ob im ia ib d1 M M1) (h2 : it_fr om oa ob im ia ib d2 M1 M2) (k1 : d1 ≤ d) (k2 : d2 ≤ d) : it_fr om oa ob im ia ib d M M2 := fun q a b =>
  (h2 q (a.imp (fun e => by omega) id) (b.imp (fun e => by omega) id)).trans (h1 q (a.imp (fun e => by omega) id) (b.imp (fun e => by omega) id))
theorem it_fr_tb {cI cJ : ClassId} {v va vb om oa ob im ia ib d : Nat} {fv gv : Nat → Int64} {M M1 : Nat → Option va_E} {tb : Nat → Option nq} (h : tb_ok cI M tb) (hE : ev_S cJ M v va vb om oa ob im ia ib fv gv) (hf : it_fr om oa ob im ia ib d M M1) : tb_ok cI M1 tb := by
  obtain ⟨-, ⟨n1, f1, g1, k1, k2, k3⟩, ⟨n2, f2, g2, m1, m2, m3⟩⟩ := hE
  refine tb_kept h (fun a e ha h1 h2 => hf a (Or.inr ⟨fun q => ?_, fun q => ?_, fun q => ?_⟩) (Or.inr ⟨fun q => ?_, fun q => ?_, fun q => ?_⟩))
  · subst q; exact h1 _ (Option.some.inj (ha.symm.trans m1))
  · subst q; exact h2 _ _ _ (Option.some.inj (ha.symm.trans m2))
  · subst q; exact h2 _ _ _ (Option.some.inj (ha.symm.trans m3))
  · subst q; exact h1 _ (Option.some.inj (ha.symm.trans k1))
  · subst q; exact h2 _ _ _ (Option.some.inj (ha.symm.trans k2))
  · subst q; exact h2 _ _ _ (Option.some.inj (ha.symm.trans k3))
def it_y (k : nk) : MethodName := match k with
  | .inl _ => y_At_isTrueAt
  | .inr (.inl _) => y_Pr_isTrueAt
  | .inr (.inr (.inl _)) => y_Ng_isTrueAt
  | .inr (.inr (.inr _)) => y_Qf_isTrueAt
def it_bc (k : nk) : ByteArray := match k with
  | .inl _ => b_At_isTrueAt
  | .inr (.inl _) => b_Pr_isTrueAt
  | .inr (.inr (.inl _)) => b_Ng_isTrueAt
  | .inr (.inr (.inr _)) => b_Qf_isTrueAt
def it_ml (k : nk) : Nat := match k with
  | .inl _ => 8
  | .inr (.inl _) => 2
  | .inr (.inr (.inl _)) => 2
  | .inr (.inr (.inr _)) => 9
def it_rm (N : Nat) : Room := { frames := N + 5, cells := 0, slots := 0, locals := 60 * N + 260 }
theorem it_ml_le (k : nk) : it_ml k ≤ 9 := by unfold it_ml; split <;> decide
def it_post (cJ : ClassId) (v va vb om oa ob im ia ib : Nat) (fv gv : Nat → Int64) (q : nq) (M : Nat → Option va_E) (r : Int32) (M1 : Nat → Option va_E) : Prop := it_b r (nP q (vX fv gv) (vY fv gv)) ∧ it_fr om oa ob im ia ib (nd q) M M1 ∧ ev_S cJ M1 v va vb om oa ob im ia ib fv gv
/-- every node of rank at most N keeps the contract of isTrueAt, by its own kind's method -/
def it_Met (l : Launch) (D : va_G) (cI cJ cZ cN : ClassId) (v va vb om oa ob im ia ib : Nat) (tb : Nat → Option nq) (N : Nat) : Prop :=
  ∀ a q, tb a = some q → nr q ≤ N → ∀ (M : Nat → Option va_E) (sz : Nat) (fv gv : Nat → Int64), tb_ok cI M tb → ev_S cJ M v va vb om oa ob im ia ib fv gv → vx_b fv gv (nd q) →
    Met l (it_y (nK q)) (.code (it_y (nK q)) (it_bc (nK q)) (it_ml (nK q)) (some .boolean) :: ww) (it_rm N) (hw_Pc D qcl (qty cI cJ cZ cN) [.ref a, .ref v] M sz) (va_Qi (it_post cJ v va vb om oa ob im ia ib fv gv q M) (hw_B D qcl (qty cI cJ cZ cN) M sz) (hw_A M sz)) 0 0 (hw_A M sz)
section G21
section
variable {p : Program} {l : Launch} {e : Env} {R : Room} {s : State} {m : MethodId} {args : Array Value} {below : List Frame} {meth : Method} {c : Code} {H : Heap} {locs : List Loc} {cells slots : Nat} {Q : State → Prop}
variable {cc : ByteArray} {pc : Nat} {ls : Array Slot} {rest : List Value} {D : va_G} {A : Nat → Prop} {tys : List (ClassId × FieldType)} {M : Nat → Option va_E}
theorem it_run (n : Nat) (hn1 : n = 1) {k : nk} {nL index : Nat} {rm : Room} {Qc : Array Value → State → Outcome → State → Prop} {free : Addr → Prop} {own : String} {b v : Nat} {fs : List Value} {st0 : List Value}
    (hx : p.tables.exec = Jvm.exec) (hb : c.code = cc) (hml : c.maxLocals = nL) (hown : s.vm.findClass own = some m.cls) (hts : ∀ w ∈ ww, w.before args s = true) (hX : hw_X s) (hW : hw_W D qcl tys A M s H) (hl : ls.size = nL)
    (hM : Met l (it_y k) (.code (it_y k) (it_bc k) (it_ml k) (some .boolean) :: ww) rm (hw_Pc D qcl tys [.ref b, .ref v] M H.size) Qc 0 0 free)
    (hbM : M b = some (.inr (nk_ci k, fs)))
    (w1 : Cond.methodLink own index ⟨"QuantifierOut$Node", "isTrueAt", "(LQuantifierOut$Values;)Z"⟩ ∈ ww)
    (hrc : rm.cells = 0) (hrs : rm.slots = 0) (hR : rm.frames + 1 ≤ R.frames ∧ 8 + (9 + 11) + rm.locals ≤ R.locals) (hst : st0 = .ref v :: .ref b :: rest) (hrw : (rest.map fun v => v.category).sum ≤ 8)
    (hdg : decode cc pc = .ok (.invokevirtual index, 3)) (hf : cells ≤ R.cells ∧ slots ≤ R.slots) :
    va_Run p l e R s m args below meth c H locs cells slots 0 0 (F0 m pc ls st0) rest (Qc [Value.ref b, Value.ref v].toArray) free := by
  subst hn1
  have hdecl : va_Decl s ⟨"QuantifierOut$Node", "isTrueAt", "(LQuantifierOut$Values;)Z"⟩ := va_Decl.abs (hX.1 _ (by decide))
  have hk := it_ml_le k
  have hR2 : ∀ z, z ≤ 9 → rm.frames + 1 ≤ R.frames ∧ 8 + (z + 11) + rm.locals ≤ R.locals := fun z hz => ⟨hR.1, by omega⟩
  match k, hM, hbM with
  | .inl _, hM, hbM => exact hw_runU (n := 1) (C := "QuantifierOut$Atom") (As := [.ref v]) hx hb hml hown hts hX hW hl hM hbM rfl hdecl w1 tw_453 tw_454 tw_455 tw_12 tw_456 (by decide +kernel) hrc hrs (hR2 8 (by decide)) rfl hst hrw hdg hf
  | .inr (.inl _), hM, hbM => exact hw_runU (n := 1) (C := "QuantifierOut$Pair") (As := [.ref v]) hx hb hml hown hts hX hW hl hM hbM rfl hdecl w1 tw_453 tw_499 tw_461 tw_14 tw_462 (by decide +kernel) hrc hrs (hR2 2 (by decide)) rfl hst hrw hdg hf
  | .inr (.inr (.inl _)), hM, hbM => exact hw_runU (n := 1) (C := "QuantifierOut$Negation") (As := [.ref v]) hx hb hml hown hts hX hW hl hM hbM rfl hdecl w1 tw_453 tw_457 tw_458 tw_17 tw_459 (by decide +kernel) hrc hrs (hR2 2 (by decide)) rfl hst hrw hdg hf
  | .inr (.inr (.inr _)), hM, hbM => exact hw_runU (n := 1) (C := "QuantifierOut$Quantified") (As := [.ref v]) hx hb hml hown hts hX hW hl hM hbM rfl hdecl w1 tw_453 tw_500 tw_464 tw_18 tw_465 (by decide +kernel) hrc hrs (hR2 9 (by decide)) rfl hst hrw hdg hf
end
theorem it_b1 {r : Int32} {p : Prop} (h : it_b r p) (hr : ¬ r = 0) : p := by
  rcases h with ⟨_, h⟩ | ⟨h, _⟩
  · exact h
  · exact absurd h hr
theorem it_b0 {r : Int32} {p : Prop} (h : it_b r p) (hr : r = 0) : ¬ p := by
  rcases h with ⟨h, _⟩ | ⟨_, h⟩
  · rw [hr] at h; exact absurd h (by decide)
  · exact h
theorem VB_mono {a b : Nat} (h : a ≤ b) : VB b ≤ VB a := by
  unfold VB
  by_cases h1 : b = 0
  · rw [if_pos h1, if_pos (by omega)]; omega
  · rw [if_neg h1]
    by_cases h2 : a = 0
    · rw [if_pos h2]; split <;> omega
    · rw [if_neg h2]
      by_cases h3 : b = 1
      · rw [if_pos h3, if_pos (by omega)]; omega
      · rw [if_neg h3]; split <;> omega
theorem vx_b_mono {fv gv : Nat → Int64} {a b : Nat} (h : a ≤ b) (k : vx_b fv gv b) : vx_b fv gv a := fun i hi => by
  have := VB_mono h
  obtain ⟨h1, h2, h3⟩ := k i hi
  exact ⟨h1, by omega, by omega⟩
variable (l : Launch) (D : va_G) (cI cJ cZ cN : ClassId) (v va vb om oa ob im ia ib : Nat) (tb : Nat → Option nq)
set_option maxHeartbeats 4000000 in
set_option maxRecDepth 100000 in
theorem c_Ng_isTrueAt (N : Nat) (ih : it_Met l D cI cJ cZ cN v va vb om oa ob im ia ib tb N) (h0 : Nat) (q : nq) (hq : tb h0 = some q) (hN : nr q ≤ N + 1) (M : Nat → Option va_E) (sz : Nat) (fv gv : Nat → Int64) (hT : tb_ok cI M tb) (hE : ev_S cJ M v va vb om oa ob im ia ib fv gv) (hb9 : vx_b fv gv (nd q)) (a : Nat) (hK : nK q = .inr (.inr (.inl a))) : Met l y_Ng_isTrueAt (.code y_Ng_isTrueAt b_Ng_isTrueAt 2 (some .boolean) :: ww) (it_rm (N + 1)) (hw_Pc D qcl (qty cI cJ cZ cN) [.ref h0, .ref v] M sz) (va_Qi (it_post cJ v va vb om oa ob im ia ib fv gv q M) (hw_B D qcl (qty cI cJ cZ cN) M sz) (hw_A M sz)) 0 0 (hw_A M sz) := by
  obtain ⟨⟨la, gr, F, ⟨_, hc⟩, hla, hF, hg⟩, hok⟩ := hT h0 q hq
  have hk := hok.1
  unfold nk_ok at hk
  unfold nk_ex nk_ci at hc
  rw [hK] at hk hc
  dsimp only at hk hc
  obtain ⟨q1, h1, h2, h3, h4, h5, _⟩ := hk
  refine hw_met (by decide) (Nat.le_of_ble_eq_true rfl) ?_
  intro p e s m below meth c hx hb hr hml hown hlocks hnm hts hsz hX hW ls hl
  subst hsz
  have hA : ∀ q, s.heap.size ≤ q → hw_A M s.heap.size q := fun q h => Or.inr h
  have hS : va_S (hw_A M s.heap.size) s.heap s.heap [] := va_S.rf
  have hl : lv_has ls 2 [(0, .ref h0), (1, .ref v)] := hl
  have hown : s.vm.findClass "QuantifierOut$Negation" = some m.cls := hown
  refine lv_aload_n hx hb d_Ng_isTrueAt_0 rfl (lv_at hl 0 rfl) ?_
  refine hw_get (own := "QuantifierOut$Negation") (v := .ref a) hx hb hts i_Ng hown hW hc rfl 4 (by decide) (hts _ tw_368) (fun _ h9 => h9) rfl d_Ng_isTrueAt_1 ?_
  refine lv_aload_n hx hb d_Ng_isTrueAt_4 rfl (lv_at hl 1 rfl) ?_
  obtain ⟨⟨la_a, gr_a, F_a, hc_a, _⟩, _⟩ := hT a q1 h1
  refine hw_calli (it_run 1 rfl (own := "QuantifierOut$Negation") (rest := []) hx hb hml hown hts hX hW hl.1 (ih a q1 h1 (by omega) M _ fv gv hT hE (vx_b_mono (by omega) hb9)) hc_a.2 tw_460 rfl rfl ⟨by show N + 5 + 1 ≤ N + 1 + 5; omega, by show 8 + (9 + 11) + (60 * N + 260) ≤ 60 * (N + 1) + 260; omega⟩ rfl (Nat.le_of_ble_eq_true rfl) d_Ng_isTrueAt_5 ⟨Nat.le_refl 0, Nat.le_refl 0⟩) hW hS hA (fun r1 M1 H locs hp hz hW hS => ?_)
  obtain ⟨p1, p2, p3⟩ := hp
  refine lv_if_ne (tgt := 15) hx hb d_Ng_isTrueAt_8 (by decide) (fun c_8 => ?_) (fun c_8 => ?_)
  · skip
    refine lv_iconst (v := 0) hx hb d_Ng_isTrueAt_15 (by decide) ?_
    exact hw_retz hx hb hr rfl hlocks hW hS ⟨Or.inr ⟨rfl, fun z => (h5 _ _).mp z (it_b1 p1 c_8)⟩, by rw [h3]; exact p2, p3⟩ d_Ng_isTrueAt_16
  · skip
    refine lv_iconst (v := 1) hx hb d_Ng_isTrueAt_11 (by decide) ?_
    refine lv_goto (tgt := 16) hx hb d_Ng_isTrueAt_12 (by decide) ?_
    exact hw_retz hx hb hr rfl hlocks hW hS ⟨Or.inl ⟨rfl, (h5 _ _).mpr (it_b0 p1 c_8)⟩, by rw [h3]; exact p2, p3⟩ d_Ng_isTrueAt_16
set_option maxHeartbeats 4000000 in
set_option maxRecDepth 100000 in
theorem c_Pr_isTrueAt (N : Nat) (ih : it_Met l D cI cJ cZ cN v va vb om oa ob im ia ib tb N) (h0 : Nat) (q : nq) (hq : tb h0 = some q) (hN : nr q ≤ N + 1) (M : Nat → Option va_E) (sz : Nat) (fv gv : Nat → Int64) (hT : tb_ok cI M tb) (hE : ev_S cJ M v va vb om oa ob im ia ib fv gv) (hb9 : vx_b fv gv (nd q)) (a b : Nat) (kk : Bool) (hK : nK q = .inr (.inl (a, b, kk))) : Met l y_Pr_isTrueAt (.code y_Pr_isTrueAt b_Pr_isTrueAt 2 (some .boolean) :: ww) (it_rm (N + 1)) (hw_Pc D qcl (qty cI cJ cZ cN) [.ref h0, .ref v] M sz) (va_Qi (it_post cJ v va vb om oa ob im ia ib fv gv q M) (hw_B D qcl (qty cI cJ cZ cN) M sz) (hw_A M sz)) 0 0 (hw_A M sz) := by
  obtain ⟨⟨la, gr, F, ⟨hci, hc⟩, hla, hF, hg⟩, hok⟩ := hT h0 q hq
  have hk := hok.1
  unfold nk_ok at hk
  unfold nk_ex nk_ci at hc
  rw [hK] at hk hc
  dsimp only at hk hc
  obtain ⟨q1, q2, h1, h2, h3, h4, h5, h6, h7⟩ := hk
  have hd1 : nd q1 ≤ nd q := by rw [h5]; exact Nat.le_max_left _ _
  have hd2 : nd q2 ≤ nd q := by rw [h5]; exact Nat.le_max_right _ _
  refine hw_met (by decide) (Nat.le_of_ble_eq_true rfl) ?_
  intro p e s m below meth c hx hb hr hml hown hlocks hnm hts hsz hX hW ls hl
  subst hsz
  have hA : ∀ q, s.heap.size ≤ q → hw_A M s.heap.size q := fun q h => Or.inr h
  have hS : va_S (hw_A M s.heap.size) s.heap s.heap [] := va_S.rf
  have hl : lv_has ls 2 [(0, .ref h0), (1, .ref v)] := hl
  have hown : s.vm.findClass "QuantifierOut$Pair" = some m.cls := hown
  refine lv_aload_n hx hb d_Pr_isTrueAt_0 rfl (lv_at hl 0 rfl) ?_
  refine hw_get (own := "QuantifierOut$Pair") (v := .int (if kk = true then 1 else 0)) hx hb hts i_Pr hown hW hc rfl 6 (by decide) (hts _ tw_326) (fun _ h9 => h9) rfl d_Pr_isTrueAt_1 ?_
  refine lv_if_eq (tgt := 35) hx hb d_Pr_isTrueAt_4 (by decide) (fun c_4 => ?_) (fun c_4 => ?_)
  · skip
    have hkk : kk = false := by cases kk; rfl; exact absurd c_4 (by decide)
    have h7 : ∀ x y, nP q x y ↔ nP q1 x y ∨ nP q2 x y := fun x y => by rw [h7 x y, hkk, if_neg (by decide)]
    refine lv_aload_n hx hb d_Pr_isTrueAt_35 rfl (lv_at hl 0 rfl) ?_
    refine hw_get (own := "QuantifierOut$Pair") (v := .ref a) hx hb hts i_Pr hown hW hc rfl 4 (by decide) (hts _ tw_324) (fun _ h9 => h9) rfl d_Pr_isTrueAt_36 ?_
    refine lv_aload_n hx hb d_Pr_isTrueAt_39 rfl (lv_at hl 1 rfl) ?_
    obtain ⟨⟨la_a, gr_a, F_a, hc_a, _⟩, _⟩ := hT a q1 h1
    refine hw_calli (it_run 1 rfl (own := "QuantifierOut$Pair") (rest := []) hx hb hml hown hts hX hW hl.1 (ih a q1 h1 (by omega) M _ fv gv hT hE (vx_b_mono hd1 hb9)) hc_a.2 tw_463 rfl rfl ⟨by show N + 5 + 1 ≤ N + 1 + 5; omega, by show 8 + (9 + 11) + (60 * N + 260) ≤ 60 * (N + 1) + 260; omega⟩ rfl (Nat.le_of_ble_eq_true rfl) d_Pr_isTrueAt_40 ⟨Nat.le_refl 0, Nat.le_refl 0⟩) hW hS hA (fun r1 M1 H locs hp hz hW hS => ?_)
    obtain ⟨p1, p2, p3⟩ := hp
    refine lv_if_ne (tgt := 57) hx hb d_Pr_isTrueAt_43 (by decide) (fun c_43 => ?_) (fun c_43 => ?_)
    · skip
      refine lv_iconst (v := 1) hx hb d_Pr_isTrueAt_57 (by decide) ?_
      refine lv_goto (tgt := 62) hx hb d_Pr_isTrueAt_58 (by decide) ?_
      exact hw_retz hx hb hr rfl hlocks hW hS ⟨Or.inl ⟨rfl, (h7 _ _).mpr (Or.inl (it_b1 p1 c_43))⟩, it_fr_tr p2 it_fr_rf hd1 hd1, p3⟩ d_Pr_isTrueAt_62
    · skip
      have hT1 := it_fr_tb hT hE p2
      obtain ⟨⟨la1, gr1, F1, ⟨_, hc1⟩, _⟩, _⟩ := hT1 h0 q hq
      unfold nk_ex nk_ci at hc1
      rw [hK] at hc1
      dsimp only at hc1
      refine lv_aload_n hx hb d_Pr_isTrueAt_46 rfl (lv_at hl 0 rfl) ?_
      refine hw_get (own := "QuantifierOut$Pair") (v := .ref b) hx hb hts i_Pr hown hW hc1 rfl 5 (by decide) (hts _ tw_325) (fun _ h9 => h9) rfl d_Pr_isTrueAt_47 ?_
      refine lv_aload_n hx hb d_Pr_isTrueAt_50 rfl (lv_at hl 1 rfl) ?_
      obtain ⟨⟨la_b, gr_b, F_b, hc_b, _⟩, _⟩ := hT1 b q2 h2
      refine hw_calli (it_run 1 rfl (own := "QuantifierOut$Pair") (rest := []) hx hb hml hown hts hX hW hl.1 (ih b q2 h2 (by omega) M1 _ fv gv hT1 p3 (vx_b_mono hd2 hb9)) hc_b.2 tw_463 rfl rfl ⟨by show N + 5 + 1 ≤ N + 1 + 5; omega, by show 8 + (9 + 11) + (60 * N + 260) ≤ 60 * (N + 1) + 260; omega⟩ rfl (Nat.le_of_ble_eq_true rfl) d_Pr_isTrueAt_51 ⟨Nat.le_refl 0, Nat.le_refl 0⟩) hW hS hA (fun r2 M2 H locs hp2 hz hW hS => ?_)
      obtain ⟨s1, s2, s3⟩ := hp2
      refine lv_if_eq (tgt := 61) hx hb d_Pr_isTrueAt_54 (by decide) (fun c_54 => ?_) (fun c_54 => ?_)
      · skip
        refine lv_iconst (v := 0) hx hb d_Pr_isTrueAt_61 (by decide) ?_
        exact hw_retz hx hb hr rfl hlocks hW hS ⟨Or.inr ⟨rfl, fun z => ((h7 _ _).mp z).elim (it_b0 p1 c_43) (it_b0 s1 c_54)⟩, it_fr_tr p2 s2 hd1 hd2, s3⟩ d_Pr_isTrueAt_62
      · skip
        refine lv_iconst (v := 1) hx hb d_Pr_isTrueAt_57 (by decide) ?_
        refine lv_goto (tgt := 62) hx hb d_Pr_isTrueAt_58 (by decide) ?_
        exact hw_retz hx hb hr rfl hlocks hW hS ⟨Or.inl ⟨rfl, (h7 _ _).mpr (Or.inr (it_b1 s1 c_54))⟩, it_fr_tr p2 s2 hd1 hd2, s3⟩ d_Pr_isTrueAt_62
  · skip
    have hkk : kk = true := by cases kk; exact absurd rfl c_4; rfl
    have h7 : ∀ x y, nP q x y ↔ nP q1 x y ∧ nP q2 x y := fun x y => by rw [h7 x y, hkk, if_pos rfl]
    refine lv_aload_n hx hb d_Pr_isTrueAt_7 rfl (lv_at hl 0 rfl) ?_
    refine hw_get (own := "QuantifierOut$Pair") (v := .ref a) hx hb hts i_Pr hown hW hc rfl 4 (by decide) (hts _ tw_324) (fun _ h9 => h9) rfl d_Pr_isTrueAt_8 ?_
    refine lv_aload_n hx hb d_Pr_isTrueAt_11 rfl (lv_at hl 1 rfl) ?_
    obtain ⟨⟨la_a, gr_a, F_a, hc_a, _⟩, _⟩ := hT a q1 h1
    refine hw_calli (it_run 1 rfl (own := "QuantifierOut$Pair") (rest := []) hx hb hml hown hts hX hW hl.1 (ih a q1 h1 (by omega) M _ fv gv hT hE (vx_b_mono hd1 hb9)) hc_a.2 tw_463 rfl rfl ⟨by show N + 5 + 1 ≤ N + 1 + 5; omega, by show 8 + (9 + 11) + (60 * N + 260) ≤ 60 * (N + 1) + 260; omega⟩ rfl (Nat.le_of_ble_eq_true rfl) d_Pr_isTrueAt_12 ⟨Nat.le_refl 0, Nat.le_refl 0⟩) hW hS hA (fun r1 M1 H locs hp hz hW hS => ?_)
    obtain ⟨p1, p2, p3⟩ := hp
    refine lv_if_eq (tgt := 33) hx hb d_Pr_isTrueAt_15 (by decide) (fun c_15 => ?_) (fun c_15 => ?_)
    · skip
      refine lv_iconst (v := 0) hx hb d_Pr_isTrueAt_33 (by decide) ?_
      exact hw_retz hx hb hr rfl hlocks hW hS ⟨Or.inr ⟨rfl, fun z => it_b0 p1 c_15 ((h7 _ _).mp z).1⟩, it_fr_tr p2 it_fr_rf hd1 hd1, p3⟩ d_Pr_isTrueAt_34
    · skip
      have hT1 := it_fr_tb hT hE p2
      obtain ⟨⟨la1, gr1, F1, ⟨_, hc1⟩, _⟩, _⟩ := hT1 h0 q hq
      unfold nk_ex nk_ci at hc1
      rw [hK] at hc1
      dsimp only at hc1
      refine lv_aload_n hx hb d_Pr_isTrueAt_18 rfl (lv_at hl 0 rfl) ?_
      refine hw_get (own := "QuantifierOut$Pair") (v := .ref b) hx hb hts i_Pr hown hW hc1 rfl 5 (by decide) (hts _ tw_325) (fun _ h9 => h9) rfl d_Pr_isTrueAt_19 ?_
      refine lv_aload_n hx hb d_Pr_isTrueAt_22 rfl (lv_at hl 1 rfl) ?_
      obtain ⟨⟨la_b, gr_b, F_b, hc_b, _⟩, _⟩ := hT1 b q2 h2
      refine hw_calli (it_run 1 rfl (own := "QuantifierOut$Pair") (rest := []) hx hb hml hown hts hX hW hl.1 (ih b q2 h2 (by omega) M1 _ fv gv hT1 p3 (vx_b_mono hd2 hb9)) hc_b.2 tw_463 rfl rfl ⟨by show N + 5 + 1 ≤ N + 1 + 5; omega, by show 8 + (9 + 11) + (60 * N + 260) ≤ 60 * (N + 1) + 260; omega⟩ rfl (Nat.le_of_ble_eq_true rfl) d_Pr_isTrueAt_23 ⟨Nat.le_refl 0, Nat.le_refl 0⟩) hW hS hA (fun r2 M2 H locs hp2 hz hW hS => ?_)
      obtain ⟨s1, s2, s3⟩ := hp2
      refine lv_if_eq (tgt := 33) hx hb d_Pr_isTrueAt_26 (by decide) (fun c_26 => ?_) (fun c_26 => ?_)
      · skip
        refine lv_iconst (v := 0) hx hb d_Pr_isTrueAt_33 (by decide) ?_
        exact hw_retz hx hb hr rfl hlocks hW hS ⟨Or.inr ⟨rfl, fun z => it_b0 s1 c_26 ((h7 _ _).mp z).2⟩, it_fr_tr p2 s2 hd1 hd2, s3⟩ d_Pr_isTrueAt_34
      · skip
        refine lv_iconst (v := 1) hx hb d_Pr_isTrueAt_29 (by decide) ?_
        refine lv_goto (tgt := 34) hx hb d_Pr_isTrueAt_30 (by decide) ?_
        exact hw_retz hx hb hr rfl hlocks hW hS ⟨Or.inl ⟨rfl, (h7 _ _).mpr ⟨it_b1 p1 c_15, it_b1 s1 c_26⟩⟩, it_fr_tr p2 s2 hd1 hd2, s3⟩ d_Pr_isTrueAt_34
end G21

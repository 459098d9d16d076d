/-! Constructors of the class's own objects -/
theorem hw_nq {M : Nat → Option va_E} {a b : Nat} {x : va_E} (ha : M a = some x) (hb : M b = none) : a ≠ b := fun e => by rw [e, hb] at ha; cases ha
theorem va_up_none {M : Nat → Option va_E} {a x : Nat} {e : va_E} (h : va_up M a (some e) x = none) : M x = none := by
  by_cases z : x = a
  · rw [z, va_up_self] at h; cases h
  · rwa [va_up_ne _ _ z] at h
section G26
variable (l : Launch) (D : va_G) (cI cJ cZ cN : ClassId)
set_option maxHeartbeats 4000000 in
set_option maxRecDepth 100000 in
theorem c_Mk_init (h0 sz : Nat) (M : Nat → Option va_E) (hM : M h0 = some (.inr (2, [.null, .null, .int 0]))) : Met l y_Mk_init (.code y_Mk_init b_Mk_init 1 none :: ww) ({ frames := 1, cells := 2, slots := 42, locals := 30 }) (hw_Pc D qcl (qty cI cJ cZ cN) [.ref h0] M sz) (va_Qv (fun M1 => ∃ ma mb : Nat, M ma = none ∧ M mb = none ∧ ma ≠ mb ∧ mk_S cJ M1 h0 ma mb 0 (fun _ => 0) (fun _ => 0) ∧ ∀ x, x ≠ h0 → x ≠ ma → x ≠ mb → M1 x = M x) (hw_B D qcl (qty cI cJ cZ cN) M sz) (hw_A M sz)) 2 42 (hw_A M sz) := by
  refine hw_met (by decide) (Nat.le_of_ble_eq_true rfl) ?_
  intro p e s m below meth c hx hb hr hml hown hlocks hnm hts hsz hX hW ls hl
  subst hsz
  have hA : ∀ q, s.heap.size ≤ q → hw_A M s.heap.size q := fun q h => Or.inr h
  have hS : va_S (hw_A M s.heap.size) s.heap s.heap [] := va_S.rf
  have hl : lv_has ls 1 [(0, .ref h0)] := hl
  have hown : s.vm.findClass "QuantifierOut$Marks" = some m.cls := hown
  have hmono : ∀ x9, M x9 = none → M x9 = none := fun _ z9 => z9
  refine lv_aload_n hx hb d_Mk_init_0 rfl (lv_at hl 0 rfl) ?_
  refine W.objInit hx hb hown (hts _ tw_40) (hts _ tw_25) (hts _ tw_26) rfl (by rw [hml]; exact hl.1) rfl d_Mk_init_1 (Nat.le_of_ble_eq_true rfl) (Nat.le_of_ble_eq_true rfl) ?_
  refine W.eq (g2 := F0 m 4 ls []) rfl ?_
  refine lv_aload_n hx hb d_Mk_init_4 rfl (lv_at hl 0 rfl) ?_
  refine lv_bipush (v := 21) hx hb d_Mk_init_5 (by decide) ?_
  refine hw_newl (N' := 21) hx hb (hts _ tw_51) hW hS hA 1 rfl (by decide) (by decide) (by decide) (Nat.le_of_ble_eq_true rfl) (Nat.le_of_ble_eq_true rfl) d_Mk_init_7 (fun q1 H hq_q1 hW hS => ?_)
  have hW : hw_W D qcl (qty cI cJ cZ cN) _ (va_up M q1 (some (.inl (cJ, 21, .inr (.inl (fun _ => 0)))))) s H := hW
  have n_h0_q1 : h0 ≠ q1 := hw_nq hM hq_q1
  generalize hMw2 : va_up M q1 (some (.inl (cJ, 21, .inr (.inl (fun _ => 0))))) = Mw2 at hW
  have hM : Mw2 h0 = some (.inr (2, [.null, .null, .int 0])) := by rw [← hMw2, va_up_ne _ _ n_h0_q1]; exact hM
  have hy_q1 : Mw2 q1 = some (.inl (cJ, 21, .inr (.inl (fun _ => 0)))) := by rw [← hMw2]; exact va_up_self _ _ _
  have z_q1 : M q1 = none := hmono q1 hq_q1
  have hmono : ∀ x9, Mw2 x9 = none → M x9 = none := fun x9 z9 => hmono x9 (va_up_none (by rw [hMw2]; exact z9))
  have hfr_Mw2 : ∀ x9, x9 ≠ q1 → Mw2 x9 = M x9 := fun x9 z9 => by rw [← hMw2, va_up_ne _ _ z9]
  refine hw_putF (own := "QuantifierOut$Marks") (v := .ref q1) (ty := .array .long) hx hb hts i_Mk ft_Mk tk_Mk n_Mk hown hW hS hM rfl 0 (by decide) (hts _ tw_41) (fun _ h9 => h9) rfl hnm rfl (tk_Mk 0 (by decide)) rfl rfl (Nat.le_of_ble_eq_true rfl) d_Mk_init_9 (fun H locs hW hS => ?_)
  have hW : hw_W D qcl (qty cI cJ cZ cN) _ (va_up Mw2 h0 (some (.inr (2, [.ref q1, .null, .int 0])))) s H := hW
  generalize hMw3 : va_up Mw2 h0 (some (.inr (2, [.ref q1, .null, .int 0]))) = Mw3 at hW
  have hy_q1 : Mw3 q1 = some (.inl (cJ, 21, .inr (.inl (fun _ => 0)))) := by rw [← hMw3, va_up_ne _ _ (Ne.symm n_h0_q1)]; exact hy_q1
  have hM : Mw3 h0 = some (.inr (2, [.ref q1, .null, .int 0])) := by rw [← hMw3]; exact va_up_self _ _ _
  have hmono : ∀ x9, Mw3 x9 = none → M x9 = none := fun x9 z9 => hmono x9 (va_up_none (by rw [hMw3]; exact z9))
  have hfr_Mw3 : ∀ x9, x9 ≠ h0 → Mw3 x9 = Mw2 x9 := fun x9 z9 => by rw [← hMw3, va_up_ne _ _ z9]
  refine lv_aload_n hx hb d_Mk_init_12 rfl (lv_at hl 0 rfl) ?_
  refine lv_bipush (v := 21) hx hb d_Mk_init_13 (by decide) ?_
  refine hw_newl (N' := 21) hx hb (hts _ tw_51) hW hS hA 1 rfl (by decide) (by decide) (by decide) (Nat.le_of_ble_eq_true rfl) (Nat.le_of_ble_eq_true rfl) d_Mk_init_15 (fun q4 H hq_q4 hW hS => ?_)
  have hW : hw_W D qcl (qty cI cJ cZ cN) _ (va_up Mw3 q4 (some (.inl (cJ, 21, .inr (.inl (fun _ => 0)))))) s H := hW
  have n_q1_q4 : q1 ≠ q4 := hw_nq hy_q1 hq_q4
  have n_h0_q4 : h0 ≠ q4 := hw_nq hM hq_q4
  generalize hMw5 : va_up Mw3 q4 (some (.inl (cJ, 21, .inr (.inl (fun _ => 0))))) = Mw5 at hW
  have hy_q1 : Mw5 q1 = some (.inl (cJ, 21, .inr (.inl (fun _ => 0)))) := by rw [← hMw5, va_up_ne _ _ n_q1_q4]; exact hy_q1
  have hM : Mw5 h0 = some (.inr (2, [.ref q1, .null, .int 0])) := by rw [← hMw5, va_up_ne _ _ n_h0_q4]; exact hM
  have hy_q4 : Mw5 q4 = some (.inl (cJ, 21, .inr (.inl (fun _ => 0)))) := by rw [← hMw5]; exact va_up_self _ _ _
  have z_q4 : M q4 = none := hmono q4 hq_q4
  have hmono : ∀ x9, Mw5 x9 = none → M x9 = none := fun x9 z9 => hmono x9 (va_up_none (by rw [hMw5]; exact z9))
  have hfr_Mw5 : ∀ x9, x9 ≠ q4 → Mw5 x9 = Mw3 x9 := fun x9 z9 => by rw [← hMw5, va_up_ne _ _ z9]
  refine hw_putF (own := "QuantifierOut$Marks") (v := .ref q4) (ty := .array .long) hx hb hts i_Mk ft_Mk tk_Mk n_Mk hown hW hS hM rfl 1 (by decide) (hts _ tw_42) (fun _ h9 => h9) rfl hnm rfl (tk_Mk 1 (by decide)) rfl rfl (Nat.le_of_ble_eq_true rfl) d_Mk_init_17 (fun H locs hW hS => ?_)
  have hW : hw_W D qcl (qty cI cJ cZ cN) _ (va_up Mw5 h0 (some (.inr (2, [.ref q1, .ref q4, .int 0])))) s H := hW
  generalize hMw6 : va_up Mw5 h0 (some (.inr (2, [.ref q1, .ref q4, .int 0]))) = Mw6 at hW
  have hy_q1 : Mw6 q1 = some (.inl (cJ, 21, .inr (.inl (fun _ => 0)))) := by rw [← hMw6, va_up_ne _ _ (Ne.symm n_h0_q1)]; exact hy_q1
  have hy_q4 : Mw6 q4 = some (.inl (cJ, 21, .inr (.inl (fun _ => 0)))) := by rw [← hMw6, va_up_ne _ _ (Ne.symm n_h0_q4)]; exact hy_q4
  have hM : Mw6 h0 = some (.inr (2, [.ref q1, .ref q4, .int 0])) := by rw [← hMw6]; exact va_up_self _ _ _
  have hmono : ∀ x9, Mw6 x9 = none → M x9 = none := fun x9 z9 => hmono x9 (va_up_none (by rw [hMw6]; exact z9))
  have hfr_Mw6 : ∀ x9, x9 ≠ h0 → Mw6 x9 = Mw5 x9 := fun x9 z9 => by rw [← hMw6, va_up_ne _ _ z9]
  refine lv_aload_n hx hb d_Mk_init_20 rfl (lv_at hl 0 rfl) ?_
  refine lv_iconst (v := 0) hx hb d_Mk_init_21 (by decide) ?_
  refine hw_put (own := "QuantifierOut$Marks") (v := .int 0) (ty := .int) hx hb hts i_Mk ft_Mk tk_Mk n_Mk hown hW hS hM rfl 2 (by decide) (hts _ tw_43) (fun _ h9 => h9) rfl (tk_Mk 2 (by decide)) rfl rfl (Nat.le_of_ble_eq_true rfl) d_Mk_init_22 (fun H locs hW hS => ?_)
  have hW : hw_W D qcl (qty cI cJ cZ cN) _ (va_up Mw6 h0 (some (.inr (2, [.ref q1, .ref q4, .int 0])))) s H := hW
  generalize hMw7 : va_up Mw6 h0 (some (.inr (2, [.ref q1, .ref q4, .int 0]))) = Mw7 at hW
  have hy_q1 : Mw7 q1 = some (.inl (cJ, 21, .inr (.inl (fun _ => 0)))) := by rw [← hMw7, va_up_ne _ _ (Ne.symm n_h0_q1)]; exact hy_q1
  have hy_q4 : Mw7 q4 = some (.inl (cJ, 21, .inr (.inl (fun _ => 0)))) := by rw [← hMw7, va_up_ne _ _ (Ne.symm n_h0_q4)]; exact hy_q4
  have hM : Mw7 h0 = some (.inr (2, [.ref q1, .ref q4, .int 0])) := by rw [← hMw7]; exact va_up_self _ _ _
  have hmono : ∀ x9, Mw7 x9 = none → M x9 = none := fun x9 z9 => hmono x9 (va_up_none (by rw [hMw7]; exact z9))
  have hfr_Mw7 : ∀ x9, x9 ≠ h0 → Mw7 x9 = Mw6 x9 := fun x9 z9 => by rw [← hMw7, va_up_ne _ _ z9]
  refine hw_retv hx hb hr hlocks hW hS ⟨q1, q4, z_q1, z_q4, n_q1_q4, ⟨hM, hy_q1, hy_q4⟩, fun x z1 z2 z3 => ?_⟩ d_Mk_init_25
  exact (((((hfr_Mw7 x z1)).trans (hfr_Mw6 x z1)).trans (hfr_Mw5 x z3)).trans (hfr_Mw3 x z1)).trans (hfr_Mw2 x z2)
set_option maxHeartbeats 4000000 in
set_option maxRecDepth 100000 in
theorem c_Vs_init (h0 sz : Nat) (M : Nat → Option va_E) (hM : M h0 = some (.inr (7, [.null, .null, .null, .null]))) : Met l y_Vs_init (.code y_Vs_init b_Vs_init 1 none :: ww) ({ frames := 2, cells := 8, slots := 94, locals := 60 }) (hw_Pc D qcl (qty cI cJ cZ cN) [.ref h0] M sz) (va_Qv (fun M1 => ∃ va vb om oa ob im ia ib : Nat, (M va = none ∧ M vb = none ∧ M om = none ∧ M oa = none ∧ M ob = none ∧ M im = none ∧ M ia = none ∧ M ib = none) ∧ ev_D va vb om oa ob im ia ib ∧ ev_S cJ M1 h0 va vb om oa ob im ia ib (fun _ => 0) (fun i => if i < 2 then 1 else 0) ∧ ∀ x, x ≠ h0 → x ≠ va → x ≠ vb → x ≠ om → x ≠ oa → x ≠ ob → x ≠ im → x ≠ ia → x ≠ ib → M1 x = M x) (hw_B D qcl (qty cI cJ cZ cN) M sz) (hw_A M sz)) 8 94 (hw_A M sz) := by
  refine hw_met (by decide) (Nat.le_of_ble_eq_true rfl) ?_
  intro p e s m below meth c hx hb hr hml hown hlocks hnm hts hsz hX hW ls hl
  subst hsz
  have hA : ∀ q, s.heap.size ≤ q → hw_A M s.heap.size q := fun q h => Or.inr h
  have hS : va_S (hw_A M s.heap.size) s.heap s.heap [] := va_S.rf
  have hl : lv_has ls 1 [(0, .ref h0)] := hl
  have hown : s.vm.findClass "QuantifierOut$Values" = some m.cls := hown
  have hmono : ∀ x9, M x9 = none → M x9 = none := fun _ z9 => z9
  refine lv_aload_n hx hb d_Vs_init_0 rfl (lv_at hl 0 rfl) ?_
  refine W.objInit hx hb hown (hts _ tw_34) (hts _ tw_25) (hts _ tw_26) rfl (by rw [hml]; exact hl.1) rfl d_Vs_init_1 (Nat.le_of_ble_eq_true rfl) (Nat.le_of_ble_eq_true rfl) ?_
  refine W.eq (g2 := F0 m 4 ls []) rfl ?_
  refine lv_aload_n hx hb d_Vs_init_4 rfl (lv_at hl 0 rfl) ?_
  refine lv_iconst (v := 2) hx hb d_Vs_init_5 (by decide) ?_
  refine hw_newl (N' := 2) hx hb (hts _ tw_51) hW hS hA 1 rfl (by decide) (by decide) (by decide) (Nat.le_of_ble_eq_true rfl) (Nat.le_of_ble_eq_true rfl) d_Vs_init_6 (fun va H hq_va hW hS => ?_)
  have hW : hw_W D qcl (qty cI cJ cZ cN) _ (va_up M va (some (.inl (cJ, 2, .inr (.inl (fun _ => 0)))))) s H := hW
  have n_h0_va : h0 ≠ va := hw_nq hM hq_va
  generalize hMw1 : va_up M va (some (.inl (cJ, 2, .inr (.inl (fun _ => 0))))) = Mw1 at hW
  have hM : Mw1 h0 = some (.inr (7, [.null, .null, .null, .null])) := by rw [← hMw1, va_up_ne _ _ n_h0_va]; exact hM
  have hy_va : Mw1 va = some (.inl (cJ, 2, .inr (.inl (fun _ => 0)))) := by rw [← hMw1]; exact va_up_self _ _ _
  have z_va : M va = none := hmono va hq_va
  have hmono : ∀ x9, Mw1 x9 = none → M x9 = none := fun x9 z9 => hmono x9 (va_up_none (by rw [hMw1]; exact z9))
  have hfr_Mw1 : ∀ x9, x9 ≠ va → Mw1 x9 = M x9 := fun x9 z9 => by rw [← hMw1, va_up_ne _ _ z9]
  refine lv_dup hx hb d_Vs_init_8 rfl ?_
  refine lv_iconst (v := 0) hx hb d_Vs_init_9 (by decide) ?_
  refine lv_lconst (v := 0) hx hb d_Vs_init_10 (by decide) ?_
  refine hw_lst hx hb hW hS 1 hy_va rfl 0 rfl (by omega) (by decide) d_Vs_init_11 (fun H locs hW hS => ?_)
  have hW : hw_W D qcl (qty cI cJ cZ cN) _ (va_up Mw1 va (some (.inl (cJ, 2, .inr (.inl (vp_updL (fun _ => 0) 0 0)))))) s H := hW
  generalize hMw2 : va_up Mw1 va (some (.inl (cJ, 2, .inr (.inl (vp_updL (fun _ => 0) 0 0))))) = Mw2 at hW
  have hM : Mw2 h0 = some (.inr (7, [.null, .null, .null, .null])) := by rw [← hMw2, va_up_ne _ _ n_h0_va]; exact hM
  have hy_va : Mw2 va = some (.inl (cJ, 2, .inr (.inl (vp_updL (fun _ => 0) 0 0)))) := by rw [← hMw2]; exact va_up_self _ _ _
  have hmono : ∀ x9, Mw2 x9 = none → M x9 = none := fun x9 z9 => hmono x9 (va_up_none (by rw [hMw2]; exact z9))
  have hfr_Mw2 : ∀ x9, x9 ≠ va → Mw2 x9 = Mw1 x9 := fun x9 z9 => by rw [← hMw2, va_up_ne _ _ z9]
  refine lv_dup hx hb d_Vs_init_12 rfl ?_
  refine lv_iconst (v := 1) hx hb d_Vs_init_13 (by decide) ?_
  refine lv_lconst (v := 0) hx hb d_Vs_init_14 (by decide) ?_
  refine hw_lst hx hb hW hS 1 hy_va rfl 1 rfl (by omega) (by decide) d_Vs_init_15 (fun H locs hW hS => ?_)
  have hW : hw_W D qcl (qty cI cJ cZ cN) _ (va_up Mw2 va (some (.inl (cJ, 2, .inr (.inl (vp_updL (vp_updL (fun _ => 0) 0 0) 1 0)))))) s H := hW
  generalize hMw3 : va_up Mw2 va (some (.inl (cJ, 2, .inr (.inl (vp_updL (vp_updL (fun _ => 0) 0 0) 1 0))))) = Mw3 at hW
  have hM : Mw3 h0 = some (.inr (7, [.null, .null, .null, .null])) := by rw [← hMw3, va_up_ne _ _ n_h0_va]; exact hM
  have hy_va : Mw3 va = some (.inl (cJ, 2, .inr (.inl (vp_updL (vp_updL (fun _ => 0) 0 0) 1 0)))) := by rw [← hMw3]; exact va_up_self _ _ _
  have hmono : ∀ x9, Mw3 x9 = none → M x9 = none := fun x9 z9 => hmono x9 (va_up_none (by rw [hMw3]; exact z9))
  have hfr_Mw3 : ∀ x9, x9 ≠ va → Mw3 x9 = Mw2 x9 := fun x9 z9 => by rw [← hMw3, va_up_ne _ _ z9]
  refine hw_putF (own := "QuantifierOut$Values") (v := .ref va) (ty := .array .long) hx hb hts i_Vs ft_Vs tk_Vs n_Vs hown hW hS hM rfl 0 (by decide) (hts _ tw_52) (fun _ h9 => h9) rfl hnm rfl (tk_Vs 0 (by decide)) rfl rfl (Nat.le_of_ble_eq_true rfl) d_Vs_init_16 (fun H locs hW hS => ?_)
  have hW : hw_W D qcl (qty cI cJ cZ cN) _ (va_up Mw3 h0 (some (.inr (7, [.ref va, .null, .null, .null])))) s H := hW
  generalize hMw4 : va_up Mw3 h0 (some (.inr (7, [.ref va, .null, .null, .null]))) = Mw4 at hW
  have hy_va : Mw4 va = some (.inl (cJ, 2, .inr (.inl (vp_updL (vp_updL (fun _ => 0) 0 0) 1 0)))) := by rw [← hMw4, va_up_ne _ _ (Ne.symm n_h0_va)]; exact hy_va
  have hM : Mw4 h0 = some (.inr (7, [.ref va, .null, .null, .null])) := by rw [← hMw4]; exact va_up_self _ _ _
  have hmono : ∀ x9, Mw4 x9 = none → M x9 = none := fun x9 z9 => hmono x9 (va_up_none (by rw [hMw4]; exact z9))
  have hfr_Mw4 : ∀ x9, x9 ≠ h0 → Mw4 x9 = Mw3 x9 := fun x9 z9 => by rw [← hMw4, va_up_ne _ _ z9]
  refine lv_aload_n hx hb d_Vs_init_19 rfl (lv_at hl 0 rfl) ?_
  refine lv_iconst (v := 2) hx hb d_Vs_init_20 (by decide) ?_
  refine hw_newl (N' := 2) hx hb (hts _ tw_51) hW hS hA 1 rfl (by decide) (by decide) (by decide) (Nat.le_of_ble_eq_true rfl) (Nat.le_of_ble_eq_true rfl) d_Vs_init_21 (fun vb H hq_vb hW hS => ?_)
  have hW : hw_W D qcl (qty cI cJ cZ cN) _ (va_up Mw4 vb (some (.inl (cJ, 2, .inr (.inl (fun _ => 0)))))) s H := hW
  have n_va_vb : va ≠ vb := hw_nq hy_va hq_vb
  have n_h0_vb : h0 ≠ vb := hw_nq hM hq_vb
  generalize hMw5 : va_up Mw4 vb (some (.inl (cJ, 2, .inr (.inl (fun _ => 0))))) = Mw5 at hW
  have hy_va : Mw5 va = some (.inl (cJ, 2, .inr (.inl (vp_updL (vp_updL (fun _ => 0) 0 0) 1 0)))) := by rw [← hMw5, va_up_ne _ _ n_va_vb]; exact hy_va
  have hM : Mw5 h0 = some (.inr (7, [.ref va, .null, .null, .null])) := by rw [← hMw5, va_up_ne _ _ n_h0_vb]; exact hM
  have hy_vb : Mw5 vb = some (.inl (cJ, 2, .inr (.inl (fun _ => 0)))) := by rw [← hMw5]; exact va_up_self _ _ _
  have z_vb : M vb = none := hmono vb hq_vb
  have hmono : ∀ x9, Mw5 x9 = none → M x9 = none := fun x9 z9 => hmono x9 (va_up_none (by rw [hMw5]; exact z9))
  have hfr_Mw5 : ∀ x9, x9 ≠ vb → Mw5 x9 = Mw4 x9 := fun x9 z9 => by rw [← hMw5, va_up_ne _ _ z9]
  refine lv_dup hx hb d_Vs_init_23 rfl ?_
  refine lv_iconst (v := 0) hx hb d_Vs_init_24 (by decide) ?_
  refine lv_lconst (v := 1) hx hb d_Vs_init_25 (by decide) ?_
  refine hw_lst hx hb hW hS 1 hy_vb rfl 0 rfl (by omega) (by decide) d_Vs_init_26 (fun H locs hW hS => ?_)
  have hW : hw_W D qcl (qty cI cJ cZ cN) _ (va_up Mw5 vb (some (.inl (cJ, 2, .inr (.inl (vp_updL (fun _ => 0) 0 1)))))) s H := hW
  generalize hMw6 : va_up Mw5 vb (some (.inl (cJ, 2, .inr (.inl (vp_updL (fun _ => 0) 0 1))))) = Mw6 at hW
  have hy_va : Mw6 va = some (.inl (cJ, 2, .inr (.inl (vp_updL (vp_updL (fun _ => 0) 0 0) 1 0)))) := by rw [← hMw6, va_up_ne _ _ n_va_vb]; exact hy_va
  have hM : Mw6 h0 = some (.inr (7, [.ref va, .null, .null, .null])) := by rw [← hMw6, va_up_ne _ _ n_h0_vb]; exact hM
  have hy_vb : Mw6 vb = some (.inl (cJ, 2, .inr (.inl (vp_updL (fun _ => 0) 0 1)))) := by rw [← hMw6]; exact va_up_self _ _ _
  have hmono : ∀ x9, Mw6 x9 = none → M x9 = none := fun x9 z9 => hmono x9 (va_up_none (by rw [hMw6]; exact z9))
  have hfr_Mw6 : ∀ x9, x9 ≠ vb → Mw6 x9 = Mw5 x9 := fun x9 z9 => by rw [← hMw6, va_up_ne _ _ z9]
  refine lv_dup hx hb d_Vs_init_27 rfl ?_
  refine lv_iconst (v := 1) hx hb d_Vs_init_28 (by decide) ?_
  refine lv_lconst (v := 1) hx hb d_Vs_init_29 (by decide) ?_
  refine hw_lst hx hb hW hS 1 hy_vb rfl 1 rfl (by omega) (by decide) d_Vs_init_30 (fun H locs hW hS => ?_)
  have hW : hw_W D qcl (qty cI cJ cZ cN) _ (va_up Mw6 vb (some (.inl (cJ, 2, .inr (.inl (vp_updL (vp_updL (fun _ => 0) 0 1) 1 1)))))) s H := hW
  generalize hMw7 : va_up Mw6 vb (some (.inl (cJ, 2, .inr (.inl (vp_updL (vp_updL (fun _ => 0) 0 1) 1 1))))) = Mw7 at hW
  have hy_va : Mw7 va = some (.inl (cJ, 2, .inr (.inl (vp_updL (vp_updL (fun _ => 0) 0 0) 1 0)))) := by rw [← hMw7, va_up_ne _ _ n_va_vb]; exact hy_va
  have hM : Mw7 h0 = some (.inr (7, [.ref va, .null, .null, .null])) := by rw [← hMw7, va_up_ne _ _ n_h0_vb]; exact hM
  have hy_vb : Mw7 vb = some (.inl (cJ, 2, .inr (.inl (vp_updL (vp_updL (fun _ => 0) 0 1) 1 1)))) := by rw [← hMw7]; exact va_up_self _ _ _
  have hmono : ∀ x9, Mw7 x9 = none → M x9 = none := fun x9 z9 => hmono x9 (va_up_none (by rw [hMw7]; exact z9))
  have hfr_Mw7 : ∀ x9, x9 ≠ vb → Mw7 x9 = Mw6 x9 := fun x9 z9 => by rw [← hMw7, va_up_ne _ _ z9]
  refine hw_putF (own := "QuantifierOut$Values") (v := .ref vb) (ty := .array .long) hx hb hts i_Vs ft_Vs tk_Vs n_Vs hown hW hS hM rfl 1 (by decide) (hts _ tw_56) (fun _ h9 => h9) rfl hnm rfl (tk_Vs 1 (by decide)) rfl rfl (Nat.le_of_ble_eq_true rfl) d_Vs_init_31 (fun H locs hW hS => ?_)
  have hW : hw_W D qcl (qty cI cJ cZ cN) _ (va_up Mw7 h0 (some (.inr (7, [.ref va, .ref vb, .null, .null])))) s H := hW
  generalize hMw8 : va_up Mw7 h0 (some (.inr (7, [.ref va, .ref vb, .null, .null]))) = Mw8 at hW
  have hy_va : Mw8 va = some (.inl (cJ, 2, .inr (.inl (vp_updL (vp_updL (fun _ => 0) 0 0) 1 0)))) := by rw [← hMw8, va_up_ne _ _ (Ne.symm n_h0_va)]; exact hy_va
  have hy_vb : Mw8 vb = some (.inl (cJ, 2, .inr (.inl (vp_updL (vp_updL (fun _ => 0) 0 1) 1 1)))) := by rw [← hMw8, va_up_ne _ _ (Ne.symm n_h0_vb)]; exact hy_vb
  have hM : Mw8 h0 = some (.inr (7, [.ref va, .ref vb, .null, .null])) := by rw [← hMw8]; exact va_up_self _ _ _
  have hmono : ∀ x9, Mw8 x9 = none → M x9 = none := fun x9 z9 => hmono x9 (va_up_none (by rw [hMw8]; exact z9))
  have hfr_Mw8 : ∀ x9, x9 ≠ h0 → Mw8 x9 = Mw7 x9 := fun x9 z9 => by rw [← hMw8, va_up_ne _ _ z9]
  refine lv_aload_n hx hb d_Vs_init_34 rfl (lv_at hl 0 rfl) ?_
  refine hw_new (ci := 2) (own := "QuantifierOut$Values") (fs := [.null, .null, .int 0]) hx hb hts i_Mk ft_Mk tk_Mk hown (hts _ tw_35) (hts _ tw_36) (hts _ tw_3) hW hS hA rfl (by intro j9 hj9; rcases (show j9 = 0 ∨ j9 = 1 ∨ j9 = 2 by omega) with rfl | rfl | rfl <;> rfl) (Nat.le_of_ble_eq_true rfl) (Nat.le_of_ble_eq_true rfl) d_Vs_init_35 (fun om H hq_om hW hS => ?_)
  have hW : hw_W D qcl (qty cI cJ cZ cN) _ (va_up Mw8 om (some (.inr (2, [.null, .null, .int 0])))) s H := hW
  have n_va_om : va ≠ om := hw_nq hy_va hq_om
  have n_vb_om : vb ≠ om := hw_nq hy_vb hq_om
  have n_h0_om : h0 ≠ om := hw_nq hM hq_om
  generalize hMw9 : va_up Mw8 om (some (.inr (2, [.null, .null, .int 0]))) = Mw9 at hW
  have hy_va : Mw9 va = some (.inl (cJ, 2, .inr (.inl (vp_updL (vp_updL (fun _ => 0) 0 0) 1 0)))) := by rw [← hMw9, va_up_ne _ _ n_va_om]; exact hy_va
  have hy_vb : Mw9 vb = some (.inl (cJ, 2, .inr (.inl (vp_updL (vp_updL (fun _ => 0) 0 1) 1 1)))) := by rw [← hMw9, va_up_ne _ _ n_vb_om]; exact hy_vb
  have hM : Mw9 h0 = some (.inr (7, [.ref va, .ref vb, .null, .null])) := by rw [← hMw9, va_up_ne _ _ n_h0_om]; exact hM
  have hy_om : Mw9 om = some (.inr (2, [.null, .null, .int 0])) := by rw [← hMw9]; exact va_up_self _ _ _
  have z_om : M om = none := hmono om hq_om
  have hmono : ∀ x9, Mw9 x9 = none → M x9 = none := fun x9 z9 => hmono x9 (va_up_none (by rw [hMw9]; exact z9))
  have hfr_Mw9 : ∀ x9, x9 ≠ om → Mw9 x9 = Mw8 x9 := fun x9 z9 => by rw [← hMw9, va_up_ne _ _ z9]
  refine lv_dup hx hb d_Vs_init_38 rfl ?_
  refine hw_callv (hw_runI (n := 0) (own := "QuantifierOut$Values") (As := []) (rest := [.ref om, .ref h0]) hx hb hml hown hts hX hW hl.1 (c_Mk_init l D cI cJ cZ cN om _ Mw9 hy_om) tw_37 tw_38 tw_3 tw_39 rfl (by decide +kernel) rfl rfl ⟨by decide, by decide⟩ rfl rfl (Nat.le_of_ble_eq_true rfl) d_Vs_init_39 ⟨by decide, by decide⟩) hW hS hA (fun Kom H locs hp hz hW hS => ?_)
  obtain ⟨oa, ob, y1, y2, y3, y4, y5⟩ := hp
  have n_va_oa : va ≠ oa := hw_nq hy_va y1
  have n_va_ob : va ≠ ob := hw_nq hy_va y2
  have hy_va : Kom va = some (.inl (cJ, 2, .inr (.inl (vp_updL (vp_updL (fun _ => 0) 0 0) 1 0)))) := (y5 va n_va_om n_va_oa n_va_ob).trans hy_va
  have n_vb_oa : vb ≠ oa := hw_nq hy_vb y1
  have n_vb_ob : vb ≠ ob := hw_nq hy_vb y2
  have hy_vb : Kom vb = some (.inl (cJ, 2, .inr (.inl (vp_updL (vp_updL (fun _ => 0) 0 1) 1 1)))) := (y5 vb n_vb_om n_vb_oa n_vb_ob).trans hy_vb
  have n_h0_oa : h0 ≠ oa := hw_nq hM y1
  have n_h0_ob : h0 ≠ ob := hw_nq hM y2
  have hM : Kom h0 = some (.inr (7, [.ref va, .ref vb, .null, .null])) := (y5 h0 n_h0_om n_h0_oa n_h0_ob).trans hM
  have n_om_oa : om ≠ oa := hw_nq hy_om y1
  have n_om_ob : om ≠ ob := hw_nq hy_om y2
  have n_oa_ob : oa ≠ ob := y3
  have z_oa := hmono oa y1
  have z_ob := hmono ob y2
  have hy_om := y4.1
  have hy_oa := y4.2.1
  have hy_ob := y4.2.2
  have hmono : ∀ x9, Kom x9 = none → M x9 = none := fun x9 z9 => hmono x9 (by rw [← y5 x9 (fun q9 => by rw [q9, hy_om] at z9; cases z9) (fun q9 => by rw [q9, hy_oa] at z9; cases z9) (fun q9 => by rw [q9, hy_ob] at z9; cases z9)]; exact z9)
  have y5om := y5
  refine hw_putF (own := "QuantifierOut$Values") (v := .ref om) (ty := .object "QuantifierOut$Marks") hx hb hts i_Vs ft_Vs tk_Vs n_Vs hown hW hS hM rfl 2 (by decide) (hts _ tw_60) (fun _ h9 => h9) rfl hnm rfl (tk_Vs 2 (by decide)) rfl rfl (Nat.le_of_ble_eq_true rfl) d_Vs_init_42 (fun H locs hW hS => ?_)
  have hW : hw_W D qcl (qty cI cJ cZ cN) _ (va_up Kom h0 (some (.inr (7, [.ref va, .ref vb, .ref om, .null])))) s H := hW
  generalize hMw10 : va_up Kom h0 (some (.inr (7, [.ref va, .ref vb, .ref om, .null]))) = Mw10 at hW
  have hy_va : Mw10 va = some (.inl (cJ, 2, .inr (.inl (vp_updL (vp_updL (fun _ => 0) 0 0) 1 0)))) := by rw [← hMw10, va_up_ne _ _ (Ne.symm n_h0_va)]; exact hy_va
  have hy_vb : Mw10 vb = some (.inl (cJ, 2, .inr (.inl (vp_updL (vp_updL (fun _ => 0) 0 1) 1 1)))) := by rw [← hMw10, va_up_ne _ _ (Ne.symm n_h0_vb)]; exact hy_vb
  have hy_om : Mw10 om = some (.inr (2, [.ref oa, .ref ob, .int (nI 0)])) := by rw [← hMw10, va_up_ne _ _ (Ne.symm n_h0_om)]; exact hy_om
  have hy_oa : Mw10 oa = some (.inl (cJ, 21, .inr (.inl (fun _ => 0)))) := by rw [← hMw10, va_up_ne _ _ (Ne.symm n_h0_oa)]; exact hy_oa
  have hy_ob : Mw10 ob = some (.inl (cJ, 21, .inr (.inl (fun _ => 0)))) := by rw [← hMw10, va_up_ne _ _ (Ne.symm n_h0_ob)]; exact hy_ob
  have hM : Mw10 h0 = some (.inr (7, [.ref va, .ref vb, .ref om, .null])) := by rw [← hMw10]; exact va_up_self _ _ _
  have hmono : ∀ x9, Mw10 x9 = none → M x9 = none := fun x9 z9 => hmono x9 (va_up_none (by rw [hMw10]; exact z9))
  have hfr_Mw10 : ∀ x9, x9 ≠ h0 → Mw10 x9 = Kom x9 := fun x9 z9 => by rw [← hMw10, va_up_ne _ _ z9]
  refine lv_aload_n hx hb d_Vs_init_45 rfl (lv_at hl 0 rfl) ?_
  refine hw_new (ci := 2) (own := "QuantifierOut$Values") (fs := [.null, .null, .int 0]) hx hb hts i_Mk ft_Mk tk_Mk hown (hts _ tw_35) (hts _ tw_36) (hts _ tw_3) hW hS hA rfl (by intro j9 hj9; rcases (show j9 = 0 ∨ j9 = 1 ∨ j9 = 2 by omega) with rfl | rfl | rfl <;> rfl) (Nat.le_of_ble_eq_true rfl) (Nat.le_of_ble_eq_true rfl) d_Vs_init_46 (fun im H hq_im hW hS => ?_)
  have hW : hw_W D qcl (qty cI cJ cZ cN) _ (va_up Mw10 im (some (.inr (2, [.null, .null, .int 0])))) s H := hW
  have n_va_im : va ≠ im := hw_nq hy_va hq_im
  have n_vb_im : vb ≠ im := hw_nq hy_vb hq_im
  have n_om_im : om ≠ im := hw_nq hy_om hq_im
  have n_oa_im : oa ≠ im := hw_nq hy_oa hq_im
  have n_ob_im : ob ≠ im := hw_nq hy_ob hq_im
  have n_h0_im : h0 ≠ im := hw_nq hM hq_im
  generalize hMw11 : va_up Mw10 im (some (.inr (2, [.null, .null, .int 0]))) = Mw11 at hW
  have hy_va : Mw11 va = some (.inl (cJ, 2, .inr (.inl (vp_updL (vp_updL (fun _ => 0) 0 0) 1 0)))) := by rw [← hMw11, va_up_ne _ _ n_va_im]; exact hy_va
  have hy_vb : Mw11 vb = some (.inl (cJ, 2, .inr (.inl (vp_updL (vp_updL (fun _ => 0) 0 1) 1 1)))) := by rw [← hMw11, va_up_ne _ _ n_vb_im]; exact hy_vb
  have hy_om : Mw11 om = some (.inr (2, [.ref oa, .ref ob, .int (nI 0)])) := by rw [← hMw11, va_up_ne _ _ n_om_im]; exact hy_om
  have hy_oa : Mw11 oa = some (.inl (cJ, 21, .inr (.inl (fun _ => 0)))) := by rw [← hMw11, va_up_ne _ _ n_oa_im]; exact hy_oa
  have hy_ob : Mw11 ob = some (.inl (cJ, 21, .inr (.inl (fun _ => 0)))) := by rw [← hMw11, va_up_ne _ _ n_ob_im]; exact hy_ob
  have hM : Mw11 h0 = some (.inr (7, [.ref va, .ref vb, .ref om, .null])) := by rw [← hMw11, va_up_ne _ _ n_h0_im]; exact hM
  have hy_im : Mw11 im = some (.inr (2, [.null, .null, .int 0])) := by rw [← hMw11]; exact va_up_self _ _ _
  have z_im : M im = none := hmono im hq_im
  have hmono : ∀ x9, Mw11 x9 = none → M x9 = none := fun x9 z9 => hmono x9 (va_up_none (by rw [hMw11]; exact z9))
  have hfr_Mw11 : ∀ x9, x9 ≠ im → Mw11 x9 = Mw10 x9 := fun x9 z9 => by rw [← hMw11, va_up_ne _ _ z9]
  refine lv_dup hx hb d_Vs_init_49 rfl ?_
  refine hw_callv (hw_runI (n := 0) (own := "QuantifierOut$Values") (As := []) (rest := [.ref im, .ref h0]) hx hb hml hown hts hX hW hl.1 (c_Mk_init l D cI cJ cZ cN im _ Mw11 hy_im) tw_37 tw_38 tw_3 tw_39 rfl (by decide +kernel) rfl rfl ⟨by decide, by decide⟩ rfl rfl (Nat.le_of_ble_eq_true rfl) d_Vs_init_50 ⟨by decide, by decide⟩) hW hS hA (fun Kim H locs hp hz hW hS => ?_)
  obtain ⟨ia, ib, y1, y2, y3, y4, y5⟩ := hp
  have n_va_ia : va ≠ ia := hw_nq hy_va y1
  have n_va_ib : va ≠ ib := hw_nq hy_va y2
  have hy_va : Kim va = some (.inl (cJ, 2, .inr (.inl (vp_updL (vp_updL (fun _ => 0) 0 0) 1 0)))) := (y5 va n_va_im n_va_ia n_va_ib).trans hy_va
  have n_vb_ia : vb ≠ ia := hw_nq hy_vb y1
  have n_vb_ib : vb ≠ ib := hw_nq hy_vb y2
  have hy_vb : Kim vb = some (.inl (cJ, 2, .inr (.inl (vp_updL (vp_updL (fun _ => 0) 0 1) 1 1)))) := (y5 vb n_vb_im n_vb_ia n_vb_ib).trans hy_vb
  have n_om_ia : om ≠ ia := hw_nq hy_om y1
  have n_om_ib : om ≠ ib := hw_nq hy_om y2
  have hy_om : Kim om = some (.inr (2, [.ref oa, .ref ob, .int (nI 0)])) := (y5 om n_om_im n_om_ia n_om_ib).trans hy_om
  have n_oa_ia : oa ≠ ia := hw_nq hy_oa y1
  have n_oa_ib : oa ≠ ib := hw_nq hy_oa y2
  have hy_oa : Kim oa = some (.inl (cJ, 21, .inr (.inl (fun _ => 0)))) := (y5 oa n_oa_im n_oa_ia n_oa_ib).trans hy_oa
  have n_ob_ia : ob ≠ ia := hw_nq hy_ob y1
  have n_ob_ib : ob ≠ ib := hw_nq hy_ob y2
  have hy_ob : Kim ob = some (.inl (cJ, 21, .inr (.inl (fun _ => 0)))) := (y5 ob n_ob_im n_ob_ia n_ob_ib).trans hy_ob
  have n_h0_ia : h0 ≠ ia := hw_nq hM y1
  have n_h0_ib : h0 ≠ ib := hw_nq hM y2
  have hM : Kim h0 = some (.inr (7, [.ref va, .ref vb, .ref om, .null])) := (y5 h0 n_h0_im n_h0_ia n_h0_ib).trans hM
  have n_im_ia : im ≠ ia := hw_nq hy_im y1
  have n_im_ib : im ≠ ib := hw_nq hy_im y2
  have n_ia_ib : ia ≠ ib := y3
  have z_ia := hmono ia y1
  have z_ib := hmono ib y2
  have hy_im := y4.1
  have hy_ia := y4.2.1
  have hy_ib := y4.2.2
  have hmono : ∀ x9, Kim x9 = none → M x9 = none := fun x9 z9 => hmono x9 (by rw [← y5 x9 (fun q9 => by rw [q9, hy_im] at z9; cases z9) (fun q9 => by rw [q9, hy_ia] at z9; cases z9) (fun q9 => by rw [q9, hy_ib] at z9; cases z9)]; exact z9)
  have y5im := y5
  refine hw_putF (own := "QuantifierOut$Values") (v := .ref im) (ty := .object "QuantifierOut$Marks") hx hb hts i_Vs ft_Vs tk_Vs n_Vs hown hW hS hM rfl 3 (by decide) (hts _ tw_61) (fun _ h9 => h9) rfl hnm rfl (tk_Vs 3 (by decide)) rfl rfl (Nat.le_of_ble_eq_true rfl) d_Vs_init_53 (fun H locs hW hS => ?_)
  have hW : hw_W D qcl (qty cI cJ cZ cN) _ (va_up Kim h0 (some (.inr (7, [.ref va, .ref vb, .ref om, .ref im])))) s H := hW
  generalize hMw12 : va_up Kim h0 (some (.inr (7, [.ref va, .ref vb, .ref om, .ref im]))) = Mw12 at hW
  have hy_va : Mw12 va = some (.inl (cJ, 2, .inr (.inl (vp_updL (vp_updL (fun _ => 0) 0 0) 1 0)))) := by rw [← hMw12, va_up_ne _ _ (Ne.symm n_h0_va)]; exact hy_va
  have hy_vb : Mw12 vb = some (.inl (cJ, 2, .inr (.inl (vp_updL (vp_updL (fun _ => 0) 0 1) 1 1)))) := by rw [← hMw12, va_up_ne _ _ (Ne.symm n_h0_vb)]; exact hy_vb
  have hy_om : Mw12 om = some (.inr (2, [.ref oa, .ref ob, .int (nI 0)])) := by rw [← hMw12, va_up_ne _ _ (Ne.symm n_h0_om)]; exact hy_om
  have hy_oa : Mw12 oa = some (.inl (cJ, 21, .inr (.inl (fun _ => 0)))) := by rw [← hMw12, va_up_ne _ _ (Ne.symm n_h0_oa)]; exact hy_oa
  have hy_ob : Mw12 ob = some (.inl (cJ, 21, .inr (.inl (fun _ => 0)))) := by rw [← hMw12, va_up_ne _ _ (Ne.symm n_h0_ob)]; exact hy_ob
  have hy_im : Mw12 im = some (.inr (2, [.ref ia, .ref ib, .int (nI 0)])) := by rw [← hMw12, va_up_ne _ _ (Ne.symm n_h0_im)]; exact hy_im
  have hy_ia : Mw12 ia = some (.inl (cJ, 21, .inr (.inl (fun _ => 0)))) := by rw [← hMw12, va_up_ne _ _ (Ne.symm n_h0_ia)]; exact hy_ia
  have hy_ib : Mw12 ib = some (.inl (cJ, 21, .inr (.inl (fun _ => 0)))) := by rw [← hMw12, va_up_ne _ _ (Ne.symm n_h0_ib)]; exact hy_ib
  have hM : Mw12 h0 = some (.inr (7, [.ref va, .ref vb, .ref om, .ref im])) := by rw [← hMw12]; exact va_up_self _ _ _
  have hmono : ∀ x9, Mw12 x9 = none → M x9 = none := fun x9 z9 => hmono x9 (va_up_none (by rw [hMw12]; exact z9))
  have hfr_Mw12 : ∀ x9, x9 ≠ h0 → Mw12 x9 = Kim x9 := fun x9 z9 => by rw [← hMw12, va_up_ne _ _ z9]
  have fva : vp_updL (vp_updL (fun _ => 0) 0 0) 1 0 = (fun _ => (0 : Int64)) := by rw [uL_id (fun _ => (0 : Int64)) 0, uL_id (fun _ => (0 : Int64)) 1]
  have fvb : vp_updL (vp_updL (fun _ => 0) 0 1) 1 1 = (fun i => if i < 2 then (1 : Int64) else 0) := by funext i; by_cases h0 : i = 0; subst h0; rfl; by_cases h1 : i = 1; subst h1; rfl; rw [pk_uLn h1, pk_uLn h0, if_neg (by omega)]
  refine hw_retv hx hb hr hlocks hW hS ⟨va, vb, om, oa, ob, im, ia, ib, ⟨z_va, z_vb, z_om, z_oa, z_ob, z_im, z_ia, z_ib⟩, ⟨n_va_vb, n_va_oa, n_va_ob, n_va_ia, n_va_ib, n_vb_oa, n_vb_ob, n_vb_ia, n_vb_ib, n_oa_ob, n_ia_ib, n_oa_ia, n_oa_ib, n_ob_ia, n_ob_ib, n_om_im⟩, ⟨⟨hM, by rw [← fva]; exact hy_va, by rw [← fvb]; exact hy_vb⟩, ⟨0, _, _, hy_om, hy_oa, hy_ob⟩, ⟨0, _, _, hy_im, hy_ia, hy_ib⟩⟩, fun x z0 z1 z2 z3 z4 z5 z6 z7 z8 => ?_⟩ d_Vs_init_56
  exact ((((((((((((((hfr_Mw12 x z0)).trans (y5im x z6 z7 z8)).trans (hfr_Mw11 x z6)).trans (hfr_Mw10 x z0)).trans (y5om x z3 z4 z5)).trans (hfr_Mw9 x z3)).trans (hfr_Mw8 x z0)).trans (hfr_Mw7 x z2)).trans (hfr_Mw6 x z2)).trans (hfr_Mw5 x z2)).trans (hfr_Mw4 x z0)).trans (hfr_Mw3 x z1)).trans (hfr_Mw2 x z1)).trans (hfr_Mw1 x z1)
set_option maxHeartbeats 4000000 in
set_option maxRecDepth 100000 in
theorem c_Pc_init (h0 sz : Nat) (M : Nat → Option va_E) (hM : M h0 = some (.inr (5, [.null, .null, .null, .int 0, .null]))) : Met l y_Pc_init (.code y_Pc_init b_Pc_init 1 none :: ww) ({ frames := 2, cells := 5, slots := 89, locals := 60 }) (hw_Pc D qcl (qty cI cJ cZ cN) [.ref h0] M sz) (va_Qv (fun M1 => ∃ mk ka kb fa la : Nat, (M mk = none ∧ M ka = none ∧ M kb = none ∧ M fa = none ∧ M la = none) ∧ ka ≠ kb ∧ fa ≠ la ∧ pc_S cI cJ M1 h0 mk ka kb fa la none 0 (fun _ => 0) (fun _ => 0) 0 (fun _ => 0) (fun _ => 0) ∧ ∀ x, x ≠ h0 → x ≠ mk → x ≠ ka → x ≠ kb → x ≠ fa → x ≠ la → M1 x = M x) (hw_B D qcl (qty cI cJ cZ cN) M sz) (hw_A M sz)) 5 89 (hw_A M sz) := by
  refine hw_met (by decide) (Nat.le_of_ble_eq_true rfl) ?_
  intro p e s m below meth c hx hb hr hml hown hlocks hnm hts hsz hX hW ls hl
  subst hsz
  have hA : ∀ q, s.heap.size ≤ q → hw_A M s.heap.size q := fun q h => Or.inr h
  have hS : va_S (hw_A M s.heap.size) s.heap s.heap [] := va_S.rf
  have hl : lv_has ls 1 [(0, .ref h0)] := hl
  have hown : s.vm.findClass "QuantifierOut$Pieces" = some m.cls := hown
  have hmono : ∀ x9, M x9 = none → M x9 = none := fun _ z9 => z9
  refine lv_aload_n hx hb d_Pc_init_0 rfl (lv_at hl 0 rfl) ?_
  refine W.objInit hx hb hown (hts _ tw_76) (hts _ tw_25) (hts _ tw_26) rfl (by rw [hml]; exact hl.1) rfl d_Pc_init_1 (Nat.le_of_ble_eq_true rfl) (Nat.le_of_ble_eq_true rfl) ?_
  refine W.eq (g2 := F0 m 4 ls []) rfl ?_
  refine lv_aload_n hx hb d_Pc_init_4 rfl (lv_at hl 0 rfl) ?_
  refine hw_new (ci := 2) (own := "QuantifierOut$Pieces") (fs := [.null, .null, .int 0]) hx hb hts i_Mk ft_Mk tk_Mk hown (hts _ tw_77) (hts _ tw_36) (hts _ tw_3) hW hS hA rfl (by intro j9 hj9; rcases (show j9 = 0 ∨ j9 = 1 ∨ j9 = 2 by omega) with rfl | rfl | rfl <;> rfl) (Nat.le_of_ble_eq_true rfl) (Nat.le_of_ble_eq_true rfl) d_Pc_init_5 (fun mk H hq_mk hW hS => ?_)
  have hW : hw_W D qcl (qty cI cJ cZ cN) _ (va_up M mk (some (.inr (2, [.null, .null, .int 0])))) s H := hW
  have n_h0_mk : h0 ≠ mk := hw_nq hM hq_mk
  generalize hMw1 : va_up M mk (some (.inr (2, [.null, .null, .int 0]))) = Mw1 at hW
  have hM : Mw1 h0 = some (.inr (5, [.null, .null, .null, .int 0, .null])) := by rw [← hMw1, va_up_ne _ _ n_h0_mk]; exact hM
  have hy_mk : Mw1 mk = some (.inr (2, [.null, .null, .int 0])) := by rw [← hMw1]; exact va_up_self _ _ _
  have z_mk : M mk = none := hmono mk hq_mk
  have hmono : ∀ x9, Mw1 x9 = none → M x9 = none := fun x9 z9 => hmono x9 (va_up_none (by rw [hMw1]; exact z9))
  have hfr_Mw1 : ∀ x9, x9 ≠ mk → Mw1 x9 = M x9 := fun x9 z9 => by rw [← hMw1, va_up_ne _ _ z9]
  refine lv_dup hx hb d_Pc_init_8 rfl ?_
  refine hw_callv (hw_runI (n := 0) (own := "QuantifierOut$Pieces") (As := []) (rest := [.ref mk, .ref h0]) hx hb hml hown hts hX hW hl.1 (c_Mk_init l D cI cJ cZ cN mk _ Mw1 hy_mk) tw_78 tw_38 tw_3 tw_39 rfl (by decide +kernel) rfl rfl ⟨by decide, by decide⟩ rfl rfl (Nat.le_of_ble_eq_true rfl) d_Pc_init_9 ⟨by decide, by decide⟩) hW hS hA (fun Kmk H locs hp hz hW hS => ?_)
  obtain ⟨ka, kb, y1, y2, y3, y4, y5⟩ := hp
  have n_h0_ka : h0 ≠ ka := hw_nq hM y1
  have n_h0_kb : h0 ≠ kb := hw_nq hM y2
  have hM : Kmk h0 = some (.inr (5, [.null, .null, .null, .int 0, .null])) := (y5 h0 n_h0_mk n_h0_ka n_h0_kb).trans hM
  have n_mk_ka : mk ≠ ka := hw_nq hy_mk y1
  have n_mk_kb : mk ≠ kb := hw_nq hy_mk y2
  have n_ka_kb : ka ≠ kb := y3
  have z_ka := hmono ka y1
  have z_kb := hmono kb y2
  have hy_mk := y4.1
  have hy_ka := y4.2.1
  have hy_kb := y4.2.2
  have hmono : ∀ x9, Kmk x9 = none → M x9 = none := fun x9 z9 => hmono x9 (by rw [← y5 x9 (fun q9 => by rw [q9, hy_mk] at z9; cases z9) (fun q9 => by rw [q9, hy_ka] at z9; cases z9) (fun q9 => by rw [q9, hy_kb] at z9; cases z9)]; exact z9)
  have y5mk := y5
  refine hw_putF (own := "QuantifierOut$Pieces") (v := .ref mk) (ty := .object "QuantifierOut$Marks") hx hb hts i_Pc ft_Pc tk_Pc n_Pc hown hW hS hM rfl 0 (by decide) (hts _ tw_79) (fun _ h9 => h9) rfl hnm rfl (tk_Pc 0 (by decide)) rfl rfl (Nat.le_of_ble_eq_true rfl) d_Pc_init_12 (fun H locs hW hS => ?_)
  have hW : hw_W D qcl (qty cI cJ cZ cN) _ (va_up Kmk h0 (some (.inr (5, [.ref mk, .null, .null, .int 0, .null])))) s H := hW
  generalize hMw2 : va_up Kmk h0 (some (.inr (5, [.ref mk, .null, .null, .int 0, .null]))) = Mw2 at hW
  have hy_mk : Mw2 mk = some (.inr (2, [.ref ka, .ref kb, .int (nI 0)])) := by rw [← hMw2, va_up_ne _ _ (Ne.symm n_h0_mk)]; exact hy_mk
  have hy_ka : Mw2 ka = some (.inl (cJ, 21, .inr (.inl (fun _ => 0)))) := by rw [← hMw2, va_up_ne _ _ (Ne.symm n_h0_ka)]; exact hy_ka
  have hy_kb : Mw2 kb = some (.inl (cJ, 21, .inr (.inl (fun _ => 0)))) := by rw [← hMw2, va_up_ne _ _ (Ne.symm n_h0_kb)]; exact hy_kb
  have hM : Mw2 h0 = some (.inr (5, [.ref mk, .null, .null, .int 0, .null])) := by rw [← hMw2]; exact va_up_self _ _ _
  have hmono : ∀ x9, Mw2 x9 = none → M x9 = none := fun x9 z9 => hmono x9 (va_up_none (by rw [hMw2]; exact z9))
  have hfr_Mw2 : ∀ x9, x9 ≠ h0 → Mw2 x9 = Kmk x9 := fun x9 z9 => by rw [← hMw2, va_up_ne _ _ z9]
  refine lv_aload_n hx hb d_Pc_init_15 rfl (lv_at hl 0 rfl) ?_
  refine lv_bipush (v := 22) hx hb d_Pc_init_16 (by decide) ?_
  refine hw_newi (N' := 22) hx hb (hts _ tw_96) hW hS hA 0 rfl (by decide) (by decide) (by decide) (Nat.le_of_ble_eq_true rfl) (Nat.le_of_ble_eq_true rfl) d_Pc_init_18 (fun fa H hq_fa hW hS => ?_)
  have hW : hw_W D qcl (qty cI cJ cZ cN) _ (va_up Mw2 fa (some (.inl (cI, 22, .inl (fun _ => 0))))) s H := hW
  have n_mk_fa : mk ≠ fa := hw_nq hy_mk hq_fa
  have n_ka_fa : ka ≠ fa := hw_nq hy_ka hq_fa
  have n_kb_fa : kb ≠ fa := hw_nq hy_kb hq_fa
  have n_h0_fa : h0 ≠ fa := hw_nq hM hq_fa
  generalize hMw3 : va_up Mw2 fa (some (.inl (cI, 22, .inl (fun _ => 0)))) = Mw3 at hW
  have hy_mk : Mw3 mk = some (.inr (2, [.ref ka, .ref kb, .int (nI 0)])) := by rw [← hMw3, va_up_ne _ _ n_mk_fa]; exact hy_mk
  have hy_ka : Mw3 ka = some (.inl (cJ, 21, .inr (.inl (fun _ => 0)))) := by rw [← hMw3, va_up_ne _ _ n_ka_fa]; exact hy_ka
  have hy_kb : Mw3 kb = some (.inl (cJ, 21, .inr (.inl (fun _ => 0)))) := by rw [← hMw3, va_up_ne _ _ n_kb_fa]; exact hy_kb
  have hM : Mw3 h0 = some (.inr (5, [.ref mk, .null, .null, .int 0, .null])) := by rw [← hMw3, va_up_ne _ _ n_h0_fa]; exact hM
  have hy_fa : Mw3 fa = some (.inl (cI, 22, .inl (fun _ => 0))) := by rw [← hMw3]; exact va_up_self _ _ _
  have z_fa : M fa = none := hmono fa hq_fa
  have hmono : ∀ x9, Mw3 x9 = none → M x9 = none := fun x9 z9 => hmono x9 (va_up_none (by rw [hMw3]; exact z9))
  have hfr_Mw3 : ∀ x9, x9 ≠ fa → Mw3 x9 = Mw2 x9 := fun x9 z9 => by rw [← hMw3, va_up_ne _ _ z9]
  refine hw_putF (own := "QuantifierOut$Pieces") (v := .ref fa) (ty := .array .int) hx hb hts i_Pc ft_Pc tk_Pc n_Pc hown hW hS hM rfl 1 (by decide) (hts _ tw_80) (fun _ h9 => h9) rfl hnm rfl (tk_Pc 1 (by decide)) rfl rfl (Nat.le_of_ble_eq_true rfl) d_Pc_init_20 (fun H locs hW hS => ?_)
  have hW : hw_W D qcl (qty cI cJ cZ cN) _ (va_up Mw3 h0 (some (.inr (5, [.ref mk, .ref fa, .null, .int 0, .null])))) s H := hW
  generalize hMw4 : va_up Mw3 h0 (some (.inr (5, [.ref mk, .ref fa, .null, .int 0, .null]))) = Mw4 at hW
  have hy_mk : Mw4 mk = some (.inr (2, [.ref ka, .ref kb, .int (nI 0)])) := by rw [← hMw4, va_up_ne _ _ (Ne.symm n_h0_mk)]; exact hy_mk
  have hy_ka : Mw4 ka = some (.inl (cJ, 21, .inr (.inl (fun _ => 0)))) := by rw [← hMw4, va_up_ne _ _ (Ne.symm n_h0_ka)]; exact hy_ka
  have hy_kb : Mw4 kb = some (.inl (cJ, 21, .inr (.inl (fun _ => 0)))) := by rw [← hMw4, va_up_ne _ _ (Ne.symm n_h0_kb)]; exact hy_kb
  have hy_fa : Mw4 fa = some (.inl (cI, 22, .inl (fun _ => 0))) := by rw [← hMw4, va_up_ne _ _ (Ne.symm n_h0_fa)]; exact hy_fa
  have hM : Mw4 h0 = some (.inr (5, [.ref mk, .ref fa, .null, .int 0, .null])) := by rw [← hMw4]; exact va_up_self _ _ _
  have hmono : ∀ x9, Mw4 x9 = none → M x9 = none := fun x9 z9 => hmono x9 (va_up_none (by rw [hMw4]; exact z9))
  have hfr_Mw4 : ∀ x9, x9 ≠ h0 → Mw4 x9 = Mw3 x9 := fun x9 z9 => by rw [← hMw4, va_up_ne _ _ z9]
  refine lv_aload_n hx hb d_Pc_init_23 rfl (lv_at hl 0 rfl) ?_
  refine lv_bipush (v := 22) hx hb d_Pc_init_24 (by decide) ?_
  refine hw_newi (N' := 22) hx hb (hts _ tw_96) hW hS hA 0 rfl (by decide) (by decide) (by decide) (Nat.le_of_ble_eq_true rfl) (Nat.le_of_ble_eq_true rfl) d_Pc_init_26 (fun la H hq_la hW hS => ?_)
  have hW : hw_W D qcl (qty cI cJ cZ cN) _ (va_up Mw4 la (some (.inl (cI, 22, .inl (fun _ => 0))))) s H := hW
  have n_mk_la : mk ≠ la := hw_nq hy_mk hq_la
  have n_ka_la : ka ≠ la := hw_nq hy_ka hq_la
  have n_kb_la : kb ≠ la := hw_nq hy_kb hq_la
  have n_fa_la : fa ≠ la := hw_nq hy_fa hq_la
  have n_h0_la : h0 ≠ la := hw_nq hM hq_la
  generalize hMw5 : va_up Mw4 la (some (.inl (cI, 22, .inl (fun _ => 0)))) = Mw5 at hW
  have hy_mk : Mw5 mk = some (.inr (2, [.ref ka, .ref kb, .int (nI 0)])) := by rw [← hMw5, va_up_ne _ _ n_mk_la]; exact hy_mk
  have hy_ka : Mw5 ka = some (.inl (cJ, 21, .inr (.inl (fun _ => 0)))) := by rw [← hMw5, va_up_ne _ _ n_ka_la]; exact hy_ka
  have hy_kb : Mw5 kb = some (.inl (cJ, 21, .inr (.inl (fun _ => 0)))) := by rw [← hMw5, va_up_ne _ _ n_kb_la]; exact hy_kb
  have hy_fa : Mw5 fa = some (.inl (cI, 22, .inl (fun _ => 0))) := by rw [← hMw5, va_up_ne _ _ n_fa_la]; exact hy_fa
  have hM : Mw5 h0 = some (.inr (5, [.ref mk, .ref fa, .null, .int 0, .null])) := by rw [← hMw5, va_up_ne _ _ n_h0_la]; exact hM
  have hy_la : Mw5 la = some (.inl (cI, 22, .inl (fun _ => 0))) := by rw [← hMw5]; exact va_up_self _ _ _
  have z_la : M la = none := hmono la hq_la
  have hmono : ∀ x9, Mw5 x9 = none → M x9 = none := fun x9 z9 => hmono x9 (va_up_none (by rw [hMw5]; exact z9))
  have hfr_Mw5 : ∀ x9, x9 ≠ la → Mw5 x9 = Mw4 x9 := fun x9 z9 => by rw [← hMw5, va_up_ne _ _ z9]
  refine hw_putF (own := "QuantifierOut$Pieces") (v := .ref la) (ty := .array .int) hx hb hts i_Pc ft_Pc tk_Pc n_Pc hown hW hS hM rfl 2 (by decide) (hts _ tw_81) (fun _ h9 => h9) rfl hnm rfl (tk_Pc 2 (by decide)) rfl rfl (Nat.le_of_ble_eq_true rfl) d_Pc_init_28 (fun H locs hW hS => ?_)
  have hW : hw_W D qcl (qty cI cJ cZ cN) _ (va_up Mw5 h0 (some (.inr (5, [.ref mk, .ref fa, .ref la, .int 0, .null])))) s H := hW
  generalize hMw6 : va_up Mw5 h0 (some (.inr (5, [.ref mk, .ref fa, .ref la, .int 0, .null]))) = Mw6 at hW
  have hy_mk : Mw6 mk = some (.inr (2, [.ref ka, .ref kb, .int (nI 0)])) := by rw [← hMw6, va_up_ne _ _ (Ne.symm n_h0_mk)]; exact hy_mk
  have hy_ka : Mw6 ka = some (.inl (cJ, 21, .inr (.inl (fun _ => 0)))) := by rw [← hMw6, va_up_ne _ _ (Ne.symm n_h0_ka)]; exact hy_ka
  have hy_kb : Mw6 kb = some (.inl (cJ, 21, .inr (.inl (fun _ => 0)))) := by rw [← hMw6, va_up_ne _ _ (Ne.symm n_h0_kb)]; exact hy_kb
  have hy_fa : Mw6 fa = some (.inl (cI, 22, .inl (fun _ => 0))) := by rw [← hMw6, va_up_ne _ _ (Ne.symm n_h0_fa)]; exact hy_fa
  have hy_la : Mw6 la = some (.inl (cI, 22, .inl (fun _ => 0))) := by rw [← hMw6, va_up_ne _ _ (Ne.symm n_h0_la)]; exact hy_la
  have hM : Mw6 h0 = some (.inr (5, [.ref mk, .ref fa, .ref la, .int 0, .null])) := by rw [← hMw6]; exact va_up_self _ _ _
  have hmono : ∀ x9, Mw6 x9 = none → M x9 = none := fun x9 z9 => hmono x9 (va_up_none (by rw [hMw6]; exact z9))
  have hfr_Mw6 : ∀ x9, x9 ≠ h0 → Mw6 x9 = Mw5 x9 := fun x9 z9 => by rw [← hMw6, va_up_ne _ _ z9]
  refine lv_aload_n hx hb d_Pc_init_31 rfl (lv_at hl 0 rfl) ?_
  refine lv_iconst (v := 0) hx hb d_Pc_init_32 (by decide) ?_
  refine hw_put (own := "QuantifierOut$Pieces") (v := .int 0) (ty := .int) hx hb hts i_Pc ft_Pc tk_Pc n_Pc hown hW hS hM rfl 3 (by decide) (hts _ tw_82) (fun _ h9 => h9) rfl (tk_Pc 3 (by decide)) rfl rfl (Nat.le_of_ble_eq_true rfl) d_Pc_init_33 (fun H locs hW hS => ?_)
  have hW : hw_W D qcl (qty cI cJ cZ cN) _ (va_up Mw6 h0 (some (.inr (5, [.ref mk, .ref fa, .ref la, .int 0, .null])))) s H := hW
  generalize hMw7 : va_up Mw6 h0 (some (.inr (5, [.ref mk, .ref fa, .ref la, .int 0, .null]))) = Mw7 at hW
  have hy_mk : Mw7 mk = some (.inr (2, [.ref ka, .ref kb, .int (nI 0)])) := by rw [← hMw7, va_up_ne _ _ (Ne.symm n_h0_mk)]; exact hy_mk
  have hy_ka : Mw7 ka = some (.inl (cJ, 21, .inr (.inl (fun _ => 0)))) := by rw [← hMw7, va_up_ne _ _ (Ne.symm n_h0_ka)]; exact hy_ka
  have hy_kb : Mw7 kb = some (.inl (cJ, 21, .inr (.inl (fun _ => 0)))) := by rw [← hMw7, va_up_ne _ _ (Ne.symm n_h0_kb)]; exact hy_kb
  have hy_fa : Mw7 fa = some (.inl (cI, 22, .inl (fun _ => 0))) := by rw [← hMw7, va_up_ne _ _ (Ne.symm n_h0_fa)]; exact hy_fa
  have hy_la : Mw7 la = some (.inl (cI, 22, .inl (fun _ => 0))) := by rw [← hMw7, va_up_ne _ _ (Ne.symm n_h0_la)]; exact hy_la
  have hM : Mw7 h0 = some (.inr (5, [.ref mk, .ref fa, .ref la, .int 0, .null])) := by rw [← hMw7]; exact va_up_self _ _ _
  have hmono : ∀ x9, Mw7 x9 = none → M x9 = none := fun x9 z9 => hmono x9 (va_up_none (by rw [hMw7]; exact z9))
  have hfr_Mw7 : ∀ x9, x9 ≠ h0 → Mw7 x9 = Mw6 x9 := fun x9 z9 => by rw [← hMw7, va_up_ne _ _ z9]
  refine lv_aload_n hx hb d_Pc_init_36 rfl (lv_at hl 0 rfl) ?_
  refine lv_null hx hb d_Pc_init_37 ?_
  refine hw_put (own := "QuantifierOut$Pieces") (v := .null) (ty := .object "QuantifierOut$Node") hx hb hts i_Pc ft_Pc tk_Pc n_Pc hown hW hS hM rfl 4 (by decide) (hts _ tw_84) (fun _ h9 => h9) rfl (tk_Pc 4 (by decide)) rfl rfl (Nat.le_of_ble_eq_true rfl) d_Pc_init_38 (fun H locs hW hS => ?_)
  have hW : hw_W D qcl (qty cI cJ cZ cN) _ (va_up Mw7 h0 (some (.inr (5, [.ref mk, .ref fa, .ref la, .int 0, .null])))) s H := hW
  generalize hMw8 : va_up Mw7 h0 (some (.inr (5, [.ref mk, .ref fa, .ref la, .int 0, .null]))) = Mw8 at hW
  have hy_mk : Mw8 mk = some (.inr (2, [.ref ka, .ref kb, .int (nI 0)])) := by rw [← hMw8, va_up_ne _ _ (Ne.symm n_h0_mk)]; exact hy_mk
  have hy_ka : Mw8 ka = some (.inl (cJ, 21, .inr (.inl (fun _ => 0)))) := by rw [← hMw8, va_up_ne _ _ (Ne.symm n_h0_ka)]; exact hy_ka
  have hy_kb : Mw8 kb = some (.inl (cJ, 21, .inr (.inl (fun _ => 0)))) := by rw [← hMw8, va_up_ne _ _ (Ne.symm n_h0_kb)]; exact hy_kb
  have hy_fa : Mw8 fa = some (.inl (cI, 22, .inl (fun _ => 0))) := by rw [← hMw8, va_up_ne _ _ (Ne.symm n_h0_fa)]; exact hy_fa
  have hy_la : Mw8 la = some (.inl (cI, 22, .inl (fun _ => 0))) := by rw [← hMw8, va_up_ne _ _ (Ne.symm n_h0_la)]; exact hy_la
  have hM : Mw8 h0 = some (.inr (5, [.ref mk, .ref fa, .ref la, .int 0, .null])) := by rw [← hMw8]; exact va_up_self _ _ _
  have hmono : ∀ x9, Mw8 x9 = none → M x9 = none := fun x9 z9 => hmono x9 (va_up_none (by rw [hMw8]; exact z9))
  have hfr_Mw8 : ∀ x9, x9 ≠ h0 → Mw8 x9 = Mw7 x9 := fun x9 z9 => by rw [← hMw8, va_up_ne _ _ z9]
  refine hw_retv hx hb hr hlocks hW hS ⟨mk, ka, kb, fa, la, ⟨z_mk, z_ka, z_kb, z_fa, z_la⟩, n_ka_kb, n_fa_la, ⟨hM, ⟨hy_mk, hy_ka, hy_kb⟩, hy_fa, hy_la⟩, fun x z0 z1 z2 z3 z4 z5 => ?_⟩ d_Pc_init_41
  exact (((((((((hfr_Mw8 x z0)).trans (hfr_Mw7 x z0)).trans (hfr_Mw6 x z0)).trans (hfr_Mw5 x z5)).trans (hfr_Mw4 x z0)).trans (hfr_Mw3 x z4)).trans (hfr_Mw2 x z0)).trans (y5mk x z1 z2 z3)).trans (hfr_Mw1 x z1)
set_option maxHeartbeats 4000000 in
set_option maxRecDepth 100000 in
theorem c_Nd_init (h0 ci la sz : Nat) (fr dp : Int32) (ex : List Value) (M : Nat → Option va_E) (hci : ci = 1 ∨ ci = 3 ∨ ci = 4 ∨ ci = 6) (hM : M h0 = some (.inr (ci, .int 0 :: .int 0 :: .null :: .int 0 :: ex))) : Met l y_Nd_init (.code y_Nd_init b_Nd_init 4 none :: ww) ({ frames := 1, cells := 0, slots := 0, locals := 30 }) (hw_Pc D qcl (qty cI cJ cZ cN) [.ref h0, .int fr, .int dp, .ref la] M sz) (va_Qv (fun M1 => M1 = va_up M h0 (some (.inr (ci, .int fr :: .int dp :: .ref la :: .int (-1) :: ex)))) (hw_B D qcl (qty cI cJ cZ cN) M sz) (hw_A M sz)) 0 0 (hw_A M sz) := by
  refine hw_met (by decide) (Nat.le_of_ble_eq_true rfl) ?_
  intro p e s m below meth c hx hb hr hml hown hlocks hnm hts hsz hX hW ls hl
  subst hsz
  have hA : ∀ q, s.heap.size ≤ q → hw_A M s.heap.size q := fun q h => Or.inr h
  have hS : va_S (hw_A M s.heap.size) s.heap s.heap [] := va_S.rf
  have hl : lv_has ls 4 [(0, .ref h0), (1, .int fr), (2, .int dp), (3, .ref la)] := hl
  have hown : s.vm.findClass "QuantifierOut$Node" = some m.cls := hown
  refine lv_aload_n hx hb d_Nd_init_0 rfl (lv_at hl 0 rfl) ?_
  refine W.objInit hx hb hown (hts _ tw_223) (hts _ tw_25) (hts _ tw_26) rfl (by rw [hml]; exact hl.1) rfl d_Nd_init_1 (Nat.le_of_ble_eq_true rfl) (Nat.le_of_ble_eq_true rfl) ?_
  refine W.eq (g2 := F0 m 4 ls []) rfl ?_
  refine lv_aload_n hx hb d_Nd_init_4 rfl (lv_at hl 0 rfl) ?_
  refine lv_iload_n hx hb d_Nd_init_5 rfl (lv_at hl 1 rfl) ?_
  have step0 : ∀ (H1 : Heap) (locs1 : List Loc), hw_W D qcl (qty cI cJ cZ cN) (hw_A M s.heap.size) (va_up M h0 (some (.inr (ci, .int fr :: .int 0 :: .null :: .int 0 :: ex)))) s H1 → va_S (hw_A M s.heap.size) s.heap H1 locs1 → W p l e ({ frames := 1, cells := 0, slots := 0, locals := 30 }) s m [.ref h0, .int fr, .int dp, .ref la].toArray below meth c H1 locs1 0 0 (MQ below (va_Qv (fun M1 => M1 = va_up M h0 (some (.inr (ci, .int fr :: .int dp :: .ref la :: .int (-1) :: ex)))) (hw_B D qcl (qty cI cJ cZ cN) M s.heap.size) (hw_A M s.heap.size)) [.ref h0, .int fr, .int dp, .ref la].toArray s 0 0 (hw_A M s.heap.size)) (F0 m 9 ls []) := by
    intro H locs hW hS
    generalize hMn0 : va_up M h0 (some (.inr (ci, .int fr :: .int 0 :: .null :: .int 0 :: ex))) = Mn0 at hW
    have hMn0c : Mn0 h0 = some (.inr (ci, .int fr :: .int 0 :: .null :: .int 0 :: ex)) := by rw [← hMn0]; exact va_up_self _ _ _
    refine lv_aload_n hx hb d_Nd_init_9 rfl (lv_at hl 0 rfl) ?_
    refine lv_iload_n hx hb d_Nd_init_10 rfl (lv_at hl 2 rfl) ?_
    have step1 : ∀ (H1 : Heap) (locs1 : List Loc), hw_W D qcl (qty cI cJ cZ cN) (hw_A M s.heap.size) (va_up Mn0 h0 (some (.inr (ci, .int fr :: .int dp :: .null :: .int 0 :: ex)))) s H1 → va_S (hw_A M s.heap.size) s.heap H1 locs1 → W p l e ({ frames := 1, cells := 0, slots := 0, locals := 30 }) s m [.ref h0, .int fr, .int dp, .ref la].toArray below meth c H1 locs1 0 0 (MQ below (va_Qv (fun M1 => M1 = va_up M h0 (some (.inr (ci, .int fr :: .int dp :: .ref la :: .int (-1) :: ex)))) (hw_B D qcl (qty cI cJ cZ cN) M s.heap.size) (hw_A M s.heap.size)) [.ref h0, .int fr, .int dp, .ref la].toArray s 0 0 (hw_A M s.heap.size)) (F0 m 14 ls []) := by
      intro H locs hW hS
      generalize hMn1 : va_up Mn0 h0 (some (.inr (ci, .int fr :: .int dp :: .null :: .int 0 :: ex))) = Mn1 at hW
      have hMn1c : Mn1 h0 = some (.inr (ci, .int fr :: .int dp :: .null :: .int 0 :: ex)) := by rw [← hMn1]; exact va_up_self _ _ _
      refine lv_aload_n hx hb d_Nd_init_14 rfl (lv_at hl 0 rfl) ?_
      refine lv_aload_n hx hb d_Nd_init_15 rfl (lv_at hl 3 rfl) ?_
      have step2 : ∀ (H1 : Heap) (locs1 : List Loc), hw_W D qcl (qty cI cJ cZ cN) (hw_A M s.heap.size) (va_up Mn1 h0 (some (.inr (ci, .int fr :: .int dp :: .ref la :: .int 0 :: ex)))) s H1 → va_S (hw_A M s.heap.size) s.heap H1 locs1 → W p l e ({ frames := 1, cells := 0, slots := 0, locals := 30 }) s m [.ref h0, .int fr, .int dp, .ref la].toArray below meth c H1 locs1 0 0 (MQ below (va_Qv (fun M1 => M1 = va_up M h0 (some (.inr (ci, .int fr :: .int dp :: .ref la :: .int (-1) :: ex)))) (hw_B D qcl (qty cI cJ cZ cN) M s.heap.size) (hw_A M s.heap.size)) [.ref h0, .int fr, .int dp, .ref la].toArray s 0 0 (hw_A M s.heap.size)) (F0 m 19 ls []) := by
        intro H locs hW hS
        generalize hMn2 : va_up Mn1 h0 (some (.inr (ci, .int fr :: .int dp :: .ref la :: .int 0 :: ex))) = Mn2 at hW
        have hMn2c : Mn2 h0 = some (.inr (ci, .int fr :: .int dp :: .ref la :: .int 0 :: ex)) := by rw [← hMn2]; exact va_up_self _ _ _
        refine lv_aload_n hx hb d_Nd_init_19 rfl (lv_at hl 0 rfl) ?_
        refine lv_iconst (v := (-1)) hx hb d_Nd_init_20 (by decide) ?_
        have step3 : ∀ (H1 : Heap) (locs1 : List Loc), hw_W D qcl (qty cI cJ cZ cN) (hw_A M s.heap.size) (va_up Mn2 h0 (some (.inr (ci, .int fr :: .int dp :: .ref la :: .int (-1) :: ex)))) s H1 → va_S (hw_A M s.heap.size) s.heap H1 locs1 → W p l e ({ frames := 1, cells := 0, slots := 0, locals := 30 }) s m [.ref h0, .int fr, .int dp, .ref la].toArray below meth c H1 locs1 0 0 (MQ below (va_Qv (fun M1 => M1 = va_up M h0 (some (.inr (ci, .int fr :: .int dp :: .ref la :: .int (-1) :: ex)))) (hw_B D qcl (qty cI cJ cZ cN) M s.heap.size) (hw_A M s.heap.size)) [.ref h0, .int fr, .int dp, .ref la].toArray s 0 0 (hw_A M s.heap.size)) (F0 m 24 ls []) := by
          intro H locs hW hS
          generalize hMn3 : va_up Mn2 h0 (some (.inr (ci, .int fr :: .int dp :: .ref la :: .int (-1) :: ex))) = Mn3 at hW
          have hMn3c : Mn3 h0 = some (.inr (ci, .int fr :: .int dp :: .ref la :: .int (-1) :: ex)) := by rw [← hMn3]; exact va_up_self _ _ _
          refine hw_retv hx hb hr hlocks hW hS ?_ d_Nd_init_24
          rw [← hMn3, ← hMn2, ← hMn1, ← hMn0]
          funext x9; by_cases z9 : x9 = h0
          · rw [z9]; simp only [va_up_self]
          · simp only [va_up_ne _ _ z9]
        have hlen3 : 3 < (.int fr :: .int dp :: .ref la :: .int 0 :: ex : List Value).length := by show 3 < ex.length + 1 + 1 + 1 + 1; omega
        rcases hci with rfl | rfl | rfl | rfl
        · exact hw_put (own := "QuantifierOut$Node") (v := .int (-1)) (ty := .int) (C := "QuantifierOut$Atom") (T := F_At) (N := 8) hx hb hts i_At ft_At tk_At n_At hown hW hS hMn2c rfl 3 (by decide) (hts _ tw_246) (fun _ h9 => h9) rfl (tk_At 3 (by decide)) rfl rfl hlen3 d_Nd_init_21 step3
        · exact hw_put (own := "QuantifierOut$Node") (v := .int (-1)) (ty := .int) (C := "QuantifierOut$Negation") (T := F_Ng) (N := 5) hx hb hts i_Ng ft_Ng tk_Ng n_Ng hown hW hS hMn2c rfl 3 (by decide) (hts _ tw_246) (fun _ h9 => h9) rfl (tk_Ng 3 (by decide)) rfl rfl hlen3 d_Nd_init_21 step3
        · exact hw_put (own := "QuantifierOut$Node") (v := .int (-1)) (ty := .int) (C := "QuantifierOut$Pair") (T := F_Pr) (N := 7) hx hb hts i_Pr ft_Pr tk_Pr n_Pr hown hW hS hMn2c rfl 3 (by decide) (hts _ tw_246) (fun _ h9 => h9) rfl (tk_Pr 3 (by decide)) rfl rfl hlen3 d_Nd_init_21 step3
        · exact hw_put (own := "QuantifierOut$Node") (v := .int (-1)) (ty := .int) (C := "QuantifierOut$Quantified") (T := F_Qf) (N := 7) hx hb hts i_Qf ft_Qf tk_Qf n_Qf hown hW hS hMn2c rfl 3 (by decide) (hts _ tw_246) (fun _ h9 => h9) rfl (tk_Qf 3 (by decide)) rfl rfl hlen3 d_Nd_init_21 step3
      have hlen2 : 2 < (.int fr :: .int dp :: .null :: .int 0 :: ex : List Value).length := by show 2 < ex.length + 1 + 1 + 1 + 1; omega
      rcases hci with rfl | rfl | rfl | rfl
      · exact hw_putF (own := "QuantifierOut$Node") (v := .ref la) (ty := .array .int) (C := "QuantifierOut$Atom") (T := F_At) (N := 8) hx hb hts i_At ft_At tk_At n_At hown hW hS hMn1c rfl 2 (by decide) (hts _ tw_242) (fun _ h9 => h9) rfl hnm rfl (tk_At 2 (by decide)) rfl rfl hlen2 d_Nd_init_16 step2
      · exact hw_putF (own := "QuantifierOut$Node") (v := .ref la) (ty := .array .int) (C := "QuantifierOut$Negation") (T := F_Ng) (N := 5) hx hb hts i_Ng ft_Ng tk_Ng n_Ng hown hW hS hMn1c rfl 2 (by decide) (hts _ tw_242) (fun _ h9 => h9) rfl hnm rfl (tk_Ng 2 (by decide)) rfl rfl hlen2 d_Nd_init_16 step2
      · exact hw_putF (own := "QuantifierOut$Node") (v := .ref la) (ty := .array .int) (C := "QuantifierOut$Pair") (T := F_Pr) (N := 7) hx hb hts i_Pr ft_Pr tk_Pr n_Pr hown hW hS hMn1c rfl 2 (by decide) (hts _ tw_242) (fun _ h9 => h9) rfl hnm rfl (tk_Pr 2 (by decide)) rfl rfl hlen2 d_Nd_init_16 step2
      · exact hw_putF (own := "QuantifierOut$Node") (v := .ref la) (ty := .array .int) (C := "QuantifierOut$Quantified") (T := F_Qf) (N := 7) hx hb hts i_Qf ft_Qf tk_Qf n_Qf hown hW hS hMn1c rfl 2 (by decide) (hts _ tw_242) (fun _ h9 => h9) rfl hnm rfl (tk_Qf 2 (by decide)) rfl rfl hlen2 d_Nd_init_16 step2
    have hlen1 : 1 < (.int fr :: .int 0 :: .null :: .int 0 :: ex : List Value).length := by show 1 < ex.length + 1 + 1 + 1 + 1; omega
    rcases hci with rfl | rfl | rfl | rfl
    · exact hw_putF (own := "QuantifierOut$Node") (v := .int dp) (ty := .int) (C := "QuantifierOut$Atom") (T := F_At) (N := 8) hx hb hts i_At ft_At tk_At n_At hown hW hS hMn0c rfl 1 (by decide) (hts _ tw_234) (fun _ h9 => h9) rfl hnm rfl (tk_At 1 (by decide)) rfl rfl hlen1 d_Nd_init_11 step1
    · exact hw_putF (own := "QuantifierOut$Node") (v := .int dp) (ty := .int) (C := "QuantifierOut$Negation") (T := F_Ng) (N := 5) hx hb hts i_Ng ft_Ng tk_Ng n_Ng hown hW hS hMn0c rfl 1 (by decide) (hts _ tw_234) (fun _ h9 => h9) rfl hnm rfl (tk_Ng 1 (by decide)) rfl rfl hlen1 d_Nd_init_11 step1
    · exact hw_putF (own := "QuantifierOut$Node") (v := .int dp) (ty := .int) (C := "QuantifierOut$Pair") (T := F_Pr) (N := 7) hx hb hts i_Pr ft_Pr tk_Pr n_Pr hown hW hS hMn0c rfl 1 (by decide) (hts _ tw_234) (fun _ h9 => h9) rfl hnm rfl (tk_Pr 1 (by decide)) rfl rfl hlen1 d_Nd_init_11 step1
    · exact hw_putF (own := "QuantifierOut$Node") (v := .int dp) (ty := .int) (C := "QuantifierOut$Quantified") (T := F_Qf) (N := 7) hx hb hts i_Qf ft_Qf tk_Qf n_Qf hown hW hS hMn0c rfl 1 (by decide) (hts _ tw_234) (fun _ h9 => h9) rfl hnm rfl (tk_Qf 1 (by decide)) rfl rfl hlen1 d_Nd_init_11 step1
  have hlen0 : 0 < (.int 0 :: .int 0 :: .null :: .int 0 :: ex : List Value).length := by show 0 < ex.length + 1 + 1 + 1 + 1; omega
  rcases hci with rfl | rfl | rfl | rfl
  · exact hw_putF (own := "QuantifierOut$Node") (v := .int fr) (ty := .int) (C := "QuantifierOut$Atom") (T := F_At) (N := 8) hx hb hts i_At ft_At tk_At n_At hown hW hS hM rfl 0 (by decide) (hts _ tw_231) (fun _ h9 => h9) rfl hnm rfl (tk_At 0 (by decide)) rfl rfl hlen0 d_Nd_init_6 step0
  · exact hw_putF (own := "QuantifierOut$Node") (v := .int fr) (ty := .int) (C := "QuantifierOut$Negation") (T := F_Ng) (N := 5) hx hb hts i_Ng ft_Ng tk_Ng n_Ng hown hW hS hM rfl 0 (by decide) (hts _ tw_231) (fun _ h9 => h9) rfl hnm rfl (tk_Ng 0 (by decide)) rfl rfl hlen0 d_Nd_init_6 step0
  · exact hw_putF (own := "QuantifierOut$Node") (v := .int fr) (ty := .int) (C := "QuantifierOut$Pair") (T := F_Pr) (N := 7) hx hb hts i_Pr ft_Pr tk_Pr n_Pr hown hW hS hM rfl 0 (by decide) (hts _ tw_231) (fun _ h9 => h9) rfl hnm rfl (tk_Pr 0 (by decide)) rfl rfl hlen0 d_Nd_init_6 step0
  · exact hw_putF (own := "QuantifierOut$Node") (v := .int fr) (ty := .int) (C := "QuantifierOut$Quantified") (T := F_Qf) (N := 7) hx hb hts i_Qf ft_Qf tk_Qf n_Qf hown hW hS hM rfl 0 (by decide) (hts _ tw_231) (fun _ h9 => h9) rfl hnm rfl (tk_Qf 0 (by decide)) rfl rfl hlen0 d_Nd_init_6 step0
end G26

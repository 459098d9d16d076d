/-! QuantifierOut.<init> -/
section G33
variable (l : Launch) (D : va_G) (cI cJ cZ cN : ClassId)
set_option maxHeartbeats 4000000 in
set_option maxRecDepth 100000 in
theorem c_Qo_init (h0 sz : Nat) (Z : Nat → Prop) (qs : Nat → nq) (M : Nat → Option va_E) (hM : M h0 = some (.inr (0, [.null, .null, .null, .int 0]))) (hZ9 : ∀ z, Z z → M z ≠ none ∧ z ≠ h0) : Met l y_Qo_init (.code y_Qo_init b_Qo_init 1 none :: ww) ({ frames := 4, cells := 16, slots := 252, locals := 120 }) (hw_Pc D qcl (qty cI cJ cZ cN) [.ref h0] M sz) (va_Qv (fun M1 => (∃ na v va vb om oa ob im ia ib ro mk ka kb fa la : Nat, qo_I cI cJ cN h0 na v va vb om oa ob im ia ib ro mk ka kb fa la Z M1 (fun _ => none) 0 (fun _ => 0) qs) ∧ ∀ x, M x ≠ none → x ≠ h0 → M1 x = M x) (hw_B D qcl (qty cI cJ cZ cN) M sz) (hw_A M sz)) 16 252 (hw_A M sz) := by
  refine hw_met (by decide) (Nat.le_of_ble_eq_true rfl) ?_
  intro p e s m below meth c hx hb hr hml hown hlocks hnm hts hsz hX hW ls hl
  subst hsz
  have hA : ∀ q, s.heap.size ≤ q → hw_A M s.heap.size q := fun q h => Or.inr h
  have hS : va_S (hw_A M s.heap.size) s.heap s.heap [] := va_S.rf
  have hl : lv_has ls 1 [(0, .ref h0)] := hl
  have hown : s.vm.findClass "QuantifierOut" = some m.cls := hown
  have hmono : ∀ x9, M x9 = none → M x9 = none := fun _ z9 => z9
  refine lv_aload_n hx hb d_Qo_init_0 rfl (lv_at hl 0 rfl) ?_
  refine W.objInit hx hb hown (hts _ tw_24) (hts _ tw_25) (hts _ tw_26) rfl (by rw [hml]; exact hl.1) rfl d_Qo_init_1 (Nat.le_of_ble_eq_true rfl) (Nat.le_of_ble_eq_true rfl) ?_
  refine W.eq (g2 := F0 m 4 ls []) rfl ?_
  refine lv_aload_n hx hb d_Qo_init_4 rfl (lv_at hl 0 rfl) ?_
  refine lv_bipush (v := 60) hx hb d_Qo_init_5 (by decide) ?_
  refine hw_newq (own := "QuantifierOut") (N' := 60) hx hb hown (hts _ tw_27) hX.2 hW hS hA 3 rfl (by decide) (by decide) (by decide) (Nat.le_of_ble_eq_true rfl) (Nat.le_of_ble_eq_true rfl) d_Qo_init_7 (fun na H hq_na hW hS => ?_)
  have hW : hw_W D qcl (qty cI cJ cZ cN) _ (va_up M na (some (.inl (cN, 60, .inr (.inr (.inr (.inr (fun _ => none)))))))) s H := hW
  have n_h0_na : h0 ≠ na := hw_nq hM hq_na
  generalize hMw1 : va_up M na (some (.inl (cN, 60, .inr (.inr (.inr (.inr (fun _ => none))))))) = Mw1 at hW
  have hM : Mw1 h0 = some (.inr (0, [.null, .null, .null, .int 0])) := by rw [← hMw1, va_up_ne _ _ n_h0_na]; exact hM
  have hy_na : Mw1 na = some (.inl (cN, 60, .inr (.inr (.inr (.inr (fun _ => none)))))) := by rw [← hMw1]; exact va_up_self _ _ _
  have z_na : M na = none := hmono na hq_na
  have hmono : ∀ x9, Mw1 x9 = none → M x9 = none := fun x9 z9 => hmono x9 (va_up_none (by rw [hMw1]; exact z9))
  have hfr_Mw1 : ∀ x9, x9 ≠ na → Mw1 x9 = M x9 := fun x9 z9 => by rw [← hMw1, va_up_ne _ _ z9]
  refine hw_putF (own := "QuantifierOut") (v := .ref na) (ty := .array (.object "QuantifierOut$Node")) hx hb hts i_Qo ft_Qo tk_Qo n_Qo hown hW hS hM rfl 0 (by decide) (hts _ tw_97) (fun _ h9 => h9) rfl hnm rfl (tk_Qo 0 (by decide)) rfl rfl (Nat.le_of_ble_eq_true rfl) d_Qo_init_10 (fun H locs hW hS => ?_)
  have hW : hw_W D qcl (qty cI cJ cZ cN) _ (va_up Mw1 h0 (some (.inr (0, [.ref na, .null, .null, .int 0])))) s H := hW
  generalize hMw2 : va_up Mw1 h0 (some (.inr (0, [.ref na, .null, .null, .int 0]))) = Mw2 at hW
  have hy_na : Mw2 na = some (.inl (cN, 60, .inr (.inr (.inr (.inr (fun _ => none)))))) := by rw [← hMw2, va_up_ne _ _ (Ne.symm n_h0_na)]; exact hy_na
  have hM : Mw2 h0 = some (.inr (0, [.ref na, .null, .null, .int 0])) := by rw [← hMw2]; exact va_up_self _ _ _
  have hmono : ∀ x9, Mw2 x9 = none → M x9 = none := fun x9 z9 => hmono x9 (va_up_none (by rw [hMw2]; exact z9))
  have hfr_Mw2 : ∀ x9, x9 ≠ h0 → Mw2 x9 = Mw1 x9 := fun x9 z9 => by rw [← hMw2, va_up_ne _ _ z9]
  refine lv_aload_n hx hb d_Qo_init_13 rfl (lv_at hl 0 rfl) ?_
  refine hw_new (ci := 7) (own := "QuantifierOut") (fs := [.null, .null, .null, .null]) hx hb hts i_Vs ft_Vs tk_Vs hown (hts _ tw_29) (hts _ tw_30) (hts _ tw_2) hW hS hA rfl (by intro j9 hj9; rcases (show j9 = 0 ∨ j9 = 1 ∨ j9 = 2 ∨ j9 = 3 by omega) with rfl | rfl | rfl | rfl <;> rfl) (Nat.le_of_ble_eq_true rfl) (Nat.le_of_ble_eq_true rfl) d_Qo_init_14 (fun v H hq_v hW hS => ?_)
  have hW : hw_W D qcl (qty cI cJ cZ cN) _ (va_up Mw2 v (some (.inr (7, [.null, .null, .null, .null])))) s H := hW
  have n_na_v : na ≠ v := hw_nq hy_na hq_v
  have n_h0_v : h0 ≠ v := hw_nq hM hq_v
  generalize hMw3 : va_up Mw2 v (some (.inr (7, [.null, .null, .null, .null]))) = Mw3 at hW
  have hy_na : Mw3 na = some (.inl (cN, 60, .inr (.inr (.inr (.inr (fun _ => none)))))) := by rw [← hMw3, va_up_ne _ _ n_na_v]; exact hy_na
  have hM : Mw3 h0 = some (.inr (0, [.ref na, .null, .null, .int 0])) := by rw [← hMw3, va_up_ne _ _ n_h0_v]; exact hM
  have hy_v : Mw3 v = some (.inr (7, [.null, .null, .null, .null])) := by rw [← hMw3]; exact va_up_self _ _ _
  have z_v : M v = none := hmono v hq_v
  have hmono : ∀ x9, Mw3 x9 = none → M x9 = none := fun x9 z9 => hmono x9 (va_up_none (by rw [hMw3]; exact z9))
  have hfr_Mw3 : ∀ x9, x9 ≠ v → Mw3 x9 = Mw2 x9 := fun x9 z9 => by rw [← hMw3, va_up_ne _ _ z9]
  refine lv_dup hx hb d_Qo_init_17 rfl ?_
  refine hw_callv (hw_runI (n := 0) (own := "QuantifierOut") (As := []) (rest := [.ref v, .ref h0]) hx hb hml hown hts hX hW hl.1 (c_Vs_init l D cI cJ cZ cN v _ Mw3 hy_v) tw_31 tw_32 tw_2 tw_33 rfl (by decide +kernel) rfl rfl ⟨by decide, by decide⟩ rfl rfl (Nat.le_of_ble_eq_true rfl) d_Qo_init_18 ⟨by decide, by decide⟩) hW hS hA (fun Kv H locs hp hz hW hS => ?_)
  obtain ⟨va, vb, om, oa, ob, im, ia, ib, ⟨y1, y2, y3, y4, y5, y6, y7, y8⟩, hD, hE, hfv⟩ := hp
  have n_na_va : na ≠ va := hw_nq hy_na y1
  have n_na_vb : na ≠ vb := hw_nq hy_na y2
  have n_na_om : na ≠ om := hw_nq hy_na y3
  have n_na_oa : na ≠ oa := hw_nq hy_na y4
  have n_na_ob : na ≠ ob := hw_nq hy_na y5
  have n_na_im : na ≠ im := hw_nq hy_na y6
  have n_na_ia : na ≠ ia := hw_nq hy_na y7
  have n_na_ib : na ≠ ib := hw_nq hy_na y8
  have hy_na : Kv na = some (.inl (cN, 60, .inr (.inr (.inr (.inr (fun _ => none)))))) := (hfv na n_na_v n_na_va n_na_vb n_na_om n_na_oa n_na_ob n_na_im n_na_ia n_na_ib).trans hy_na
  have n_h0_va : h0 ≠ va := hw_nq hM y1
  have n_h0_vb : h0 ≠ vb := hw_nq hM y2
  have n_h0_om : h0 ≠ om := hw_nq hM y3
  have n_h0_oa : h0 ≠ oa := hw_nq hM y4
  have n_h0_ob : h0 ≠ ob := hw_nq hM y5
  have n_h0_im : h0 ≠ im := hw_nq hM y6
  have n_h0_ia : h0 ≠ ia := hw_nq hM y7
  have n_h0_ib : h0 ≠ ib := hw_nq hM y8
  have hM : Kv h0 = some (.inr (0, [.ref na, .null, .null, .int 0])) := (hfv h0 n_h0_v n_h0_va n_h0_vb n_h0_om n_h0_oa n_h0_ob n_h0_im n_h0_ia n_h0_ib).trans hM
  have z_va := hmono va y1
  have z_vb := hmono vb y2
  have z_om := hmono om y3
  have z_oa := hmono oa y4
  have z_ob := hmono ob y5
  have z_im := hmono im y6
  have z_ia := hmono ia y7
  have z_ib := hmono ib y8
  have hKv : ∀ x, M x ≠ none → x ≠ h0 → Kv x = M x := fun x z1 z2 => (hfv x (fun e => z1 (e ▸ z_v)) (fun e => z1 (e ▸ z_va)) (fun e => z1 (e ▸ z_vb)) (fun e => z1 (e ▸ z_om)) (fun e => z1 (e ▸ z_oa)) (fun e => z1 (e ▸ z_ob)) (fun e => z1 (e ▸ z_im)) (fun e => z1 (e ▸ z_ia)) (fun e => z1 (e ▸ z_ib))).trans ((((hfr_Mw3 x (fun e => z1 (e ▸ z_v)))).trans (hfr_Mw2 x z2)).trans (hfr_Mw1 x (fun e => z1 (e ▸ z_na))))
  obtain ⟨⟨hv1, hv2, hv3⟩, ⟨no, fo, go, ho1, ho2, ho3⟩, ⟨ni, fi, gi, hi1, hi2, hi3⟩⟩ := hE
  have hmono : ∀ x9, Kv x9 = none → M x9 = none := fun x9 z9 => hmono x9 (by rw [← hfv x9 (fun q9 => by rw [q9, hv1] at z9; cases z9) (fun q9 => by rw [q9, hv2] at z9; cases z9) (fun q9 => by rw [q9, hv3] at z9; cases z9) (fun q9 => by rw [q9, ho1] at z9; cases z9) (fun q9 => by rw [q9, ho2] at z9; cases z9) (fun q9 => by rw [q9, ho3] at z9; cases z9) (fun q9 => by rw [q9, hi1] at z9; cases z9) (fun q9 => by rw [q9, hi2] at z9; cases z9) (fun q9 => by rw [q9, hi3] at z9; cases z9)]; exact z9)
  have n_v_va : v ≠ va := hw_nq hy_v y1
  have n_v_vb : v ≠ vb := hw_nq hy_v y2
  have n_v_om : v ≠ om := hw_nq hy_v y3
  have n_v_oa : v ≠ oa := hw_nq hy_v y4
  have n_v_ob : v ≠ ob := hw_nq hy_v y5
  have n_v_im : v ≠ im := hw_nq hy_v y6
  have n_v_ia : v ≠ ia := hw_nq hy_v y7
  have n_v_ib : v ≠ ib := hw_nq hy_v y8
  refine hw_putF (own := "QuantifierOut") (v := .ref v) (ty := .object "QuantifierOut$Values") hx hb hts i_Qo ft_Qo tk_Qo n_Qo hown hW hS hM rfl 1 (by decide) (hts _ tw_98) (fun _ h9 => h9) rfl hnm rfl (tk_Qo 1 (by decide)) rfl rfl (Nat.le_of_ble_eq_true rfl) d_Qo_init_21 (fun H locs hW hS => ?_)
  have hW : hw_W D qcl (qty cI cJ cZ cN) _ (va_up Kv h0 (some (.inr (0, [.ref na, .ref v, .null, .int 0])))) s H := hW
  generalize hMw4 : va_up Kv h0 (some (.inr (0, [.ref na, .ref v, .null, .int 0]))) = Mw4 at hW
  have hy_na : Mw4 na = some (.inl (cN, 60, .inr (.inr (.inr (.inr (fun _ => none)))))) := by rw [← hMw4, va_up_ne _ _ (Ne.symm n_h0_na)]; exact hy_na
  have hv1 : Mw4 v = some (.inr (7, [.ref va, .ref vb, .ref om, .ref im])) := by rw [← hMw4, va_up_ne _ _ (Ne.symm n_h0_v)]; exact hv1
  have hv2 : Mw4 va = some (.inl (cJ, 2, .inr (.inl (fun _ => 0)))) := by rw [← hMw4, va_up_ne _ _ (Ne.symm n_h0_va)]; exact hv2
  have hv3 : Mw4 vb = some (.inl (cJ, 2, .inr (.inl (fun i => if i < 2 then 1 else 0)))) := by rw [← hMw4, va_up_ne _ _ (Ne.symm n_h0_vb)]; exact hv3
  have ho1 : Mw4 om = some (.inr (2, [.ref oa, .ref ob, .int (nI no)])) := by rw [← hMw4, va_up_ne _ _ (Ne.symm n_h0_om)]; exact ho1
  have ho2 : Mw4 oa = some (.inl (cJ, 21, .inr (.inl fo))) := by rw [← hMw4, va_up_ne _ _ (Ne.symm n_h0_oa)]; exact ho2
  have ho3 : Mw4 ob = some (.inl (cJ, 21, .inr (.inl go))) := by rw [← hMw4, va_up_ne _ _ (Ne.symm n_h0_ob)]; exact ho3
  have hi1 : Mw4 im = some (.inr (2, [.ref ia, .ref ib, .int (nI ni)])) := by rw [← hMw4, va_up_ne _ _ (Ne.symm n_h0_im)]; exact hi1
  have hi2 : Mw4 ia = some (.inl (cJ, 21, .inr (.inl fi))) := by rw [← hMw4, va_up_ne _ _ (Ne.symm n_h0_ia)]; exact hi2
  have hi3 : Mw4 ib = some (.inl (cJ, 21, .inr (.inl gi))) := by rw [← hMw4, va_up_ne _ _ (Ne.symm n_h0_ib)]; exact hi3
  have hM : Mw4 h0 = some (.inr (0, [.ref na, .ref v, .null, .int 0])) := by rw [← hMw4]; exact va_up_self _ _ _
  have hmono : ∀ x9, Mw4 x9 = none → M x9 = none := fun x9 z9 => hmono x9 (va_up_none (by rw [hMw4]; exact z9))
  have hfr_Mw4 : ∀ x9, x9 ≠ h0 → Mw4 x9 = Kv x9 := fun x9 z9 => by rw [← hMw4, va_up_ne _ _ z9]
  refine lv_aload_n hx hb d_Qo_init_24 rfl (lv_at hl 0 rfl) ?_
  refine hw_new (ci := 5) (own := "QuantifierOut") (fs := [.null, .null, .null, .int 0, .null]) hx hb hts i_Pc ft_Pc tk_Pc hown (hts _ tw_71) (hts _ tw_72) (hts _ tw_4) hW hS hA rfl (by intro j9 hj9; rcases (show j9 = 0 ∨ j9 = 1 ∨ j9 = 2 ∨ j9 = 3 ∨ j9 = 4 by omega) with rfl | rfl | rfl | rfl | rfl <;> rfl) (Nat.le_of_ble_eq_true rfl) (Nat.le_of_ble_eq_true rfl) d_Qo_init_25 (fun ro H hq_ro hW hS => ?_)
  have hW : hw_W D qcl (qty cI cJ cZ cN) _ (va_up Mw4 ro (some (.inr (5, [.null, .null, .null, .int 0, .null])))) s H := hW
  have n_na_ro : na ≠ ro := hw_nq hy_na hq_ro
  have n_v_ro : v ≠ ro := hw_nq hv1 hq_ro
  have n_va_ro : va ≠ ro := hw_nq hv2 hq_ro
  have n_vb_ro : vb ≠ ro := hw_nq hv3 hq_ro
  have n_om_ro : om ≠ ro := hw_nq ho1 hq_ro
  have n_oa_ro : oa ≠ ro := hw_nq ho2 hq_ro
  have n_ob_ro : ob ≠ ro := hw_nq ho3 hq_ro
  have n_im_ro : im ≠ ro := hw_nq hi1 hq_ro
  have n_ia_ro : ia ≠ ro := hw_nq hi2 hq_ro
  have n_ib_ro : ib ≠ ro := hw_nq hi3 hq_ro
  have n_h0_ro : h0 ≠ ro := hw_nq hM hq_ro
  generalize hMw5 : va_up Mw4 ro (some (.inr (5, [.null, .null, .null, .int 0, .null]))) = Mw5 at hW
  have hy_na : Mw5 na = some (.inl (cN, 60, .inr (.inr (.inr (.inr (fun _ => none)))))) := by rw [← hMw5, va_up_ne _ _ n_na_ro]; exact hy_na
  have hv1 : Mw5 v = some (.inr (7, [.ref va, .ref vb, .ref om, .ref im])) := by rw [← hMw5, va_up_ne _ _ n_v_ro]; exact hv1
  have hv2 : Mw5 va = some (.inl (cJ, 2, .inr (.inl (fun _ => 0)))) := by rw [← hMw5, va_up_ne _ _ n_va_ro]; exact hv2
  have hv3 : Mw5 vb = some (.inl (cJ, 2, .inr (.inl (fun i => if i < 2 then 1 else 0)))) := by rw [← hMw5, va_up_ne _ _ n_vb_ro]; exact hv3
  have ho1 : Mw5 om = some (.inr (2, [.ref oa, .ref ob, .int (nI no)])) := by rw [← hMw5, va_up_ne _ _ n_om_ro]; exact ho1
  have ho2 : Mw5 oa = some (.inl (cJ, 21, .inr (.inl fo))) := by rw [← hMw5, va_up_ne _ _ n_oa_ro]; exact ho2
  have ho3 : Mw5 ob = some (.inl (cJ, 21, .inr (.inl go))) := by rw [← hMw5, va_up_ne _ _ n_ob_ro]; exact ho3
  have hi1 : Mw5 im = some (.inr (2, [.ref ia, .ref ib, .int (nI ni)])) := by rw [← hMw5, va_up_ne _ _ n_im_ro]; exact hi1
  have hi2 : Mw5 ia = some (.inl (cJ, 21, .inr (.inl fi))) := by rw [← hMw5, va_up_ne _ _ n_ia_ro]; exact hi2
  have hi3 : Mw5 ib = some (.inl (cJ, 21, .inr (.inl gi))) := by rw [← hMw5, va_up_ne _ _ n_ib_ro]; exact hi3
  have hM : Mw5 h0 = some (.inr (0, [.ref na, .ref v, .null, .int 0])) := by rw [← hMw5, va_up_ne _ _ n_h0_ro]; exact hM
  have hy_ro : Mw5 ro = some (.inr (5, [.null, .null, .null, .int 0, .null])) := by rw [← hMw5]; exact va_up_self _ _ _
  have z_ro : M ro = none := hmono ro hq_ro
  have hmono : ∀ x9, Mw5 x9 = none → M x9 = none := fun x9 z9 => hmono x9 (va_up_none (by rw [hMw5]; exact z9))
  have hfr_Mw5 : ∀ x9, x9 ≠ ro → Mw5 x9 = Mw4 x9 := fun x9 z9 => by rw [← hMw5, va_up_ne _ _ z9]
  refine lv_dup hx hb d_Qo_init_28 rfl ?_
  refine hw_callv (hw_runI (n := 0) (own := "QuantifierOut") (As := []) (rest := [.ref ro, .ref h0]) hx hb hml hown hts hX hW hl.1 (c_Pc_init l D cI cJ cZ cN ro _ Mw5 hy_ro) tw_73 tw_74 tw_4 tw_75 rfl (by decide +kernel) rfl rfl ⟨by decide, by decide⟩ rfl rfl (Nat.le_of_ble_eq_true rfl) d_Qo_init_29 ⟨by decide, by decide⟩) hW hS hA (fun Kp H locs hpp hz hW hS => ?_)
  obtain ⟨mk, ka, kb, fa, la, ⟨x1, x2, x3, x4, x5⟩, hkk, hff, hPS, hfp⟩ := hpp
  have n_na_mk : na ≠ mk := hw_nq hy_na x1
  have n_na_ka : na ≠ ka := hw_nq hy_na x2
  have n_na_kb : na ≠ kb := hw_nq hy_na x3
  have n_na_fa : na ≠ fa := hw_nq hy_na x4
  have n_na_la : na ≠ la := hw_nq hy_na x5
  have hy_na : Kp na = some (.inl (cN, 60, .inr (.inr (.inr (.inr (fun _ => none)))))) := (hfp na n_na_ro n_na_mk n_na_ka n_na_kb n_na_fa n_na_la).trans hy_na
  have n_v_mk : v ≠ mk := hw_nq hv1 x1
  have n_v_ka : v ≠ ka := hw_nq hv1 x2
  have n_v_kb : v ≠ kb := hw_nq hv1 x3
  have n_v_fa : v ≠ fa := hw_nq hv1 x4
  have n_v_la : v ≠ la := hw_nq hv1 x5
  have hv1 : Kp v = some (.inr (7, [.ref va, .ref vb, .ref om, .ref im])) := (hfp v n_v_ro n_v_mk n_v_ka n_v_kb n_v_fa n_v_la).trans hv1
  have n_va_mk : va ≠ mk := hw_nq hv2 x1
  have n_va_ka : va ≠ ka := hw_nq hv2 x2
  have n_va_kb : va ≠ kb := hw_nq hv2 x3
  have n_va_fa : va ≠ fa := hw_nq hv2 x4
  have n_va_la : va ≠ la := hw_nq hv2 x5
  have hv2 : Kp va = some (.inl (cJ, 2, .inr (.inl (fun _ => 0)))) := (hfp va n_va_ro n_va_mk n_va_ka n_va_kb n_va_fa n_va_la).trans hv2
  have n_vb_mk : vb ≠ mk := hw_nq hv3 x1
  have n_vb_ka : vb ≠ ka := hw_nq hv3 x2
  have n_vb_kb : vb ≠ kb := hw_nq hv3 x3
  have n_vb_fa : vb ≠ fa := hw_nq hv3 x4
  have n_vb_la : vb ≠ la := hw_nq hv3 x5
  have hv3 : Kp vb = some (.inl (cJ, 2, .inr (.inl (fun i => if i < 2 then 1 else 0)))) := (hfp vb n_vb_ro n_vb_mk n_vb_ka n_vb_kb n_vb_fa n_vb_la).trans hv3
  have n_om_mk : om ≠ mk := hw_nq ho1 x1
  have n_om_ka : om ≠ ka := hw_nq ho1 x2
  have n_om_kb : om ≠ kb := hw_nq ho1 x3
  have n_om_fa : om ≠ fa := hw_nq ho1 x4
  have n_om_la : om ≠ la := hw_nq ho1 x5
  have ho1 : Kp om = some (.inr (2, [.ref oa, .ref ob, .int (nI no)])) := (hfp om n_om_ro n_om_mk n_om_ka n_om_kb n_om_fa n_om_la).trans ho1
  have n_oa_mk : oa ≠ mk := hw_nq ho2 x1
  have n_oa_ka : oa ≠ ka := hw_nq ho2 x2
  have n_oa_kb : oa ≠ kb := hw_nq ho2 x3
  have n_oa_fa : oa ≠ fa := hw_nq ho2 x4
  have n_oa_la : oa ≠ la := hw_nq ho2 x5
  have ho2 : Kp oa = some (.inl (cJ, 21, .inr (.inl fo))) := (hfp oa n_oa_ro n_oa_mk n_oa_ka n_oa_kb n_oa_fa n_oa_la).trans ho2
  have n_ob_mk : ob ≠ mk := hw_nq ho3 x1
  have n_ob_ka : ob ≠ ka := hw_nq ho3 x2
  have n_ob_kb : ob ≠ kb := hw_nq ho3 x3
  have n_ob_fa : ob ≠ fa := hw_nq ho3 x4
  have n_ob_la : ob ≠ la := hw_nq ho3 x5
  have ho3 : Kp ob = some (.inl (cJ, 21, .inr (.inl go))) := (hfp ob n_ob_ro n_ob_mk n_ob_ka n_ob_kb n_ob_fa n_ob_la).trans ho3
  have n_im_mk : im ≠ mk := hw_nq hi1 x1
  have n_im_ka : im ≠ ka := hw_nq hi1 x2
  have n_im_kb : im ≠ kb := hw_nq hi1 x3
  have n_im_fa : im ≠ fa := hw_nq hi1 x4
  have n_im_la : im ≠ la := hw_nq hi1 x5
  have hi1 : Kp im = some (.inr (2, [.ref ia, .ref ib, .int (nI ni)])) := (hfp im n_im_ro n_im_mk n_im_ka n_im_kb n_im_fa n_im_la).trans hi1
  have n_ia_mk : ia ≠ mk := hw_nq hi2 x1
  have n_ia_ka : ia ≠ ka := hw_nq hi2 x2
  have n_ia_kb : ia ≠ kb := hw_nq hi2 x3
  have n_ia_fa : ia ≠ fa := hw_nq hi2 x4
  have n_ia_la : ia ≠ la := hw_nq hi2 x5
  have hi2 : Kp ia = some (.inl (cJ, 21, .inr (.inl fi))) := (hfp ia n_ia_ro n_ia_mk n_ia_ka n_ia_kb n_ia_fa n_ia_la).trans hi2
  have n_ib_mk : ib ≠ mk := hw_nq hi3 x1
  have n_ib_ka : ib ≠ ka := hw_nq hi3 x2
  have n_ib_kb : ib ≠ kb := hw_nq hi3 x3
  have n_ib_fa : ib ≠ fa := hw_nq hi3 x4
  have n_ib_la : ib ≠ la := hw_nq hi3 x5
  have hi3 : Kp ib = some (.inl (cJ, 21, .inr (.inl gi))) := (hfp ib n_ib_ro n_ib_mk n_ib_ka n_ib_kb n_ib_fa n_ib_la).trans hi3
  have n_h0_mk : h0 ≠ mk := hw_nq hM x1
  have n_h0_ka : h0 ≠ ka := hw_nq hM x2
  have n_h0_kb : h0 ≠ kb := hw_nq hM x3
  have n_h0_fa : h0 ≠ fa := hw_nq hM x4
  have n_h0_la : h0 ≠ la := hw_nq hM x5
  have hM : Kp h0 = some (.inr (0, [.ref na, .ref v, .null, .int 0])) := (hfp h0 n_h0_ro n_h0_mk n_h0_ka n_h0_kb n_h0_fa n_h0_la).trans hM
  have z_mk := hmono mk x1
  have z_ka := hmono ka x2
  have z_kb := hmono kb x3
  have z_fa := hmono fa x4
  have z_la := hmono la x5
  have hKp : ∀ x, M x ≠ none → x ≠ h0 → Kp x = M x := fun x z1 z2 => (hfp x (fun e => z1 (e ▸ z_ro)) (fun e => z1 (e ▸ z_mk)) (fun e => z1 (e ▸ z_ka)) (fun e => z1 (e ▸ z_kb)) (fun e => z1 (e ▸ z_fa)) (fun e => z1 (e ▸ z_la))).trans ((((hfr_Mw5 x (fun e => z1 (e ▸ z_ro)))).trans (hfr_Mw4 x z2)).trans (hKv x z1 z2))
  obtain ⟨hp1, hp2, hp3, hp4⟩ := hPS
  have hz_mk := hp2.1
  have hz_ka := hp2.2.1
  have hz_kb := hp2.2.2
  have hz_fa := hp3
  have hz_la := hp4
  have n_h0_mk : h0 ≠ mk := n_h0_mk
  have n_h0_ka : h0 ≠ ka := n_h0_ka
  have n_h0_kb : h0 ≠ kb := n_h0_kb
  have n_h0_fa : h0 ≠ fa := n_h0_fa
  have n_h0_la : h0 ≠ la := n_h0_la
  refine hw_putF (own := "QuantifierOut") (v := .ref ro) (ty := .object "QuantifierOut$Pieces") hx hb hts i_Qo ft_Qo tk_Qo n_Qo hown hW hS hM rfl 2 (by decide) (hts _ tw_99) (fun _ h9 => h9) rfl hnm rfl (tk_Qo 2 (by decide)) rfl rfl (Nat.le_of_ble_eq_true rfl) d_Qo_init_32 (fun H locs hW hS => ?_)
  have hW : hw_W D qcl (qty cI cJ cZ cN) _ (va_up Kp h0 (some (.inr (0, [.ref na, .ref v, .ref ro, .int 0])))) s H := hW
  generalize hMw6 : va_up Kp h0 (some (.inr (0, [.ref na, .ref v, .ref ro, .int 0]))) = Mw6 at hW
  have hy_na : Mw6 na = some (.inl (cN, 60, .inr (.inr (.inr (.inr (fun _ => none)))))) := by rw [← hMw6, va_up_ne _ _ (Ne.symm n_h0_na)]; exact hy_na
  have hv1 : Mw6 v = some (.inr (7, [.ref va, .ref vb, .ref om, .ref im])) := by rw [← hMw6, va_up_ne _ _ (Ne.symm n_h0_v)]; exact hv1
  have hv2 : Mw6 va = some (.inl (cJ, 2, .inr (.inl (fun _ => 0)))) := by rw [← hMw6, va_up_ne _ _ (Ne.symm n_h0_va)]; exact hv2
  have hv3 : Mw6 vb = some (.inl (cJ, 2, .inr (.inl (fun i => if i < 2 then 1 else 0)))) := by rw [← hMw6, va_up_ne _ _ (Ne.symm n_h0_vb)]; exact hv3
  have ho1 : Mw6 om = some (.inr (2, [.ref oa, .ref ob, .int (nI no)])) := by rw [← hMw6, va_up_ne _ _ (Ne.symm n_h0_om)]; exact ho1
  have ho2 : Mw6 oa = some (.inl (cJ, 21, .inr (.inl fo))) := by rw [← hMw6, va_up_ne _ _ (Ne.symm n_h0_oa)]; exact ho2
  have ho3 : Mw6 ob = some (.inl (cJ, 21, .inr (.inl go))) := by rw [← hMw6, va_up_ne _ _ (Ne.symm n_h0_ob)]; exact ho3
  have hi1 : Mw6 im = some (.inr (2, [.ref ia, .ref ib, .int (nI ni)])) := by rw [← hMw6, va_up_ne _ _ (Ne.symm n_h0_im)]; exact hi1
  have hi2 : Mw6 ia = some (.inl (cJ, 21, .inr (.inl fi))) := by rw [← hMw6, va_up_ne _ _ (Ne.symm n_h0_ia)]; exact hi2
  have hi3 : Mw6 ib = some (.inl (cJ, 21, .inr (.inl gi))) := by rw [← hMw6, va_up_ne _ _ (Ne.symm n_h0_ib)]; exact hi3
  have hp1 : Mw6 ro = some (.inr (5, [.ref mk, .ref fa, .ref la, .int (nI 0), va_rf none])) := by rw [← hMw6, va_up_ne _ _ (Ne.symm n_h0_ro)]; exact hp1
  have hz_mk : Mw6 mk = some (.inr (2, [.ref ka, .ref kb, .int (nI 0)])) := by rw [← hMw6, va_up_ne _ _ (Ne.symm n_h0_mk)]; exact hz_mk
  have hz_ka : Mw6 ka = some (.inl (cJ, 21, .inr (.inl (fun _ => 0)))) := by rw [← hMw6, va_up_ne _ _ (Ne.symm n_h0_ka)]; exact hz_ka
  have hz_kb : Mw6 kb = some (.inl (cJ, 21, .inr (.inl (fun _ => 0)))) := by rw [← hMw6, va_up_ne _ _ (Ne.symm n_h0_kb)]; exact hz_kb
  have hz_fa : Mw6 fa = some (.inl (cI, 22, .inl (fun _ => 0))) := by rw [← hMw6, va_up_ne _ _ (Ne.symm n_h0_fa)]; exact hz_fa
  have hz_la : Mw6 la = some (.inl (cI, 22, .inl (fun _ => 0))) := by rw [← hMw6, va_up_ne _ _ (Ne.symm n_h0_la)]; exact hz_la
  have hM : Mw6 h0 = some (.inr (0, [.ref na, .ref v, .ref ro, .int 0])) := by rw [← hMw6]; exact va_up_self _ _ _
  have hfr_Mw6 : ∀ x9, x9 ≠ h0 → Mw6 x9 = Kp x9 := fun x9 z9 => by rw [← hMw6, va_up_ne _ _ z9]
  refine lv_aload_n hx hb d_Qo_init_35 rfl (lv_at hl 0 rfl) ?_
  refine lv_iconst (v := 0) hx hb d_Qo_init_36 (by decide) ?_
  refine hw_put (own := "QuantifierOut") (v := .int 0) (ty := .int) hx hb hts i_Qo ft_Qo tk_Qo n_Qo hown hW hS hM rfl 3 (by decide) (hts _ tw_100) (fun _ h9 => h9) rfl (tk_Qo 3 (by decide)) rfl rfl (Nat.le_of_ble_eq_true rfl) d_Qo_init_37 (fun H locs hW hS => ?_)
  have hW : hw_W D qcl (qty cI cJ cZ cN) _ (va_up Mw6 h0 (some (.inr (0, [.ref na, .ref v, .ref ro, .int 0])))) s H := hW
  generalize hMw7 : va_up Mw6 h0 (some (.inr (0, [.ref na, .ref v, .ref ro, .int 0]))) = Mw7 at hW
  have hy_na : Mw7 na = some (.inl (cN, 60, .inr (.inr (.inr (.inr (fun _ => none)))))) := by rw [← hMw7, va_up_ne _ _ (Ne.symm n_h0_na)]; exact hy_na
  have hv1 : Mw7 v = some (.inr (7, [.ref va, .ref vb, .ref om, .ref im])) := by rw [← hMw7, va_up_ne _ _ (Ne.symm n_h0_v)]; exact hv1
  have hv2 : Mw7 va = some (.inl (cJ, 2, .inr (.inl (fun _ => 0)))) := by rw [← hMw7, va_up_ne _ _ (Ne.symm n_h0_va)]; exact hv2
  have hv3 : Mw7 vb = some (.inl (cJ, 2, .inr (.inl (fun i => if i < 2 then 1 else 0)))) := by rw [← hMw7, va_up_ne _ _ (Ne.symm n_h0_vb)]; exact hv3
  have ho1 : Mw7 om = some (.inr (2, [.ref oa, .ref ob, .int (nI no)])) := by rw [← hMw7, va_up_ne _ _ (Ne.symm n_h0_om)]; exact ho1
  have ho2 : Mw7 oa = some (.inl (cJ, 21, .inr (.inl fo))) := by rw [← hMw7, va_up_ne _ _ (Ne.symm n_h0_oa)]; exact ho2
  have ho3 : Mw7 ob = some (.inl (cJ, 21, .inr (.inl go))) := by rw [← hMw7, va_up_ne _ _ (Ne.symm n_h0_ob)]; exact ho3
  have hi1 : Mw7 im = some (.inr (2, [.ref ia, .ref ib, .int (nI ni)])) := by rw [← hMw7, va_up_ne _ _ (Ne.symm n_h0_im)]; exact hi1
  have hi2 : Mw7 ia = some (.inl (cJ, 21, .inr (.inl fi))) := by rw [← hMw7, va_up_ne _ _ (Ne.symm n_h0_ia)]; exact hi2
  have hi3 : Mw7 ib = some (.inl (cJ, 21, .inr (.inl gi))) := by rw [← hMw7, va_up_ne _ _ (Ne.symm n_h0_ib)]; exact hi3
  have hp1 : Mw7 ro = some (.inr (5, [.ref mk, .ref fa, .ref la, .int (nI 0), va_rf none])) := by rw [← hMw7, va_up_ne _ _ (Ne.symm n_h0_ro)]; exact hp1
  have hz_mk : Mw7 mk = some (.inr (2, [.ref ka, .ref kb, .int (nI 0)])) := by rw [← hMw7, va_up_ne _ _ (Ne.symm n_h0_mk)]; exact hz_mk
  have hz_ka : Mw7 ka = some (.inl (cJ, 21, .inr (.inl (fun _ => 0)))) := by rw [← hMw7, va_up_ne _ _ (Ne.symm n_h0_ka)]; exact hz_ka
  have hz_kb : Mw7 kb = some (.inl (cJ, 21, .inr (.inl (fun _ => 0)))) := by rw [← hMw7, va_up_ne _ _ (Ne.symm n_h0_kb)]; exact hz_kb
  have hz_fa : Mw7 fa = some (.inl (cI, 22, .inl (fun _ => 0))) := by rw [← hMw7, va_up_ne _ _ (Ne.symm n_h0_fa)]; exact hz_fa
  have hz_la : Mw7 la = some (.inl (cI, 22, .inl (fun _ => 0))) := by rw [← hMw7, va_up_ne _ _ (Ne.symm n_h0_la)]; exact hz_la
  have hM : Mw7 h0 = some (.inr (0, [.ref na, .ref v, .ref ro, .int 0])) := by rw [← hMw7]; exact va_up_self _ _ _
  have hfr_Mw7 : ∀ x9, x9 ≠ h0 → Mw7 x9 = Mw6 x9 := fun x9 z9 => by rw [← hMw7, va_up_ne _ _ z9]
  have hqf : (fun _ => none) = qo_f 0 (fun _ => 0) := by funext i; unfold qo_f; rw [if_neg (Nat.not_lt_zero i)]
  have hf9 : ∀ x, M x ≠ none → x ≠ h0 → Mw7 x = M x := fun x z1 z2 => (((hfr_Mw7 x z2)).trans (hfr_Mw6 x z2)).trans (hKp x z1 z2)
  refine hw_retv hx hb hr hlocks hW hS ⟨⟨na, v, va, vb, om, oa, ob, im, ia, ib, ro, mk, ka, kb, fa, la, ⟨hM, by rw [← hqf]; exact hy_na, by omega⟩, fun i hi => absurd hi (Nat.not_lt_zero i), (fun a q h => by cases h), ⟨_, _, ⟨hv1, hv2, hv3⟩, ⟨no, fo, go, ho1, ho2, ho3⟩, ⟨ni, fi, gi, hi1, hi2, hi3⟩⟩, hD, ⟨none, 0, _, _, 0, _, _, ⟨hp1, ⟨hz_mk, hz_ka, hz_kb⟩, hz_fa, hz_la⟩, (fun a h => by cases h)⟩, ⟨hkk, n_va_ka, n_va_kb, n_vb_ka, n_vb_kb, n_oa_ka, n_oa_kb, n_ob_ka, n_ob_kb, n_ia_ka, n_ia_kb, n_ib_ka, n_ib_kb, n_om_mk, n_im_mk, hff⟩, (fun a q la2 gr ex ci h => by cases h), (fun z h => by rw [hf9 z (hZ9 z h).1 (hZ9 z h).2]; exact (hZ9 z h).1), ?_, (fun a q h => by cases h)⟩, hf9⟩ d_Qo_init_40
  intro x hx9 hz9
  simp only [qo_L, List.mem_cons, List.not_mem_nil, or_false] at hx9
  rcases hx9 with rfl | rfl | rfl | rfl | rfl | rfl | rfl | rfl | rfl | rfl | rfl | rfl | rfl | rfl | rfl | rfl | rfl
  · exact (hZ9 _ hz9).2 rfl
  · exact (hZ9 _ hz9).1 z_na
  · exact (hZ9 _ hz9).1 z_v
  · exact (hZ9 _ hz9).1 z_va
  · exact (hZ9 _ hz9).1 z_vb
  · exact (hZ9 _ hz9).1 z_om
  · exact (hZ9 _ hz9).1 z_oa
  · exact (hZ9 _ hz9).1 z_ob
  · exact (hZ9 _ hz9).1 z_im
  · exact (hZ9 _ hz9).1 z_ia
  · exact (hZ9 _ hz9).1 z_ib
  · exact (hZ9 _ hz9).1 z_ro
  · exact (hZ9 _ hz9).1 z_mk
  · exact (hZ9 _ hz9).1 z_ka
  · exact (hZ9 _ hz9).1 z_kb
  · exact (hZ9 _ hz9).1 z_fa
  · exact (hZ9 _ hz9).1 z_la
end G33

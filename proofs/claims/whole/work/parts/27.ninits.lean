/-! Constructors of nodes; opposite -/
theorem nd_or (a b c d : Bool) : nd_fr a b ||| nd_fr c d = nd_fr (a || c) (b || d) := by cases a <;> cases b <;> cases c <;> cases d <;> decide
theorem nd_cut0 (a b : Bool) : nd_fr a b &&& (((1 : Int32) <<< (nI 0 &&& 31)) ^^^ (-1)) = nd_fr false b := by cases a <;> cases b <;> decide
theorem nd_cut1 (a b : Bool) : nd_fr a b &&& (((1 : Int32) <<< (nI 1 &&& 31)) ^^^ (-1)) = nd_fr a false := by cases a <;> cases b <;> decide
theorem nb_n (kk : Bool) : narrow .boolean (.int (if kk = true then 1 else 0)) = .int (if kk = true then 1 else 0) := by cases kk <;> rfl
theorem nb_f (kk : Bool) : fits .boolean (.int (if kk = true then 1 else 0)) = true := by cases kk <;> rfl
section G27
variable (l : Launch) (D : va_G) (cI cJ cZ cN : ClassId)
set_option maxHeartbeats 4000000 in
set_option maxRecDepth 100000 in
theorem c_At_init (h0 sz : Nat) (ca cb cc op : Int32) (M : Nat → Option va_E) (hM : M h0 = some (.inr (1, [.int 0, .int 0, .null, .int 0, .int 0, .int 0, .int 0, .int 0]))) : Met l y_At_init (.code y_At_init b_At_init 5 none :: ww) ({ frames := 2, cells := 1, slots := 3, locals := 60 }) (hw_Pc D qcl (qty cI cJ cZ cN) [.ref h0, .int ca, .int cb, .int cc, .int op] M sz) (va_Qv (fun M1 => ∃ la : Nat, M la = none ∧ M1 h0 = some (.inr (1, [.int 3, .int 0, .ref la, .int (-1), .int ca, .int cb, .int cc, .int op])) ∧ M1 la = some (.inl (cI, 3, .inl (upd (upd (upd (fun _ => 0) 0 ca) 1 cb) 2 cc))) ∧ ∀ x, x ≠ h0 → x ≠ la → M1 x = M x) (hw_B D qcl (qty cI cJ cZ cN) M sz) (hw_A M sz)) 1 3 (hw_A M sz) := by
  refine hw_met (by decide) (Nat.le_of_ble_eq_true rfl) ?_
  intro p e s m below meth c hx hb hr hml hown hlocks hnm hts hsz hX hW ls hl
  subst hsz
  have hA : ∀ q, s.heap.size ≤ q → hw_A M s.heap.size q := fun q h => Or.inr h
  have hS : va_S (hw_A M s.heap.size) s.heap s.heap [] := va_S.rf
  have hl : lv_has ls 5 [(0, .ref h0), (1, .int ca), (2, .int cb), (3, .int cc), (4, .int op)] := hl
  have hown : s.vm.findClass "QuantifierOut$Atom" = some m.cls := hown
  have hmono : ∀ x9, M x9 = none → M x9 = none := fun _ z9 => z9
  refine lv_aload_n hx hb d_At_init_0 rfl (lv_at hl 0 rfl) ?_
  refine lv_iconst (v := 3) hx hb d_At_init_1 (by decide) ?_
  refine lv_iconst (v := 0) hx hb d_At_init_2 (by decide) ?_
  refine lv_iconst (v := 3) hx hb d_At_init_3 (by decide) ?_
  refine hw_newi (N' := 3) hx hb (hts _ tw_96) hW hS hA 0 rfl (by decide) (by decide) (by decide) (Nat.le_of_ble_eq_true rfl) (Nat.le_of_ble_eq_true rfl) d_At_init_4 (fun la H hq_la hW hS => ?_)
  have hW : hw_W D qcl (qty cI cJ cZ cN) _ (va_up M la (some (.inl (cI, 3, .inl (fun _ => 0))))) s H := hW
  have n_h0_la : h0 ≠ la := hw_nq hM hq_la
  generalize hMw1 : va_up M la (some (.inl (cI, 3, .inl (fun _ => 0)))) = Mw1 at hW
  have hM : Mw1 h0 = some (.inr (1, [.int 0, .int 0, .null, .int 0, .int 0, .int 0, .int 0, .int 0])) := by rw [← hMw1, va_up_ne _ _ n_h0_la]; exact hM
  have hy_la : Mw1 la = some (.inl (cI, 3, .inl (fun _ => 0))) := by rw [← hMw1]; exact va_up_self _ _ _
  have z_la : M la = none := hmono la hq_la
  have hmono : ∀ x9, Mw1 x9 = none → M x9 = none := fun x9 z9 => hmono x9 (va_up_none (by rw [hMw1]; exact z9))
  have hfr_Mw1 : ∀ x9, x9 ≠ la → Mw1 x9 = M x9 := fun x9 z9 => by rw [← hMw1, va_up_ne _ _ z9]
  refine lv_dup hx hb d_At_init_6 rfl ?_
  refine lv_iconst (v := 0) hx hb d_At_init_7 (by decide) ?_
  refine lv_iload_n hx hb d_At_init_8 rfl (lv_at hl 1 rfl) ?_
  refine hw_ist hx hb hW hS 0 hy_la rfl 0 rfl (by omega) (by decide) d_At_init_9 (fun H locs hW hS => ?_)
  have hW : hw_W D qcl (qty cI cJ cZ cN) _ (va_up Mw1 la (some (.inl (cI, 3, .inl (upd (fun _ => 0) 0 ca))))) s H := hW
  generalize hMw2 : va_up Mw1 la (some (.inl (cI, 3, .inl (upd (fun _ => 0) 0 ca)))) = Mw2 at hW
  have hM : Mw2 h0 = some (.inr (1, [.int 0, .int 0, .null, .int 0, .int 0, .int 0, .int 0, .int 0])) := by rw [← hMw2, va_up_ne _ _ n_h0_la]; exact hM
  have hy_la : Mw2 la = some (.inl (cI, 3, .inl (upd (fun _ => 0) 0 ca))) := by rw [← hMw2]; exact va_up_self _ _ _
  have hmono : ∀ x9, Mw2 x9 = none → M x9 = none := fun x9 z9 => hmono x9 (va_up_none (by rw [hMw2]; exact z9))
  have hfr_Mw2 : ∀ x9, x9 ≠ la → Mw2 x9 = Mw1 x9 := fun x9 z9 => by rw [← hMw2, va_up_ne _ _ z9]
  refine lv_dup hx hb d_At_init_10 rfl ?_
  refine lv_iconst (v := 1) hx hb d_At_init_11 (by decide) ?_
  refine lv_iload_n hx hb d_At_init_12 rfl (lv_at hl 2 rfl) ?_
  refine hw_ist hx hb hW hS 0 hy_la rfl 1 rfl (by omega) (by decide) d_At_init_13 (fun H locs hW hS => ?_)
  have hW : hw_W D qcl (qty cI cJ cZ cN) _ (va_up Mw2 la (some (.inl (cI, 3, .inl (upd (upd (fun _ => 0) 0 ca) 1 cb))))) s H := hW
  generalize hMw3 : va_up Mw2 la (some (.inl (cI, 3, .inl (upd (upd (fun _ => 0) 0 ca) 1 cb)))) = Mw3 at hW
  have hM : Mw3 h0 = some (.inr (1, [.int 0, .int 0, .null, .int 0, .int 0, .int 0, .int 0, .int 0])) := by rw [← hMw3, va_up_ne _ _ n_h0_la]; exact hM
  have hy_la : Mw3 la = some (.inl (cI, 3, .inl (upd (upd (fun _ => 0) 0 ca) 1 cb))) := by rw [← hMw3]; exact va_up_self _ _ _
  have hmono : ∀ x9, Mw3 x9 = none → M x9 = none := fun x9 z9 => hmono x9 (va_up_none (by rw [hMw3]; exact z9))
  have hfr_Mw3 : ∀ x9, x9 ≠ la → Mw3 x9 = Mw2 x9 := fun x9 z9 => by rw [← hMw3, va_up_ne _ _ z9]
  refine lv_dup hx hb d_At_init_14 rfl ?_
  refine lv_iconst (v := 2) hx hb d_At_init_15 (by decide) ?_
  refine lv_iload_n hx hb d_At_init_16 rfl (lv_at hl 3 rfl) ?_
  refine hw_ist hx hb hW hS 0 hy_la rfl 2 rfl (by omega) (by decide) d_At_init_17 (fun H locs hW hS => ?_)
  have hW : hw_W D qcl (qty cI cJ cZ cN) _ (va_up Mw3 la (some (.inl (cI, 3, .inl (upd (upd (upd (fun _ => 0) 0 ca) 1 cb) 2 cc))))) s H := hW
  generalize hMw4 : va_up Mw3 la (some (.inl (cI, 3, .inl (upd (upd (upd (fun _ => 0) 0 ca) 1 cb) 2 cc)))) = Mw4 at hW
  have hM : Mw4 h0 = some (.inr (1, [.int 0, .int 0, .null, .int 0, .int 0, .int 0, .int 0, .int 0])) := by rw [← hMw4, va_up_ne _ _ n_h0_la]; exact hM
  have hy_la : Mw4 la = some (.inl (cI, 3, .inl (upd (upd (upd (fun _ => 0) 0 ca) 1 cb) 2 cc))) := by rw [← hMw4]; exact va_up_self _ _ _
  have hmono : ∀ x9, Mw4 x9 = none → M x9 = none := fun x9 z9 => hmono x9 (va_up_none (by rw [hMw4]; exact z9))
  have hfr_Mw4 : ∀ x9, x9 ≠ la → Mw4 x9 = Mw3 x9 := fun x9 z9 => by rw [← hMw4, va_up_ne _ _ z9]
  refine hw_callv (hw_runI (n := 3) (own := "QuantifierOut$Atom") (As := [.int 3, .int 0, .ref la]) (rest := []) hx hb hml hown hts hX hW hl.1 (c_Nd_init l D cI cJ cZ cN h0 1 la _ 3 0 [.int 0, .int 0, .int 0, .int 0] Mw4 (Or.inl rfl) hM) tw_220 tw_221 tw_11 tw_222 rfl (by decide +kernel) rfl rfl ⟨by decide, by decide⟩ rfl rfl (Nat.le_of_ble_eq_true rfl) d_At_init_18 ⟨by decide, by decide⟩) hW hS hA (fun Ms H locs hps hz hW hS => ?_)
  have hM : Ms h0 = some (.inr (1, [.int 3, .int 0, .ref la, .int (-1), .int 0, .int 0, .int 0, .int 0])) := by rw [hps]; exact va_up_self _ _ _
  have hla : Ms la = some (.inl (cI, 3, .inl (upd (upd (upd (fun _ => 0) 0 ca) 1 cb) 2 cc))) := by rw [hps, va_up_ne _ _ (Ne.symm n_h0_la)]; exact hy_la
  have hfs : ∀ x, x ≠ h0 → x ≠ la → Ms x = M x := fun x z1 z2 => by rw [hps, va_up_ne _ _ z1]; exact ((((hfr_Mw4 x z2)).trans (hfr_Mw3 x z2)).trans (hfr_Mw2 x z2)).trans (hfr_Mw1 x z2)
  refine lv_aload_n hx hb d_At_init_21 rfl (lv_at hl 0 rfl) ?_
  refine lv_iload_n hx hb d_At_init_22 rfl (lv_at hl 1 rfl) ?_
  refine hw_putF (own := "QuantifierOut$Atom") (v := .int ca) (ty := .int) hx hb hts i_At ft_At tk_At n_At hown hW hS hM rfl 4 (by decide) (hts _ tw_224) (fun _ h9 => h9) rfl hnm rfl (tk_At 4 (by decide)) rfl rfl (Nat.le_of_ble_eq_true rfl) d_At_init_23 (fun H locs hW hS => ?_)
  have hW : hw_W D qcl (qty cI cJ cZ cN) _ (va_up Ms h0 (some (.inr (1, [.int 3, .int 0, .ref la, .int (-1), .int ca, .int 0, .int 0, .int 0])))) s H := hW
  generalize hMw5 : va_up Ms h0 (some (.inr (1, [.int 3, .int 0, .ref la, .int (-1), .int ca, .int 0, .int 0, .int 0]))) = Mw5 at hW
  have hla : Mw5 la = some (.inl (cI, 3, .inl (upd (upd (upd (fun _ => 0) 0 ca) 1 cb) 2 cc))) := by rw [← hMw5, va_up_ne _ _ (Ne.symm n_h0_la)]; exact hla
  have hM : Mw5 h0 = some (.inr (1, [.int 3, .int 0, .ref la, .int (-1), .int ca, .int 0, .int 0, .int 0])) := by rw [← hMw5]; exact va_up_self _ _ _
  have hfr_Mw5 : ∀ x9, x9 ≠ h0 → Mw5 x9 = Ms x9 := fun x9 z9 => by rw [← hMw5, va_up_ne _ _ z9]
  refine lv_aload_n hx hb d_At_init_26 rfl (lv_at hl 0 rfl) ?_
  refine lv_iload_n hx hb d_At_init_27 rfl (lv_at hl 2 rfl) ?_
  refine hw_putF (own := "QuantifierOut$Atom") (v := .int cb) (ty := .int) hx hb hts i_At ft_At tk_At n_At hown hW hS hM rfl 5 (by decide) (hts _ tw_225) (fun _ h9 => h9) rfl hnm rfl (tk_At 5 (by decide)) rfl rfl (Nat.le_of_ble_eq_true rfl) d_At_init_28 (fun H locs hW hS => ?_)
  have hW : hw_W D qcl (qty cI cJ cZ cN) _ (va_up Mw5 h0 (some (.inr (1, [.int 3, .int 0, .ref la, .int (-1), .int ca, .int cb, .int 0, .int 0])))) s H := hW
  generalize hMw6 : va_up Mw5 h0 (some (.inr (1, [.int 3, .int 0, .ref la, .int (-1), .int ca, .int cb, .int 0, .int 0]))) = Mw6 at hW
  have hla : Mw6 la = some (.inl (cI, 3, .inl (upd (upd (upd (fun _ => 0) 0 ca) 1 cb) 2 cc))) := by rw [← hMw6, va_up_ne _ _ (Ne.symm n_h0_la)]; exact hla
  have hM : Mw6 h0 = some (.inr (1, [.int 3, .int 0, .ref la, .int (-1), .int ca, .int cb, .int 0, .int 0])) := by rw [← hMw6]; exact va_up_self _ _ _
  have hfr_Mw6 : ∀ x9, x9 ≠ h0 → Mw6 x9 = Mw5 x9 := fun x9 z9 => by rw [← hMw6, va_up_ne _ _ z9]
  refine lv_aload_n hx hb d_At_init_31 rfl (lv_at hl 0 rfl) ?_
  refine lv_iload_n hx hb d_At_init_32 rfl (lv_at hl 3 rfl) ?_
  refine hw_putF (own := "QuantifierOut$Atom") (v := .int cc) (ty := .int) hx hb hts i_At ft_At tk_At n_At hown hW hS hM rfl 6 (by decide) (hts _ tw_226) (fun _ h9 => h9) rfl hnm rfl (tk_At 6 (by decide)) rfl rfl (Nat.le_of_ble_eq_true rfl) d_At_init_33 (fun H locs hW hS => ?_)
  have hW : hw_W D qcl (qty cI cJ cZ cN) _ (va_up Mw6 h0 (some (.inr (1, [.int 3, .int 0, .ref la, .int (-1), .int ca, .int cb, .int cc, .int 0])))) s H := hW
  generalize hMw7 : va_up Mw6 h0 (some (.inr (1, [.int 3, .int 0, .ref la, .int (-1), .int ca, .int cb, .int cc, .int 0]))) = Mw7 at hW
  have hla : Mw7 la = some (.inl (cI, 3, .inl (upd (upd (upd (fun _ => 0) 0 ca) 1 cb) 2 cc))) := by rw [← hMw7, va_up_ne _ _ (Ne.symm n_h0_la)]; exact hla
  have hM : Mw7 h0 = some (.inr (1, [.int 3, .int 0, .ref la, .int (-1), .int ca, .int cb, .int cc, .int 0])) := by rw [← hMw7]; exact va_up_self _ _ _
  have hfr_Mw7 : ∀ x9, x9 ≠ h0 → Mw7 x9 = Mw6 x9 := fun x9 z9 => by rw [← hMw7, va_up_ne _ _ z9]
  refine lv_aload_n hx hb d_At_init_36 rfl (lv_at hl 0 rfl) ?_
  refine lv_iload hx hb d_At_init_37 (lv_at hl 4 rfl) ?_
  refine hw_putF (own := "QuantifierOut$Atom") (v := .int op) (ty := .int) hx hb hts i_At ft_At tk_At n_At hown hW hS hM rfl 7 (by decide) (hts _ tw_227) (fun _ h9 => h9) rfl hnm rfl (tk_At 7 (by decide)) rfl rfl (Nat.le_of_ble_eq_true rfl) d_At_init_39 (fun H locs hW hS => ?_)
  have hW : hw_W D qcl (qty cI cJ cZ cN) _ (va_up Mw7 h0 (some (.inr (1, [.int 3, .int 0, .ref la, .int (-1), .int ca, .int cb, .int cc, .int op])))) s H := hW
  generalize hMw8 : va_up Mw7 h0 (some (.inr (1, [.int 3, .int 0, .ref la, .int (-1), .int ca, .int cb, .int cc, .int op]))) = Mw8 at hW
  have hla : Mw8 la = some (.inl (cI, 3, .inl (upd (upd (upd (fun _ => 0) 0 ca) 1 cb) 2 cc))) := by rw [← hMw8, va_up_ne _ _ (Ne.symm n_h0_la)]; exact hla
  have hM : Mw8 h0 = some (.inr (1, [.int 3, .int 0, .ref la, .int (-1), .int ca, .int cb, .int cc, .int op])) := by rw [← hMw8]; exact va_up_self _ _ _
  have hfr_Mw8 : ∀ x9, x9 ≠ h0 → Mw8 x9 = Mw7 x9 := fun x9 z9 => by rw [← hMw8, va_up_ne _ _ z9]
  refine hw_retv hx hb hr hlocks hW hS ⟨la, z_la, hM, hla, fun x z1 z2 => ?_⟩ d_At_init_42
  exact (((((hfr_Mw8 x z1)).trans (hfr_Mw7 x z1)).trans (hfr_Mw6 x z1)).trans (hfr_Mw5 x z1)).trans (hfs x z1 z2)
set_option maxHeartbeats 4000000 in
set_option maxRecDepth 100000 in
theorem c_Ng_init (h0 sz : Nat) (b ci lb : Nat) (fr dp gr : Int32) (ex : List Value) (M : Nat → Option va_E) (hM : M h0 = some (.inr (3, [.int 0, .int 0, .null, .int 0, .null]))) (hb9 : nd_c M b ci fr dp lb gr ex) : Met l y_Ng_init (.code y_Ng_init b_Ng_init 2 none :: ww) ({ frames := 2, cells := 0, slots := 0, locals := 60 }) (hw_Pc D qcl (qty cI cJ cZ cN) [.ref h0, .ref b] M sz) (va_Qv (fun M1 => M1 h0 = some (.inr (3, [.int fr, .int dp, .ref lb, .int (-1), .ref b])) ∧ ∀ x, x ≠ h0 → M1 x = M x) (hw_B D qcl (qty cI cJ cZ cN) M sz) (hw_A M sz)) 0 0 (hw_A M sz) := by
  refine hw_met (by decide) (Nat.le_of_ble_eq_true rfl) ?_
  intro p e s m below meth c hx hb hr hml hown hlocks hnm hts hsz hX hW ls hl
  subst hsz
  have hA : ∀ q, s.heap.size ≤ q → hw_A M s.heap.size q := fun q h => Or.inr h
  have hS : va_S (hw_A M s.heap.size) s.heap s.heap [] := va_S.rf
  have hl : lv_has ls 2 [(0, .ref h0), (1, .ref b)] := hl
  have hown : s.vm.findClass "QuantifierOut$Negation" = some m.cls := hown
  refine lv_aload_n hx hb d_Ng_init_0 rfl (lv_at hl 0 rfl) ?_
  refine lv_aload_n hx hb d_Ng_init_1 rfl (lv_at hl 1 rfl) ?_
  refine nd_get0 (own := "QuantifierOut$Negation") hx hb hts hown hW hb9 tw_229 d_Ng_init_2 ?_
  refine lv_aload_n hx hb d_Ng_init_5 rfl (lv_at hl 1 rfl) ?_
  refine nd_get1 (own := "QuantifierOut$Negation") hx hb hts hown hW hb9 tw_233 d_Ng_init_6 ?_
  refine lv_aload_n hx hb d_Ng_init_9 rfl (lv_at hl 1 rfl) ?_
  refine nd_get2 (own := "QuantifierOut$Negation") hx hb hts hown hW hb9 tw_241 d_Ng_init_10 ?_
  refine hw_callv (hw_runI (n := 3) (own := "QuantifierOut$Negation") (As := [.int fr, .int dp, .ref lb]) (rest := []) hx hb hml hown hts hX hW hl.1 (c_Nd_init l D cI cJ cZ cN h0 3 lb _ fr dp [.null] M (Or.inr (Or.inl rfl)) hM) tw_367 tw_221 tw_11 tw_222 rfl (by decide +kernel) rfl rfl ⟨by decide, by decide⟩ rfl rfl (Nat.le_of_ble_eq_true rfl) d_Ng_init_13 ⟨by decide, by decide⟩) hW hS hA (fun Ms H locs hps hz hW hS => ?_)
  have hM : Ms h0 = some (.inr (3, [.int fr, .int dp, .ref lb, .int (-1), .null])) := by rw [hps]; exact va_up_self _ _ _
  refine lv_aload_n hx hb d_Ng_init_16 rfl (lv_at hl 0 rfl) ?_
  refine lv_aload_n hx hb d_Ng_init_17 rfl (lv_at hl 1 rfl) ?_
  refine hw_putF (own := "QuantifierOut$Negation") (v := .ref b) (ty := .object "QuantifierOut$Node") hx hb hts i_Ng ft_Ng tk_Ng n_Ng hown hW hS hM rfl 4 (by decide) (hts _ tw_368) (fun _ h9 => h9) rfl hnm rfl (tk_Ng 4 (by decide)) rfl rfl (Nat.le_of_ble_eq_true rfl) d_Ng_init_18 (fun H locs hW hS => ?_)
  have hW : hw_W D qcl (qty cI cJ cZ cN) _ (va_up Ms h0 (some (.inr (3, [.int fr, .int dp, .ref lb, .int (-1), .ref b])))) s H := hW
  generalize hMw1 : va_up Ms h0 (some (.inr (3, [.int fr, .int dp, .ref lb, .int (-1), .ref b]))) = Mw1 at hW
  have hM : Mw1 h0 = some (.inr (3, [.int fr, .int dp, .ref lb, .int (-1), .ref b])) := by rw [← hMw1]; exact va_up_self _ _ _
  have hfr_Mw1 : ∀ x9, x9 ≠ h0 → Mw1 x9 = Ms x9 := fun x9 z9 => by rw [← hMw1, va_up_ne _ _ z9]
  refine hw_retv hx hb hr hlocks hW hS ⟨hM, fun x z1 => ?_⟩ d_Ng_init_21
  exact ((hfr_Mw1 x z1)).trans (by rw [hps]; exact va_up_ne _ _ z1)
set_option maxHeartbeats 4000000 in
set_option maxRecDepth 100000 in
theorem c_Pr_join (l1 l2 n1 n2 sz : Nat) (F1 F2 : Nat → Int32) (M : Nat → Option va_E) (h1 : M l1 = some (.inl (cI, n1, .inl F1))) (h2 : M l2 = some (.inl (cI, n2, .inl F2))) (hn : n1 + n2 ≤ 18) : Met l y_Pr_join (.code y_Pr_join b_Pr_join 3 (some (.array .int)) :: ww) ({ frames := 1, cells := 1, slots := 18, locals := 60 }) (hw_Pc D qcl (qty cI cJ cZ cN) [.ref l1, .ref l2] M sz) (va_Qq (fun r M1 => ∃ (q : Nat) (F : Nat → Int32), r = some q ∧ M q = none ∧ M1 = va_up M q (some (.inl (cI, n1 + n2, .inl F))) ∧ (∀ i, i < n1 → F i = F1 i) ∧ ∀ i, i < n2 → F (n1 + i) = F2 i) (hw_B D qcl (qty cI cJ cZ cN) M sz) (hw_A M sz)) 1 18 (hw_A M sz) := by
  refine hw_met (by decide) (Nat.le_of_ble_eq_true rfl) ?_
  intro p e s m below meth c hx hb hr hml hown hlocks hnm hts hsz hX hW ls hl
  subst hsz
  have hA : ∀ q, s.heap.size ≤ q → hw_A M s.heap.size q := fun q h => Or.inr h
  have hS : va_S (hw_A M s.heap.size) s.heap s.heap [] := va_S.rf
  have hl : lv_has ls 3 [(0, .ref l1), (1, .ref l2)] := hl
  have hown : s.vm.findClass "QuantifierOut$Pair" = some m.cls := hown
  have hmono : ∀ x9, M x9 = none → M x9 = none := fun _ z9 => z9
  refine lv_aload_n hx hb d_Pr_join_0 rfl (lv_at hl 0 rfl) ?_
  refine hw_alen (v := (nI n1)) hx hb hW 0 h1 rfl (by rfl) d_Pr_join_1 ?_
  refine lv_aload_n hx hb d_Pr_join_2 rfl (lv_at hl 1 rfl) ?_
  refine hw_alen (v := (nI n2)) hx hb hW 0 h2 rfl (by rfl) d_Pr_join_3 ?_
  refine lv_iadd hx hb d_Pr_join_4 ?_
  refine lv_topi (fun x1 ex1 => ?_)
  have elen : x1 = nI (n1 + n2) := by rw [ex1]; exact nI_add n1 n2
  refine hw_newi (N' := (n1 + n2)) hx hb (hts _ tw_96) hW hS hA 0 rfl (by rw [elen]; exact nI_pos (by omega)) (by rw [elen]; exact nI_clamp (by omega)) (by omega) (Nat.le_of_ble_eq_true rfl) (by show 0 + (n1 + n2) ≤ 18; omega) d_Pr_join_5 (fun qj H hq_qj hW hS => ?_)
  have hW : hw_W D qcl (qty cI cJ cZ cN) _ (va_up M qj (some (.inl (cI, (n1 + n2), .inl (fun _ => 0))))) s H := hW
  have n_l1_qj : l1 ≠ qj := hw_nq h1 hq_qj
  have n_l2_qj : l2 ≠ qj := hw_nq h2 hq_qj
  generalize hMw2 : va_up M qj (some (.inl (cI, (n1 + n2), .inl (fun _ => 0)))) = Mw2 at hW
  have h1 : Mw2 l1 = some (.inl (cI, n1, .inl F1)) := by rw [← hMw2, va_up_ne _ _ n_l1_qj]; exact h1
  have h2 : Mw2 l2 = some (.inl (cI, n2, .inl F2)) := by rw [← hMw2, va_up_ne _ _ n_l2_qj]; exact h2
  have hy_qj : Mw2 qj = some (.inl (cI, (n1 + n2), .inl (fun _ => 0))) := by rw [← hMw2]; exact va_up_self _ _ _
  have z_qj : M qj = none := hmono qj hq_qj
  have hmono : ∀ x9, Mw2 x9 = none → M x9 = none := fun x9 z9 => hmono x9 (va_up_none (by rw [hMw2]; exact z9))
  have hfr_Mw2 : ∀ x9, x9 ≠ qj → Mw2 x9 = M x9 := fun x9 z9 => by rw [← hMw2, va_up_ne _ _ z9]
  refine W.widen (k := 1) (n := 18) (Nat.le_refl 1) (by omega) ?_
  refine lv_astore_n (lv' := [(2, .ref qj), (0, .ref l1), (1, .ref l2)]) hx hb d_Pr_join_7 rfl hl (by decide) rfl (fun ls hl => ?_)
  refine lv_aload_n hx hb d_Pr_join_8 rfl (lv_at hl 1 rfl) ?_
  refine lv_iconst (v := 0) hx hb d_Pr_join_9 (by decide) ?_
  refine lv_aload_n hx hb d_Pr_join_10 rfl (lv_at hl 0 rfl) ?_
  refine lv_iconst (v := 0) hx hb d_Pr_join_11 (by decide) ?_
  refine lv_aload_n hx hb d_Pr_join_12 rfl (lv_at hl 1 rfl) ?_
  refine hw_alen (v := (nI n1)) hx hb hW 0 h1 rfl (by rfl) d_Pr_join_13 ?_
  refine hw_cpi (own := "QuantifierOut$Pair") hx hb (by rw [hml]; exact hl.1.symm) hown hts tw_320 tw_322 tw_321 tw_16 hW hS 0 h1 hy_qj rfl 0 0 n1 rfl rfl rfl (by omega) (by omega) (by omega) (by omega) (by decide) (by decide) d_Pr_join_14 (fun H locs hW hS => ?_)
  have hW : hw_W D qcl (qty cI cJ cZ cN) _ (va_up Mw2 qj (some (.inl (cI, (n1 + n2), .inl (va_cpy F1 (fun _ => 0) 0 0 n1))))) s H := hW
  generalize hMw3 : va_up Mw2 qj (some (.inl (cI, (n1 + n2), .inl (va_cpy F1 (fun _ => 0) 0 0 n1)))) = Mw3 at hW
  have h1 : Mw3 l1 = some (.inl (cI, n1, .inl F1)) := by rw [← hMw3, va_up_ne _ _ n_l1_qj]; exact h1
  have h2 : Mw3 l2 = some (.inl (cI, n2, .inl F2)) := by rw [← hMw3, va_up_ne _ _ n_l2_qj]; exact h2
  have hy_qj : Mw3 qj = some (.inl (cI, (n1 + n2), .inl (va_cpy F1 (fun _ => 0) 0 0 n1))) := by rw [← hMw3]; exact va_up_self _ _ _
  have hmono : ∀ x9, Mw3 x9 = none → M x9 = none := fun x9 z9 => hmono x9 (va_up_none (by rw [hMw3]; exact z9))
  have hfr_Mw3 : ∀ x9, x9 ≠ qj → Mw3 x9 = Mw2 x9 := fun x9 z9 => by rw [← hMw3, va_up_ne _ _ z9]
  refine lv_aload_n hx hb d_Pr_join_17 rfl (lv_at hl 2 rfl) ?_
  refine lv_iconst (v := 0) hx hb d_Pr_join_18 (by decide) ?_
  refine lv_aload_n hx hb d_Pr_join_19 rfl (lv_at hl 0 rfl) ?_
  refine lv_aload_n hx hb d_Pr_join_20 rfl (lv_at hl 1 rfl) ?_
  refine hw_alen (v := (nI n1)) hx hb hW 0 h1 rfl (by rfl) d_Pr_join_21 ?_
  refine lv_aload_n hx hb d_Pr_join_22 rfl (lv_at hl 2 rfl) ?_
  refine hw_alen (v := (nI n2)) hx hb hW 0 h2 rfl (by rfl) d_Pr_join_23 ?_
  refine hw_cpi (own := "QuantifierOut$Pair") hx hb (by rw [hml]; exact hl.1.symm) hown hts tw_320 tw_322 tw_321 tw_16 hW hS 0 h2 hy_qj rfl 0 n1 n2 rfl rfl rfl (by omega) (by omega) (by omega) (by omega) (by decide) (by decide) d_Pr_join_24 (fun H locs hW hS => ?_)
  have hW : hw_W D qcl (qty cI cJ cZ cN) _ (va_up Mw3 qj (some (.inl (cI, (n1 + n2), .inl (va_cpy F2 (va_cpy F1 (fun _ => 0) 0 0 n1) 0 n1 n2))))) s H := hW
  generalize hMw4 : va_up Mw3 qj (some (.inl (cI, (n1 + n2), .inl (va_cpy F2 (va_cpy F1 (fun _ => 0) 0 0 n1) 0 n1 n2)))) = Mw4 at hW
  have h1 : Mw4 l1 = some (.inl (cI, n1, .inl F1)) := by rw [← hMw4, va_up_ne _ _ n_l1_qj]; exact h1
  have h2 : Mw4 l2 = some (.inl (cI, n2, .inl F2)) := by rw [← hMw4, va_up_ne _ _ n_l2_qj]; exact h2
  have hy_qj : Mw4 qj = some (.inl (cI, (n1 + n2), .inl (va_cpy F2 (va_cpy F1 (fun _ => 0) 0 0 n1) 0 n1 n2))) := by rw [← hMw4]; exact va_up_self _ _ _
  have hmono : ∀ x9, Mw4 x9 = none → M x9 = none := fun x9 z9 => hmono x9 (va_up_none (by rw [hMw4]; exact z9))
  have hfr_Mw4 : ∀ x9, x9 ≠ qj → Mw4 x9 = Mw3 x9 := fun x9 z9 => by rw [← hMw4, va_up_ne _ _ z9]
  refine lv_aload_n hx hb d_Pr_join_27 rfl (lv_at hl 0 rfl) ?_
  refine hw_reta hx hb hr (Or.inr ⟨_, rfl⟩) hlocks hW hS ⟨qj, va_cpy F2 (va_cpy F1 (fun _ => 0) 0 0 n1) 0 n1 n2, rfl, z_qj, ?_, ?_, ?_⟩ d_Pr_join_28
  · rw [← hMw4, ← hMw3]; funext x9; by_cases z9 : x9 = qj; rw [z9]; simp only [va_up_self]; simp only [va_up_ne _ _ z9]; exact hfr_Mw2 x9 z9
  · intro i hi; rw [pk_cpy_out (by omega), pk_cpy_in (by omega) (by omega)]; congr 1; omega
  · intro i hi; rw [pk_cpy_in (by omega) (by omega)]; congr 1; omega
set_option maxHeartbeats 4000000 in
set_option maxRecDepth 100000 in
theorem c_Pr_init (h0 sz b1 c1 l1 b2 c2 l2 n1 n2 : Nat) (fr1 dp1 gr1 fr2 dp2 gr2 : Int32) (ex1 ex2 : List Value) (F1 F2 : Nat → Int32) (kk : Bool) (M : Nat → Option va_E) (hM : M h0 = some (.inr (4, [.int 0, .int 0, .null, .int 0, .null, .null, .int 0]))) (hb1 : nd_c M b1 c1 fr1 dp1 l1 gr1 ex1) (hb2 : nd_c M b2 c2 fr2 dp2 l2 gr2 ex2) (hl1 : M l1 = some (.inl (cI, n1, .inl F1))) (hl2 : M l2 = some (.inl (cI, n2, .inl F2))) (hn : n1 + n2 ≤ 18) : Met l y_Pr_init (.code y_Pr_init b_Pr_init 4 none :: ww) ({ frames := 2, cells := 1, slots := 18, locals := 100 }) (hw_Pc D qcl (qty cI cJ cZ cN) [.ref h0, .ref b1, .ref b2, .int (if kk = true then 1 else 0)] M sz) (va_Qv (fun M1 => ∃ (la : Nat) (F : Nat → Int32), M la = none ∧ M1 h0 = some (.inr (4, [.int (fr1 ||| fr2), .int (if dp1 < dp2 then dp2 else dp1), .ref la, .int (-1), .ref b1, .ref b2, .int (if kk = true then 1 else 0)])) ∧ M1 la = some (.inl (cI, n1 + n2, .inl F)) ∧ (∀ i, i < n1 → F i = F1 i) ∧ (∀ i, i < n2 → F (n1 + i) = F2 i) ∧ ∀ x, x ≠ h0 → x ≠ la → M1 x = M x) (hw_B D qcl (qty cI cJ cZ cN) M sz) (hw_A M sz)) 1 18 (hw_A M sz) := by
  refine hw_met (by decide) (Nat.le_of_ble_eq_true rfl) ?_
  intro p e s m below meth c hx hb hr hml hown hlocks hnm hts hsz hX hW ls hl
  subst hsz
  have hA : ∀ q, s.heap.size ≤ q → hw_A M s.heap.size q := fun q h => Or.inr h
  have hS : va_S (hw_A M s.heap.size) s.heap s.heap [] := va_S.rf
  have hl : lv_has ls 4 [(0, .ref h0), (1, .ref b1), (2, .ref b2), (3, .int (if kk = true then 1 else 0))] := hl
  have hown : s.vm.findClass "QuantifierOut$Pair" = some m.cls := hown
  refine lv_aload_n hx hb d_Pr_init_0 rfl (lv_at hl 0 rfl) ?_
  refine lv_aload_n hx hb d_Pr_init_1 rfl (lv_at hl 1 rfl) ?_
  refine nd_get0 (own := "QuantifierOut$Pair") hx hb hts hown hW hb1 tw_228 d_Pr_init_2 ?_
  refine lv_aload_n hx hb d_Pr_init_5 rfl (lv_at hl 2 rfl) ?_
  refine nd_get0 (own := "QuantifierOut$Pair") hx hb hts hown hW hb2 tw_228 d_Pr_init_6 ?_
  refine lv_ior hx hb d_Pr_init_9 ?_
  refine lv_topi (fun x1 ex1 => ?_)
  refine lv_aload_n hx hb d_Pr_init_10 rfl (lv_at hl 1 rfl) ?_
  refine nd_get1 (own := "QuantifierOut$Pair") hx hb hts hown hW hb1 tw_235 d_Pr_init_11 ?_
  refine lv_aload_n hx hb d_Pr_init_14 rfl (lv_at hl 2 rfl) ?_
  refine nd_get1 (own := "QuantifierOut$Pair") hx hb hts hown hW hb2 tw_235 d_Pr_init_15 ?_
  refine va_mmax (own := "QuantifierOut$Pair") (x := dp1) (y := dp2) hx hb (by rw [hml]; exact hl.1.symm) hown (hts _ tw_314) (hts _ tw_315) (hts _ tw_15) (hts _ tw_316) (by decide) (Nat.le_of_ble_eq_true rfl) (by decide) (by decide) d_Pr_init_18 ?_
  refine lv_aload_n hx hb d_Pr_init_21 rfl (lv_at hl 1 rfl) ?_
  refine nd_get2 (own := "QuantifierOut$Pair") hx hb hts hown hW hb1 tw_244 d_Pr_init_22 ?_
  refine lv_aload_n hx hb d_Pr_init_25 rfl (lv_at hl 2 rfl) ?_
  refine nd_get2 (own := "QuantifierOut$Pair") hx hb hts hown hW hb2 tw_244 d_Pr_init_26 ?_
  refine hw_callq (hw_runS (n := 2) (own := "QuantifierOut$Pair") (As := [.ref l1, .ref l2]) (rest := [.int (if dp1 < dp2 then dp2 else dp1), .int x1, .ref h0]) hx hb hml hown hts hX hW hl.1 (c_Pr_join l D cI cJ cZ cN l1 l2 n1 n2 _ F1 F2 M hl1 hl2 hn) tw_317 tw_318 tw_14 tw_319 (by decide +kernel) rfl rfl ⟨by decide, by decide⟩ rfl rfl (Nat.le_of_ble_eq_true rfl) d_Pr_init_29 ⟨by decide, by decide⟩) hW hS hA (fun rj Mj H locs hpj hz hW hS => ?_)
  obtain ⟨la, F, erj, hla0, eMj, hF1, hF2⟩ := hpj
  subst erj
  have hjh : h0 ≠ la := hw_nq hM hla0
  have hMj : Mj h0 = some (.inr (4, [.int 0, .int 0, .null, .int 0, .null, .null, .int 0])) := by rw [eMj, va_up_ne _ _ hjh]; exact hM
  refine hw_callv (hw_runI (n := 3) (own := "QuantifierOut$Pair") (As := [.int x1, .int (if dp1 < dp2 then dp2 else dp1), .ref la]) (rest := []) hx hb hml hown hts hX hW hl.1 (c_Nd_init l D cI cJ cZ cN h0 4 la _ x1 (if dp1 < dp2 then dp2 else dp1) [.null, .null, .int 0] Mj (Or.inr (Or.inr (Or.inl rfl))) hMj) tw_323 tw_221 tw_11 tw_222 rfl (by decide +kernel) rfl rfl ⟨by decide, by decide⟩ rfl rfl (Nat.le_of_ble_eq_true rfl) d_Pr_init_32 ⟨by decide, by decide⟩) hW hS hA (fun Ms H locs hps hz hW hS => ?_)
  have hM : Ms h0 = some (.inr (4, [.int (fr1 ||| fr2), .int (if dp1 < dp2 then dp2 else dp1), .ref la, .int (-1), .null, .null, .int 0])) := by rw [hps, ex1]; exact va_up_self _ _ _
  have hla : Ms la = some (.inl (cI, n1 + n2, .inl F)) := by rw [hps, va_up_ne _ _ (Ne.symm hjh), eMj]; exact va_up_self _ _ _
  have hfs : ∀ x, x ≠ h0 → x ≠ la → Ms x = M x := fun x z1 z2 => by rw [hps, va_up_ne _ _ z1, eMj, va_up_ne _ _ z2]
  refine lv_aload_n hx hb d_Pr_init_35 rfl (lv_at hl 0 rfl) ?_
  refine lv_aload_n hx hb d_Pr_init_36 rfl (lv_at hl 1 rfl) ?_
  refine hw_putF (own := "QuantifierOut$Pair") (v := .ref b1) (ty := .object "QuantifierOut$Node") hx hb hts i_Pr ft_Pr tk_Pr n_Pr hown hW hS hM rfl 4 (by decide) (hts _ tw_324) (fun _ h9 => h9) rfl hnm rfl (tk_Pr 4 (by decide)) rfl rfl (Nat.le_of_ble_eq_true rfl) d_Pr_init_37 (fun H locs hW hS => ?_)
  have hW : hw_W D qcl (qty cI cJ cZ cN) _ (va_up Ms h0 (some (.inr (4, [.int (fr1 ||| fr2), .int (if dp1 < dp2 then dp2 else dp1), .ref la, .int (-1), .ref b1, .null, .int 0])))) s H := hW
  generalize hMw2 : va_up Ms h0 (some (.inr (4, [.int (fr1 ||| fr2), .int (if dp1 < dp2 then dp2 else dp1), .ref la, .int (-1), .ref b1, .null, .int 0]))) = Mw2 at hW
  have n_la_h0 : la ≠ h0 := (hw_ne hla hM (by simp))
  have hla : Mw2 la = some (.inl (cI, (n1 + n2), .inl F)) := by rw [← hMw2, va_up_ne _ _ n_la_h0]; exact hla
  have hM : Mw2 h0 = some (.inr (4, [.int (fr1 ||| fr2), .int (if dp1 < dp2 then dp2 else dp1), .ref la, .int (-1), .ref b1, .null, .int 0])) := by rw [← hMw2]; exact va_up_self _ _ _
  have hfr_Mw2 : ∀ x9, x9 ≠ h0 → Mw2 x9 = Ms x9 := fun x9 z9 => by rw [← hMw2, va_up_ne _ _ z9]
  refine lv_aload_n hx hb d_Pr_init_40 rfl (lv_at hl 0 rfl) ?_
  refine lv_aload_n hx hb d_Pr_init_41 rfl (lv_at hl 2 rfl) ?_
  refine hw_putF (own := "QuantifierOut$Pair") (v := .ref b2) (ty := .object "QuantifierOut$Node") hx hb hts i_Pr ft_Pr tk_Pr n_Pr hown hW hS hM rfl 5 (by decide) (hts _ tw_325) (fun _ h9 => h9) rfl hnm rfl (tk_Pr 5 (by decide)) rfl rfl (Nat.le_of_ble_eq_true rfl) d_Pr_init_42 (fun H locs hW hS => ?_)
  have hW : hw_W D qcl (qty cI cJ cZ cN) _ (va_up Mw2 h0 (some (.inr (4, [.int (fr1 ||| fr2), .int (if dp1 < dp2 then dp2 else dp1), .ref la, .int (-1), .ref b1, .ref b2, .int 0])))) s H := hW
  generalize hMw3 : va_up Mw2 h0 (some (.inr (4, [.int (fr1 ||| fr2), .int (if dp1 < dp2 then dp2 else dp1), .ref la, .int (-1), .ref b1, .ref b2, .int 0]))) = Mw3 at hW
  have hla : Mw3 la = some (.inl (cI, (n1 + n2), .inl F)) := by rw [← hMw3, va_up_ne _ _ n_la_h0]; exact hla
  have hM : Mw3 h0 = some (.inr (4, [.int (fr1 ||| fr2), .int (if dp1 < dp2 then dp2 else dp1), .ref la, .int (-1), .ref b1, .ref b2, .int 0])) := by rw [← hMw3]; exact va_up_self _ _ _
  have hfr_Mw3 : ∀ x9, x9 ≠ h0 → Mw3 x9 = Mw2 x9 := fun x9 z9 => by rw [← hMw3, va_up_ne _ _ z9]
  refine lv_aload_n hx hb d_Pr_init_45 rfl (lv_at hl 0 rfl) ?_
  refine lv_iload_n hx hb d_Pr_init_46 rfl (lv_at hl 3 rfl) ?_
  refine hw_putF (own := "QuantifierOut$Pair") (v := .int (if kk = true then 1 else 0)) (ty := .boolean) hx hb hts i_Pr ft_Pr tk_Pr n_Pr hown hW hS hM rfl 6 (by decide) (hts _ tw_326) (fun _ h9 => h9) rfl hnm rfl (tk_Pr 6 (by decide)) (nb_n kk) (nb_f kk) (Nat.le_of_ble_eq_true rfl) d_Pr_init_47 (fun H locs hW hS => ?_)
  have hW : hw_W D qcl (qty cI cJ cZ cN) _ (va_up Mw3 h0 (some (.inr (4, [.int (fr1 ||| fr2), .int (if dp1 < dp2 then dp2 else dp1), .ref la, .int (-1), .ref b1, .ref b2, .int (if kk = true then 1 else 0)])))) s H := hW
  generalize hMw4 : va_up Mw3 h0 (some (.inr (4, [.int (fr1 ||| fr2), .int (if dp1 < dp2 then dp2 else dp1), .ref la, .int (-1), .ref b1, .ref b2, .int (if kk = true then 1 else 0)]))) = Mw4 at hW
  have hla : Mw4 la = some (.inl (cI, (n1 + n2), .inl F)) := by rw [← hMw4, va_up_ne _ _ n_la_h0]; exact hla
  have hM : Mw4 h0 = some (.inr (4, [.int (fr1 ||| fr2), .int (if dp1 < dp2 then dp2 else dp1), .ref la, .int (-1), .ref b1, .ref b2, .int (if kk = true then 1 else 0)])) := by rw [← hMw4]; exact va_up_self _ _ _
  have hfr_Mw4 : ∀ x9, x9 ≠ h0 → Mw4 x9 = Mw3 x9 := fun x9 z9 => by rw [← hMw4, va_up_ne _ _ z9]
  refine hw_retv hx hb hr hlocks hW hS ⟨la, F, hla0, hM, hla, hF1, hF2, fun x z1 z2 => ?_⟩ d_Pr_init_50
  exact ((((hfr_Mw4 x z1)).trans (hfr_Mw3 x z1)).trans (hfr_Mw2 x z1)).trans (hfs x z1 z2)
set_option maxHeartbeats 4000000 in
set_option maxRecDepth 100000 in
theorem c_Qf_init (h0 sz j : Nat) (b ci lb : Nat) (fr dp gr : Int32) (ex : List Value) (kk : Bool) (M : Nat → Option va_E) (hM : M h0 = some (.inr (6, [.int 0, .int 0, .null, .int 0, .int 0, .null, .int 0]))) (hb9 : nd_c M b ci fr dp lb gr ex) : Met l y_Qf_init (.code y_Qf_init b_Qf_init 4 none :: ww) ({ frames := 2, cells := 0, slots := 0, locals := 60 }) (hw_Pc D qcl (qty cI cJ cZ cN) [.ref h0, .int (nI j), .ref b, .int (if kk = true then 1 else 0)] M sz) (va_Qv (fun M1 => M1 h0 = some (.inr (6, [.int (fr &&& (((1 : Int32) <<< (nI j &&& 31)) ^^^ (-1))), .int (dp + 1), .ref lb, .int (-1), .int (nI j), .ref b, .int (if kk = true then 1 else 0)])) ∧ ∀ x, x ≠ h0 → M1 x = M x) (hw_B D qcl (qty cI cJ cZ cN) M sz) (hw_A M sz)) 0 0 (hw_A M sz) := by
  refine hw_met (by decide) (Nat.le_of_ble_eq_true rfl) ?_
  intro p e s m below meth c hx hb hr hml hown hlocks hnm hts hsz hX hW ls hl
  subst hsz
  have hA : ∀ q, s.heap.size ≤ q → hw_A M s.heap.size q := fun q h => Or.inr h
  have hS : va_S (hw_A M s.heap.size) s.heap s.heap [] := va_S.rf
  have hl : lv_has ls 4 [(0, .ref h0), (1, .int (nI j)), (2, .ref b), (3, .int (if kk = true then 1 else 0))] := hl
  have hown : s.vm.findClass "QuantifierOut$Quantified" = some m.cls := hown
  refine lv_aload_n hx hb d_Qf_init_0 rfl (lv_at hl 0 rfl) ?_
  refine lv_aload_n hx hb d_Qf_init_1 rfl (lv_at hl 2 rfl) ?_
  refine nd_get0 (own := "QuantifierOut$Quantified") hx hb hts hown hW hb9 tw_230 d_Qf_init_2 ?_
  refine lv_iconst (v := 1) hx hb d_Qf_init_5 (by decide) ?_
  refine lv_iload_n hx hb d_Qf_init_6 rfl (lv_at hl 1 rfl) ?_
  refine lv_ishl hx hb d_Qf_init_7 ?_
  refine lv_topi (fun x1 ex1 => ?_)
  refine lv_iconst (v := (-1)) hx hb d_Qf_init_8 (by decide) ?_
  refine lv_ixor hx hb d_Qf_init_9 ?_
  refine lv_topi (fun x2 ex2 => ?_)
  refine lv_iand hx hb d_Qf_init_10 ?_
  refine lv_topi (fun x3 ex3 => ?_)
  refine lv_aload_n hx hb d_Qf_init_11 rfl (lv_at hl 2 rfl) ?_
  refine nd_get1 (own := "QuantifierOut$Quantified") hx hb hts hown hW hb9 tw_236 d_Qf_init_12 ?_
  refine lv_iconst (v := 1) hx hb d_Qf_init_15 (by decide) ?_
  refine lv_iadd hx hb d_Qf_init_16 ?_
  refine lv_topi (fun x4 ex4 => ?_)
  refine lv_aload_n hx hb d_Qf_init_17 rfl (lv_at hl 2 rfl) ?_
  refine nd_get2 (own := "QuantifierOut$Quantified") hx hb hts hown hW hb9 tw_243 d_Qf_init_18 ?_
  refine hw_callv (hw_runI (n := 3) (own := "QuantifierOut$Quantified") (As := [.int x3, .int x4, .ref lb]) (rest := []) hx hb hml hown hts hX hW hl.1 (c_Nd_init l D cI cJ cZ cN h0 6 lb _ x3 x4 [.int 0, .null, .int 0] M (Or.inr (Or.inr (Or.inr rfl))) hM) tw_394 tw_221 tw_11 tw_222 rfl (by decide +kernel) rfl rfl ⟨by decide, by decide⟩ rfl rfl (Nat.le_of_ble_eq_true rfl) d_Qf_init_21 ⟨by decide, by decide⟩) hW hS hA (fun Ms H locs hps hz hW hS => ?_)
  have efr : x3 = fr &&& (((1 : Int32) <<< (nI j &&& 31)) ^^^ (-1)) := by rw [ex3, ex2, ex1]
  have hM : Ms h0 = some (.inr (6, [.int (fr &&& (((1 : Int32) <<< (nI j &&& 31)) ^^^ (-1))), .int (dp + 1), .ref lb, .int (-1), .int 0, .null, .int 0])) := by rw [hps, efr, ex4]; exact va_up_self _ _ _
  refine lv_aload_n hx hb d_Qf_init_24 rfl (lv_at hl 0 rfl) ?_
  refine lv_iload_n hx hb d_Qf_init_25 rfl (lv_at hl 1 rfl) ?_
  refine hw_putF (own := "QuantifierOut$Quantified") (v := .int (nI j)) (ty := .int) hx hb hts i_Qf ft_Qf tk_Qf n_Qf hown hW hS hM rfl 4 (by decide) (hts _ tw_395) (fun _ h9 => h9) rfl hnm rfl (tk_Qf 4 (by decide)) rfl rfl (Nat.le_of_ble_eq_true rfl) d_Qf_init_26 (fun H locs hW hS => ?_)
  have hW : hw_W D qcl (qty cI cJ cZ cN) _ (va_up Ms h0 (some (.inr (6, [.int (fr &&& (((1 : Int32) <<< (nI j &&& 31)) ^^^ (-1))), .int (dp + 1), .ref lb, .int (-1), .int (nI j), .null, .int 0])))) s H := hW
  generalize hMw5 : va_up Ms h0 (some (.inr (6, [.int (fr &&& (((1 : Int32) <<< (nI j &&& 31)) ^^^ (-1))), .int (dp + 1), .ref lb, .int (-1), .int (nI j), .null, .int 0]))) = Mw5 at hW
  have hM : Mw5 h0 = some (.inr (6, [.int (fr &&& (((1 : Int32) <<< (nI j &&& 31)) ^^^ (-1))), .int (dp + 1), .ref lb, .int (-1), .int (nI j), .null, .int 0])) := by rw [← hMw5]; exact va_up_self _ _ _
  have hfr_Mw5 : ∀ x9, x9 ≠ h0 → Mw5 x9 = Ms x9 := fun x9 z9 => by rw [← hMw5, va_up_ne _ _ z9]
  refine lv_aload_n hx hb d_Qf_init_29 rfl (lv_at hl 0 rfl) ?_
  refine lv_aload_n hx hb d_Qf_init_30 rfl (lv_at hl 2 rfl) ?_
  refine hw_putF (own := "QuantifierOut$Quantified") (v := .ref b) (ty := .object "QuantifierOut$Node") hx hb hts i_Qf ft_Qf tk_Qf n_Qf hown hW hS hM rfl 5 (by decide) (hts _ tw_396) (fun _ h9 => h9) rfl hnm rfl (tk_Qf 5 (by decide)) rfl rfl (Nat.le_of_ble_eq_true rfl) d_Qf_init_31 (fun H locs hW hS => ?_)
  have hW : hw_W D qcl (qty cI cJ cZ cN) _ (va_up Mw5 h0 (some (.inr (6, [.int (fr &&& (((1 : Int32) <<< (nI j &&& 31)) ^^^ (-1))), .int (dp + 1), .ref lb, .int (-1), .int (nI j), .ref b, .int 0])))) s H := hW
  generalize hMw6 : va_up Mw5 h0 (some (.inr (6, [.int (fr &&& (((1 : Int32) <<< (nI j &&& 31)) ^^^ (-1))), .int (dp + 1), .ref lb, .int (-1), .int (nI j), .ref b, .int 0]))) = Mw6 at hW
  have hM : Mw6 h0 = some (.inr (6, [.int (fr &&& (((1 : Int32) <<< (nI j &&& 31)) ^^^ (-1))), .int (dp + 1), .ref lb, .int (-1), .int (nI j), .ref b, .int 0])) := by rw [← hMw6]; exact va_up_self _ _ _
  have hfr_Mw6 : ∀ x9, x9 ≠ h0 → Mw6 x9 = Mw5 x9 := fun x9 z9 => by rw [← hMw6, va_up_ne _ _ z9]
  refine lv_aload_n hx hb d_Qf_init_34 rfl (lv_at hl 0 rfl) ?_
  refine lv_iload_n hx hb d_Qf_init_35 rfl (lv_at hl 3 rfl) ?_
  refine hw_putF (own := "QuantifierOut$Quantified") (v := .int (if kk = true then 1 else 0)) (ty := .boolean) hx hb hts i_Qf ft_Qf tk_Qf n_Qf hown hW hS hM rfl 6 (by decide) (hts _ tw_397) (fun _ h9 => h9) rfl hnm rfl (tk_Qf 6 (by decide)) (nb_n kk) (nb_f kk) (Nat.le_of_ble_eq_true rfl) d_Qf_init_36 (fun H locs hW hS => ?_)
  have hW : hw_W D qcl (qty cI cJ cZ cN) _ (va_up Mw6 h0 (some (.inr (6, [.int (fr &&& (((1 : Int32) <<< (nI j &&& 31)) ^^^ (-1))), .int (dp + 1), .ref lb, .int (-1), .int (nI j), .ref b, .int (if kk = true then 1 else 0)])))) s H := hW
  generalize hMw7 : va_up Mw6 h0 (some (.inr (6, [.int (fr &&& (((1 : Int32) <<< (nI j &&& 31)) ^^^ (-1))), .int (dp + 1), .ref lb, .int (-1), .int (nI j), .ref b, .int (if kk = true then 1 else 0)]))) = Mw7 at hW
  have hM : Mw7 h0 = some (.inr (6, [.int (fr &&& (((1 : Int32) <<< (nI j &&& 31)) ^^^ (-1))), .int (dp + 1), .ref lb, .int (-1), .int (nI j), .ref b, .int (if kk = true then 1 else 0)])) := by rw [← hMw7]; exact va_up_self _ _ _
  have hfr_Mw7 : ∀ x9, x9 ≠ h0 → Mw7 x9 = Mw6 x9 := fun x9 z9 => by rw [← hMw7, va_up_ne _ _ z9]
  refine hw_retv hx hb hr hlocks hW hS ⟨hM, fun x z1 => ?_⟩ d_Qf_init_39
  exact ((((hfr_Mw7 x z1)).trans (hfr_Mw6 x z1)).trans (hfr_Mw5 x z1)).trans (by rw [hps]; exact va_up_ne _ _ z1)
set_option maxHeartbeats 4000000 in
set_option maxRecDepth 100000 in
theorem c_Nd_opposite (sz : Nat) (b ci lb : Nat) (fr dp gr : Int32) (ex : List Value) (M : Nat → Option va_E) (hb9 : nd_c M b ci fr dp lb gr ex) : Met l y_Nd_opposite (.code y_Nd_opposite b_Nd_opposite 1 (some (.object "QuantifierOut$Node")) :: ww) ({ frames := 3, cells := 1, slots := 5, locals := 90 }) (hw_Pc D qcl (qty cI cJ cZ cN) [.ref b] M sz) (va_Qq (fun r M1 => ∃ q : Nat, r = some q ∧ M q = none ∧ M1 q = some (.inr (3, [.int fr, .int dp, .ref lb, .int (-1), .ref b])) ∧ ∀ x, x ≠ q → M1 x = M x) (hw_B D qcl (qty cI cJ cZ cN) M sz) (hw_A M sz)) 1 5 (hw_A M sz) := by
  refine hw_met (by decide) (Nat.le_of_ble_eq_true rfl) ?_
  intro p e s m below meth c hx hb hr hml hown hlocks hnm hts hsz hX hW ls hl
  subst hsz
  have hA : ∀ q, s.heap.size ≤ q → hw_A M s.heap.size q := fun q h => Or.inr h
  have hS : va_S (hw_A M s.heap.size) s.heap s.heap [] := va_S.rf
  have hl : lv_has ls 1 [(0, .ref b)] := hl
  have hown : s.vm.findClass "QuantifierOut$Node" = some m.cls := hown
  have hmono : ∀ x9, M x9 = none → M x9 = none := fun _ z9 => z9
  refine hw_new (ci := 3) (own := "QuantifierOut$Node") (fs := [.int 0, .int 0, .null, .int 0, .null]) hx hb hts i_Ng ft_Ng tk_Ng hown (hts _ tw_362) (hts _ tw_363) (hts _ tw_17) hW hS hA rfl (by intro j9 hj9; rcases (show j9 = 0 ∨ j9 = 1 ∨ j9 = 2 ∨ j9 = 3 ∨ j9 = 4 by omega) with rfl | rfl | rfl | rfl | rfl <;> rfl) (Nat.le_of_ble_eq_true rfl) (Nat.le_of_ble_eq_true rfl) d_Nd_opposite_0 (fun q H hq_q hW hS => ?_)
  have hW : hw_W D qcl (qty cI cJ cZ cN) _ (va_up M q (some (.inr (3, [.int 0, .int 0, .null, .int 0, .null])))) s H := hW
  generalize hMw1 : va_up M q (some (.inr (3, [.int 0, .int 0, .null, .int 0, .null]))) = Mw1 at hW
  have n_b_q : b ≠ q := hw_nq hb9.2 hq_q
  have hb9 : nd_c Mw1 b ci fr dp lb gr ex := ⟨hb9.1, by rw [← hMw1, va_up_ne _ _ n_b_q]; exact hb9.2⟩
  have hy_q : Mw1 q = some (.inr (3, [.int 0, .int 0, .null, .int 0, .null])) := by rw [← hMw1]; exact va_up_self _ _ _
  have z_q : M q = none := hmono q hq_q
  have hmono : ∀ x9, Mw1 x9 = none → M x9 = none := fun x9 z9 => hmono x9 (va_up_none (by rw [hMw1]; exact z9))
  have hfr_Mw1 : ∀ x9, x9 ≠ q → Mw1 x9 = M x9 := fun x9 z9 => by rw [← hMw1, va_up_ne _ _ z9]
  refine lv_dup hx hb d_Nd_opposite_3 rfl ?_
  refine lv_aload_n hx hb d_Nd_opposite_4 rfl (lv_at hl 0 rfl) ?_
  refine hw_callv (hw_runI (n := 1) (own := "QuantifierOut$Node") (As := [.ref b]) (rest := [.ref q]) hx hb hml hown hts hX hW hl.1 (c_Ng_init l D cI cJ cZ cN q _ b ci lb fr dp gr ex Mw1 hy_q hb9) tw_364 tw_365 tw_17 tw_366 rfl (by decide +kernel) rfl rfl ⟨by decide, by decide⟩ rfl rfl (Nat.le_of_ble_eq_true rfl) d_Nd_opposite_5 ⟨by decide, by decide⟩) hW hS hA (fun Ms H locs hps hz hW hS => ?_)
  exact hw_reta hx hb hr (Or.inl ⟨_, rfl⟩) hlocks hW hS ⟨q, rfl, z_q, hps.1, fun x z1 => (hps.2 x z1).trans (hfr_Mw1 x z1)⟩ d_Nd_opposite_8
set_option maxHeartbeats 4000000 in
set_option maxRecDepth 100000 in
theorem c_Ng_opposite (h0 sz a lb : Nat) (fr dp gr : Int32) (M : Nat → Option va_E) (hM : M h0 = some (.inr (3, [.int fr, .int dp, .ref lb, .int gr, .ref a]))) : Met l y_Ng_opposite (.code y_Ng_opposite b_Ng_opposite 1 (some (.object "QuantifierOut$Node")) :: ww) ({ frames := 3, cells := 1, slots := 5, locals := 90 }) (hw_Pc D qcl (qty cI cJ cZ cN) [.ref h0] M sz) (va_Qq (fun r M1 => r = some a ∧ M1 = M) (hw_B D qcl (qty cI cJ cZ cN) M sz) (hw_A M sz)) 1 5 (hw_A M sz) := by
  refine hw_met (by decide) (Nat.le_of_ble_eq_true rfl) ?_
  intro p e s m below meth c hx hb hr hml hown hlocks hnm hts hsz hX hW ls hl
  subst hsz
  have hA : ∀ q, s.heap.size ≤ q → hw_A M s.heap.size q := fun q h => Or.inr h
  have hS : va_S (hw_A M s.heap.size) s.heap s.heap [] := va_S.rf
  have hl : lv_has ls 1 [(0, .ref h0)] := hl
  have hown : s.vm.findClass "QuantifierOut$Negation" = some m.cls := hown
  refine lv_aload_n hx hb d_Ng_opposite_0 rfl (lv_at hl 0 rfl) ?_
  refine hw_get (own := "QuantifierOut$Negation") (v := .ref a) hx hb hts i_Ng hown hW hM rfl 4 (by decide) (hts _ tw_368) (fun _ h9 => h9) rfl d_Ng_opposite_1 ?_
  refine W.widen (k := 1) (n := 5) (by omega) (by omega) ?_
  exact hw_reta hx hb hr (Or.inl ⟨_, rfl⟩) hlocks hW hS ⟨rfl, rfl⟩ d_Ng_opposite_4
end G27

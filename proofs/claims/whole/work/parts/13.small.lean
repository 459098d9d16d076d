/-! Values and Marks: small methods -/
theorem hw_ne {M : Nat → Option va_E} {a b : Nat} {x y : va_E} (ha : M a = some x) (hb : M b = some y) (h : x ≠ y) : a ≠ b := fun e => h (by subst e; exact Option.some.inj (ha.symm.trans hb))
section G13
variable (l : Launch) (D : va_G) (cI cJ cZ cN : ClassId)
set_option maxHeartbeats 4000000 in
set_option maxRecDepth 100000 in
/-- Marks.stops() -/
theorem c_Mk_stops (h0 ma mb n sz : Nat) (M : Nat → Option va_E) (hM : M h0 = some (.inr (2, [.ref ma, .ref mb, .int (nI n)]))) (hn : n < 1000000) : Met l y_Mk_stops (.code y_Mk_stops b_Mk_stops 1 (some .int) :: ww) ({ frames := 0, cells := 0, slots := 0, locals := 0 }) (hw_Pc D qcl (qty cI cJ cZ cN) [.ref h0] M sz) (va_Qi (fun r M1 => r = nI (2 * n + 1) ∧ M1 = M) (hw_B D qcl (qty cI cJ cZ cN) M sz) (hw_A M sz)) 0 0 (hw_A M sz) := by
  refine hw_met (by decide) (Nat.le_of_ble_eq_true rfl) ?_
  intro p e s m below meth c hx hb hr hml hown hlocks hnm hts hsz hX hW ls hl
  subst hsz
  have hA : ∀ q, s.heap.size ≤ q → hw_A M s.heap.size q := fun q h => Or.inr h
  have hS : va_S (hw_A M s.heap.size) s.heap s.heap [] := va_S.rf
  have hl : lv_has ls 1 [(0, .ref h0)] := hl
  have hown : s.vm.findClass "QuantifierOut$Marks" = some m.cls := hown
  refine lv_iconst (v := 2) hx hb d_Mk_stops_0 (by decide) ?_
  refine lv_aload_n hx hb d_Mk_stops_1 rfl (lv_at hl 0 rfl) ?_
  refine hw_get (own := "QuantifierOut$Marks") (v := .int (nI n)) hx hb hts i_Mk hown hW hM rfl 2 (by decide) (hts _ tw_43) (fun _ h9 => h9) rfl d_Mk_stops_2 ?_
  refine lv_imul hx hb d_Mk_stops_5 ?_
  refine lv_topi (fun x1 ex1 => ?_)
  refine lv_iconst (v := 1) hx hb d_Mk_stops_6 (by decide) ?_
  refine lv_iadd hx hb d_Mk_stops_7 ?_
  refine lv_topi (fun x2 ex2 => ?_)
  exact hw_reti hx hb hr hlocks hW hS ⟨by rw [ex2, ex1]; exact (by rw [show (2 : Int32) = nI 2 from rfl, pk_mul, nI_1]), rfl⟩ d_Mk_stops_8
set_option maxHeartbeats 4000000 in
set_option maxRecDepth 100000 in
/-- Values.put(letter, above, below) -/
theorem c_Vs_put (h0 va vb om im sz j : Nat) (f g : Nat → Int64) (i : Int32) (x y : Int64) (M : Nat → Option va_E) (hM : M h0 = some (.inr (7, [.ref va, .ref vb, .ref om, .ref im]))) (ha : M va = some (.inl (cJ, 2, .inr (.inl f)))) (hb9 : M vb = some (.inl (cJ, 2, .inr (.inl g)))) (hne : va ≠ vb) (hi : i = nI j) (hj : j < 2) : Met l y_Vs_put (.code y_Vs_put b_Vs_put 6 none :: ww) ({ frames := 0, cells := 0, slots := 0, locals := 0 }) (hw_Pc D qcl (qty cI cJ cZ cN) [.ref h0, .int i, .long x, .long y] M sz) (va_Qv (fun M1 => M1 = va_up (va_up M va (some (.inl (cJ, 2, .inr (.inl (vp_updL f j x)))))) vb (some (.inl (cJ, 2, .inr (.inl (vp_updL g j y)))))) (hw_B D qcl (qty cI cJ cZ cN) M sz) (hw_A M sz)) 0 0 (hw_A M sz) := by
  refine hw_met (by decide) (Nat.le_of_ble_eq_true rfl) ?_
  intro p e s m below meth c hx hb hr hml hown hlocks hnm hts hsz hX hW ls hl
  subst hsz
  have hA : ∀ q, s.heap.size ≤ q → hw_A M s.heap.size q := fun q h => Or.inr h
  have hS : va_S (hw_A M s.heap.size) s.heap s.heap [] := va_S.rf
  have hl : lv_has ls 6 [(0, .ref h0), (1, .int i), (2, .long x), (4, .long y)] := hl
  have hown : s.vm.findClass "QuantifierOut$Values" = some m.cls := hown
  refine lv_aload_n hx hb d_Vs_put_0 rfl (lv_at hl 0 rfl) ?_
  refine hw_get (own := "QuantifierOut$Values") (v := .ref va) hx hb hts i_Vs hown hW hM rfl 0 (by decide) (hts _ tw_52) (fun _ h9 => h9) rfl d_Vs_put_1 ?_
  refine lv_iload_n hx hb d_Vs_put_4 rfl (lv_at hl 1 rfl) ?_
  refine lv_lload_n hx hb d_Vs_put_5 rfl (lv_at hl 2 rfl) ?_
  refine hw_lst hx hb hW hS 1 ha rfl j hi hj (by decide) d_Vs_put_6 (fun H locs hW hS => ?_)
  have hW : hw_W D qcl (qty cI cJ cZ cN) _ (va_up M va (some (.inl (cJ, 2, .inr (.inl (vp_updL f j x)))))) s H := hW
  generalize hM1 : va_up M va (some (.inl (cJ, 2, .inr (.inl (vp_updL f j x))))) = M1 at hW
  have n_h0_va : h0 ≠ va := (hw_ne hM ha (by simp))
  have hM : M1 h0 = some (.inr (7, [.ref va, .ref vb, .ref om, .ref im])) := by rw [← hM1, va_up_ne _ _ n_h0_va]; exact hM
  have hb9 : M1 vb = some (.inl (cJ, 2, .inr (.inl g))) := by rw [← hM1, va_up_ne _ _ (Ne.symm hne)]; exact hb9
  have ha : M1 va = some (.inl (cJ, 2, .inr (.inl (vp_updL f j x)))) := by rw [← hM1]; exact va_up_self _ _ _
  refine lv_aload_n hx hb d_Vs_put_7 rfl (lv_at hl 0 rfl) ?_
  refine hw_get (own := "QuantifierOut$Values") (v := .ref vb) hx hb hts i_Vs hown hW hM rfl 1 (by decide) (hts _ tw_56) (fun _ h9 => h9) rfl d_Vs_put_8 ?_
  refine lv_iload_n hx hb d_Vs_put_11 rfl (lv_at hl 1 rfl) ?_
  refine lv_lload hx hb d_Vs_put_12 (lv_at hl 3 rfl) ?_
  refine hw_lst hx hb hW hS 1 hb9 rfl j hi hj (by decide) d_Vs_put_14 (fun H locs hW hS => ?_)
  have hW : hw_W D qcl (qty cI cJ cZ cN) _ (va_up M1 vb (some (.inl (cJ, 2, .inr (.inl (vp_updL g j y)))))) s H := hW
  generalize hM2 : va_up M1 vb (some (.inl (cJ, 2, .inr (.inl (vp_updL g j y))))) = M2 at hW
  have n_h0_vb : h0 ≠ vb := (hw_ne hM hb9 (by simp))
  have hM : M2 h0 = some (.inr (7, [.ref va, .ref vb, .ref om, .ref im])) := by rw [← hM2, va_up_ne _ _ n_h0_vb]; exact hM
  have ha : M2 va = some (.inl (cJ, 2, .inr (.inl (vp_updL f j x)))) := by rw [← hM2, va_up_ne _ _ hne]; exact ha
  have hb9 : M2 vb = some (.inl (cJ, 2, .inr (.inl (vp_updL g j y)))) := by rw [← hM2]; exact va_up_self _ _ _
  exact hw_retv hx hb hr hlocks hW hS (by rw [← hM2, ← hM1]) d_Vs_put_15
end G13

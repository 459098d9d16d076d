/-! QuantifierOut: the object, room, nodes by number -/
section
variable {p : Program} {l : Launch} {e : Env} {R : Room} {s : State} {m : MethodId} {args : Array Value} {below : List Frame} {meth : Method} {c : Code} {H : Heap} {locs : List Loc} {cells slots : Nat} {Q : State → Prop}
variable {cc : ByteArray} {pc : Nat} {ls : Array Slot} {rest : List Value} {D : va_G} {A : Nat → Prop} {tys : List (ClassId × FieldType)} {M : Nat → Option va_E} {H0 : Heap} {a : Nat}
theorem nd_ast (hexec : p.tables.exec = Jvm.exec) (hb : c.code = cc) (hX : hw_X s) (hW : hw_W D qcl tys A M s H) (hS : va_S A H0 H locs) (t0 : Nat) {cA : ClassId} {n : Nat} {f : Nat → Option Nat} (ha : M a = some (.inl (cA, n, .inr (.inr (.inr (.inr f)))))) (ht : tys[t0]? = some (cA, .object "QuantifierOut$Node")) {b ci la : Nat} {fr dp gr : Int32} {ex : List Value} (hv : nd_c M b ci fr dp la gr ex) {i : Int32} (j : Nat) (hi : i = nI j) (hj : j < n) (hn : n < 1000000) (hdg : decode cc pc = .ok (.aastore, 1))
    (kk : ∀ (H1 : Heap) (locs1 : List Loc), hw_W D qcl tys A (va_up M a (some (.inl (cA, n, .inr (.inr (.inr (.inr (va_up f j (some b))))))))) s H1 → va_S A H0 H1 locs1 → W p l e R s m args below meth c H1 locs1 cells slots Q (F0 m (pc + 1) ls rest)) : W p l e R s m args below meth c H locs cells slots Q (F0 m pc ls (.ref b :: .int i :: .ref a :: rest)) := by
  obtain ⟨h1, h2⟩ := hw_ix hi hj hn
  obtain ⟨hci, hv⟩ := hv
  obtain ⟨ws, rfl, hP, hD, hK⟩ := hW
  obtain ⟨q0, hq⟩ := hw_lk_ix ha
  obtain ⟨q1, hq1⟩ := hw_lk_ix hv
  rcases hci with rfl | rfl | rfl | rfl
  · refine va_astqO hexec hb hK hP hD hS q0 t0 q1 1 (E := "QuantifierOut$Node") (r := ("QuantifierOut$Atom", F_At, 8)) hq ht (hX.1 _ (by decide)) hq1 rfl h1 hdg (fun H1 locs1 e1 e2 e3 => ?_)
    rw [h2] at e1 e2
    exact kk H1 locs1 ⟨_, hw_lk_set hD hq, e1, e2, hK⟩ e3
  · refine va_astqO hexec hb hK hP hD hS q0 t0 q1 3 (E := "QuantifierOut$Node") (r := ("QuantifierOut$Negation", F_Ng, 5)) hq ht (hX.1 _ (by decide)) hq1 rfl h1 hdg (fun H1 locs1 e1 e2 e3 => ?_)
    rw [h2] at e1 e2
    exact kk H1 locs1 ⟨_, hw_lk_set hD hq, e1, e2, hK⟩ e3
  · refine va_astqO hexec hb hK hP hD hS q0 t0 q1 4 (E := "QuantifierOut$Node") (r := ("QuantifierOut$Pair", F_Pr, 7)) hq ht (hX.1 _ (by decide)) hq1 rfl h1 hdg (fun H1 locs1 e1 e2 e3 => ?_)
    rw [h2] at e1 e2
    exact kk H1 locs1 ⟨_, hw_lk_set hD hq, e1, e2, hK⟩ e3
  · refine va_astqO hexec hb hK hP hD hS q0 t0 q1 6 (E := "QuantifierOut$Node") (r := ("QuantifierOut$Quantified", F_Qf, 7)) hq ht (hX.1 _ (by decide)) hq1 rfl h1 hdg (fun H1 locs1 e1 e2 e3 => ?_)
    rw [h2] at e1 e2
    exact kk H1 locs1 ⟨_, hw_lk_set hD hq, e1, e2, hK⟩ e3
end
/-- the numbers of nodes, as the array has them -/
def qo_f (n : Nat) (ad : Nat → Nat) (i : Nat) : Option Nat := if i < n then some (ad i) else none
theorem qo_f_up (n : Nat) (ad : Nat → Nat) (b : Nat) : va_up (qo_f n ad) n (some b) = qo_f (n + 1) (va_up ad n b) := by
  funext i
  unfold qo_f
  by_cases h : i = n
  · rw [h, va_up_self, if_pos (by omega), va_up_self]
  · rw [va_up_ne _ _ h, va_up_ne _ _ h]
    by_cases h2 : i < n
    · rw [if_pos h2, if_pos (by omega)]
    · rw [if_neg h2, if_neg (by omega)]
def qo_C (cN : ClassId) (M : Nat → Option va_E) (h0 na v ro n : Nat) (ad : Nat → Nat) : Prop := M h0 = some (.inr (0, [.ref na, .ref v, .ref ro, .int (nI n)])) ∧ M na = some (.inl (cN, 60, .inr (.inr (.inr (.inr (qo_f n ad)))))) ∧ n ≤ 60
section G29
variable (l : Launch) (D : va_G) (cI cJ cZ cN : ClassId)
set_option maxHeartbeats 4000000 in
set_option maxRecDepth 100000 in
theorem c_Qo_checkRoom (hl0 : l.stackTraces = false) (h0 na v ro n sz : Nat) (ad : Nat → Nat) (M : Nat → Option va_E) (hC : qo_C cN M h0 na v ro n ad) : vx_Met l y_Qo_checkRoom (.code y_Qo_checkRoom b_Qo_checkRoom 1 none :: ww) ({ frames := 6, cells := 1, slots := 6, locals := 90 }) (hx_Pc D qcl (qty cI cJ cZ cN) [.ref h0] M sz) (va_Qv (fun M1 => n < 60 ∧ M1 = M) (hw_B D qcl (qty cI cJ cZ cN) M sz) (hw_A M sz)) (hx_X D qcl (qty cI cJ cZ cN) M sz (fun E M1 => E = "java/lang/IllegalStateException" ∧ n = 60 ∧ M1 = M)) 1 6 (hw_A M sz) := by
  obtain ⟨hC1, hC2, hn60⟩ := id hC
  refine hx_met (by decide) (Nat.le_of_ble_eq_true rfl) ?_
  intro p e s m below meth c hx hb hr hml hown hlocks hnm hts hsz hX hW hZ hno ls hl
  subst hsz
  have hA : ∀ q, s.heap.size ≤ q → hw_A M s.heap.size q := fun q h => Or.inr h
  have hS : va_S (hw_A M s.heap.size) s.heap s.heap [] := va_S.rf
  have hl : lv_has ls 1 [(0, .ref h0)] := hl
  have hown : s.vm.findClass "QuantifierOut" = some m.cls := hown
  refine lv_aload_n hx hb d_Qo_checkRoom_0 rfl (lv_at hl 0 rfl) ?_
  refine hw_get (own := "QuantifierOut") (v := .int (nI n)) hx hb hts i_Qo hown hW hC1 rfl 3 (by decide) (hts _ tw_100) (fun _ h9 => h9) rfl d_Qo_checkRoom_1 ?_
  refine lv_aload_n hx hb d_Qo_checkRoom_4 rfl (lv_at hl 0 rfl) ?_
  refine hw_get (own := "QuantifierOut") (v := .ref na) hx hb hts i_Qo hown hW hC1 rfl 0 (by decide) (hts _ tw_97) (fun _ h9 => h9) rfl d_Qo_checkRoom_5 ?_
  refine hw_alen (v := (nI 60)) hx hb hW 3 hC2 rfl (by rfl) d_Qo_checkRoom_8 ?_
  refine lv_icmp_lt (tgt := 22) hx hb d_Qo_checkRoom_9 (by decide) (fun c_9 => ?_) (fun c_9 => ?_)
  · skip
    refine vx_ret (W.widen (k := 1) (n := 6) (by decide) (by decide) ?_)
    exact hw_retv hx hb hr hlocks hW hS ⟨(nI_ltI (b := 60) (by omega) (by omega)).mp c_9, rfl⟩ d_Qo_checkRoom_22
  · skip
    exact hx_throw (is := 131) (text := "60 nodes are there") hx hb hl0 (by rw [hml]; exact hl.1.symm) hown hts hX xf_S tw_127 tw_9 (by decide) xt_105 xb_105 xg_105 hno hlocks hZ hW hS ⟨rfl, by have : ¬ n < 60 := fun z9 => c_9 ((nI_ltI (b := 60) (by omega) (by omega)).mpr z9); omega, rfl⟩ d_Qo_checkRoom_12 d_Qo_checkRoom_15 d_Qo_checkRoom_16 d_Qo_checkRoom_18 d_Qo_checkRoom_21 (by decide) (Nat.le_of_ble_eq_true rfl) (by decide) (by decide) (by decide) (by decide)
set_option maxHeartbeats 4000000 in
set_option maxRecDepth 100000 in
theorem c_Qo_nodeAt (hl0 : l.stackTraces = false) (h0 na v ro n sz : Nat) (ad : Nat → Nat) (M : Nat → Option va_E) (hC : qo_C cN M h0 na v ro n ad) (x : Int32) : vx_Met l y_Qo_nodeAt (.code y_Qo_nodeAt b_Qo_nodeAt 2 (some (.object "QuantifierOut$Node")) :: ww) ({ frames := 6, cells := 1, slots := 6, locals := 90 }) (hx_Pc D qcl (qty cI cJ cZ cN) [.ref h0, .int x] M sz) (va_Qq (fun r M1 => ∃ i, i < n ∧ x = nI i ∧ r = some (ad i) ∧ M1 = M) (hw_B D qcl (qty cI cJ cZ cN) M sz) (hw_A M sz)) (hx_X D qcl (qty cI cJ cZ cN) M sz (fun E M1 => E = "java/lang/IndexOutOfBoundsException" ∧ (∀ i, i < n → x ≠ nI i) ∧ M1 = M)) 1 6 (hw_A M sz) := by
  obtain ⟨hC1, hC2, hn60⟩ := id hC
  refine hx_met (by decide) (Nat.le_of_ble_eq_true rfl) ?_
  intro p e s m below meth c hx hb hr hml hown hlocks hnm hts hsz hX hW hZ hno ls hl
  subst hsz
  have hA : ∀ q, s.heap.size ≤ q → hw_A M s.heap.size q := fun q h => Or.inr h
  have hS : va_S (hw_A M s.heap.size) s.heap s.heap [] := va_S.rf
  have hl : lv_has ls 2 [(0, .ref h0), (1, .int x)] := hl
  have hown : s.vm.findClass "QuantifierOut" = some m.cls := hown
  refine lv_iload_n hx hb d_Qo_nodeAt_0 rfl (lv_at hl 1 rfl) ?_
  refine lv_if_lt (tgt := 30) hx hb d_Qo_nodeAt_1 (by decide) (fun c_1 => ?_) (fun c_1 => ?_)
  · skip
    exact hx_throw (is := 129) (text := "no such node") hx hb hl0 (by rw [hml]; exact hl.1.symm) hown hts hX xf_O tw_284 tw_13 (by decide) xt_116 xb_116 xg_116 hno hlocks hZ hW hS ⟨rfl, fun i hi z9 => by rw [z9] at c_1; exact nI_pos (by omega) c_1, rfl⟩ d_Qo_nodeAt_30 d_Qo_nodeAt_33 d_Qo_nodeAt_34 d_Qo_nodeAt_36 d_Qo_nodeAt_39 (by decide) (Nat.le_of_ble_eq_true rfl) (by decide) (by decide) (by decide) (by decide)
  · skip
    obtain ⟨i, hi31, ei⟩ := nI_of c_1
    subst ei
    refine lv_iload_n hx hb d_Qo_nodeAt_4 rfl (lv_at hl 1 rfl) ?_
    refine lv_aload_n hx hb d_Qo_nodeAt_5 rfl (lv_at hl 0 rfl) ?_
    refine hw_get (own := "QuantifierOut") (v := .int (nI n)) hx hb hts i_Qo hown hW hC1 rfl 3 (by decide) (hts _ tw_100) (fun _ h9 => h9) rfl d_Qo_nodeAt_6 ?_
    refine lv_icmp_ge (tgt := 30) hx hb d_Qo_nodeAt_9 (by decide) (fun c_9 => ?_) (fun c_9 => ?_)
    · skip
      exact hx_throw (is := 129) (text := "no such node") hx hb hl0 (by rw [hml]; exact hl.1.symm) hown hts hX xf_O tw_284 tw_13 (by decide) xt_116 xb_116 xg_116 hno hlocks hZ hW hS ⟨rfl, fun i9 hi9 z9 => by have := (nI_leI (by omega) (by omega)).mp c_9; have := (nI_eq (by omega) (by omega)).mp z9; omega, rfl⟩ d_Qo_nodeAt_30 d_Qo_nodeAt_33 d_Qo_nodeAt_34 d_Qo_nodeAt_36 d_Qo_nodeAt_39 (by decide) (Nat.le_of_ble_eq_true rfl) (by decide) (by decide) (by decide) (by decide)
    · skip
      have hin : i < n := by
        rcases Nat.lt_or_ge i n with z9 | z9
        · exact z9
        · exact absurd ((nI_leI (by omega) (by omega)).mpr z9) c_9
      have hqf : qo_f n ad i = some (ad i) := by unfold qo_f; rw [if_pos hin]
      refine lv_iload_n hx hb d_Qo_nodeAt_12 rfl (lv_at hl 1 rfl) ?_
      refine lv_aload_n hx hb d_Qo_nodeAt_13 rfl (lv_at hl 0 rfl) ?_
      refine hw_get (own := "QuantifierOut") (v := .ref na) hx hb hts i_Qo hown hW hC1 rfl 0 (by decide) (hts _ tw_97) (fun _ h9 => h9) rfl d_Qo_nodeAt_14 ?_
      refine hw_alen (v := (nI 60)) hx hb hW 3 hC2 rfl (by rfl) d_Qo_nodeAt_17 ?_
      refine lv_icmp_ge (tgt := 30) hx hb d_Qo_nodeAt_18 (by decide) (fun c_18 => ?_) (fun c_18 => ?_)
      · skip
        exact absurd ((nI_leI (a := 60) (by omega) (by omega)).mp c_18) (by omega)
      · skip
        refine lv_aload_n hx hb d_Qo_nodeAt_21 rfl (lv_at hl 0 rfl) ?_
        refine hw_get (own := "QuantifierOut") (v := .ref na) hx hb hts i_Qo hown hW hC1 rfl 0 (by decide) (hts _ tw_97) (fun _ h9 => h9) rfl d_Qo_nodeAt_22 ?_
        refine lv_iload_n hx hb d_Qo_nodeAt_25 rfl (lv_at hl 1 rfl) ?_
        refine hw_ald hx hb hW 3 hC2 rfl i rfl (by omega) (by decide) d_Qo_nodeAt_26 ?_
        rw [hqf]
        refine lv_ifnonnull (x := ad i) (tgt := 40) hx hb d_Qo_nodeAt_27 (by decide) ?_
        refine lv_aload_n hx hb d_Qo_nodeAt_40 rfl (lv_at hl 0 rfl) ?_
        refine hw_get (own := "QuantifierOut") (v := .ref na) hx hb hts i_Qo hown hW hC1 rfl 0 (by decide) (hts _ tw_97) (fun _ h9 => h9) rfl d_Qo_nodeAt_41 ?_
        refine lv_iload_n hx hb d_Qo_nodeAt_44 rfl (lv_at hl 1 rfl) ?_
        refine hw_ald hx hb hW 3 hC2 rfl i rfl (by omega) (by decide) d_Qo_nodeAt_45 ?_
        rw [hqf]
        refine vx_ret (W.widen (k := 1) (n := 6) (by decide) (by decide) ?_)
        exact hw_reta hx hb hr (Or.inl ⟨_, rfl⟩) hlocks hW hS ⟨i, hin, rfl, rfl, rfl⟩ d_Qo_nodeAt_46
set_option maxHeartbeats 4000000 in
set_option maxRecDepth 100000 in
theorem c_Qo_isFactor (x : Int32) (sz : Nat) (M : Nat → Option va_E) : Met l y_Qo_isFactor (.code y_Qo_isFactor b_Qo_isFactor 1 (some .boolean) :: ww) ({ frames := 0, cells := 0, slots := 0, locals := 0 }) (hw_Pc D qcl (qty cI cJ cZ cN) [.int x] M sz) (va_Qi (fun r M1 => it_b r (x.toInt.natAbs ≤ 5) ∧ M1 = M) (hw_B D qcl (qty cI cJ cZ cN) M sz) (hw_A M sz)) 0 0 (hw_A M sz) := by
  refine hw_met (by decide) (Nat.le_of_ble_eq_true rfl) ?_
  intro p e s m below meth c hx hb hr hml hown hlocks hnm hts hsz hX hW ls hl
  subst hsz
  have hA : ∀ q, s.heap.size ≤ q → hw_A M s.heap.size q := fun q h => Or.inr h
  have hS : va_S (hw_A M s.heap.size) s.heap s.heap [] := va_S.rf
  have hl : lv_has ls 1 [(0, .int x)] := hl
  have hown : s.vm.findClass "QuantifierOut" = some m.cls := hown
  have hm : (-5 : Int32).toInt = -5 := rfl
  have hm2 : (5 : Int32).toInt = 5 := rfl
  refine lv_iload_n hx hb d_Qo_isFactor_0 rfl (lv_at hl 0 rfl) ?_
  refine lv_bipush (v := (-5)) hx hb d_Qo_isFactor_1 (by decide) ?_
  refine lv_icmp_lt (tgt := 15) hx hb d_Qo_isFactor_3 (by decide) (fun c_3 => ?_) (fun c_3 => ?_)
  · skip
    refine lv_iconst (v := 0) hx hb d_Qo_isFactor_15 (by decide) ?_
    exact hw_retz hx hb hr rfl hlocks hW hS ⟨Or.inr ⟨rfl, by rw [nm_ilt, hm] at c_3; omega⟩, rfl⟩ d_Qo_isFactor_16
  · skip
    refine lv_iload_n hx hb d_Qo_isFactor_6 rfl (lv_at hl 0 rfl) ?_
    refine lv_iconst (v := 5) hx hb d_Qo_isFactor_7 (by decide) ?_
    refine lv_icmp_gt (tgt := 15) hx hb d_Qo_isFactor_8 (by decide) (fun c_8 => ?_) (fun c_8 => ?_)
    · skip
      refine lv_iconst (v := 0) hx hb d_Qo_isFactor_15 (by decide) ?_
      exact hw_retz hx hb hr rfl hlocks hW hS ⟨Or.inr ⟨rfl, by rw [nm_ilt, hm2] at c_8; omega⟩, rfl⟩ d_Qo_isFactor_16
    · skip
      refine lv_iconst (v := 1) hx hb d_Qo_isFactor_11 (by decide) ?_
      refine lv_goto (tgt := 16) hx hb d_Qo_isFactor_12 (by decide) ?_
      exact hw_retz hx hb hr rfl hlocks hW hS ⟨Or.inl ⟨rfl, by rw [nm_ilt, hm] at c_3; rw [nm_ilt, hm2] at c_8; omega⟩, rfl⟩ d_Qo_isFactor_16
set_option maxHeartbeats 4000000 in
set_option maxRecDepth 100000 in
theorem c_Qo_isValue (x : Int32) (sz : Nat) (M : Nat → Option va_E) : Met l y_Qo_isValue (.code y_Qo_isValue b_Qo_isValue 1 (some .boolean) :: ww) ({ frames := 0, cells := 0, slots := 0, locals := 0 }) (hw_Pc D qcl (qty cI cJ cZ cN) [.int x] M sz) (va_Qi (fun r M1 => it_b r (x.toInt.natAbs ≤ 50) ∧ M1 = M) (hw_B D qcl (qty cI cJ cZ cN) M sz) (hw_A M sz)) 0 0 (hw_A M sz) := by
  refine hw_met (by decide) (Nat.le_of_ble_eq_true rfl) ?_
  intro p e s m below meth c hx hb hr hml hown hlocks hnm hts hsz hX hW ls hl
  subst hsz
  have hA : ∀ q, s.heap.size ≤ q → hw_A M s.heap.size q := fun q h => Or.inr h
  have hS : va_S (hw_A M s.heap.size) s.heap s.heap [] := va_S.rf
  have hl : lv_has ls 1 [(0, .int x)] := hl
  have hown : s.vm.findClass "QuantifierOut" = some m.cls := hown
  have hm : (-50 : Int32).toInt = -50 := rfl
  have hm2 : (50 : Int32).toInt = 50 := rfl
  refine lv_iload_n hx hb d_Qo_isValue_0 rfl (lv_at hl 0 rfl) ?_
  refine lv_bipush (v := (-50)) hx hb d_Qo_isValue_1 (by decide) ?_
  refine lv_icmp_lt (tgt := 16) hx hb d_Qo_isValue_3 (by decide) (fun c_3 => ?_) (fun c_3 => ?_)
  · skip
    refine lv_iconst (v := 0) hx hb d_Qo_isValue_16 (by decide) ?_
    exact hw_retz hx hb hr rfl hlocks hW hS ⟨Or.inr ⟨rfl, by rw [nm_ilt, hm] at c_3; omega⟩, rfl⟩ d_Qo_isValue_17
  · skip
    refine lv_iload_n hx hb d_Qo_isValue_6 rfl (lv_at hl 0 rfl) ?_
    refine lv_bipush (v := 50) hx hb d_Qo_isValue_7 (by decide) ?_
    refine lv_icmp_gt (tgt := 16) hx hb d_Qo_isValue_9 (by decide) (fun c_8 => ?_) (fun c_8 => ?_)
    · skip
      refine lv_iconst (v := 0) hx hb d_Qo_isValue_16 (by decide) ?_
      exact hw_retz hx hb hr rfl hlocks hW hS ⟨Or.inr ⟨rfl, by rw [nm_ilt, hm2] at c_8; omega⟩, rfl⟩ d_Qo_isValue_17
    · skip
      refine lv_iconst (v := 1) hx hb d_Qo_isValue_12 (by decide) ?_
      refine lv_goto (tgt := 17) hx hb d_Qo_isValue_13 (by decide) ?_
      exact hw_retz hx hb hr rfl hlocks hW hS ⟨Or.inl ⟨rfl, by rw [nm_ilt, hm] at c_3; rw [nm_ilt, hm2] at c_8; omega⟩, rfl⟩ d_Qo_isValue_17
set_option maxHeartbeats 4000000 in
set_option maxRecDepth 100000 in
theorem c_Qo_add (h0 na v ro n sz : Nat) (ad : Nat → Nat) (M : Nat → Option va_E) (hC : qo_C cN M h0 na v ro n ad) (hn : n < 60) (b ci lb : Nat) (fr dp gr : Int32) (ex : List Value) (hb9 : nd_c M b ci fr dp lb gr ex) : Met l y_Qo_add (.code y_Qo_add b_Qo_add 3 (some .int) :: ww) ({ frames := 0, cells := 0, slots := 0, locals := 0 }) (hw_Pc D qcl (qty cI cJ cZ cN) [.ref h0, .ref b] M sz) (va_Qi (fun r M1 => r = nI n ∧ qo_C cN M1 h0 na v ro (n + 1) (va_up ad n b) ∧ ∀ x, x ≠ h0 → x ≠ na → M1 x = M x) (hw_B D qcl (qty cI cJ cZ cN) M sz) (hw_A M sz)) 0 0 (hw_A M sz) := by
  obtain ⟨hC1, hC2, hn60⟩ := id hC
  refine hw_met (by decide) (Nat.le_of_ble_eq_true rfl) ?_
  intro p e s m below meth c hx hb hr hml hown hlocks hnm hts hsz hX hW ls hl
  subst hsz
  have hA : ∀ q, s.heap.size ≤ q → hw_A M s.heap.size q := fun q h => Or.inr h
  have hS : va_S (hw_A M s.heap.size) s.heap s.heap [] := va_S.rf
  have hl : lv_has ls 3 [(0, .ref h0), (1, .ref b)] := hl
  have hown : s.vm.findClass "QuantifierOut" = some m.cls := hown
  refine lv_aload_n hx hb d_Qo_add_0 rfl (lv_at hl 0 rfl) ?_
  refine hw_get (own := "QuantifierOut") (v := .int (nI n)) hx hb hts i_Qo hown hW hC1 rfl 3 (by decide) (hts _ tw_100) (fun _ h9 => h9) rfl d_Qo_add_1 ?_
  refine lv_istore_n (lv' := [(2, .int (nI n)), (0, .ref h0), (1, .ref b)]) hx hb d_Qo_add_4 rfl hl (by decide) rfl (fun ls hl => ?_)
  refine lv_iload_n hx hb d_Qo_add_5 rfl (lv_at hl 0 rfl) ?_
  refine lv_aload_n hx hb d_Qo_add_6 rfl (lv_at hl 1 rfl) ?_
  refine hw_get (own := "QuantifierOut") (v := .ref na) hx hb hts i_Qo hown hW hC1 rfl 0 (by decide) (hts _ tw_97) (fun _ h9 => h9) rfl d_Qo_add_7 ?_
  refine hw_alen (v := (nI 60)) hx hb hW 3 hC2 rfl (by rfl) d_Qo_add_10 ?_
  refine lv_icmp_ge (tgt := 28) hx hb d_Qo_add_11 (by decide) (fun c_11 => ?_) (fun c_11 => ?_)
  · skip
    exact absurd ((nI_leI (a := 60) (by omega) (by omega)).mp c_11) (by omega)
  · skip
    refine lv_aload_n hx hb d_Qo_add_14 rfl (lv_at hl 1 rfl) ?_
    refine hw_get (own := "QuantifierOut") (v := .ref na) hx hb hts i_Qo hown hW hC1 rfl 0 (by decide) (hts _ tw_97) (fun _ h9 => h9) rfl d_Qo_add_15 ?_
    refine lv_iload_n hx hb d_Qo_add_18 rfl (lv_at hl 0 rfl) ?_
    refine lv_aload_n hx hb d_Qo_add_19 rfl (lv_at hl 2 rfl) ?_
    refine nd_ast hx hb hX hW hS 3 hC2 rfl hb9 n rfl (by omega) (by decide) d_Qo_add_20 (fun H locs hW hS => ?_)
    have hW : hw_W D qcl (qty cI cJ cZ cN) _ (va_up M na (some (.inl (cN, 60, .inr (.inr (.inr (.inr (va_up (qo_f n ad) n (some b))))))))) s H := hW
    generalize hMw1 : va_up M na (some (.inl (cN, 60, .inr (.inr (.inr (.inr (va_up (qo_f n ad) n (some b)))))))) = Mw1 at hW
    have n_h0_na : h0 ≠ na := (hw_ne hC1 hC2 (by simp))
    have hC1 : Mw1 h0 = some (.inr (0, [.ref na, .ref v, .ref ro, .int (nI n)])) := by rw [← hMw1, va_up_ne _ _ n_h0_na]; exact hC1
    have hC2 : Mw1 na = some (.inl (cN, 60, .inr (.inr (.inr (.inr (va_up (qo_f n ad) n (some b))))))) := by rw [← hMw1]; exact va_up_self _ _ _
    have hfr_Mw1 : ∀ x9, x9 ≠ na → Mw1 x9 = M x9 := fun x9 z9 => by rw [← hMw1, va_up_ne _ _ z9]
    refine lv_aload_n hx hb d_Qo_add_21 rfl (lv_at hl 1 rfl) ?_
    refine lv_iload_n hx hb d_Qo_add_22 rfl (lv_at hl 0 rfl) ?_
    refine lv_iconst (v := 1) hx hb d_Qo_add_23 (by decide) ?_
    refine lv_iadd hx hb d_Qo_add_24 ?_
    refine lv_topi (fun x2 ex2 => ?_)
    refine hw_put (own := "QuantifierOut") (v := .int x2) (ty := .int) hx hb hts i_Qo ft_Qo tk_Qo n_Qo hown hW hS hC1 rfl 3 (by decide) (hts _ tw_100) (fun _ h9 => h9) rfl (tk_Qo 3 (by decide)) rfl rfl (Nat.le_of_ble_eq_true rfl) d_Qo_add_25 (fun H locs hW hS => ?_)
    have hW : hw_W D qcl (qty cI cJ cZ cN) _ (va_up Mw1 h0 (some (.inr (0, [.ref na, .ref v, .ref ro, .int x2])))) s H := hW
    generalize hMw3 : va_up Mw1 h0 (some (.inr (0, [.ref na, .ref v, .ref ro, .int x2]))) = Mw3 at hW
    have hC2 : Mw3 na = some (.inl (cN, 60, .inr (.inr (.inr (.inr (va_up (qo_f n ad) n (some b))))))) := by rw [← hMw3, va_up_ne _ _ (Ne.symm n_h0_na)]; exact hC2
    have hC1 : Mw3 h0 = some (.inr (0, [.ref na, .ref v, .ref ro, .int x2])) := by rw [← hMw3]; exact va_up_self _ _ _
    have hfr_Mw3 : ∀ x9, x9 ≠ h0 → Mw3 x9 = Mw1 x9 := fun x9 z9 => by rw [← hMw3, va_up_ne _ _ z9]
    refine lv_iload_n hx hb d_Qo_add_28 rfl (lv_at hl 0 rfl) ?_
    exact hw_reti hx hb hr hlocks hW hS ⟨rfl, ⟨by rw [hC1, ex2, nI_1], by rw [hC2, qo_f_up], by omega⟩, fun x z1 z2 => (((hfr_Mw3 x z1)).trans (hfr_Mw1 x z2))⟩ d_Qo_add_29
set_option maxHeartbeats 4000000 in
set_option maxRecDepth 100000 in
theorem c_Qo_count (h0 na v ro n sz : Nat) (ad : Nat → Nat) (M : Nat → Option va_E) (hC : qo_C cN M h0 na v ro n ad) : Met l y_Qo_count (.code y_Qo_count b_Qo_count 1 (some .int) :: ww) ({ frames := 0, cells := 0, slots := 0, locals := 0 }) (hw_Pc D qcl (qty cI cJ cZ cN) [.ref h0] M sz) (va_Qi (fun r M1 => r = nI n ∧ M1 = M) (hw_B D qcl (qty cI cJ cZ cN) M sz) (hw_A M sz)) 0 0 (hw_A M sz) := by
  obtain ⟨hC1, hC2, hn60⟩ := id hC
  refine hw_met (by decide) (Nat.le_of_ble_eq_true rfl) ?_
  intro p e s m below meth c hx hb hr hml hown hlocks hnm hts hsz hX hW ls hl
  subst hsz
  have hA : ∀ q, s.heap.size ≤ q → hw_A M s.heap.size q := fun q h => Or.inr h
  have hS : va_S (hw_A M s.heap.size) s.heap s.heap [] := va_S.rf
  have hl : lv_has ls 1 [(0, .ref h0)] := hl
  have hown : s.vm.findClass "QuantifierOut" = some m.cls := hown
  refine lv_aload_n hx hb d_Qo_count_0 rfl (lv_at hl 0 rfl) ?_
  refine hw_get (own := "QuantifierOut") (v := .int (nI n)) hx hb hts i_Qo hown hW hC1 rfl 3 (by decide) (hts _ tw_100) (fun _ h9 => h9) rfl d_Qo_count_1 ?_
  exact hw_reti hx hb hr hlocks hW hS ⟨rfl, rfl⟩ d_Qo_count_4
end G29

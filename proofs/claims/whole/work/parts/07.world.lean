/-! THE WORLD BY ADDRESSES: a map from addresses to cells. A method's contract takes the caller's whole map and gives back the new one: no cutting out, no joining. -/
/-- the cell that a list has at an address -/
def hw_lk (ws : va_W) (a : Nat) : Option va_E := (ws.find? (fun x => x.1 == a)).map (fun x => x.2)
theorem hw_lk_ix {ws : va_W} {a : Nat} {e : va_E} (h : hw_lk ws a = some e) : ∃ k : Nat, ws[k]? = some (a, e) := by
  unfold hw_lk at h
  cases hf : ws.find? (fun x => x.1 == a) with
  | none => rw [hf] at h; cases h
  | some x =>
    rw [hf] at h
    have h1 : x.1 = a := by simpa using List.find?_some hf
    have h2 : x.2 = e := Option.some.inj h
    obtain ⟨k, hk⟩ := List.getElem?_of_mem (List.mem_of_find?_eq_some hf)
    exact ⟨k, by rw [hk, ← h1, ← h2]⟩
theorem hw_lk_of {A : Nat → Prop} {ws : va_W} (hD : va_D A ws) {k a : Nat} {e : va_E} (h : ws[k]? = some (a, e)) : hw_lk ws a = some e := by
  unfold hw_lk
  cases hf : ws.find? (fun x => x.1 == a) with
  | none =>
    have := List.find?_eq_none.mp hf (a, e) (List.mem_of_getElem? h)
    simp at this
  | some x =>
    have h1 : x.1 = a := by simpa using List.find?_some hf
    obtain ⟨j, hj⟩ := List.getElem?_of_mem (List.mem_of_find?_eq_some hf)
    have h2 := hD.1 j k x (a, e) hj h h1
    subst h2
    rw [hj] at h
    cases h
    rfl
theorem hw_lk_none {ws : va_W} {a : Nat} (h : ∀ (k : Nat) (e : va_E), ws[k]? ≠ some (a, e)) : hw_lk ws a = none := by
  cases hq : hw_lk ws a with
  | none => rfl
  | some e =>
    obtain ⟨k, hk⟩ := hw_lk_ix hq
    exact absurd hk (h k e)
theorem hw_lk_set {A : Nat → Prop} {ws : va_W} (hD : va_D A ws) {k a : Nat} {e0 e : va_E} (h : ws[k]? = some (a, e0)) : hw_lk (ws.set k (a, e)) = va_up (hw_lk ws) a (some e) := by
  have hD1 : va_D A (ws.set k (a, e)) := hD.set h
  have hl : k < ws.length := (List.getElem?_eq_some_iff.mp h).1
  funext b
  by_cases hb : b = a
  · subst hb
    rw [va_up_self]
    exact hw_lk_of hD1 (k := k) (by rw [List.getElem?_set_self hl])
  · rw [va_up_ne _ _ hb]
    cases hq : hw_lk ws b with
    | none =>
      refine hw_lk_none fun j e1 hj => ?_
      by_cases hjk : j = k
      · subst hjk
        rw [List.getElem?_set_self hl] at hj
        cases hj
        exact hb rfl
      · rw [List.getElem?_set_ne (fun q => hjk q.symm)] at hj
        rw [hw_lk_of hD hj] at hq
        cases hq
    | some e1 =>
      obtain ⟨j, hj⟩ := hw_lk_ix hq
      have hjk : j ≠ k := fun q => by
        subst q
        rw [hj] at h
        cases h
        exact hb rfl
      exact hw_lk_of hD1 (k := j) (by rw [List.getElem?_set_ne (fun q => hjk q.symm)]; exact hj)
theorem hw_lk_push {A : Nat → Prop} {ws : va_W} {q : Nat} {e : va_E} (hD1 : va_D A (ws ++ [(q, e)])) : hw_lk (ws ++ [(q, e)]) = va_up (hw_lk ws) q (some e) ∧ hw_lk ws q = none := by
  have hq : (ws ++ [(q, e)])[ws.length]? = some (q, e) := by rw [List.getElem?_append_right (Nat.le_refl _), Nat.sub_self]; rfl
  have hold : ∀ (j : Nat) (x : Nat × va_E), ws[j]? = some x → (ws ++ [(q, e)])[j]? = some x := fun j x hj => by rw [List.getElem?_append_left (List.getElem?_eq_some_iff.mp hj).1]; exact hj
  have hn : hw_lk ws q = none := hw_lk_none fun k e1 hk => by
    have h1 := hD1.1 k ws.length _ _ (hold k _ hk) hq rfl
    have h2 := (List.getElem?_eq_some_iff.mp hk).1
    omega
  refine ⟨?_, hn⟩
  funext b
  by_cases hb : b = q
  · subst hb
    rw [va_up_self]
    exact hw_lk_of hD1 hq
  · rw [va_up_ne _ _ hb]
    cases hx : hw_lk ws b with
    | none =>
      refine hw_lk_none fun j e1 hj => ?_
      rcases Nat.lt_or_ge j ws.length with c | c
      · rw [List.getElem?_append_left c] at hj
        obtain ⟨i, hi⟩ := List.getElem?_of_mem (List.mem_of_getElem? hj)
        have : hw_lk ws b ≠ none := fun z => by
          unfold hw_lk at z
          have z2 := List.find?_eq_none.mp (Option.map_eq_none_iff.mp z) (b, e1) (List.mem_of_getElem? hj)
          simp at z2
        exact this hx
      · rw [List.getElem?_append_right c] at hj
        have : j - ws.length = 0 := by
          have := (List.getElem?_eq_some_iff.mp hj).1
          simp at this
          omega
        rw [this] at hj
        cases hj
        exact hb rfl
    | some e1 =>
      obtain ⟨j, hj⟩ := hw_lk_ix hx
      exact hw_lk_of hD1 (hold j _ hj)
/-- the heap holds the map M, whose addresses are of the kind A -/
def hw_W (D : va_G) (cl : List vw_C) (tys : List (ClassId × FieldType)) (A : Nat → Prop) (M : Nat → Option va_E) (s : State) (H : Heap) : Prop := ∃ ws : va_W, hw_lk ws = M ∧ va_P D cl ws H ∧ va_D A ws ∧ va_K D cl tys s
/-- what a method over M may change -/
def hw_A (M : Nat → Option va_E) (sz : Nat) : Nat → Prop := fun q => M q ≠ none ∨ sz ≤ q
theorem hw_W.K {D : va_G} {cl : List vw_C} {tys : List (ClassId × FieldType)} {A : Nat → Prop} {M : Nat → Option va_E} {s : State} {H : Heap} (h : hw_W D cl tys A M s H) : va_K D cl tys s := by
  obtain ⟨ws, -, -, -, hK⟩ := h
  exact hK
theorem hw_W.at {D : va_G} {cl : List vw_C} {tys : List (ClassId × FieldType)} {A : Nat → Prop} {M : Nat → Option va_E} {s : State} {H : Heap} (h : hw_W D cl tys A M s H) {a : Nat} {e : va_E} (ha : M a = some e) : va_at D cl (a, e) H ∧ A a := by
  obtain ⟨ws, rfl, hP, hD, -⟩ := h
  obtain ⟨k, hk⟩ := hw_lk_ix ha
  exact ⟨hP k _ hk, hD.2 k _ hk⟩
theorem hw_W.lt {D : va_G} {cl : List vw_C} {tys : List (ClassId × FieldType)} {A : Nat → Prop} {M : Nat → Option va_E} {s : State} {H : Heap} (h : hw_W D cl tys A M s H) {a : Nat} {e : va_E} (ha : M a = some e) : a < H.size := (h.at ha).1.lt
theorem hw_W.moved {D : va_G} {cl : List vw_C} {tys : List (ClassId × FieldType)} {A : Nat → Prop} {M : Nat → Option va_E} {s u : State} {H : Heap} (hvm : s.vm.Alike u.vm) (h : hw_W D cl tys A M s H) : hw_W D cl tys A M u H := by
  obtain ⟨ws, e, hP, hD, hK⟩ := h
  exact ⟨ws, e, hP, hD, va_K.moved hvm hK⟩
theorem hw_W.weaken {D : va_G} {cl : List vw_C} {tys : List (ClassId × FieldType)} {A B : Nat → Prop} {M : Nat → Option va_E} {s : State} {H : Heap} (h : hw_W D cl tys A M s H) (hAB : ∀ q, A q → B q) : hw_W D cl tys B M s H := by
  obtain ⟨ws, e, hP, hD, hK⟩ := h
  exact ⟨ws, e, hP, hD.weaken (fun _ q _ h => hAB q.1 h), hK⟩
theorem hw_W.self {D : va_G} {cl : List vw_C} {tys : List (ClassId × FieldType)} {A : Nat → Prop} {M : Nat → Option va_E} {s : State} {H : Heap} {sz : Nat} (h : hw_W D cl tys A M s H) : hw_W D cl tys (hw_A M sz) M s H := by
  obtain ⟨ws, rfl, hP, hD, hK⟩ := h
  refine ⟨ws, rfl, hP, ⟨hD.1, fun k q hk => Or.inl ?_⟩, hK⟩
  rw [hw_lk_of hD (show ws[k]? = some (q.1, q.2) from hk)]
  exact Option.some_ne_none _
theorem hw_W.free {D : va_G} {cl : List vw_C} {tys : List (ClassId × FieldType)} {A : Nat → Prop} {M : Nat → Option va_E} {s : State} {H0 H : Heap} {locs : List Loc} (h : hw_W D cl tys A M s H) (hS : va_S A H0 H locs) (hA : ∀ q, H0.size ≤ q → A q) : ∀ q, hw_A M H.size q → A q := by
  intro q hq
  rcases hq with hq | hq
  · cases hm : M q with
    | none => exact absurd hm hq
    | some e => exact (h.at hm).2
  · exact hA q (Nat.le_trans hS.1 hq)
/-- words that ride with no call by themselves, but stay true -/
def hw_xw : List Cond := [.declares ⟨"QuantifierOut$Node", "isTrueAt", "(LQuantifierOut$Values;)Z"⟩, .fieldLinkNest "QuantifierOut" 110 "QuantifierOut$Pieces" "size" "I" "QuantifierOut",
  .castable "QuantifierOut$Atom" "QuantifierOut$Node", .castable "QuantifierOut$Negation" "QuantifierOut$Node", .castable "QuantifierOut$Pair" "QuantifierOut$Node", .castable "QuantifierOut$Quantified" "QuantifierOut$Node",
  .castable "java/lang/IllegalStateException" "java/lang/IllegalStateException", .castable "java/lang/IllegalArgumentException" "java/lang/IllegalArgumentException", .castable "java/lang/IndexOutOfBoundsException" "java/lang/IndexOutOfBoundsException",
  .declares ⟨"java/lang/RuntimeException", "<init>", "()V"⟩, .declares ⟨"java/lang/RuntimeException", "<init>", "(Ljava/lang/String;)V"⟩, .declares ⟨"java/lang/Exception", "<init>", "()V"⟩, .declares ⟨"java/lang/Exception", "<init>", "(Ljava/lang/String;)V"⟩, .declares ⟨"java/lang/Throwable", "<init>", "()V"⟩, .declares ⟨"java/lang/Throwable", "<init>", "(Ljava/lang/String;)V"⟩]
def hw_X (U : State) : Prop := (∀ w ∈ hw_xw, va_Nw w U) ∧ va_AO "QuantifierOut$Node" U
theorem hw_xw_ot : ∀ w ∈ hw_xw, w.onTables = true := by decide
theorem hw_X.same {u U : State} (hv : u.vm = U.vm) (h : hw_X u) : hw_X U := ⟨fun w hw => va_Nw.same (hw_xw_ot w hw) hv (h.1 w hw), va_AO.moved (by rw [hv]; exact Vm.Alike.refl U.vm) h.2⟩
theorem hw_xw_warm {s U : State} (hW : s.WarmedH U.vm) : ∀ w ∈ hw_xw, va_Nw w s → va_Nw w U := by
  unfold hw_xw
  refine List.forall_mem_cons.mpr ⟨va_Nw.warmD hW, List.forall_mem_cons.mpr ⟨va_Nw.warmF hW, ?_⟩⟩
  refine List.forall_mem_cons.mpr ⟨va_Nw.warmC hW, List.forall_mem_cons.mpr ⟨va_Nw.warmC hW, List.forall_mem_cons.mpr ⟨va_Nw.warmC hW, List.forall_mem_cons.mpr ⟨va_Nw.warmC hW, List.forall_mem_cons.mpr ⟨va_Nw.warmC hW, List.forall_mem_cons.mpr ⟨va_Nw.warmC hW, List.forall_mem_cons.mpr ⟨va_Nw.warmC hW, ?_⟩⟩⟩⟩⟩⟩⟩
  exact List.forall_mem_cons.mpr ⟨va_Nw.warmD hW, List.forall_mem_cons.mpr ⟨va_Nw.warmD hW, List.forall_mem_cons.mpr ⟨va_Nw.warmD hW, List.forall_mem_cons.mpr ⟨va_Nw.warmD hW, List.forall_mem_cons.mpr ⟨va_Nw.warmD hW, List.forall_mem_cons.mpr ⟨va_Nw.warmD hW, fun _ h => absurd h List.not_mem_nil⟩⟩⟩⟩⟩⟩
theorem hw_X.warm {s U : State} (hW : s.WarmedH U.vm) (h : hw_X s) : hw_X U := ⟨fun w hw => hw_xw_warm hW w hw (h.1 w hw), va_AO.moved hW.alike h.2⟩
/-- a contract's start and the world behind it -/
def hw_Pc (D : va_G) (cl : List vw_C) (tys : List (ClassId × FieldType)) (av : List Value) (M : Nat → Option va_E) (sz : Nat) : Array Value → State → Prop := va_Pc av (fun U => U.heap.size = sz ∧ hw_W D cl tys (fun _ => True) M U U.heap ∧ hw_X U)
def hw_B (D : va_G) (cl : List vw_C) (tys : List (ClassId × FieldType)) (M : Nat → Option va_E) (sz : Nat) : (Nat → Option va_E) → State → Prop := fun M1 t => hw_W D cl tys (hw_A M sz) M1 t t.heap
theorem hw_Pc.blind {D : va_G} {cl : List vw_C} {tys : List (ClassId × FieldType)} {av : List Value} {M : Nat → Option va_E} {sz : Nat} : FrameBlind (hw_Pc D cl tys av M sz) := by
  intro a U g mk h
  obtain ⟨h1, h2, h3, h4⟩ := h
  exact ⟨h1, h2, h3.moved (u := U.calling g mk a) (Vm.Alike.refl U.vm), hw_X.same (u := U) (U := U.calling g mk a) rfl h4⟩
section HWS
variable {p : Program} {l : Launch} {e : Env} {R : Room} {s : State} {m : MethodId} {args : Array Value} {below : List Frame} {meth : Method} {c : Code} {H : Heap} {locs : List Loc} {cells slots : Nat} {Q : State → Prop}
variable {cc : ByteArray} {pc : Nat} {ls : Array Slot} {rest : List Value} {D : va_G} {cl : List vw_C} {A : Nat → Prop} {a : Nat} {tys : List (ClassId × FieldType)} {M : Nat → Option va_E} {H0 : Heap}
theorem hw_preS {A1 : Nat → Prop} (hX : hw_X s) (hW : hw_W D cl tys A1 M s H) {As : List Value} : PreS s H (hw_Pc D cl tys As M H.size) As :=
  ⟨hw_Pc.blind, fun U hU hw => ⟨rfl, by rw [hU], by rw [hU]; exact (hW.moved hw.alike).weaken (fun _ _ => trivial), hX.warm hw⟩⟩
theorem hw_preV {A1 : Nat → Prop} (hX : hw_X s) (hW : hw_W D cl tys A1 M s H) {b ci : Nat} {fs : List Value} (hb : M b = some (.inr (ci, fs))) {q : vw_C} (hc : cl[ci]? = some q) {As : List Value} : PreV s H q.1 b (hw_Pc D cl tys (.ref b :: As) M H.size) As := by
  refine ⟨hw_Pc.blind, ?_, (hw_preS hX hW).2⟩
  obtain ⟨ws, rfl, hP, hD, hK⟩ := hW
  obtain ⟨k, hk⟩ := hw_lk_ix hb
  exact va_recv hK hP hc hk
theorem hw_get (hexec : p.tables.exec = Jvm.exec) (hb : c.code = cc) {own ref C : String} {T : u_T} {N ci index : Nat} {Ts : List Cond} (hts : ∀ w ∈ Ts, w.before args s = true) (hin : ∀ w ∈ u_ws C T N, w ∈ Ts) (hown : s.vm.findClass own = some m.cls) (hW : hw_W D cl tys A M s H) {fs : List Value} (he : M a = some (.inr (ci, fs))) (hc : cl[ci]? = some (C, T, N)) (k : Nat) (hk : k < N) (hlink : (Cond.fieldLink own index ref (T k).2.1 (T k).2.2.1).before args s = true) (hsame : ∀ x, s.fieldFound? (T k).1 (T k).2.1 (T k).2.2.1 = some x → s.fieldFound? ref (T k).2.1 (T k).2.2.1 = some x) {v : Value} (hv : fs[k]? = some v) (hdg : decode cc pc = .ok (.getfield index, 3))
    (kk : W p l e R s m args below meth c H locs cells slots Q (F0 m (pc + 3) ls (v :: rest))) : W p l e R s m args below meth c H locs cells slots Q (F0 m pc ls (.ref a :: rest)) := by
  obtain ⟨ws, rfl, hP, hD, hK⟩ := hW
  obtain ⟨q0, hq⟩ := hw_lk_ix he
  exact va_get hexec hb hts hin hown hK hP q0 hq hc k hk hlink hsame hv hdg kk
theorem hw_getN (hexec : p.tables.exec = Jvm.exec) (hb : c.code = cc) {own ref C host : String} {T : u_T} {N ci index : Nat} {Ts : List Cond} (hts : ∀ w ∈ Ts, w.before args s = true) (hin : ∀ w ∈ u_ws C T N, w ∈ Ts) (hown : s.vm.findClass own = some m.cls) (hW : hw_W D cl tys A M s H) {fs : List Value} (he : M a = some (.inr (ci, fs))) (hc : cl[ci]? = some (C, T, N)) (k : Nat) (hk : k < N) (hlink : (Cond.fieldLinkNest own index ref (T k).2.1 (T k).2.2.1 host).before args s = true) (hsame : ∀ x, s.fieldFound? (T k).1 (T k).2.1 (T k).2.2.1 = some x → s.fieldFound? ref (T k).2.1 (T k).2.2.1 = some x) {v : Value} (hv : fs[k]? = some v) (hdg : decode cc pc = .ok (.getfield index, 3))
    (kk : W p l e R s m args below meth c H locs cells slots Q (F0 m (pc + 3) ls (v :: rest))) : W p l e R s m args below meth c H locs cells slots Q (F0 m pc ls (.ref a :: rest)) := by
  obtain ⟨ws, rfl, hP, hD, hK⟩ := hW
  obtain ⟨q0, hq⟩ := hw_lk_ix he
  exact va_getN hexec hb hts hin hown hK hP q0 hq hc k hk hlink hsame hv hdg kk
theorem hw_put (hexec : p.tables.exec = Jvm.exec) (hb : c.code = cc) {own ref C : String} {T : u_T} {N ci index : Nat} {Ts : List Cond} (hts : ∀ w ∈ Ts, w.before args s = true) (hin : ∀ w ∈ u_ws C T N, w ∈ Ts) (ty0 : Nat → FieldType) (hty : ∀ k, k < N → parseFieldDescriptor (T k).2.2.1 = some (ty0 k)) (hnm : ∀ a, a < N → ∀ b, b < N → a ≠ b → (T a).2.1 ≠ (T b).2.1) (hown : s.vm.findClass own = some m.cls) (hW : hw_W D cl tys A M s H) (hS0 : va_S A H0 H locs) {fs : List Value} (he : M a = some (.inr (ci, fs))) (hc : cl[ci]? = some (C, T, N)) (k : Nat) (hk : k < N) (hlink : (Cond.fieldLink own index ref (T k).2.1 (T k).2.2.1).before args s = true) (hsame : ∀ x, s.fieldFound? (T k).1 (T k).2.1 (T k).2.2.1 = some x → s.fieldFound? ref (T k).2.1 (T k).2.2.1 = some x) (hfin : (T k).2.2.2 = false) {ty : FieldType} {v : Value} (hd : parseFieldDescriptor (T k).2.2.1 = some ty) (hn : narrow ty v = v) (hfit : fits ty v = true) (hl : k < fs.length)
    (hdg : decode cc pc = .ok (.putfield index, 3)) (kk : ∀ (H1 : Heap) (locs1 : List Loc), hw_W D cl tys A (va_up M a (some (.inr (ci, fs.set k v)))) s H1 → va_S A H0 H1 locs1 → W p l e R s m args below meth c H1 locs1 cells slots Q (F0 m (pc + 3) ls rest)) : W p l e R s m args below meth c H locs cells slots Q (F0 m pc ls (v :: .ref a :: rest)) := by
  obtain ⟨ws, rfl, hP, hD, hK⟩ := hW
  obtain ⟨q0, hq⟩ := hw_lk_ix he
  exact va_put hexec hb hts hin ty0 hty hnm hown hK hP hD hS0 q0 hq hc k hk hlink hsame hfin hd hn hfit hl hdg (fun H1 locs1 h1 h2 h3 => kk H1 locs1 ⟨_, hw_lk_set hD hq, h1, h2, hK⟩ h3)
theorem hw_putN (hexec : p.tables.exec = Jvm.exec) (hb : c.code = cc) {own ref C host : String} {T : u_T} {N ci index : Nat} {Ts : List Cond} (hts : ∀ w ∈ Ts, w.before args s = true) (hin : ∀ w ∈ u_ws C T N, w ∈ Ts) (ty0 : Nat → FieldType) (hty : ∀ k, k < N → parseFieldDescriptor (T k).2.2.1 = some (ty0 k)) (hnm : ∀ a, a < N → ∀ b, b < N → a ≠ b → (T a).2.1 ≠ (T b).2.1) (hown : s.vm.findClass own = some m.cls) (hW : hw_W D cl tys A M s H) (hS0 : va_S A H0 H locs) {fs : List Value} (he : M a = some (.inr (ci, fs))) (hc : cl[ci]? = some (C, T, N)) (k : Nat) (hk : k < N) (hlink : (Cond.fieldLinkNest own index ref (T k).2.1 (T k).2.2.1 host).before args s = true) (hsame : ∀ x, s.fieldFound? (T k).1 (T k).2.1 (T k).2.2.1 = some x → s.fieldFound? ref (T k).2.1 (T k).2.2.1 = some x) (hfin : (T k).2.2.2 = false) {ty : FieldType} {v : Value} (hd : parseFieldDescriptor (T k).2.2.1 = some ty) (hn : narrow ty v = v) (hfit : fits ty v = true) (hl : k < fs.length)
    (hdg : decode cc pc = .ok (.putfield index, 3)) (kk : ∀ (H1 : Heap) (locs1 : List Loc), hw_W D cl tys A (va_up M a (some (.inr (ci, fs.set k v)))) s H1 → va_S A H0 H1 locs1 → W p l e R s m args below meth c H1 locs1 cells slots Q (F0 m (pc + 3) ls rest)) : W p l e R s m args below meth c H locs cells slots Q (F0 m pc ls (v :: .ref a :: rest)) := by
  obtain ⟨ws, rfl, hP, hD, hK⟩ := hW
  obtain ⟨q0, hq⟩ := hw_lk_ix he
  exact va_putN hexec hb hts hin ty0 hty hnm hown hK hP hD hS0 q0 hq hc k hk hlink hsame hfin hd hn hfit hl hdg (fun H1 locs1 h1 h2 h3 => kk H1 locs1 ⟨_, hw_lk_set hD hq, h1, h2, hK⟩ h3)
theorem hw_putF (hexec : p.tables.exec = Jvm.exec) (hb : c.code = cc) {own ref C : String} {T : u_T} {N ci index : Nat} {Ts : List Cond} (hts : ∀ w ∈ Ts, w.before args s = true) (hin : ∀ w ∈ u_ws C T N, w ∈ Ts) (ty0 : Nat → FieldType) (hty : ∀ k, k < N → parseFieldDescriptor (T k).2.2.1 = some (ty0 k)) (hnm : ∀ a, a < N → ∀ b, b < N → a ≠ b → (T a).2.1 ≠ (T b).2.1) (hown : s.vm.findClass own = some m.cls) (hW : hw_W D cl tys A M s H) (hS0 : va_S A H0 H locs) {fs : List Value} (he : M a = some (.inr (ci, fs))) (hc : cl[ci]? = some (C, T, N)) (k : Nat) (hk : k < N) (hlink : (Cond.fieldLink own index ref (T k).2.1 (T k).2.2.1).before args s = true) (hsame : ∀ x, s.fieldFound? (T k).1 (T k).2.1 (T k).2.2.1 = some x → s.fieldFound? ref (T k).2.1 (T k).2.2.1 = some x) (hfin : (T k).2.2.2 = true) (hin2 : meth.name = "<init>") (hdecl : (T k).1 = own) {ty : FieldType} {v : Value} (hd : parseFieldDescriptor (T k).2.2.1 = some ty) (hn : narrow ty v = v) (hfit : fits ty v = true) (hl : k < fs.length)
    (hdg : decode cc pc = .ok (.putfield index, 3)) (kk : ∀ (H1 : Heap) (locs1 : List Loc), hw_W D cl tys A (va_up M a (some (.inr (ci, fs.set k v)))) s H1 → va_S A H0 H1 locs1 → W p l e R s m args below meth c H1 locs1 cells slots Q (F0 m (pc + 3) ls rest)) : W p l e R s m args below meth c H locs cells slots Q (F0 m pc ls (v :: .ref a :: rest)) := by
  obtain ⟨ws, rfl, hP, hD, hK⟩ := hW
  obtain ⟨q0, hq⟩ := hw_lk_ix he
  exact va_putF hexec hb hts hin ty0 hty hnm hown hK hP hD hS0 q0 hq hc k hk hlink hsame hfin hin2 hdecl hd hn hfit hl hdg (fun H1 locs1 h1 h2 h3 => kk H1 locs1 ⟨_, hw_lk_set hD hq, h1, h2, hK⟩ h3)
theorem hw_iald (hexec : p.tables.exec = Jvm.exec) (hb : c.code = cc) (hW : hw_W D cl tys A M s H) (t0 : Nat) {cA : ClassId} {n : Nat} {f : Nat → Int32} (ha : M a = some (.inl (cA, n, .inl f))) (ht : tys[t0]? = some (cA, .int)) {i : Int32} (hin : vp_in i n) (hdg : decode cc pc = .ok (.iaload, 1))
    (kk : W p l e R s m args below meth c H locs cells slots Q (F0 m (pc + 1) ls (.int (f i.toNatClampNeg) :: rest))) : W p l e R s m args below meth c H locs cells slots Q (F0 m pc ls (.int i :: .ref a :: rest)) := by
  obtain ⟨ws, rfl, hP, hD, hK⟩ := hW
  obtain ⟨q0, hq⟩ := hw_lk_ix ha
  exact va_iald hexec hb hK hP q0 t0 hq ht hin hdg kk
theorem hw_lald (hexec : p.tables.exec = Jvm.exec) (hb : c.code = cc) (hW : hw_W D cl tys A M s H) (t0 : Nat) {cA : ClassId} {n : Nat} {f : Nat → Int64} (ha : M a = some (.inl (cA, n, .inr (.inl f)))) (ht : tys[t0]? = some (cA, .long)) {i : Int32} (hin : vp_in i n) (hdg : decode cc pc = .ok (.laload, 1))
    (kk : W p l e R s m args below meth c H locs cells slots Q (F0 m (pc + 1) ls (.long (f i.toNatClampNeg) :: rest))) : W p l e R s m args below meth c H locs cells slots Q (F0 m pc ls (.int i :: .ref a :: rest)) := by
  obtain ⟨ws, rfl, hP, hD, hK⟩ := hW
  obtain ⟨q0, hq⟩ := hw_lk_ix ha
  exact va_lald hexec hb hK hP q0 t0 hq ht hin hdg kk
theorem hw_aald (hexec : p.tables.exec = Jvm.exec) (hb : c.code = cc) (hW : hw_W D cl tys A M s H) (t0 : Nat) {cA : ClassId} {C : String} {n : Nat} {f : Nat → Option Nat} (ha : M a = some (.inl (cA, n, .inr (.inr (.inr (.inr f)))))) (ht : tys[t0]? = some (cA, .object C)) {i : Int32} (hin : vp_in i n) (hdg : decode cc pc = .ok (.aaload, 1))
    (kk : W p l e R s m args below meth c H locs cells slots Q (F0 m (pc + 1) ls (va_rf (f i.toNatClampNeg) :: rest))) : W p l e R s m args below meth c H locs cells slots Q (F0 m pc ls (.int i :: .ref a :: rest)) := by
  obtain ⟨ws, rfl, hP, hD, hK⟩ := hW
  obtain ⟨q0, hq⟩ := hw_lk_ix ha
  exact va_aldq hexec hb hK hP q0 t0 hq ht hin hdg kk
theorem hw_iast (hexec : p.tables.exec = Jvm.exec) (hb : c.code = cc) (hW : hw_W D cl tys A M s H) (hS : va_S A H0 H locs) (t0 : Nat) {cA : ClassId} {n : Nat} {f : Nat → Int32} (ha : M a = some (.inl (cA, n, .inl f))) (ht : tys[t0]? = some (cA, .int)) {i : Int32} {x : Int32} (hin : vp_in i n) (hdg : decode cc pc = .ok (.iastore, 1))
    (kk : ∀ (H1 : Heap) (locs1 : List Loc), hw_W D cl tys A (va_up M a (some (.inl (cA, n, .inl (upd f i.toNatClampNeg x))))) s H1 → va_S A H0 H1 locs1 → W p l e R s m args below meth c H1 locs1 cells slots Q (F0 m (pc + 1) ls rest)) : W p l e R s m args below meth c H locs cells slots Q (F0 m pc ls (.int x :: .int i :: .ref a :: rest)) := by
  obtain ⟨ws, rfl, hP, hD, hK⟩ := hW
  obtain ⟨q0, hq⟩ := hw_lk_ix ha
  exact va_iast hexec hb hK hP hD hS q0 t0 hq ht hin hdg (fun H1 locs1 h1 h2 h3 => kk H1 locs1 ⟨_, hw_lk_set hD hq, h1, h2, hK⟩ h3)
theorem hw_last (hexec : p.tables.exec = Jvm.exec) (hb : c.code = cc) (hW : hw_W D cl tys A M s H) (hS : va_S A H0 H locs) (t0 : Nat) {cA : ClassId} {n : Nat} {f : Nat → Int64} (ha : M a = some (.inl (cA, n, .inr (.inl f)))) (ht : tys[t0]? = some (cA, .long)) {i : Int32} {x : Int64} (hin : vp_in i n) (hdg : decode cc pc = .ok (.lastore, 1))
    (kk : ∀ (H1 : Heap) (locs1 : List Loc), hw_W D cl tys A (va_up M a (some (.inl (cA, n, .inr (.inl (vp_updL f i.toNatClampNeg x)))))) s H1 → va_S A H0 H1 locs1 → W p l e R s m args below meth c H1 locs1 cells slots Q (F0 m (pc + 1) ls rest)) : W p l e R s m args below meth c H locs cells slots Q (F0 m pc ls (.long x :: .int i :: .ref a :: rest)) := by
  obtain ⟨ws, rfl, hP, hD, hK⟩ := hW
  obtain ⟨q0, hq⟩ := hw_lk_ix ha
  exact va_last hexec hb hK hP hD hS q0 t0 hq ht hin hdg (fun H1 locs1 h1 h2 h3 => kk H1 locs1 ⟨_, hw_lk_set hD hq, h1, h2, hK⟩ h3)
theorem hw_alen (hexec : p.tables.exec = Jvm.exec) (hb : c.code = cc) (hW : hw_W D cl tys A M s H) (t0 : Nat) {cA : ClassId} {x : vp_A} (ha : M a = some (.inl (cA, x))) {ty : FieldType} (ht : tys[t0]? = some (cA, ty)) {v : Int32} (hv : Int32.ofNat x.1 = v) (hdg : decode cc pc = .ok (.arraylength, 1))
    (kk : W p l e R s m args below meth c H locs cells slots Q (F0 m (pc + 1) ls (.int v :: rest))) : W p l e R s m args below meth c H locs cells slots Q (F0 m pc ls (.ref a :: rest)) := by
  obtain ⟨ws, rfl, hP, hD, hK⟩ := hW
  obtain ⟨q0, hq⟩ := hw_lk_ix ha
  exact va_alen hexec hb hK hP q0 t0 hq ht hv hdg kk
theorem hw_new (hexec : p.tables.exec = Jvm.exec) (hb : c.code = cc) {own C : String} {T : u_T} {N ci index : Nat} {Ts : List Cond} (hts : ∀ w ∈ Ts, w.before args s = true) (hin : ∀ w ∈ u_ws C T N, w ∈ Ts) (ty : Nat → FieldType) (hty : ∀ k, k < N → parseFieldDescriptor (T k).2.2.1 = some (ty k)) (hown : s.vm.findClass own = some m.cls) (hcl : (Cond.classLink own index C).before args s = true) (hinst : (Cond.instantiable C N).before args s = true) (hini : (Cond.initialized C).before args s = true)
    (hW : hw_W D cl tys A M s H) (hS : va_S A H0 H locs) (hA : ∀ q, H0.size ≤ q → A q) (hc : cl[ci]? = some (C, T, N)) {fs : List Value} (hfs : ∀ j, j < N → defaultValue (ty j) = vp_V fs j) (hcells : cells + 1 ≤ R.cells) (hslots : slots + N ≤ R.slots) (hdg : decode cc pc = .ok (.new index, 3))
    (kk : ∀ (q : Nat) (H1 : Heap), M q = none → hw_W D cl tys A (va_up M q (some (.inr (ci, fs)))) s H1 → va_S A H0 H1 locs →
      W p l e R s m args below meth c H1 locs (cells + 1) (slots + N) Q (F0 m (pc + 3) ls (.ref q :: rest))) : W p l e R s m args below meth c H locs cells slots Q (F0 m pc ls rest) := by
  obtain ⟨ws, rfl, hP, hD, hK⟩ := hW
  exact va_new hexec hb hts hin ty hty hown hcl hinst hini hK hP hD hS hA hc hfs hcells hslots hdg (fun q H1 h1 h2 h3 => kk q H1 (hw_lk_push h2).2 ⟨_, (hw_lk_push h2).1, h1, h2, hK⟩ h3)
/-- the class of the arrays of a type is one -/
theorem hw_tyU {U : State} {cA cB : ClassId} {ty : FieldType} (h1 : va_RA U cA ty) (h2 : va_RA U cB ty) : cA = cB := by
  cases ty with
  | object C =>
    obtain ⟨_, _, _, _, _, a4⟩ := h1
    obtain ⟨_, _, _, _, _, b4⟩ := h2
    exact Option.some.inj (a4.symm.trans b4)
  | _ => exact Option.some.inj (Eq.trans (Eq.symm h1) h2)
theorem hw_tyK {U : State} {cA cB : ClassId} {ty : FieldType} {t0 : Nat} (hK : va_K D cl (tys ++ [(cA, ty)]) U) (ht : tys[t0]? = some (cB, ty)) : cA = cB := by
  have h1 := (hK.2 tys.length (cA, ty) (by rw [List.getElem?_append_right (Nat.le_refl _), Nat.sub_self]; rfl)).2
  have h2 := (hK.2 t0 (cB, ty) (by rw [List.getElem?_append_left (List.getElem?_eq_some_iff.mp ht).1]; exact ht)).2
  exact hw_tyU h1 h2
theorem hw_newi (hexec : p.tables.exec = Jvm.exec) (hb : c.code = cc) (harr : (Cond.arrayClass .int).before args s = true) (hW : hw_W D cl tys A M s H) (hS : va_S A H0 H locs) (hA : ∀ q, H0.size ≤ q → A q) (t0 : Nat) {cA : ClassId} (ht : tys[t0]? = some (cA, .int))
    {n : Int32} {N' : Nat} (hn : ¬ n < 0) (hN : n.toNatClampNeg = N') (hbytes : N' * 4 ≤ 536870912) (hcells : cells + 1 ≤ R.cells) (hslots : slots + N' ≤ R.slots) (hdg : decode cc pc = .ok (.newarray .int, 2))
    (kk : ∀ (q : Nat) (H1 : Heap), M q = none → hw_W D cl tys A (va_up M q (some (.inl (cA, N', .inl (fun _ => 0))))) s H1 → va_S A H0 H1 locs →
      W p l e R s m args below meth c H1 locs (cells + 1) (slots + N') Q (F0 m (pc + 2) ls (.ref q :: rest))) : W p l e R s m args below meth c H locs cells slots Q (F0 m pc ls (.int n :: rest)) := by
  obtain ⟨ws, rfl, hP, hD, hK⟩ := hW
  refine va_newa (atype := .int) (ty := .int) (a0 := (N', .inl (fun _ => 0))) hexec hb harr rfl hK hP hD hS hA (fun _ => rfl) hn hN hbytes hcells hslots hdg (fun q cB H1 h0 h1 h2 h3 => ?_)
  have e1 := hw_tyK h0 ht
  subst e1
  exact kk q H1 (hw_lk_push h2).2 ⟨_, (hw_lk_push h2).1, h1, h2, hK⟩ h3
theorem hw_newl (hexec : p.tables.exec = Jvm.exec) (hb : c.code = cc) (harr : (Cond.arrayClass .long).before args s = true) (hW : hw_W D cl tys A M s H) (hS : va_S A H0 H locs) (hA : ∀ q, H0.size ≤ q → A q) (t0 : Nat) {cA : ClassId} (ht : tys[t0]? = some (cA, .long))
    {n : Int32} {N' : Nat} (hn : ¬ n < 0) (hN : n.toNatClampNeg = N') (hbytes : N' * 8 ≤ 536870912) (hcells : cells + 1 ≤ R.cells) (hslots : slots + N' ≤ R.slots) (hdg : decode cc pc = .ok (.newarray .long, 2))
    (kk : ∀ (q : Nat) (H1 : Heap), M q = none → hw_W D cl tys A (va_up M q (some (.inl (cA, N', .inr (.inl (fun _ => 0)))))) s H1 → va_S A H0 H1 locs →
      W p l e R s m args below meth c H1 locs (cells + 1) (slots + N') Q (F0 m (pc + 2) ls (.ref q :: rest))) : W p l e R s m args below meth c H locs cells slots Q (F0 m pc ls (.int n :: rest)) := by
  obtain ⟨ws, rfl, hP, hD, hK⟩ := hW
  refine va_newa (atype := .long) (ty := .long) (a0 := (N', .inr (.inl (fun _ => 0)))) hexec hb harr rfl hK hP hD hS hA (fun _ => rfl) hn hN hbytes hcells hslots hdg (fun q cB H1 h0 h1 h2 h3 => ?_)
  have e1 := hw_tyK h0 ht
  subst e1
  exact kk q H1 (hw_lk_push h2).2 ⟨_, (hw_lk_push h2).1, h1, h2, hK⟩ h3
theorem hw_newq (hexec : p.tables.exec = Jvm.exec) (hb : c.code = cc) {own C : String} {index : Nat} (hown : s.vm.findClass own = some m.cls) (hclink : (Cond.classLink own index C).before args s = true) (hover : va_AO C s) (hW : hw_W D cl tys A M s H) (hS : va_S A H0 H locs) (hA : ∀ q, H0.size ≤ q → A q) (t0 : Nat) {cA : ClassId} (ht : tys[t0]? = some (cA, .object C))
    {n : Int32} {N' : Nat} (hn : ¬ n < 0) (hN : n.toNatClampNeg = N') (hbytes : N' * 4 ≤ 536870912) (hcells : cells + 1 ≤ R.cells) (hslots : slots + N' ≤ R.slots) (hdg : decode cc pc = .ok (.anewarray index, 3))
    (kk : ∀ (q : Nat) (H1 : Heap), M q = none → hw_W D cl tys A (va_up M q (some (.inl (cA, N', .inr (.inr (.inr (.inr (fun _ => none)))))))) s H1 → va_S A H0 H1 locs →
      W p l e R s m args below meth c H1 locs (cells + 1) (slots + N') Q (F0 m (pc + 3) ls (.ref q :: rest))) : W p l e R s m args below meth c H locs cells slots Q (F0 m pc ls (.int n :: rest)) := by
  obtain ⟨ws, rfl, hP, hD, hK⟩ := hW
  refine va_newq hexec hb hown hclink hover hK hP hD hS hA hn hN hbytes hcells hslots hdg (fun q cB H1 h0 h1 h2 h3 => ?_)
  have e1 := hw_tyK h0 ht
  subst e1
  exact kk q H1 (hw_lk_push h2).2 ⟨_, (hw_lk_push h2).1, h1, h2, hK⟩ h3
theorem hw_back {A1 : Nat → Prop} {M1 : Nat → Option va_E} {t : State} {H1 : Heap} (hW : hw_W D cl tys A M s H) (hS : va_S A H0 H locs) (hA : ∀ q, H0.size ≤ q → A q) (ht : t.heap = H1) (hvm : s.vm.Alike t.vm) (hB : hw_B D cl tys M H.size M1 t) : hw_W D cl tys A M1 s H1 := by
  have h1 : hw_W D cl tys (hw_A M H.size) M1 t t.heap := hB
  rw [ht] at h1
  exact (h1.moved hvm.symm).weaken (hW.free hS hA)
theorem hw_calli {st0 : List Value} {a9 : Array Value} {mc ms : Nat} {post : Int32 → (Nat → Option va_E) → Prop} (hr : va_Run p l e R s m args below meth c H locs cells slots mc ms (F0 m pc ls st0) rest (va_Qi post (hw_B D cl tys M H.size) (hw_A M H.size) a9) (hw_A M H.size)) (hW : hw_W D cl tys A M s H) (hS : va_S A H0 H locs) (hA : ∀ q, H0.size ≤ q → A q)
    (kk : ∀ (r : Int32) (M1 : Nat → Option va_E) (H1 : Heap) (locs1 : List Loc), post r M1 → H.size ≤ H1.size → hw_W D cl tys A M1 s H1 → va_S A H0 H1 locs1 → W p l e R s m args below meth c H1 locs1 (cells + mc) (slots + ms) Q (F0 m (pc + 3) ls (.int r :: rest))) : W p l e R s m args below meth c H locs cells slots Q (F0 m pc ls st0) :=
  va_calli hr hS (fun q _ h => hW.free hS hA q h) (fun q h => hW.free hS hA q h) (fun r M1 _ H1 locs1 ht hvm hp hB hz _ hS1 => kk r M1 H1 locs1 hp hz (hw_back (A1 := A) hW hS hA ht hvm hB) hS1)
theorem hw_calll {st0 : List Value} {a9 : Array Value} {mc ms : Nat} {post : Int64 → (Nat → Option va_E) → Prop} (hr : va_Run p l e R s m args below meth c H locs cells slots mc ms (F0 m pc ls st0) rest (va_Ql post (hw_B D cl tys M H.size) (hw_A M H.size) a9) (hw_A M H.size)) (hW : hw_W D cl tys A M s H) (hS : va_S A H0 H locs) (hA : ∀ q, H0.size ≤ q → A q)
    (kk : ∀ (r : Int64) (M1 : Nat → Option va_E) (H1 : Heap) (locs1 : List Loc), post r M1 → H.size ≤ H1.size → hw_W D cl tys A M1 s H1 → va_S A H0 H1 locs1 → W p l e R s m args below meth c H1 locs1 (cells + mc) (slots + ms) Q (F0 m (pc + 3) ls (.long r :: rest))) : W p l e R s m args below meth c H locs cells slots Q (F0 m pc ls st0) :=
  va_calll hr hS (fun q _ h => hW.free hS hA q h) (fun q h => hW.free hS hA q h) (fun r M1 _ H1 locs1 ht hvm hp hB hz _ hS1 => kk r M1 H1 locs1 hp hz (hw_back (A1 := A) hW hS hA ht hvm hB) hS1)
theorem hw_callv {st0 : List Value} {a9 : Array Value} {mc ms : Nat} {post : (Nat → Option va_E) → Prop} (hr : va_Run p l e R s m args below meth c H locs cells slots mc ms (F0 m pc ls st0) rest (va_Qv post (hw_B D cl tys M H.size) (hw_A M H.size) a9) (hw_A M H.size)) (hW : hw_W D cl tys A M s H) (hS : va_S A H0 H locs) (hA : ∀ q, H0.size ≤ q → A q)
    (kk : ∀ (M1 : Nat → Option va_E) (H1 : Heap) (locs1 : List Loc), post M1 → H.size ≤ H1.size → hw_W D cl tys A M1 s H1 → va_S A H0 H1 locs1 → W p l e R s m args below meth c H1 locs1 (cells + mc) (slots + ms) Q (F0 m (pc + 3) ls (rest))) : W p l e R s m args below meth c H locs cells slots Q (F0 m pc ls st0) :=
  va_callv hr hS (fun q _ h => hW.free hS hA q h) (fun q h => hW.free hS hA q h) (fun M1 _ H1 locs1 ht hvm hp hB hz _ hS1 => kk M1 H1 locs1 hp hz (hw_back (A1 := A) hW hS hA ht hvm hB) hS1)
theorem hw_callq {st0 : List Value} {a9 : Array Value} {mc ms : Nat} {post : Option Nat → (Nat → Option va_E) → Prop} (hr : va_Run p l e R s m args below meth c H locs cells slots mc ms (F0 m pc ls st0) rest (va_Qq post (hw_B D cl tys M H.size) (hw_A M H.size) a9) (hw_A M H.size)) (hW : hw_W D cl tys A M s H) (hS : va_S A H0 H locs) (hA : ∀ q, H0.size ≤ q → A q)
    (kk : ∀ (r : Option Nat) (M1 : Nat → Option va_E) (H1 : Heap) (locs1 : List Loc), post r M1 → H.size ≤ H1.size → hw_W D cl tys A M1 s H1 → va_S A H0 H1 locs1 → W p l e R s m args below meth c H1 locs1 (cells + mc) (slots + ms) Q (F0 m (pc + 3) ls (va_rf r :: rest))) : W p l e R s m args below meth c H locs cells slots Q (F0 m pc ls st0) :=
  va_callq hr hS (fun q _ h => hW.free hS hA q h) (fun q h => hW.free hS hA q h) (fun r M1 _ H1 locs1 ht hvm hp hB hz _ hS1 => kk r M1 H1 locs1 hp hz (hw_back (A1 := A) hW hS hA ht hvm hB) hS1)
theorem hw_reti {M0 : Nat → Option va_E} {post : Int32 → (Nat → Option va_E) → Prop} {v : Int32} (hexec : p.tables.exec = Jvm.exec) (hb : c.code = cc) (hr : meth.sig.returnType = some .int) (hlocks : meth.locks = false) (hW : hw_W D cl tys (hw_A M0 s.heap.size) M s H) (hS : va_S (hw_A M0 s.heap.size) s.heap H locs) (hp : post v M) (hdg : decode cc pc = .ok (.ireturn, 1)) : W p l e R s m args below meth c H locs cells slots (MQ below (va_Qi post (hw_B D cl tys M0 s.heap.size) (hw_A M0 s.heap.size)) args s cells slots (hw_A M0 s.heap.size)) (F0 m pc ls [.int v]) :=
  W.iret (v := v) hexec hb hr (fun t ht hw => ⟨⟨v, M, rfl, hp, by rw [hw_B, ht]; exact hW.moved hw.alike⟩, hS.F ht⟩) hS.2.2 hdg hlocks
theorem hw_retz {M0 : Nat → Option va_E} {post : Int32 → (Nat → Option va_E) → Prop} {v : Int32} (hexec : p.tables.exec = Jvm.exec) (hb : c.code = cc) (hr : meth.sig.returnType = some .boolean) (hn : narrow .boolean (.int v) = .int v) (hlocks : meth.locks = false) (hW : hw_W D cl tys (hw_A M0 s.heap.size) M s H) (hS : va_S (hw_A M0 s.heap.size) s.heap H locs) (hp : post v M) (hdg : decode cc pc = .ok (.ireturn, 1)) : W p l e R s m args below meth c H locs cells slots (MQ below (va_Qi post (hw_B D cl tys M0 s.heap.size) (hw_A M0 s.heap.size)) args s cells slots (hw_A M0 s.heap.size)) (F0 m pc ls [.int v]) :=
  W.zret (v := v) hexec hb hr hn (fun t ht hw => ⟨⟨v, M, rfl, hp, by rw [hw_B, ht]; exact hW.moved hw.alike⟩, hS.F ht⟩) hS.2.2 hdg hlocks
theorem hw_retl {M0 : Nat → Option va_E} {post : Int64 → (Nat → Option va_E) → Prop} {v : Int64} (hexec : p.tables.exec = Jvm.exec) (hb : c.code = cc) (hr : meth.sig.returnType = some .long) (hlocks : meth.locks = false) (hW : hw_W D cl tys (hw_A M0 s.heap.size) M s H) (hS : va_S (hw_A M0 s.heap.size) s.heap H locs) (hp : post v M) (hdg : decode cc pc = .ok (.lreturn, 1)) : W p l e R s m args below meth c H locs cells slots (MQ below (va_Ql post (hw_B D cl tys M0 s.heap.size) (hw_A M0 s.heap.size)) args s cells slots (hw_A M0 s.heap.size)) (F0 m pc ls [.long v]) :=
  W.lret (v := v) hexec hb hr (fun t ht hw => ⟨⟨v, M, rfl, hp, by rw [hw_B, ht]; exact hW.moved hw.alike⟩, hS.F ht⟩) hS.2.2 hdg hlocks
theorem hw_retv {M0 : Nat → Option va_E} {post : (Nat → Option va_E) → Prop} (hexec : p.tables.exec = Jvm.exec) (hb : c.code = cc) (hr : meth.sig.returnType = none) (hlocks : meth.locks = false) (hW : hw_W D cl tys (hw_A M0 s.heap.size) M s H) (hS : va_S (hw_A M0 s.heap.size) s.heap H locs) (hp : post M) (hdg : decode cc pc = .ok (.return_, 1)) : W p l e R s m args below meth c H locs cells slots (MQ below (va_Qv post (hw_B D cl tys M0 s.heap.size) (hw_A M0 s.heap.size)) args s cells slots (hw_A M0 s.heap.size)) (F0 m pc ls []) :=
  W.vret hexec hb hr (fun t ht hw => ⟨⟨M, rfl, hp, by rw [hw_B, ht]; exact hW.moved hw.alike⟩, hS.F ht⟩) hS.2.2 hdg hlocks
theorem hw_reta {M0 : Nat → Option va_E} {post : Option Nat → (Nat → Option va_E) → Prop} {v : Nat} {rt : FieldType} (hexec : p.tables.exec = Jvm.exec) (hb : c.code = cc) (hr : meth.sig.returnType = some rt) (hrt : (∃ n, rt = .object n) ∨ ∃ t, rt = .array t) (hlocks : meth.locks = false) (hW : hw_W D cl tys (hw_A M0 s.heap.size) M s H) (hS : va_S (hw_A M0 s.heap.size) s.heap H locs) (hp : post (some v) M) (hdg : decode cc pc = .ok (.areturn, 1)) : W p l e R s m args below meth c H locs cells slots (MQ below (va_Qq post (hw_B D cl tys M0 s.heap.size) (hw_A M0 s.heap.size)) args s cells slots (hw_A M0 s.heap.size)) (F0 m pc ls [.ref v]) :=
  W.aret hexec hb hr hrt (Or.inr ⟨v, rfl⟩) (fun t ht hw => ⟨⟨some v, M, rfl, hp, by rw [hw_B, ht]; exact hW.moved hw.alike⟩, hS.F ht⟩) hS.2.2 hdg hlocks
end HWS

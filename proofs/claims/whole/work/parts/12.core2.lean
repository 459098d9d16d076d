/-! Arrays by natural places; copies; boolean arrays. -/
section HC2
variable {p : Program} {l : Launch} {e : Env} {R : Room} {s : State} {m : MethodId} {args : Array Value} {below : List Frame} {meth : Method} {c : Code} {H : Heap} {locs : List Loc} {cells slots : Nat} {Q : State → Prop}
variable {cc : ByteArray} {pc : Nat} {ls : Array Slot} {rest : List Value} {D : va_G} {cl : List vw_C} {A : Nat → Prop} {a : Nat} {tys : List (ClassId × FieldType)} {M : Nat → Option va_E} {H0 : Heap}
theorem hw_ix {i : Int32} {j n : Nat} (hi : i = nI j) (hj : j < n) (hn : n < 1000000) : vp_in i n ∧ i.toNatClampNeg = j := by
  subst hi
  exact ⟨vp_in_nI hj (by omega), nI_clamp (by omega)⟩
theorem hw_ild (hexec : p.tables.exec = Jvm.exec) (hb : c.code = cc) (hW : hw_W D cl tys A M s H) (t0 : Nat) {cA : ClassId} {n : Nat} {f : Nat → Int32} (ha : M a = some (.inl (cA, n, .inl f))) (ht : tys[t0]? = some (cA, .int)) {i : Int32} (j : Nat) (hi : i = nI j) (hj : j < n) (hn : n < 1000000) (hdg : decode cc pc = .ok (.iaload, 1))
    (kk : W p l e R s m args below meth c H locs cells slots Q (F0 m (pc + 1) ls (.int (f j) :: rest))) : W p l e R s m args below meth c H locs cells slots Q (F0 m pc ls (.int i :: .ref a :: rest)) := by
  obtain ⟨h1, h2⟩ := hw_ix hi hj hn
  obtain ⟨ws, rfl, hP, hD, hK⟩ := hW
  obtain ⟨q0, hq⟩ := hw_lk_ix ha
  refine va_iald hexec hb hK hP q0 t0 hq ht h1 hdg ?_
  rw [h2]
  exact kk
theorem hw_lld (hexec : p.tables.exec = Jvm.exec) (hb : c.code = cc) (hW : hw_W D cl tys A M s H) (t0 : Nat) {cA : ClassId} {n : Nat} {f : Nat → Int64} (ha : M a = some (.inl (cA, n, .inr (.inl f)))) (ht : tys[t0]? = some (cA, .long)) {i : Int32} (j : Nat) (hi : i = nI j) (hj : j < n) (hn : n < 1000000) (hdg : decode cc pc = .ok (.laload, 1))
    (kk : W p l e R s m args below meth c H locs cells slots Q (F0 m (pc + 1) ls (.long (f j) :: rest))) : W p l e R s m args below meth c H locs cells slots Q (F0 m pc ls (.int i :: .ref a :: rest)) := by
  obtain ⟨h1, h2⟩ := hw_ix hi hj hn
  obtain ⟨ws, rfl, hP, hD, hK⟩ := hW
  obtain ⟨q0, hq⟩ := hw_lk_ix ha
  refine va_lald hexec hb hK hP q0 t0 hq ht h1 hdg ?_
  rw [h2]
  exact kk
theorem hw_zld (hexec : p.tables.exec = Jvm.exec) (hb : c.code = cc) (hW : hw_W D cl tys A M s H) (t0 : Nat) {cA : ClassId} {n : Nat} {f : Nat → Int32} (ha : M a = some (.inl (cA, n, .inl f))) (ht : tys[t0]? = some (cA, .boolean)) {i : Int32} (j : Nat) (hi : i = nI j) (hj : j < n) (hn : n < 1000000) (hdg : decode cc pc = .ok (.baload, 1))
    (kk : W p l e R s m args below meth c H locs cells slots Q (F0 m (pc + 1) ls (.int (f j) :: rest))) : W p l e R s m args below meth c H locs cells slots Q (F0 m pc ls (.int i :: .ref a :: rest)) := by
  obtain ⟨h1, h2⟩ := hw_ix hi hj hn
  obtain ⟨ws, rfl, hP, hD, hK⟩ := hW
  obtain ⟨q0, hq⟩ := hw_lk_ix ha
  refine va_zald hexec hb hK hP q0 t0 hq ht h1 hdg ?_
  rw [h2]
  exact kk
theorem hw_ald (hexec : p.tables.exec = Jvm.exec) (hb : c.code = cc) (hW : hw_W D cl tys A M s H) (t0 : Nat) {cA : ClassId} {C : String} {n : Nat} {f : Nat → Option Nat} (ha : M a = some (.inl (cA, n, .inr (.inr (.inr (.inr f)))))) (ht : tys[t0]? = some (cA, .object C)) {i : Int32} (j : Nat) (hi : i = nI j) (hj : j < n) (hn : n < 1000000) (hdg : decode cc pc = .ok (.aaload, 1))
    (kk : W p l e R s m args below meth c H locs cells slots Q (F0 m (pc + 1) ls (va_rf (f j) :: rest))) : W p l e R s m args below meth c H locs cells slots Q (F0 m pc ls (.int i :: .ref a :: rest)) := by
  obtain ⟨h1, h2⟩ := hw_ix hi hj hn
  refine hw_aald hexec hb hW t0 ha ht h1 hdg ?_
  rw [h2]
  exact kk
theorem hw_ist (hexec : p.tables.exec = Jvm.exec) (hb : c.code = cc) (hW : hw_W D cl tys A M s H) (hS : va_S A H0 H locs) (t0 : Nat) {cA : ClassId} {n : Nat} {f : Nat → Int32} (ha : M a = some (.inl (cA, n, .inl f))) (ht : tys[t0]? = some (cA, .int)) {i : Int32} {x : Int32} (j : Nat) (hi : i = nI j) (hj : j < n) (hn : n < 1000000) (hdg : decode cc pc = .ok (.iastore, 1))
    (kk : ∀ (H1 : Heap) (locs1 : List Loc), hw_W D cl tys A (va_up M a (some (.inl (cA, n, .inl (upd f j x))))) s H1 → va_S A H0 H1 locs1 → W p l e R s m args below meth c H1 locs1 cells slots Q (F0 m (pc + 1) ls rest)) : W p l e R s m args below meth c H locs cells slots Q (F0 m pc ls (.int x :: .int i :: .ref a :: rest)) := by
  obtain ⟨h1, h2⟩ := hw_ix hi hj hn
  obtain ⟨ws, rfl, hP, hD, hK⟩ := hW
  obtain ⟨q0, hq⟩ := hw_lk_ix ha
  refine va_iast hexec hb hK hP hD hS q0 t0 hq ht h1 hdg (fun H1 locs1 e1 e2 e3 => ?_)
  rw [h2] at e1 e2
  exact kk H1 locs1 ⟨_, hw_lk_set hD hq, e1, e2, hK⟩ e3
theorem hw_lst (hexec : p.tables.exec = Jvm.exec) (hb : c.code = cc) (hW : hw_W D cl tys A M s H) (hS : va_S A H0 H locs) (t0 : Nat) {cA : ClassId} {n : Nat} {f : Nat → Int64} (ha : M a = some (.inl (cA, n, .inr (.inl f)))) (ht : tys[t0]? = some (cA, .long)) {i : Int32} {x : Int64} (j : Nat) (hi : i = nI j) (hj : j < n) (hn : n < 1000000) (hdg : decode cc pc = .ok (.lastore, 1))
    (kk : ∀ (H1 : Heap) (locs1 : List Loc), hw_W D cl tys A (va_up M a (some (.inl (cA, n, .inr (.inl (vp_updL f j x)))))) s H1 → va_S A H0 H1 locs1 → W p l e R s m args below meth c H1 locs1 cells slots Q (F0 m (pc + 1) ls rest)) : W p l e R s m args below meth c H locs cells slots Q (F0 m pc ls (.long x :: .int i :: .ref a :: rest)) := by
  obtain ⟨h1, h2⟩ := hw_ix hi hj hn
  obtain ⟨ws, rfl, hP, hD, hK⟩ := hW
  obtain ⟨q0, hq⟩ := hw_lk_ix ha
  refine va_last hexec hb hK hP hD hS q0 t0 hq ht h1 hdg (fun H1 locs1 e1 e2 e3 => ?_)
  rw [h2] at e1 e2
  exact kk H1 locs1 ⟨_, hw_lk_set hD hq, e1, e2, hK⟩ e3
theorem hw_zst (hexec : p.tables.exec = Jvm.exec) (hb : c.code = cc) (hW : hw_W D cl tys A M s H) (hS : va_S A H0 H locs) (t0 : Nat) {cA : ClassId} {n : Nat} {f : Nat → Int32} (ha : M a = some (.inl (cA, n, .inl f))) (ht : tys[t0]? = some (cA, .boolean)) {i : Int32} {x : Int32} (j : Nat) (hi : i = nI j) (hj : j < n) (hn : n < 1000000) (hx01 : vp_nar .boolean x = x) (hdg : decode cc pc = .ok (.bastore, 1))
    (kk : ∀ (H1 : Heap) (locs1 : List Loc), hw_W D cl tys A (va_up M a (some (.inl (cA, n, .inl (upd f j x))))) s H1 → va_S A H0 H1 locs1 → W p l e R s m args below meth c H1 locs1 cells slots Q (F0 m (pc + 1) ls rest)) : W p l e R s m args below meth c H locs cells slots Q (F0 m pc ls (.int x :: .int i :: .ref a :: rest)) := by
  obtain ⟨h1, h2⟩ := hw_ix hi hj hn
  obtain ⟨ws, rfl, hP, hD, hK⟩ := hW
  obtain ⟨q0, hq⟩ := hw_lk_ix ha
  refine va_zast hexec hb hK hP hD hS q0 t0 hq ht h1 hdg (fun H1 locs1 e1 e2 e3 => ?_)
  rw [h2, hx01] at e1 e2
  exact kk H1 locs1 ⟨_, hw_lk_set hD hq, e1, e2, hK⟩ e3
/-- System.arraycopy of longs, by natural places -/
theorem hw_cpl (hexec : p.tables.exec = Jvm.exec) (hb : c.code = cc) (hml : c.maxLocals = ls.size) {own : String} {index : Nat} (hown : s.vm.findClass own = some m.cls) (hts : ∀ w ∈ ww, w.before args s = true) (w1 : Cond.methodLink own index arraycopyName ∈ ww) (w2 : Cond.native arraycopyName ∈ ww) (w3 : Cond.static arraycopyName ∈ ww) (w4 : Cond.initialized "java/lang/System" ∈ ww)
    (hW : hw_W D cl tys A M s H) (hS : va_S A H0 H locs) (t0 : Nat) {a0 : Nat} {c0 : ClassId} {n0 n1 : Nat} {f g : Nat → Int64} (ha0 : M a0 = some (.inl (c0, n0, .inr (.inl f)))) (ha1 : M a = some (.inl (c0, n1, .inr (.inl g)))) (ht0 : tys[t0]? = some (c0, .long))
    {sp dp n : Int32} (jsp jdp jn : Nat) (e1 : sp = nI jsp) (e2 : dp = nI jdp) (e3 : n = nI jn) (h4 : jsp + jn ≤ n0) (h5 : jdp + jn ≤ n1) (hn0 : n0 < 1000000) (hn1 : n1 < 1000000)
    (hframes : 1 ≤ R.frames) (hlocals : (rest.map fun v => v.category).sum + (nativeFrameWords "java/lang/System" "arraycopy" 5 + 11) ≤ R.locals) (hdg : decode cc pc = .ok (.invokestatic index, 3))
    (kk : ∀ (H1 : Heap) (locs1 : List Loc), hw_W D cl tys A (va_up M a (some (.inl (c0, n1, .inr (.inl (va_cpy f g jsp jdp jn)))))) s H1 → va_S A H0 H1 locs1 → W p l e R s m args below meth c H1 locs1 cells slots Q (F0 m (pc + 3) ls rest)) : W p l e R s m args below meth c H locs cells slots Q (F0 m pc ls (.int n :: .int dp :: .ref a :: .int sp :: .ref a0 :: rest)) := by
  subst e1; subst e2; subst e3
  have k1 : (nI jsp).toNatClampNeg = jsp := nI_clamp (by omega)
  have k2 : (nI jdp).toNatClampNeg = jdp := nI_clamp (by omega)
  have k3 : (nI jn).toNatClampNeg = jn := nI_clamp (by omega)
  obtain ⟨ws, rfl, hP, hD, hK⟩ := hW
  obtain ⟨q0, hq0⟩ := hw_lk_ix ha0
  obtain ⟨q1, hq1⟩ := hw_lk_ix ha1
  refine va_copyl (ty := .long) hexec hb hml hown (hts _ w1) (hts _ w2) (hts _ w3) (hts _ w4) hK hP hD hS q0 q1 t0 t0 hq0 hq1 ht0 ht0 rfl (nI_pos (by omega)) (nI_pos (by omega)) (nI_pos (by omega)) (by rw [k1, k3]; exact h4) (by rw [k2, k3]; exact h5) (fun _ _ => rfl) hframes hlocals hdg (fun H1 locs1 f1 f2 f3 => ?_)
  rw [k1, k2, k3] at f1 f2
  exact kk H1 locs1 ⟨_, hw_lk_set hD hq1, f1, f2, hK⟩ f3
theorem hw_cpi (hexec : p.tables.exec = Jvm.exec) (hb : c.code = cc) (hml : c.maxLocals = ls.size) {own : String} {index : Nat} (hown : s.vm.findClass own = some m.cls) (hts : ∀ w ∈ ww, w.before args s = true) (w1 : Cond.methodLink own index arraycopyName ∈ ww) (w2 : Cond.native arraycopyName ∈ ww) (w3 : Cond.static arraycopyName ∈ ww) (w4 : Cond.initialized "java/lang/System" ∈ ww)
    (hW : hw_W D cl tys A M s H) (hS : va_S A H0 H locs) (t0 : Nat) {a0 : Nat} {c0 : ClassId} {n0 n1 : Nat} {f g : Nat → Int32} (ha0 : M a0 = some (.inl (c0, n0, .inl f))) (ha1 : M a = some (.inl (c0, n1, .inl g))) (ht0 : tys[t0]? = some (c0, .int))
    {sp dp n : Int32} (jsp jdp jn : Nat) (e1 : sp = nI jsp) (e2 : dp = nI jdp) (e3 : n = nI jn) (h4 : jsp + jn ≤ n0) (h5 : jdp + jn ≤ n1) (hn0 : n0 < 1000000) (hn1 : n1 < 1000000)
    (hframes : 1 ≤ R.frames) (hlocals : (rest.map fun v => v.category).sum + (nativeFrameWords "java/lang/System" "arraycopy" 5 + 11) ≤ R.locals) (hdg : decode cc pc = .ok (.invokestatic index, 3))
    (kk : ∀ (H1 : Heap) (locs1 : List Loc), hw_W D cl tys A (va_up M a (some (.inl (c0, n1, .inl (va_cpy f g jsp jdp jn))))) s H1 → va_S A H0 H1 locs1 → W p l e R s m args below meth c H1 locs1 cells slots Q (F0 m (pc + 3) ls rest)) : W p l e R s m args below meth c H locs cells slots Q (F0 m pc ls (.int n :: .int dp :: .ref a :: .int sp :: .ref a0 :: rest)) := by
  subst e1; subst e2; subst e3
  have k1 : (nI jsp).toNatClampNeg = jsp := nI_clamp (by omega)
  have k2 : (nI jdp).toNatClampNeg = jdp := nI_clamp (by omega)
  have k3 : (nI jn).toNatClampNeg = jn := nI_clamp (by omega)
  obtain ⟨ws, rfl, hP, hD, hK⟩ := hW
  obtain ⟨q0, hq0⟩ := hw_lk_ix ha0
  obtain ⟨q1, hq1⟩ := hw_lk_ix ha1
  refine va_copyi (ty := .int) hexec hb hml hown (hts _ w1) (hts _ w2) (hts _ w3) (hts _ w4) hK hP hD hS q0 q1 t0 t0 hq0 hq1 ht0 ht0 rfl (nI_pos (by omega)) (nI_pos (by omega)) (nI_pos (by omega)) (by rw [k1, k3]; exact h4) (by rw [k2, k3]; exact h5) (fun _ _ => rfl) hframes hlocals hdg (fun H1 locs1 f1 f2 f3 => ?_)
  rw [k1, k2, k3] at f1 f2
  exact kk H1 locs1 ⟨_, hw_lk_set hD hq1, f1, f2, hK⟩ f3
end HC2
/-- the classes of the arrays that the worlds hold -/
abbrev qty (cI cJ cZ cN : ClassId) : List (ClassId × FieldType) := [(cI, .int), (cJ, .long), (cZ, .boolean), (cN, .object "QuantifierOut$Node")]

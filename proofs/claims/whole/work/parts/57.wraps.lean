/-! The law's wrappers: they catch what the class throws -/
def nc3 (U : State) : Prop := va_Nc "java/lang/IllegalStateException" "java/lang/IndexOutOfBoundsException" U ∧ va_Nc "java/lang/IllegalArgumentException" "java/lang/IndexOutOfBoundsException" U ∧ va_Nc "java/lang/IllegalArgumentException" "java/lang/IllegalStateException" U
theorem nc3.moved {u U : State} (hvm : u.vm.Alike U.vm) (h : nc3 u) : nc3 U := ⟨va_Nc.moved hvm h.1, va_Nc.moved hvm h.2.1, va_Nc.moved hvm h.2.2⟩
def lx_Pc (D : va_G) (cl : List vw_C) (tys : List (ClassId × FieldType)) (av : List Value) (M : Nat → Option va_E) (sz : Nat) : Array Value → State → Prop := va_Pc av (fun U => U.heap.size = sz ∧ hw_W D cl tys (fun _ => True) M U U.heap ∧ hw_X U ∧ hz (hw_A M sz) U U.heap ∧ nc3 U)
theorem lx_Pc.blind {D : va_G} {cl : List vw_C} {tys : List (ClassId × FieldType)} {av : List Value} {M : Nat → Option va_E} {sz : Nat} : FrameBlind (lx_Pc D cl tys av M sz) := by
  intro a U g mk h
  obtain ⟨h1, h2, h3, h4, h5, h6⟩ := h
  obtain ⟨a1, a2, a3, a4, a5⟩ := hx_Pc.blind (D := D) (cl := cl) (tys := tys) (av := av) (M := M) (sz := sz) a U g mk ⟨h1, h2, h3, h4, h5⟩
  exact ⟨a1, a2, a3, a4, a5, nc3.moved (u := U) (U := U.calling g mk a) (Vm.Alike.refl U.vm) h6⟩
section G57
variable {l : Launch} {D : va_G} {tys : List (ClassId × FieldType)} {cl : List vw_C}
theorem lx_met {y : MethodName} {cc : ByteArray} {maxL : Nat} {ret : Option FieldType} {hh : List (Nat × Nat × Nat × Nat)} {rm : Room} {av : List Value} {M : Nat → Option va_E} {sz : Nat} {Qc : Array Value → State → Outcome → State → Prop} {mc ms : Nat} {free : Addr → Prop}
    (hy : plainName y.cls = true) (hav : (lg_sl av).length ≤ maxL)
    (body : ∀ (p : Program) (e : Env) (s : State) (m : MethodId) (below : List Frame) (meth : Method) (c : Code), p.tables.exec = Jvm.exec → c.code = cc → meth.sig.returnType = ret → c.maxLocals = maxL → s.vm.findClass y.cls = some m.cls → meth.locks = false → (∀ w ∈ ww, w.before av.toArray s = true) → s.heap.size = sz → hw_X s → hw_W D cl tys (hw_A M s.heap.size) M s s.heap → hz (hw_A M s.heap.size) s s.heap → nc3 s → c.exceptionTable.toList = tableOf hh → ∀ ls : Array Slot, lv_has ls maxL (lv_args 0 av) →
      W p l e rm s m av.toArray below meth c s.heap [] 0 0 (MQ below Qc av.toArray s mc ms free) (F0 m 0 ls [])) :
    Met l y (.codeWith y cc maxL ret hh :: ww) rm (lx_Pc D cl tys av M sz) Qc mc ms free := by
  refine va_MetW (cc := cc) (maxL := maxL) (ret := ret) (hh := hh) hy rfl ?_
  intro p e s m args below meth c s₁ B hml hv
  obtain ⟨rfl, hsz, hW, hX, hZ, hN⟩ := hv
  have hts := atoms_spec (ws := .codeWith y cc maxL ret hh :: ww) B.pre
  rw [lg_entry_eq]
  exact body p e s m below meth c B.exec B.bytes B.returns hml (findClass_of_methodNamed B.named) B.notSynchronized (fun w h => hts w (List.mem_cons_of_mem _ h)) hsz hX hW.self (by rw [hsz]; exact hZ) hN (vx_table (x := y) B (hts _ List.mem_cons_self)) _ (lv_entry av hav)
variable {p : Program} {e : Env} {R : Room} {s : State} {m : MethodId} {args : Array Value} {below : List Frame} {meth : Method} {c : Code} {H : Heap} {locs : List Loc} {cells slots : Nat} {Q : State → Prop}
variable {cc : ByteArray} {pc : Nat} {ls : Array Slot} {rest : List Value} {A : Nat → Prop} {a : Nat} {M : Nat → Option va_E} {H0 : Heap}
theorem lx_preS (hX : hw_X s) (hW : hw_W D cl tys A M s H) (hZ : hz A s H0) (hS : va_S A H0 H locs) (hA : ∀ q, H0.size ≤ q → A q) (hN : nc3 s) {As : List Value} : PreS s H (lx_Pc D cl tys As M H.size) As :=
  ⟨lx_Pc.blind, fun U hU hw => ⟨rfl, by rw [hU], by rw [hU]; exact (hW.moved hw.alike).weaken (fun _ _ => trivial), hX.warm hw, by rw [hU]; exact hZ.next hS (hW.free hS hA) hw, hN.moved hw.alike⟩⟩
theorem lx_runS {y : MethodName} {bytes : ByteArray} {maxL nL mc ms n index : Nat} {ret : Option FieldType} {hh : List (Nat × Nat × Nat × Nat)} {rm : Room} {Qc : Array Value → State → Outcome → State → Prop} {free : Addr → Prop} {own : String} {As : List Value} {st0 : List Value}
    (hx : p.tables.exec = Jvm.exec) (hb : c.code = cc) (hml : c.maxLocals = nL) (hown : s.vm.findClass own = some m.cls) (hts : ∀ w ∈ ww, w.before args s = true) (hX : hw_X s) (hW : hw_W D cl tys A M s H) (hl : ls.size = nL)
    (hZ : hz A s H0) (hS : va_S A H0 H locs) (hA : ∀ q, H0.size ≤ q → A q) (hN : nc3 s)
    (hM : Met l y (.codeWith y bytes maxL ret hh :: ww) rm (lx_Pc D cl tys As M H.size) Qc mc ms free)
    (w1 : Cond.methodLink own index y ∈ ww) (w2 : Cond.static y ∈ ww) (w3 : Cond.initialized y.cls ∈ ww) (w5 : Cond.codeWith y bytes maxL ret hh ∈ ww)
    (hd : y.cls ≠ "java/lang/invoke/MethodHandle" ∧ y.cls ≠ "java/lang/invoke/VarHandle" ∧ (parseMethodDescriptor y.desc).map (fun d => d.parameters.length) = some n)
    (hrc : rm.cells = mc) (hrs : rm.slots = ms) (hR : rm.frames + 1 ≤ R.frames ∧ 8 + (maxL + 11) + rm.locals ≤ R.locals) (hn : As.length = n) (hst : st0 = As.reverse ++ rest) (hrw : (rest.map fun v => v.category).sum ≤ 8)
    (hdg : decode cc pc = .ok (.invokestatic index, 3)) (hf : cells + mc ≤ R.cells ∧ slots + ms ≤ R.slots) :
    va_Run p l e R s m args below meth c H locs cells slots mc ms (F0 m pc ls st0) rest (Qc As.toArray) free :=
  vx_runSW (Ts := ww) (hh := hh) ⟨hx, hb, hml, hown, hts⟩ hM (vx_cwSW n hts (hw_gi w5 (hw_f3 w1 w2 w3)) rfl hrc hrs hd hR) (lx_preS hX hW hZ hS hA hN) rfl hn hl hst (lv_room hrw) hdg hf
end G57
theorem qo_J.out {cI cJ cN : ClassId} {h0 na v va vb om oa ob im ia ib ro mk ka kb fa la : Nat} {Z : Nat → Prop} {M M1 : Nat → Option va_E} {n : Nat} {qs : Nat → nq} {ou : Nat} (h : qo_J cI cJ cN h0 na v va vb om oa ob im ia ib ro mk ka kb fa la Z M n qs) (hZ : Z ou) (h1 : ∀ x, x ≠ ou → M1 x = M x) (h2 : M1 ou ≠ none) : qo_J cI cJ cN h0 na v va vb om oa ob im ia ib ro mk ka kb fa la Z M1 n qs := by
  obtain ⟨tb, ad, hI⟩ := h
  refine ⟨tb, ad, qo_other hI (fun x hx _ => h1 x (fun e => hx (e ▸ hZ))) (fun z hz => ?_)⟩
  by_cases e : z = ou
  · rw [e]; exact h2
  · obtain ⟨-, -, -, -, -, -, -, -, hz9, -⟩ := hI
    rw [h1 z e]; exact hz9 z hz
def lw_N (cI cJ cN : ClassId) (h0 na v va vb om oa ob im ia ib ro mk ka kb fa la : Nat) (Z : Nat → Prop) (ou : Nat) (n : Nat) (g : Nat → abn) (C : Nat) (new : abn) (M : Nat → Option va_E) (r : Int32) (M1 : Nat → Option va_E) : Prop := r = nI C ∧ (∀ z, Z z → z ≠ ou → M1 z = M z) ∧ ∃ (n2 : Nat) (g2 : Nat → abn) (qs2 : Nat → nq) (f : Nat → Int64), mkn n g C new n2 g2 ∧ qo_J cI cJ cN h0 na v va vb om oa ob im ia ib ro mk ka kb fa la Z M1 n2 qs2 ∧ (∀ i, i < n2 → abq (qs2 i) = g2 i) ∧ M1 ou = some (.inl (cJ, 1, .inr (.inl f))) ∧ (C = 0 → f 0 = (nI n).toInt64)
theorem lw_N.no {cI cJ cN : ClassId} {h0 na v va vb om oa ob im ia ib ro mk ka kb fa la : Nat} {Z : Nat → Prop} {ou : Nat} {n : Nat} {g : Nat → abn} {C c0 : Nat} {new : abn} {M : Nat → Option va_E} {M1 : Nat → Option va_E} {qs : Nat → nq} {f0 : Nat → Int64} (hJ : qo_J cI cJ cN h0 na v va vb om oa ob im ia ib ro mk ka kb fa la Z M n qs) (hqs : ∀ i, i < n → abq (qs i) = g i) (hou : M ou = some (.inl (cJ, 1, .inr (.inl f0)))) (hC : C = c0) (hne : c0 ≠ 0) (e : M1 = M) : lw_N cI cJ cN h0 na v va vb om oa ob im ia ib ro mk ka kb fa la Z ou n g C new M (nI c0) M1 := by
  subst hC e
  exact ⟨rfl, fun _ _ _ => rfl, n, g, qs, f0, Or.inr ⟨hne, rfl, rfl⟩, hJ, hqs, hou, fun z => absurd z hne⟩
theorem lw_N.yes {cI cJ cN : ClassId} {h0 na v va vb om oa ob im ia ib ro mk ka kb fa la : Nat} {Z : Nat → Prop} {ou : Nat} {n : Nat} {g : Nat → abn} {C : Nat} {new : abn} {M M1 M2 : Nat → Option va_E} {qs : Nat → nq} {q : nq} {f : Nat → Int64} (hqs : ∀ i, i < n → abq (qs i) = g i) (hC : C = 0) (hn : n < 60) (hq : abq q = new) (hJ : qo_J cI cJ cN h0 na v va vb om oa ob im ia ib ro mk ka kb fa la Z M1 (n + 1) (va_up qs n q)) (hz : ∀ z, Z z → M1 z = M z) (hZ : Z ou) (h1 : ∀ x, x ≠ ou → M2 x = M1 x) (hou : M2 ou = some (.inl (cJ, 1, .inr (.inl f)))) (hf : f 0 = (nI n).toInt64) : lw_N cI cJ cN h0 na v va vb om oa ob im ia ib ro mk ka kb fa la Z ou n g C new M 0 M2 := by
  subst hC
  refine ⟨rfl, fun z h9 h8 => (h1 z h8).trans (hz z h9), n + 1, _, _, f, Or.inl ⟨rfl, hn, rfl, rfl⟩, qo_J.out hJ hZ h1 (by rw [hou]; exact Option.some_ne_none _), fun i hi => ?_, hou, fun _ => hf⟩
  by_cases e : i = n
  · rw [e, va_up_self, va_up_self]; exact hq
  · rw [va_up_ne _ _ e, va_up_ne _ _ e]; exact hqs i (by omega)
def lw_A (cI cJ cN : ClassId) (h0 na v va vb om oa ob im ia ib ro mk ka kb fa la : Nat) (Z : Nat → Prop) (ou : Nat) (n : Nat) (qs : Nat → nq) (C : Nat) (R : Int64 → Prop) (M : Nat → Option va_E) (r : Int32) (M1 : Nat → Option va_E) : Prop := r = nI C ∧ (∀ z, Z z → z ≠ ou → M1 z = M z) ∧ ∃ (f : Nat → Int64), qo_J cI cJ cN h0 na v va vb om oa ob im ia ib ro mk ka kb fa la Z M1 n qs ∧ M1 ou = some (.inl (cJ, 1, .inr (.inl f))) ∧ (C = 0 → R (f 0))
theorem lw_A.no {cI cJ cN : ClassId} {h0 na v va vb om oa ob im ia ib ro mk ka kb fa la : Nat} {Z : Nat → Prop} {ou : Nat} {n : Nat} {C c0 : Nat} {R : Int64 → Prop} {M M1 : Nat → Option va_E} {qs : Nat → nq} {f0 : Nat → Int64} (hou : M ou = some (.inl (cJ, 1, .inr (.inl f0)))) (hZ : Z ou) (hC : C = c0) (hne : c0 ≠ 0) (hJ : qo_J cI cJ cN h0 na v va vb om oa ob im ia ib ro mk ka kb fa la Z M1 n qs) (hz : ∀ z, Z z → M1 z = M z) : lw_A cI cJ cN h0 na v va vb om oa ob im ia ib ro mk ka kb fa la Z ou n qs C R M (nI c0) M1 := by
  subst hC
  exact ⟨rfl, fun z h9 _ => hz z h9, f0, hJ, (hz ou hZ).trans hou, fun z => absurd z hne⟩
theorem lw_A.yes {cI cJ cN : ClassId} {h0 na v va vb om oa ob im ia ib ro mk ka kb fa la : Nat} {Z : Nat → Prop} {ou : Nat} {n : Nat} {C : Nat} {R : Int64 → Prop} {M M1 M2 : Nat → Option va_E} {qs : Nat → nq} {f : Nat → Int64} (hC : C = 0) (hJ : qo_J cI cJ cN h0 na v va vb om oa ob im ia ib ro mk ka kb fa la Z M1 n qs) (hz : ∀ z, Z z → M1 z = M z) (hZ : Z ou) (h1 : ∀ x, x ≠ ou → M2 x = M1 x) (hou : M2 ou = some (.inl (cJ, 1, .inr (.inl f)))) (hR : R (f 0)) : lw_A cI cJ cN h0 na v va vb om oa ob im ia ib ro mk ka kb fa la Z ou n qs C R M 0 M2 := by
  subst hC
  exact ⟨rfl, fun z h9 h8 => (h1 z h8).trans (hz z h9), f, qo_J.out hJ hZ h1 (by rw [hou]; exact Option.some_ne_none _), hou, fun _ => hR⟩
def lb (x : Int64) (P : Prop) : Prop := (x = 1 ∧ P) ∨ (x = 0 ∧ ¬ P)
def lw_E (cI cJ cN : ClassId) (h0 na v va vb om oa ob im ia ib ro mk ka kb fa la : Nat) (Z : Nat → Prop) (ou : Nat) (n : Nat) (g : Nat → abn) (qs : Nat → nq) (x1 k1 s1 t1 : Int32) (M : Nat → Option va_E) (r : Int32) (M1 : Nat → Option va_E) : Prop := (∀ z, Z z → z ≠ ou → M1 z = M z) ∧ ∃ (f : Nat → Int64), qo_J cI cJ cN h0 na v va vb om oa ob im ia ib ro mk ka kb fa la Z M1 n qs ∧ M1 ou = some (.inl (cJ, 1, .inr (.inl f))) ∧ ((cSet n g x1 ≠ 0 ∧ r = nI (cSet n g x1)) ∨ (cSet n g x1 = 0 ∧ ∃ (mm : Nat) (Lf Rt : Nat → Option (Rat × Bool)), qp_sys (aSet (g (ix x1))) mm Lf Rt ∧ r = nI (cEnd mm k1 s1 t1) ∧ (cEnd mm k1 s1 t1 = 0 → (f 0).toInt = pe_v (if ix s1 = 0 then Lf (ix k1) else Rt (ix k1)) (ix t1))))
section G57b
variable (l : Launch) (D : va_G) (cI cJ cZ cN : ClassId) (h0 na v va vb om oa ob im ia ib ro mk ka kb fa la : Nat) (Z : Nat → Prop) (ou : Nat)
theorem tc_atom : Cond.codeWith y_Lw_atom b_Lw_atom 7 (some .int) [(0, 14, 17, 13), (0, 14, 21, 15)] ∈ ww := List.mem_filter.mpr ⟨tq_116, rfl⟩
theorem tc_both : Cond.codeWith y_Lw_both b_Lw_both 5 (some .int) [(0, 10, 13, 21), (0, 10, 17, 13), (0, 10, 21, 15)] ∈ ww := List.mem_filter.mpr ⟨tq_270, rfl⟩
theorem tc_either : Cond.codeWith y_Lw_either b_Lw_either 5 (some .int) [(0, 10, 13, 21), (0, 10, 17, 13), (0, 10, 21, 15)] ∈ ww := List.mem_filter.mpr ⟨tq_340, rfl⟩
theorem tc_not : Cond.codeWith y_Lw_not b_Lw_not 4 (some .int) [(0, 9, 12, 21), (0, 9, 15, 13)] ∈ ww := List.mem_filter.mpr ⟨tq_347, rfl⟩
theorem tc_some : Cond.codeWith y_Lw_some b_Lw_some 5 (some .int) [(0, 10, 13, 21), (0, 10, 17, 13), (0, 10, 21, 15)] ∈ ww := List.mem_filter.mpr ⟨tq_378, rfl⟩
theorem tc_every : Cond.codeWith y_Lw_every b_Lw_every 5 (some .int) [(0, 10, 13, 21), (0, 10, 17, 13), (0, 10, 21, 15)] ∈ ww := List.mem_filter.mpr ⟨tq_411, rfl⟩
theorem tc_known : Cond.codeWith y_Lw_known b_Lw_known 5 (some .int) [(0, 10, 13, 21), (0, 10, 17, 15)] ∈ ww := List.mem_filter.mpr ⟨tq_418, rfl⟩
theorem tc_holds : Cond.codeWith y_Lw_holds b_Lw_holds 6 (some .int) [(0, 19, 22, 21), (0, 19, 26, 15)] ∈ ww := List.mem_filter.mpr ⟨tq_434, rfl⟩
theorem tc_decide : Cond.codeWith y_Lw_decide b_Lw_decide 4 (some .int) [(0, 16, 19, 21), (0, 16, 22, 13)] ∈ ww := List.mem_filter.mpr ⟨tq_503, rfl⟩
theorem tc_pieces : Cond.codeWith y_Lw_pieces b_Lw_pieces 4 (some .int) [(0, 9, 12, 21), (0, 9, 15, 13)] ∈ ww := List.mem_filter.mpr ⟨tq_511, rfl⟩
theorem tc_end : Cond.codeWith y_Lw_end b_Lw_end 7 (some .int) [(0, 13, 16, 21), (0, 13, 20, 13), (0, 13, 24, 15)] ∈ ww := List.mem_filter.mpr ⟨tq_533, rfl⟩
theorem tc_alike : Cond.codeWith y_Lw_alike b_Lw_alike 5 (some .int) [(0, 17, 20, 21)] ∈ ww := List.mem_filter.mpr ⟨tq_566, rfl⟩
set_option maxHeartbeats 4000000 in
set_option maxRecDepth 100000 in
theorem c_Lw_atom (hl0 : l.stackTraces = false) (M : Nat → Option va_E) (sz n : Nat) (g : Nat → abn) (qs : Nat → nq) (f0 : Nat → Int64) (hJq : qo_J cI cJ cN h0 na v va vb om oa ob im ia ib ro mk ka kb fa la Z M n qs) (hqs : ∀ i, i < n → abq (qs i) = g i) (hou : M ou = some (.inl (cJ, 1, .inr (.inl f0)))) (hZou : Z ou) (a1 b1 c1 o1 : Int32) : Met l y_Lw_atom (.codeWith y_Lw_atom b_Lw_atom 7 (some .int) [(0, 14, 17, 13), (0, 14, 21, 15)] :: ww) ({ frames := 9, cells := 4, slots := 23, locals := 240 }) (lx_Pc D qcl (qty cI cJ cZ cN) [.ref h0, .int a1, .int b1, .int c1, .int o1, .ref ou] M sz) (va_Qi (lw_N cI cJ cN h0 na v va vb om oa ob im ia ib ro mk ka kb fa la Z ou n g (cAtom n a1 b1 c1 o1) (gAtom a1 b1 c1 o1) M) (hw_B D qcl (qty cI cJ cZ cN) M sz) (hw_A M sz)) 4 23 (hw_A M sz) := by
  obtain ⟨tb, ad, hI⟩ := id hJq
  obtain ⟨hC1, _, hn60⟩ := id hI.1
  refine lx_met (by decide) (Nat.le_of_ble_eq_true rfl) ?_
  intro p e s m below meth c hx hb hr hml hown hlocks hts hsz hX hW hZ hN hex ls hl
  subst hsz
  have hA : ∀ q, s.heap.size ≤ q → hw_A M s.heap.size q := fun q h => Or.inr h
  have hS : va_S (hw_A M s.heap.size) s.heap s.heap [] := va_S.rf
  have hl : lv_has ls 7 [(0, .ref h0), (1, .int a1), (2, .int b1), (3, .int c1), (4, .int o1), (5, .ref ou)] := hl
  have hown : s.vm.findClass "QuantifierOutLaw" = some m.cls := hown
  refine lv_aload hx hb d_Lw_atom_0 (lv_at hl 5 rfl) ?_
  refine lv_iconst (v := 0) hx hb d_Lw_atom_2 (by decide) ?_
  refine lv_aload_n hx hb d_Lw_atom_3 rfl (lv_at hl 0 rfl) ?_
  refine lv_iload_n hx hb d_Lw_atom_4 rfl (lv_at hl 1 rfl) ?_
  refine lv_iload_n hx hb d_Lw_atom_5 rfl (lv_at hl 2 rfl) ?_
  refine lv_iload_n hx hb d_Lw_atom_6 rfl (lv_at hl 3 rfl) ?_
  refine lv_iload hx hb d_Lw_atom_7 (lv_at hl 4 rfl) ?_
  refine hx_calli (hx_runV (n := 4) (own := "QuantifierOutLaw") (As := [.int a1, .int b1, .int c1, .int o1]) (rest := [.int 0, .ref ou]) hx hb hml hown hts hX hW hl.1 hZ hS hA (c_Qo_atom l D cI cJ cZ cN h0 na v va vb om oa ob im ia ib ro mk ka kb fa la Z hl0 M _ n tb ad qs hI a1 b1 c1 o1) hC1 rfl tw_119 tw_120 tw_121 tw_1 tw_122 (by decide +kernel) rfl rfl ⟨by decide, by decide⟩ rfl rfl (Nat.le_of_ble_eq_true rfl) d_Lw_atom_9 ⟨by decide, by decide⟩) hW hS hA (fun E9 ce9 q9 Me H locs hp hW hS hq1 hq2 hq3 => ?_) (fun r9 Mr H locs hp hz hW hS => ?_)
  · skip
    obtain ⟨hp, eMe⟩ := hp
    rcases ca_atom_x hp with ⟨hE, hC⟩ | ⟨hE, hC⟩
    · skip
      subst hE
      refine vx_catch (own := "QuantifierOutLaw") (name := "java/lang/IllegalStateException") (E := "java/lang/IllegalStateException") hown [] ⟨0, 14, 17, 13⟩ [⟨0, 14, 21, 15⟩] (by rw [hex]; rfl) (fun _ h9 => absurd h9 List.not_mem_nil) (by decide) (by decide) (hts _ tw_117) (va_Nw.use rfl (hX.1 _ (by decide))) hq1 hq2 hq3 ?_
      refine W.eq (g2 := F0 m 17 ls [.ref q9]) rfl ?_
      refine lv_astore (lv' := [(6, .ref q9), (0, .ref h0), (1, .int a1), (2, .int b1), (3, .int c1), (4, .int o1), (5, .ref ou)]) hx hb d_Lw_atom_17 hl (by decide) rfl (fun ls hl => ?_)
      refine lv_iconst (v := 1) hx hb d_Lw_atom_19 (by decide) ?_
      exact hw_reti hx hb hr hlocks hW hS (lw_N.no (c0 := 1) hJq hqs hou hC (by decide) eMe) d_Lw_atom_20
    · skip
      subst hE
      refine vx_catch (own := "QuantifierOutLaw") (name := "java/lang/IllegalArgumentException") (E := "java/lang/IllegalArgumentException") hown [⟨0, 14, 17, 13⟩] ⟨0, 14, 21, 15⟩ [] (by rw [hex]; rfl) (List.forall_mem_cons.mpr ⟨Or.inr ⟨by decide, "java/lang/IllegalStateException", hts _ tw_117, hN.2.2⟩, fun _ h9 => absurd h9 List.not_mem_nil⟩) (by decide) (by decide) (hts _ tw_118) (va_Nw.use rfl (hX.1 _ (by decide))) hq1 hq2 hq3 ?_
      refine W.eq (g2 := F0 m 21 ls [.ref q9]) rfl ?_
      refine lv_astore (lv' := [(6, .ref q9), (0, .ref h0), (1, .int a1), (2, .int b1), (3, .int c1), (4, .int o1), (5, .ref ou)]) hx hb d_Lw_atom_21 hl (by decide) rfl (fun ls hl => ?_)
      refine lv_iconst (v := 2) hx hb d_Lw_atom_23 (by decide) ?_
      exact hw_reti hx hb hr hlocks hW hS (lw_N.no (c0 := 2) hJq hqs hou hC (by decide) eMe) d_Lw_atom_24
  · skip
    obtain ⟨er, hn9, ⟨q, hX9, hJr⟩, hzr⟩ := hp
    obtain ⟨hC, hq⟩ := ca_atom_v hn9 hX9
    obtain ⟨x1, ex1⟩ : ∃ y9 : Int64, y9 = (r9 : Int32).toInt64 := ⟨_, rfl⟩
    refine lv_i2l (v := x1) hx hb d_Lw_atom_12 ex1.symm ?_
    have ho9 : Mr ou = some (.inl (cJ, 1, .inr (.inl f0))) := (hzr ou hZou).trans hou
    refine hw_lst hx hb hW hS 1 ho9 rfl 0 rfl (by decide) (by decide) d_Lw_atom_13 (fun H locs hW hS => ?_)
    have hW : hw_W D qcl (qty cI cJ cZ cN) _ (va_up Mr ou (some (.inl (cJ, 1, .inr (.inl (vp_updL f0 0 x1)))))) s H := hW
    generalize hMw2 : va_up Mr ou (some (.inl (cJ, 1, .inr (.inl (vp_updL f0 0 x1))))) = Mw2 at hW
    have ho9 : Mw2 ou = some (.inl (cJ, 1, .inr (.inl (vp_updL f0 0 x1)))) := by rw [← hMw2]; exact va_up_self _ _ _
    have hfr_Mw2 : ∀ x9, x9 ≠ ou → Mw2 x9 = Mr x9 := fun x9 z9 => by rw [← hMw2, va_up_ne _ _ z9]
    refine lv_goto (tgt := 25) hx hb d_Lw_atom_14 (by decide) ?_
    refine lv_iconst (v := 0) hx hb d_Lw_atom_25 (by decide) ?_
    exact hw_reti hx hb hr hlocks hW hS (lw_N.yes hqs hC hn9 hq hJr hzr hZou hfr_Mw2 ho9 (by rw [pk_uLs, ex1, er])) d_Lw_atom_26
set_option maxHeartbeats 4000000 in
set_option maxRecDepth 100000 in
theorem c_Lw_both (hl0 : l.stackTraces = false) (M : Nat → Option va_E) (sz n : Nat) (g : Nat → abn) (qs : Nat → nq) (f0 : Nat → Int64) (hJq : qo_J cI cJ cN h0 na v va vb om oa ob im ia ib ro mk ka kb fa la Z M n qs) (hqs : ∀ i, i < n → abq (qs i) = g i) (hou : M ou = some (.inl (cJ, 1, .inr (.inl f0)))) (hZou : Z ou) (x1 y1 : Int32) : Met l y_Lw_both (.codeWith y_Lw_both b_Lw_both 5 (some .int) [(0, 10, 13, 21), (0, 10, 17, 13), (0, 10, 21, 15)] :: ww) ({ frames := 10, cells := 5, slots := 43, locals := 330 }) (lx_Pc D qcl (qty cI cJ cZ cN) [.ref h0, .int x1, .int y1, .ref ou] M sz) (va_Qi (lw_N cI cJ cN h0 na v va vb om oa ob im ia ib ro mk ka kb fa la Z ou n g (cPair n g x1 y1) (gPair true (g (ix x1)) (g (ix y1))) M) (hw_B D qcl (qty cI cJ cZ cN) M sz) (hw_A M sz)) 5 43 (hw_A M sz) := by
  obtain ⟨tb, ad, hI⟩ := id hJq
  obtain ⟨hC1, _, hn60⟩ := id hI.1
  refine lx_met (by decide) (Nat.le_of_ble_eq_true rfl) ?_
  intro p e s m below meth c hx hb hr hml hown hlocks hts hsz hX hW hZ hN hex ls hl
  subst hsz
  have hA : ∀ q, s.heap.size ≤ q → hw_A M s.heap.size q := fun q h => Or.inr h
  have hS : va_S (hw_A M s.heap.size) s.heap s.heap [] := va_S.rf
  have hl : lv_has ls 5 [(0, .ref h0), (1, .int x1), (2, .int y1), (3, .ref ou)] := hl
  have hown : s.vm.findClass "QuantifierOutLaw" = some m.cls := hown
  refine lv_aload_n hx hb d_Lw_both_0 rfl (lv_at hl 3 rfl) ?_
  refine lv_iconst (v := 0) hx hb d_Lw_both_1 (by decide) ?_
  refine lv_aload_n hx hb d_Lw_both_2 rfl (lv_at hl 0 rfl) ?_
  refine lv_iload_n hx hb d_Lw_both_3 rfl (lv_at hl 1 rfl) ?_
  refine lv_iload_n hx hb d_Lw_both_4 rfl (lv_at hl 2 rfl) ?_
  refine hx_calli (hx_runV (n := 2) (own := "QuantifierOutLaw") (As := [.int x1, .int y1]) (rest := [.int 0, .ref ou]) hx hb hml hown hts hX hW hl.1 hZ hS hA (c_Qo_both l D cI cJ cZ cN h0 na v va vb om oa ob im ia ib ro mk ka kb fa la Z hl0 M _ n tb ad qs hI x1 y1) hC1 rfl tw_272 tw_273 tw_274 tw_1 tw_275 (by decide +kernel) rfl rfl ⟨by decide, by decide⟩ rfl rfl (Nat.le_of_ble_eq_true rfl) d_Lw_both_5 ⟨by decide, by decide⟩) hW hS hA (fun E9 ce9 q9 Me H locs hp hW hS hq1 hq2 hq3 => ?_) (fun r9 Mr H locs hp hz hW hS => ?_)
  · skip
    obtain ⟨hp, eMe⟩ := hp
    rcases ca_pair_x hn60 hqs hp with ⟨hE, hC⟩ | ⟨hE, hC⟩ | ⟨hE, hC⟩
    · skip
      subst hE
      refine vx_catch (own := "QuantifierOutLaw") (name := "java/lang/IndexOutOfBoundsException") (E := "java/lang/IndexOutOfBoundsException") hown [] ⟨0, 10, 13, 21⟩ [⟨0, 10, 17, 13⟩, ⟨0, 10, 21, 15⟩] (by rw [hex]; rfl) (fun _ h9 => absurd h9 List.not_mem_nil) (by decide) (by decide) (hts _ tw_271) (va_Nw.use rfl (hX.1 _ (by decide))) hq1 hq2 hq3 ?_
      refine W.eq (g2 := F0 m 13 ls [.ref q9]) rfl ?_
      refine lv_astore (lv' := [(4, .ref q9), (0, .ref h0), (1, .int x1), (2, .int y1), (3, .ref ou)]) hx hb d_Lw_both_13 hl (by decide) rfl (fun ls hl => ?_)
      refine lv_iconst (v := 1) hx hb d_Lw_both_15 (by decide) ?_
      exact hw_reti hx hb hr hlocks hW hS (lw_N.no (c0 := 1) hJq hqs hou hC (by decide) eMe) d_Lw_both_16
    · skip
      subst hE
      refine vx_catch (own := "QuantifierOutLaw") (name := "java/lang/IllegalStateException") (E := "java/lang/IllegalStateException") hown [⟨0, 10, 13, 21⟩] ⟨0, 10, 17, 13⟩ [⟨0, 10, 21, 15⟩] (by rw [hex]; rfl) (List.forall_mem_cons.mpr ⟨Or.inr ⟨by decide, "java/lang/IndexOutOfBoundsException", hts _ tw_271, hN.1⟩, fun _ h9 => absurd h9 List.not_mem_nil⟩) (by decide) (by decide) (hts _ tw_117) (va_Nw.use rfl (hX.1 _ (by decide))) hq1 hq2 hq3 ?_
      refine W.eq (g2 := F0 m 17 ls [.ref q9]) rfl ?_
      refine lv_astore (lv' := [(4, .ref q9), (0, .ref h0), (1, .int x1), (2, .int y1), (3, .ref ou)]) hx hb d_Lw_both_17 hl (by decide) rfl (fun ls hl => ?_)
      refine lv_iconst (v := 2) hx hb d_Lw_both_19 (by decide) ?_
      exact hw_reti hx hb hr hlocks hW hS (lw_N.no (c0 := 2) hJq hqs hou hC (by decide) eMe) d_Lw_both_20
    · skip
      subst hE
      refine vx_catch (own := "QuantifierOutLaw") (name := "java/lang/IllegalArgumentException") (E := "java/lang/IllegalArgumentException") hown [⟨0, 10, 13, 21⟩, ⟨0, 10, 17, 13⟩] ⟨0, 10, 21, 15⟩ [] (by rw [hex]; rfl) (List.forall_mem_cons.mpr ⟨Or.inr ⟨by decide, "java/lang/IndexOutOfBoundsException", hts _ tw_271, hN.2.1⟩, List.forall_mem_cons.mpr ⟨Or.inr ⟨by decide, "java/lang/IllegalStateException", hts _ tw_117, hN.2.2⟩, fun _ h9 => absurd h9 List.not_mem_nil⟩⟩) (by decide) (by decide) (hts _ tw_118) (va_Nw.use rfl (hX.1 _ (by decide))) hq1 hq2 hq3 ?_
      refine W.eq (g2 := F0 m 21 ls [.ref q9]) rfl ?_
      refine lv_astore (lv' := [(4, .ref q9), (0, .ref h0), (1, .int x1), (2, .int y1), (3, .ref ou)]) hx hb d_Lw_both_21 hl (by decide) rfl (fun ls hl => ?_)
      refine lv_iconst (v := 3) hx hb d_Lw_both_23 (by decide) ?_
      exact hw_reti hx hb hr hlocks hW hS (lw_N.no (c0 := 3) hJq hqs hou hC (by decide) eMe) d_Lw_both_24
  · skip
    obtain ⟨er, hn9, ⟨q, hX9, hJr⟩, hzr⟩ := hp
    obtain ⟨hC, hq⟩ := ca_pair_v hn9 hqs hX9
    obtain ⟨x1, ex1⟩ : ∃ y9 : Int64, y9 = (r9 : Int32).toInt64 := ⟨_, rfl⟩
    refine lv_i2l (v := x1) hx hb d_Lw_both_8 ex1.symm ?_
    have ho9 : Mr ou = some (.inl (cJ, 1, .inr (.inl f0))) := (hzr ou hZou).trans hou
    refine hw_lst hx hb hW hS 1 ho9 rfl 0 rfl (by decide) (by decide) d_Lw_both_9 (fun H locs hW hS => ?_)
    have hW : hw_W D qcl (qty cI cJ cZ cN) _ (va_up Mr ou (some (.inl (cJ, 1, .inr (.inl (vp_updL f0 0 x1)))))) s H := hW
    generalize hMw2 : va_up Mr ou (some (.inl (cJ, 1, .inr (.inl (vp_updL f0 0 x1))))) = Mw2 at hW
    have ho9 : Mw2 ou = some (.inl (cJ, 1, .inr (.inl (vp_updL f0 0 x1)))) := by rw [← hMw2]; exact va_up_self _ _ _
    have hfr_Mw2 : ∀ x9, x9 ≠ ou → Mw2 x9 = Mr x9 := fun x9 z9 => by rw [← hMw2, va_up_ne _ _ z9]
    refine lv_goto (tgt := 25) hx hb d_Lw_both_10 (by decide) ?_
    refine lv_iconst (v := 0) hx hb d_Lw_both_25 (by decide) ?_
    exact hw_reti hx hb hr hlocks hW hS (lw_N.yes hqs hC hn9 hq hJr hzr hZou hfr_Mw2 ho9 (by rw [pk_uLs, ex1, er])) d_Lw_both_26
set_option maxHeartbeats 4000000 in
set_option maxRecDepth 100000 in
theorem c_Lw_either (hl0 : l.stackTraces = false) (M : Nat → Option va_E) (sz n : Nat) (g : Nat → abn) (qs : Nat → nq) (f0 : Nat → Int64) (hJq : qo_J cI cJ cN h0 na v va vb om oa ob im ia ib ro mk ka kb fa la Z M n qs) (hqs : ∀ i, i < n → abq (qs i) = g i) (hou : M ou = some (.inl (cJ, 1, .inr (.inl f0)))) (hZou : Z ou) (x1 y1 : Int32) : Met l y_Lw_either (.codeWith y_Lw_either b_Lw_either 5 (some .int) [(0, 10, 13, 21), (0, 10, 17, 13), (0, 10, 21, 15)] :: ww) ({ frames := 10, cells := 5, slots := 43, locals := 330 }) (lx_Pc D qcl (qty cI cJ cZ cN) [.ref h0, .int x1, .int y1, .ref ou] M sz) (va_Qi (lw_N cI cJ cN h0 na v va vb om oa ob im ia ib ro mk ka kb fa la Z ou n g (cPair n g x1 y1) (gPair false (g (ix x1)) (g (ix y1))) M) (hw_B D qcl (qty cI cJ cZ cN) M sz) (hw_A M sz)) 5 43 (hw_A M sz) := by
  obtain ⟨tb, ad, hI⟩ := id hJq
  obtain ⟨hC1, _, hn60⟩ := id hI.1
  refine lx_met (by decide) (Nat.le_of_ble_eq_true rfl) ?_
  intro p e s m below meth c hx hb hr hml hown hlocks hts hsz hX hW hZ hN hex ls hl
  subst hsz
  have hA : ∀ q, s.heap.size ≤ q → hw_A M s.heap.size q := fun q h => Or.inr h
  have hS : va_S (hw_A M s.heap.size) s.heap s.heap [] := va_S.rf
  have hl : lv_has ls 5 [(0, .ref h0), (1, .int x1), (2, .int y1), (3, .ref ou)] := hl
  have hown : s.vm.findClass "QuantifierOutLaw" = some m.cls := hown
  refine lv_aload_n hx hb d_Lw_either_0 rfl (lv_at hl 3 rfl) ?_
  refine lv_iconst (v := 0) hx hb d_Lw_either_1 (by decide) ?_
  refine lv_aload_n hx hb d_Lw_either_2 rfl (lv_at hl 0 rfl) ?_
  refine lv_iload_n hx hb d_Lw_either_3 rfl (lv_at hl 1 rfl) ?_
  refine lv_iload_n hx hb d_Lw_either_4 rfl (lv_at hl 2 rfl) ?_
  refine hx_calli (hx_runV (n := 2) (own := "QuantifierOutLaw") (As := [.int x1, .int y1]) (rest := [.int 0, .ref ou]) hx hb hml hown hts hX hW hl.1 hZ hS hA (c_Qo_either l D cI cJ cZ cN h0 na v va vb om oa ob im ia ib ro mk ka kb fa la Z hl0 M _ n tb ad qs hI x1 y1) hC1 rfl tw_341 tw_342 tw_343 tw_1 tw_344 (by decide +kernel) rfl rfl ⟨by decide, by decide⟩ rfl rfl (Nat.le_of_ble_eq_true rfl) d_Lw_either_5 ⟨by decide, by decide⟩) hW hS hA (fun E9 ce9 q9 Me H locs hp hW hS hq1 hq2 hq3 => ?_) (fun r9 Mr H locs hp hz hW hS => ?_)
  · skip
    obtain ⟨hp, eMe⟩ := hp
    rcases ca_pair_x hn60 hqs hp with ⟨hE, hC⟩ | ⟨hE, hC⟩ | ⟨hE, hC⟩
    · skip
      subst hE
      refine vx_catch (own := "QuantifierOutLaw") (name := "java/lang/IndexOutOfBoundsException") (E := "java/lang/IndexOutOfBoundsException") hown [] ⟨0, 10, 13, 21⟩ [⟨0, 10, 17, 13⟩, ⟨0, 10, 21, 15⟩] (by rw [hex]; rfl) (fun _ h9 => absurd h9 List.not_mem_nil) (by decide) (by decide) (hts _ tw_271) (va_Nw.use rfl (hX.1 _ (by decide))) hq1 hq2 hq3 ?_
      refine W.eq (g2 := F0 m 13 ls [.ref q9]) rfl ?_
      refine lv_astore (lv' := [(4, .ref q9), (0, .ref h0), (1, .int x1), (2, .int y1), (3, .ref ou)]) hx hb d_Lw_either_13 hl (by decide) rfl (fun ls hl => ?_)
      refine lv_iconst (v := 1) hx hb d_Lw_either_15 (by decide) ?_
      exact hw_reti hx hb hr hlocks hW hS (lw_N.no (c0 := 1) hJq hqs hou hC (by decide) eMe) d_Lw_either_16
    · skip
      subst hE
      refine vx_catch (own := "QuantifierOutLaw") (name := "java/lang/IllegalStateException") (E := "java/lang/IllegalStateException") hown [⟨0, 10, 13, 21⟩] ⟨0, 10, 17, 13⟩ [⟨0, 10, 21, 15⟩] (by rw [hex]; rfl) (List.forall_mem_cons.mpr ⟨Or.inr ⟨by decide, "java/lang/IndexOutOfBoundsException", hts _ tw_271, hN.1⟩, fun _ h9 => absurd h9 List.not_mem_nil⟩) (by decide) (by decide) (hts _ tw_117) (va_Nw.use rfl (hX.1 _ (by decide))) hq1 hq2 hq3 ?_
      refine W.eq (g2 := F0 m 17 ls [.ref q9]) rfl ?_
      refine lv_astore (lv' := [(4, .ref q9), (0, .ref h0), (1, .int x1), (2, .int y1), (3, .ref ou)]) hx hb d_Lw_either_17 hl (by decide) rfl (fun ls hl => ?_)
      refine lv_iconst (v := 2) hx hb d_Lw_either_19 (by decide) ?_
      exact hw_reti hx hb hr hlocks hW hS (lw_N.no (c0 := 2) hJq hqs hou hC (by decide) eMe) d_Lw_either_20
    · skip
      subst hE
      refine vx_catch (own := "QuantifierOutLaw") (name := "java/lang/IllegalArgumentException") (E := "java/lang/IllegalArgumentException") hown [⟨0, 10, 13, 21⟩, ⟨0, 10, 17, 13⟩] ⟨0, 10, 21, 15⟩ [] (by rw [hex]; rfl) (List.forall_mem_cons.mpr ⟨Or.inr ⟨by decide, "java/lang/IndexOutOfBoundsException", hts _ tw_271, hN.2.1⟩, List.forall_mem_cons.mpr ⟨Or.inr ⟨by decide, "java/lang/IllegalStateException", hts _ tw_117, hN.2.2⟩, fun _ h9 => absurd h9 List.not_mem_nil⟩⟩) (by decide) (by decide) (hts _ tw_118) (va_Nw.use rfl (hX.1 _ (by decide))) hq1 hq2 hq3 ?_
      refine W.eq (g2 := F0 m 21 ls [.ref q9]) rfl ?_
      refine lv_astore (lv' := [(4, .ref q9), (0, .ref h0), (1, .int x1), (2, .int y1), (3, .ref ou)]) hx hb d_Lw_either_21 hl (by decide) rfl (fun ls hl => ?_)
      refine lv_iconst (v := 3) hx hb d_Lw_either_23 (by decide) ?_
      exact hw_reti hx hb hr hlocks hW hS (lw_N.no (c0 := 3) hJq hqs hou hC (by decide) eMe) d_Lw_either_24
  · skip
    obtain ⟨er, hn9, ⟨q, hX9, hJr⟩, hzr⟩ := hp
    obtain ⟨hC, hq⟩ := ca_pair_v hn9 hqs hX9
    obtain ⟨x1, ex1⟩ : ∃ y9 : Int64, y9 = (r9 : Int32).toInt64 := ⟨_, rfl⟩
    refine lv_i2l (v := x1) hx hb d_Lw_either_8 ex1.symm ?_
    have ho9 : Mr ou = some (.inl (cJ, 1, .inr (.inl f0))) := (hzr ou hZou).trans hou
    refine hw_lst hx hb hW hS 1 ho9 rfl 0 rfl (by decide) (by decide) d_Lw_either_9 (fun H locs hW hS => ?_)
    have hW : hw_W D qcl (qty cI cJ cZ cN) _ (va_up Mr ou (some (.inl (cJ, 1, .inr (.inl (vp_updL f0 0 x1)))))) s H := hW
    generalize hMw2 : va_up Mr ou (some (.inl (cJ, 1, .inr (.inl (vp_updL f0 0 x1))))) = Mw2 at hW
    have ho9 : Mw2 ou = some (.inl (cJ, 1, .inr (.inl (vp_updL f0 0 x1)))) := by rw [← hMw2]; exact va_up_self _ _ _
    have hfr_Mw2 : ∀ x9, x9 ≠ ou → Mw2 x9 = Mr x9 := fun x9 z9 => by rw [← hMw2, va_up_ne _ _ z9]
    refine lv_goto (tgt := 25) hx hb d_Lw_either_10 (by decide) ?_
    refine lv_iconst (v := 0) hx hb d_Lw_either_25 (by decide) ?_
    exact hw_reti hx hb hr hlocks hW hS (lw_N.yes hqs hC hn9 hq hJr hzr hZou hfr_Mw2 ho9 (by rw [pk_uLs, ex1, er])) d_Lw_either_26
set_option maxHeartbeats 4000000 in
set_option maxRecDepth 100000 in
theorem c_Lw_not (hl0 : l.stackTraces = false) (M : Nat → Option va_E) (sz n : Nat) (g : Nat → abn) (qs : Nat → nq) (f0 : Nat → Int64) (hJq : qo_J cI cJ cN h0 na v va vb om oa ob im ia ib ro mk ka kb fa la Z M n qs) (hqs : ∀ i, i < n → abq (qs i) = g i) (hou : M ou = some (.inl (cJ, 1, .inr (.inl f0)))) (hZou : Z ou) (x1 : Int32) : Met l y_Lw_not (.codeWith y_Lw_not b_Lw_not 4 (some .int) [(0, 9, 12, 21), (0, 9, 15, 13)] :: ww) ({ frames := 9, cells := 3, slots := 17, locals := 300 }) (lx_Pc D qcl (qty cI cJ cZ cN) [.ref h0, .int x1, .ref ou] M sz) (va_Qi (lw_N cI cJ cN h0 na v va vb om oa ob im ia ib ro mk ka kb fa la Z ou n g (cNot n x1) (gNot (g (ix x1))) M) (hw_B D qcl (qty cI cJ cZ cN) M sz) (hw_A M sz)) 3 17 (hw_A M sz) := by
  obtain ⟨tb, ad, hI⟩ := id hJq
  obtain ⟨hC1, _, hn60⟩ := id hI.1
  refine lx_met (by decide) (Nat.le_of_ble_eq_true rfl) ?_
  intro p e s m below meth c hx hb hr hml hown hlocks hts hsz hX hW hZ hN hex ls hl
  subst hsz
  have hA : ∀ q, s.heap.size ≤ q → hw_A M s.heap.size q := fun q h => Or.inr h
  have hS : va_S (hw_A M s.heap.size) s.heap s.heap [] := va_S.rf
  have hl : lv_has ls 4 [(0, .ref h0), (1, .int x1), (2, .ref ou)] := hl
  have hown : s.vm.findClass "QuantifierOutLaw" = some m.cls := hown
  refine lv_aload_n hx hb d_Lw_not_0 rfl (lv_at hl 2 rfl) ?_
  refine lv_iconst (v := 0) hx hb d_Lw_not_1 (by decide) ?_
  refine lv_aload_n hx hb d_Lw_not_2 rfl (lv_at hl 0 rfl) ?_
  refine lv_iload_n hx hb d_Lw_not_3 rfl (lv_at hl 1 rfl) ?_
  refine hx_calli (hx_runV (n := 1) (own := "QuantifierOutLaw") (As := [.int x1]) (rest := [.int 0, .ref ou]) hx hb hml hown hts hX hW hl.1 hZ hS hA (c_Qo_not l D cI cJ cZ cN h0 na v va vb om oa ob im ia ib ro mk ka kb fa la Z hl0 M _ n tb ad qs hI x1) hC1 rfl tw_348 tw_349 tw_350 tw_1 tw_351 (by decide +kernel) rfl rfl ⟨by decide, by decide⟩ rfl rfl (Nat.le_of_ble_eq_true rfl) d_Lw_not_4 ⟨by decide, by decide⟩) hW hS hA (fun E9 ce9 q9 Me H locs hp hW hS hq1 hq2 hq3 => ?_) (fun r9 Mr H locs hp hz hW hS => ?_)
  · skip
    obtain ⟨hp, eMe⟩ := hp
    rcases ca_not_x hn60 hp with ⟨hE, hC⟩ | ⟨hE, hC⟩
    · skip
      subst hE
      refine vx_catch (own := "QuantifierOutLaw") (name := "java/lang/IndexOutOfBoundsException") (E := "java/lang/IndexOutOfBoundsException") hown [] ⟨0, 9, 12, 21⟩ [⟨0, 9, 15, 13⟩] (by rw [hex]; rfl) (fun _ h9 => absurd h9 List.not_mem_nil) (by decide) (by decide) (hts _ tw_271) (va_Nw.use rfl (hX.1 _ (by decide))) hq1 hq2 hq3 ?_
      refine W.eq (g2 := F0 m 12 ls [.ref q9]) rfl ?_
      refine lv_astore_n (lv' := [(3, .ref q9), (0, .ref h0), (1, .int x1), (2, .ref ou)]) hx hb d_Lw_not_12 rfl hl (by decide) rfl (fun ls hl => ?_)
      refine lv_iconst (v := 1) hx hb d_Lw_not_13 (by decide) ?_
      exact hw_reti hx hb hr hlocks hW hS (lw_N.no (c0 := 1) hJq hqs hou hC (by decide) eMe) d_Lw_not_14
    · skip
      subst hE
      refine vx_catch (own := "QuantifierOutLaw") (name := "java/lang/IllegalStateException") (E := "java/lang/IllegalStateException") hown [⟨0, 9, 12, 21⟩] ⟨0, 9, 15, 13⟩ [] (by rw [hex]; rfl) (List.forall_mem_cons.mpr ⟨Or.inr ⟨by decide, "java/lang/IndexOutOfBoundsException", hts _ tw_271, hN.1⟩, fun _ h9 => absurd h9 List.not_mem_nil⟩) (by decide) (by decide) (hts _ tw_117) (va_Nw.use rfl (hX.1 _ (by decide))) hq1 hq2 hq3 ?_
      refine W.eq (g2 := F0 m 15 ls [.ref q9]) rfl ?_
      refine lv_astore_n (lv' := [(3, .ref q9), (0, .ref h0), (1, .int x1), (2, .ref ou)]) hx hb d_Lw_not_15 rfl hl (by decide) rfl (fun ls hl => ?_)
      refine lv_iconst (v := 2) hx hb d_Lw_not_16 (by decide) ?_
      exact hw_reti hx hb hr hlocks hW hS (lw_N.no (c0 := 2) hJq hqs hou hC (by decide) eMe) d_Lw_not_17
  · skip
    obtain ⟨er, hn9, ⟨q, hX9, hJr⟩, hzr⟩ := hp
    obtain ⟨hC, hq⟩ := ca_not_v hn9 hqs hX9
    obtain ⟨x1, ex1⟩ : ∃ y9 : Int64, y9 = (r9 : Int32).toInt64 := ⟨_, rfl⟩
    refine lv_i2l (v := x1) hx hb d_Lw_not_7 ex1.symm ?_
    have ho9 : Mr ou = some (.inl (cJ, 1, .inr (.inl f0))) := (hzr ou hZou).trans hou
    refine hw_lst hx hb hW hS 1 ho9 rfl 0 rfl (by decide) (by decide) d_Lw_not_8 (fun H locs hW hS => ?_)
    have hW : hw_W D qcl (qty cI cJ cZ cN) _ (va_up Mr ou (some (.inl (cJ, 1, .inr (.inl (vp_updL f0 0 x1)))))) s H := hW
    generalize hMw2 : va_up Mr ou (some (.inl (cJ, 1, .inr (.inl (vp_updL f0 0 x1))))) = Mw2 at hW
    have ho9 : Mw2 ou = some (.inl (cJ, 1, .inr (.inl (vp_updL f0 0 x1)))) := by rw [← hMw2]; exact va_up_self _ _ _
    have hfr_Mw2 : ∀ x9, x9 ≠ ou → Mw2 x9 = Mr x9 := fun x9 z9 => by rw [← hMw2, va_up_ne _ _ z9]
    refine lv_goto (tgt := 18) hx hb d_Lw_not_9 (by decide) ?_
    refine lv_iconst (v := 0) hx hb d_Lw_not_18 (by decide) ?_
    exact hw_reti hx hb hr hlocks hW hS (lw_N.yes hqs hC hn9 hq hJr hzr hZou hfr_Mw2 ho9 (by rw [pk_uLs, ex1, er])) d_Lw_not_19
set_option maxHeartbeats 4000000 in
set_option maxRecDepth 100000 in
theorem c_Lw_some (hl0 : l.stackTraces = false) (M : Nat → Option va_E) (sz n : Nat) (g : Nat → abn) (qs : Nat → nq) (f0 : Nat → Int64) (hJq : qo_J cI cJ cN h0 na v va vb om oa ob im ia ib ro mk ka kb fa la Z M n qs) (hqs : ∀ i, i < n → abq (qs i) = g i) (hou : M ou = some (.inl (cJ, 1, .inr (.inl f0)))) (hZou : Z ou) (l1 x1 : Int32) : Met l y_Lw_some (.codeWith y_Lw_some b_Lw_some 5 (some .int) [(0, 10, 13, 21), (0, 10, 17, 13), (0, 10, 21, 15)] :: ww) ({ frames := 10, cells := 3, slots := 19, locals := 330 }) (lx_Pc D qcl (qty cI cJ cZ cN) [.ref h0, .int l1, .int x1, .ref ou] M sz) (va_Qi (lw_N cI cJ cN h0 na v va vb om oa ob im ia ib ro mk ka kb fa la Z ou n g (cQuant n g l1 x1) (gQuant l1 false (g (ix x1))) M) (hw_B D qcl (qty cI cJ cZ cN) M sz) (hw_A M sz)) 3 19 (hw_A M sz) := by
  obtain ⟨tb, ad, hI⟩ := id hJq
  obtain ⟨hC1, _, hn60⟩ := id hI.1
  refine lx_met (by decide) (Nat.le_of_ble_eq_true rfl) ?_
  intro p e s m below meth c hx hb hr hml hown hlocks hts hsz hX hW hZ hN hex ls hl
  subst hsz
  have hA : ∀ q, s.heap.size ≤ q → hw_A M s.heap.size q := fun q h => Or.inr h
  have hS : va_S (hw_A M s.heap.size) s.heap s.heap [] := va_S.rf
  have hl : lv_has ls 5 [(0, .ref h0), (1, .int l1), (2, .int x1), (3, .ref ou)] := hl
  have hown : s.vm.findClass "QuantifierOutLaw" = some m.cls := hown
  refine lv_aload_n hx hb d_Lw_some_0 rfl (lv_at hl 3 rfl) ?_
  refine lv_iconst (v := 0) hx hb d_Lw_some_1 (by decide) ?_
  refine lv_aload_n hx hb d_Lw_some_2 rfl (lv_at hl 0 rfl) ?_
  refine lv_iload_n hx hb d_Lw_some_3 rfl (lv_at hl 1 rfl) ?_
  refine lv_iload_n hx hb d_Lw_some_4 rfl (lv_at hl 2 rfl) ?_
  refine hx_calli (hx_runV (n := 2) (own := "QuantifierOutLaw") (As := [.int l1, .int x1]) (rest := [.int 0, .ref ou]) hx hb hml hown hts hX hW hl.1 hZ hS hA (c_Qo_some l D cI cJ cZ cN h0 na v va vb om oa ob im ia ib ro mk ka kb fa la Z hl0 M _ n tb ad qs hI l1 x1) hC1 rfl tw_379 tw_380 tw_381 tw_1 tw_382 (by decide +kernel) rfl rfl ⟨by decide, by decide⟩ rfl rfl (Nat.le_of_ble_eq_true rfl) d_Lw_some_5 ⟨by decide, by decide⟩) hW hS hA (fun E9 ce9 q9 Me H locs hp hW hS hq1 hq2 hq3 => ?_) (fun r9 Mr H locs hp hz hW hS => ?_)
  · skip
    obtain ⟨hp, eMe⟩ := hp
    rcases ca_quant_x hn60 hqs hp with ⟨hE, hC⟩ | ⟨hE, hC⟩ | ⟨hE, hC⟩
    · skip
      subst hE
      refine vx_catch (own := "QuantifierOutLaw") (name := "java/lang/IndexOutOfBoundsException") (E := "java/lang/IndexOutOfBoundsException") hown [] ⟨0, 10, 13, 21⟩ [⟨0, 10, 17, 13⟩, ⟨0, 10, 21, 15⟩] (by rw [hex]; rfl) (fun _ h9 => absurd h9 List.not_mem_nil) (by decide) (by decide) (hts _ tw_271) (va_Nw.use rfl (hX.1 _ (by decide))) hq1 hq2 hq3 ?_
      refine W.eq (g2 := F0 m 13 ls [.ref q9]) rfl ?_
      refine lv_astore (lv' := [(4, .ref q9), (0, .ref h0), (1, .int l1), (2, .int x1), (3, .ref ou)]) hx hb d_Lw_some_13 hl (by decide) rfl (fun ls hl => ?_)
      refine lv_iconst (v := 1) hx hb d_Lw_some_15 (by decide) ?_
      exact hw_reti hx hb hr hlocks hW hS (lw_N.no (c0 := 1) hJq hqs hou hC (by decide) eMe) d_Lw_some_16
    · skip
      subst hE
      refine vx_catch (own := "QuantifierOutLaw") (name := "java/lang/IllegalStateException") (E := "java/lang/IllegalStateException") hown [⟨0, 10, 13, 21⟩] ⟨0, 10, 17, 13⟩ [⟨0, 10, 21, 15⟩] (by rw [hex]; rfl) (List.forall_mem_cons.mpr ⟨Or.inr ⟨by decide, "java/lang/IndexOutOfBoundsException", hts _ tw_271, hN.1⟩, fun _ h9 => absurd h9 List.not_mem_nil⟩) (by decide) (by decide) (hts _ tw_117) (va_Nw.use rfl (hX.1 _ (by decide))) hq1 hq2 hq3 ?_
      refine W.eq (g2 := F0 m 17 ls [.ref q9]) rfl ?_
      refine lv_astore (lv' := [(4, .ref q9), (0, .ref h0), (1, .int l1), (2, .int x1), (3, .ref ou)]) hx hb d_Lw_some_17 hl (by decide) rfl (fun ls hl => ?_)
      refine lv_iconst (v := 2) hx hb d_Lw_some_19 (by decide) ?_
      exact hw_reti hx hb hr hlocks hW hS (lw_N.no (c0 := 2) hJq hqs hou hC (by decide) eMe) d_Lw_some_20
    · skip
      subst hE
      refine vx_catch (own := "QuantifierOutLaw") (name := "java/lang/IllegalArgumentException") (E := "java/lang/IllegalArgumentException") hown [⟨0, 10, 13, 21⟩, ⟨0, 10, 17, 13⟩] ⟨0, 10, 21, 15⟩ [] (by rw [hex]; rfl) (List.forall_mem_cons.mpr ⟨Or.inr ⟨by decide, "java/lang/IndexOutOfBoundsException", hts _ tw_271, hN.2.1⟩, List.forall_mem_cons.mpr ⟨Or.inr ⟨by decide, "java/lang/IllegalStateException", hts _ tw_117, hN.2.2⟩, fun _ h9 => absurd h9 List.not_mem_nil⟩⟩) (by decide) (by decide) (hts _ tw_118) (va_Nw.use rfl (hX.1 _ (by decide))) hq1 hq2 hq3 ?_
      refine W.eq (g2 := F0 m 21 ls [.ref q9]) rfl ?_
      refine lv_astore (lv' := [(4, .ref q9), (0, .ref h0), (1, .int l1), (2, .int x1), (3, .ref ou)]) hx hb d_Lw_some_21 hl (by decide) rfl (fun ls hl => ?_)
      refine lv_iconst (v := 3) hx hb d_Lw_some_23 (by decide) ?_
      exact hw_reti hx hb hr hlocks hW hS (lw_N.no (c0 := 3) hJq hqs hou hC (by decide) eMe) d_Lw_some_24
  · skip
    obtain ⟨er, hn9, ⟨q, hX9, hJr⟩, hzr⟩ := hp
    obtain ⟨hC, hq⟩ := ca_quant_v hn9 hqs hX9
    obtain ⟨x1, ex1⟩ : ∃ y9 : Int64, y9 = (r9 : Int32).toInt64 := ⟨_, rfl⟩
    refine lv_i2l (v := x1) hx hb d_Lw_some_8 ex1.symm ?_
    have ho9 : Mr ou = some (.inl (cJ, 1, .inr (.inl f0))) := (hzr ou hZou).trans hou
    refine hw_lst hx hb hW hS 1 ho9 rfl 0 rfl (by decide) (by decide) d_Lw_some_9 (fun H locs hW hS => ?_)
    have hW : hw_W D qcl (qty cI cJ cZ cN) _ (va_up Mr ou (some (.inl (cJ, 1, .inr (.inl (vp_updL f0 0 x1)))))) s H := hW
    generalize hMw2 : va_up Mr ou (some (.inl (cJ, 1, .inr (.inl (vp_updL f0 0 x1))))) = Mw2 at hW
    have ho9 : Mw2 ou = some (.inl (cJ, 1, .inr (.inl (vp_updL f0 0 x1)))) := by rw [← hMw2]; exact va_up_self _ _ _
    have hfr_Mw2 : ∀ x9, x9 ≠ ou → Mw2 x9 = Mr x9 := fun x9 z9 => by rw [← hMw2, va_up_ne _ _ z9]
    refine lv_goto (tgt := 25) hx hb d_Lw_some_10 (by decide) ?_
    refine lv_iconst (v := 0) hx hb d_Lw_some_25 (by decide) ?_
    exact hw_reti hx hb hr hlocks hW hS (lw_N.yes hqs hC hn9 hq hJr hzr hZou hfr_Mw2 ho9 (by rw [pk_uLs, ex1, er])) d_Lw_some_26
set_option maxHeartbeats 4000000 in
set_option maxRecDepth 100000 in
theorem c_Lw_every (hl0 : l.stackTraces = false) (M : Nat → Option va_E) (sz n : Nat) (g : Nat → abn) (qs : Nat → nq) (f0 : Nat → Int64) (hJq : qo_J cI cJ cN h0 na v va vb om oa ob im ia ib ro mk ka kb fa la Z M n qs) (hqs : ∀ i, i < n → abq (qs i) = g i) (hou : M ou = some (.inl (cJ, 1, .inr (.inl f0)))) (hZou : Z ou) (l1 x1 : Int32) : Met l y_Lw_every (.codeWith y_Lw_every b_Lw_every 5 (some .int) [(0, 10, 13, 21), (0, 10, 17, 13), (0, 10, 21, 15)] :: ww) ({ frames := 10, cells := 3, slots := 19, locals := 330 }) (lx_Pc D qcl (qty cI cJ cZ cN) [.ref h0, .int l1, .int x1, .ref ou] M sz) (va_Qi (lw_N cI cJ cN h0 na v va vb om oa ob im ia ib ro mk ka kb fa la Z ou n g (cQuant n g l1 x1) (gQuant l1 true (g (ix x1))) M) (hw_B D qcl (qty cI cJ cZ cN) M sz) (hw_A M sz)) 3 19 (hw_A M sz) := by
  obtain ⟨tb, ad, hI⟩ := id hJq
  obtain ⟨hC1, _, hn60⟩ := id hI.1
  refine lx_met (by decide) (Nat.le_of_ble_eq_true rfl) ?_
  intro p e s m below meth c hx hb hr hml hown hlocks hts hsz hX hW hZ hN hex ls hl
  subst hsz
  have hA : ∀ q, s.heap.size ≤ q → hw_A M s.heap.size q := fun q h => Or.inr h
  have hS : va_S (hw_A M s.heap.size) s.heap s.heap [] := va_S.rf
  have hl : lv_has ls 5 [(0, .ref h0), (1, .int l1), (2, .int x1), (3, .ref ou)] := hl
  have hown : s.vm.findClass "QuantifierOutLaw" = some m.cls := hown
  refine lv_aload_n hx hb d_Lw_every_0 rfl (lv_at hl 3 rfl) ?_
  refine lv_iconst (v := 0) hx hb d_Lw_every_1 (by decide) ?_
  refine lv_aload_n hx hb d_Lw_every_2 rfl (lv_at hl 0 rfl) ?_
  refine lv_iload_n hx hb d_Lw_every_3 rfl (lv_at hl 1 rfl) ?_
  refine lv_iload_n hx hb d_Lw_every_4 rfl (lv_at hl 2 rfl) ?_
  refine hx_calli (hx_runV (n := 2) (own := "QuantifierOutLaw") (As := [.int l1, .int x1]) (rest := [.int 0, .ref ou]) hx hb hml hown hts hX hW hl.1 hZ hS hA (c_Qo_every l D cI cJ cZ cN h0 na v va vb om oa ob im ia ib ro mk ka kb fa la Z hl0 M _ n tb ad qs hI l1 x1) hC1 rfl tw_412 tw_413 tw_414 tw_1 tw_415 (by decide +kernel) rfl rfl ⟨by decide, by decide⟩ rfl rfl (Nat.le_of_ble_eq_true rfl) d_Lw_every_5 ⟨by decide, by decide⟩) hW hS hA (fun E9 ce9 q9 Me H locs hp hW hS hq1 hq2 hq3 => ?_) (fun r9 Mr H locs hp hz hW hS => ?_)
  · skip
    obtain ⟨hp, eMe⟩ := hp
    rcases ca_quant_x hn60 hqs hp with ⟨hE, hC⟩ | ⟨hE, hC⟩ | ⟨hE, hC⟩
    · skip
      subst hE
      refine vx_catch (own := "QuantifierOutLaw") (name := "java/lang/IndexOutOfBoundsException") (E := "java/lang/IndexOutOfBoundsException") hown [] ⟨0, 10, 13, 21⟩ [⟨0, 10, 17, 13⟩, ⟨0, 10, 21, 15⟩] (by rw [hex]; rfl) (fun _ h9 => absurd h9 List.not_mem_nil) (by decide) (by decide) (hts _ tw_271) (va_Nw.use rfl (hX.1 _ (by decide))) hq1 hq2 hq3 ?_
      refine W.eq (g2 := F0 m 13 ls [.ref q9]) rfl ?_
      refine lv_astore (lv' := [(4, .ref q9), (0, .ref h0), (1, .int l1), (2, .int x1), (3, .ref ou)]) hx hb d_Lw_every_13 hl (by decide) rfl (fun ls hl => ?_)
      refine lv_iconst (v := 1) hx hb d_Lw_every_15 (by decide) ?_
      exact hw_reti hx hb hr hlocks hW hS (lw_N.no (c0 := 1) hJq hqs hou hC (by decide) eMe) d_Lw_every_16
    · skip
      subst hE
      refine vx_catch (own := "QuantifierOutLaw") (name := "java/lang/IllegalStateException") (E := "java/lang/IllegalStateException") hown [⟨0, 10, 13, 21⟩] ⟨0, 10, 17, 13⟩ [⟨0, 10, 21, 15⟩] (by rw [hex]; rfl) (List.forall_mem_cons.mpr ⟨Or.inr ⟨by decide, "java/lang/IndexOutOfBoundsException", hts _ tw_271, hN.1⟩, fun _ h9 => absurd h9 List.not_mem_nil⟩) (by decide) (by decide) (hts _ tw_117) (va_Nw.use rfl (hX.1 _ (by decide))) hq1 hq2 hq3 ?_
      refine W.eq (g2 := F0 m 17 ls [.ref q9]) rfl ?_
      refine lv_astore (lv' := [(4, .ref q9), (0, .ref h0), (1, .int l1), (2, .int x1), (3, .ref ou)]) hx hb d_Lw_every_17 hl (by decide) rfl (fun ls hl => ?_)
      refine lv_iconst (v := 2) hx hb d_Lw_every_19 (by decide) ?_
      exact hw_reti hx hb hr hlocks hW hS (lw_N.no (c0 := 2) hJq hqs hou hC (by decide) eMe) d_Lw_every_20
    · skip
      subst hE
      refine vx_catch (own := "QuantifierOutLaw") (name := "java/lang/IllegalArgumentException") (E := "java/lang/IllegalArgumentException") hown [⟨0, 10, 13, 21⟩, ⟨0, 10, 17, 13⟩] ⟨0, 10, 21, 15⟩ [] (by rw [hex]; rfl) (List.forall_mem_cons.mpr ⟨Or.inr ⟨by decide, "java/lang/IndexOutOfBoundsException", hts _ tw_271, hN.2.1⟩, List.forall_mem_cons.mpr ⟨Or.inr ⟨by decide, "java/lang/IllegalStateException", hts _ tw_117, hN.2.2⟩, fun _ h9 => absurd h9 List.not_mem_nil⟩⟩) (by decide) (by decide) (hts _ tw_118) (va_Nw.use rfl (hX.1 _ (by decide))) hq1 hq2 hq3 ?_
      refine W.eq (g2 := F0 m 21 ls [.ref q9]) rfl ?_
      refine lv_astore (lv' := [(4, .ref q9), (0, .ref h0), (1, .int l1), (2, .int x1), (3, .ref ou)]) hx hb d_Lw_every_21 hl (by decide) rfl (fun ls hl => ?_)
      refine lv_iconst (v := 3) hx hb d_Lw_every_23 (by decide) ?_
      exact hw_reti hx hb hr hlocks hW hS (lw_N.no (c0 := 3) hJq hqs hou hC (by decide) eMe) d_Lw_every_24
  · skip
    obtain ⟨er, hn9, ⟨q, hX9, hJr⟩, hzr⟩ := hp
    obtain ⟨hC, hq⟩ := ca_quant_v hn9 hqs hX9
    obtain ⟨x1, ex1⟩ : ∃ y9 : Int64, y9 = (r9 : Int32).toInt64 := ⟨_, rfl⟩
    refine lv_i2l (v := x1) hx hb d_Lw_every_8 ex1.symm ?_
    have ho9 : Mr ou = some (.inl (cJ, 1, .inr (.inl f0))) := (hzr ou hZou).trans hou
    refine hw_lst hx hb hW hS 1 ho9 rfl 0 rfl (by decide) (by decide) d_Lw_every_9 (fun H locs hW hS => ?_)
    have hW : hw_W D qcl (qty cI cJ cZ cN) _ (va_up Mr ou (some (.inl (cJ, 1, .inr (.inl (vp_updL f0 0 x1)))))) s H := hW
    generalize hMw2 : va_up Mr ou (some (.inl (cJ, 1, .inr (.inl (vp_updL f0 0 x1))))) = Mw2 at hW
    have ho9 : Mw2 ou = some (.inl (cJ, 1, .inr (.inl (vp_updL f0 0 x1)))) := by rw [← hMw2]; exact va_up_self _ _ _
    have hfr_Mw2 : ∀ x9, x9 ≠ ou → Mw2 x9 = Mr x9 := fun x9 z9 => by rw [← hMw2, va_up_ne _ _ z9]
    refine lv_goto (tgt := 25) hx hb d_Lw_every_10 (by decide) ?_
    refine lv_iconst (v := 0) hx hb d_Lw_every_25 (by decide) ?_
    exact hw_reti hx hb hr hlocks hW hS (lw_N.yes hqs hC hn9 hq hJr hzr hZou hfr_Mw2 ho9 (by rw [pk_uLs, ex1, er])) d_Lw_every_26
set_option maxHeartbeats 4000000 in
set_option maxRecDepth 100000 in
theorem c_Lw_known (hl0 : l.stackTraces = false) (M : Nat → Option va_E) (sz n : Nat) (g : Nat → abn) (qs : Nat → nq) (f0 : Nat → Int64) (hJq : qo_J cI cJ cN h0 na v va vb om oa ob im ia ib ro mk ka kb fa la Z M n qs) (hqs : ∀ i, i < n → abq (qs i) = g i) (hou : M ou = some (.inl (cJ, 1, .inr (.inl f0)))) (hZou : Z ou) (x1 w1 : Int32) : Met l y_Lw_known (.codeWith y_Lw_known b_Lw_known 5 (some .int) [(0, 10, 13, 21), (0, 10, 17, 15)] :: ww) ({ frames := 9, cells := 2, slots := 12, locals := 170 }) (lx_Pc D qcl (qty cI cJ cZ cN) [.ref h0, .int x1, .int w1, .ref ou] M sz) (va_Qi (lw_A cI cJ cN h0 na v va vb om oa ob im ia ib ro mk ka kb fa la Z ou n qs (cKnown n x1 w1) (fun v9 => v9 = (vKnown (g (ix x1)) w1).toInt64) M) (hw_B D qcl (qty cI cJ cZ cN) M sz) (hw_A M sz)) 2 12 (hw_A M sz) := by
  obtain ⟨tb, ad, hI⟩ := id hJq
  obtain ⟨hC1, _, hn60⟩ := id hI.1
  refine lx_met (by decide) (Nat.le_of_ble_eq_true rfl) ?_
  intro p e s m below meth c hx hb hr hml hown hlocks hts hsz hX hW hZ hN hex ls hl
  subst hsz
  have hA : ∀ q, s.heap.size ≤ q → hw_A M s.heap.size q := fun q h => Or.inr h
  have hS : va_S (hw_A M s.heap.size) s.heap s.heap [] := va_S.rf
  have hl : lv_has ls 5 [(0, .ref h0), (1, .int x1), (2, .int w1), (3, .ref ou)] := hl
  have hown : s.vm.findClass "QuantifierOutLaw" = some m.cls := hown
  refine lv_aload_n hx hb d_Lw_known_0 rfl (lv_at hl 3 rfl) ?_
  refine lv_iconst (v := 0) hx hb d_Lw_known_1 (by decide) ?_
  refine lv_aload_n hx hb d_Lw_known_2 rfl (lv_at hl 0 rfl) ?_
  refine lv_iload_n hx hb d_Lw_known_3 rfl (lv_at hl 1 rfl) ?_
  refine lv_iload_n hx hb d_Lw_known_4 rfl (lv_at hl 2 rfl) ?_
  refine hx_calli (hx_runV (n := 2) (own := "QuantifierOutLaw") (As := [.int x1, .int w1]) (rest := [.int 0, .ref ou]) hx hb hml hown hts hX hW hl.1 hZ hS hA (c_Qo_known l D cI cJ cZ cN h0 na v va vb om oa ob im ia ib ro mk ka kb fa la Z hl0 M _ n tb ad qs hI x1 w1) hC1 rfl tw_419 tw_420 tw_421 tw_1 tw_422 (by decide +kernel) rfl rfl ⟨by decide, by decide⟩ rfl rfl (Nat.le_of_ble_eq_true rfl) d_Lw_known_5 ⟨by decide, by decide⟩) hW hS hA (fun E9 ce9 q9 Me H locs hp hW hS hq1 hq2 hq3 => ?_) (fun r9 Mr H locs hp hz hW hS => ?_)
  · skip
    obtain ⟨hp, hJe, hze⟩ := hp
    rcases ca_known_x hn60 hp with ⟨hE, hC⟩ | ⟨hE, hC⟩
    · skip
      subst hE
      refine vx_catch (own := "QuantifierOutLaw") (name := "java/lang/IndexOutOfBoundsException") (E := "java/lang/IndexOutOfBoundsException") hown [] ⟨0, 10, 13, 21⟩ [⟨0, 10, 17, 15⟩] (by rw [hex]; rfl) (fun _ h9 => absurd h9 List.not_mem_nil) (by decide) (by decide) (hts _ tw_271) (va_Nw.use rfl (hX.1 _ (by decide))) hq1 hq2 hq3 ?_
      refine W.eq (g2 := F0 m 13 ls [.ref q9]) rfl ?_
      refine lv_astore (lv' := [(4, .ref q9), (0, .ref h0), (1, .int x1), (2, .int w1), (3, .ref ou)]) hx hb d_Lw_known_13 hl (by decide) rfl (fun ls hl => ?_)
      refine lv_iconst (v := 1) hx hb d_Lw_known_15 (by decide) ?_
      exact hw_reti hx hb hr hlocks hW hS (lw_A.no (c0 := 1) hou hZou hC (by decide) hJe hze) d_Lw_known_16
    · skip
      subst hE
      refine vx_catch (own := "QuantifierOutLaw") (name := "java/lang/IllegalArgumentException") (E := "java/lang/IllegalArgumentException") hown [⟨0, 10, 13, 21⟩] ⟨0, 10, 17, 15⟩ [] (by rw [hex]; rfl) (List.forall_mem_cons.mpr ⟨Or.inr ⟨by decide, "java/lang/IndexOutOfBoundsException", hts _ tw_271, hN.2.1⟩, fun _ h9 => absurd h9 List.not_mem_nil⟩) (by decide) (by decide) (hts _ tw_118) (va_Nw.use rfl (hX.1 _ (by decide))) hq1 hq2 hq3 ?_
      refine W.eq (g2 := F0 m 17 ls [.ref q9]) rfl ?_
      refine lv_astore (lv' := [(4, .ref q9), (0, .ref h0), (1, .int x1), (2, .int w1), (3, .ref ou)]) hx hb d_Lw_known_17 hl (by decide) rfl (fun ls hl => ?_)
      refine lv_iconst (v := 2) hx hb d_Lw_known_19 (by decide) ?_
      exact hw_reti hx hb hr hlocks hW hS (lw_A.no (c0 := 2) hou hZou hC (by decide) hJe hze) d_Lw_known_20
  · skip
    obtain ⟨hX9, hJr, hzr⟩ := hp
    obtain ⟨hC, hR9⟩ := ca_known_v hn60 hqs hX9
    obtain ⟨x1, ex1⟩ : ∃ y9 : Int64, y9 = (r9 : Int32).toInt64 := ⟨_, rfl⟩
    refine lv_i2l (v := x1) hx hb d_Lw_known_8 ex1.symm ?_
    have ho9 : Mr ou = some (.inl (cJ, 1, .inr (.inl f0))) := (hzr ou hZou).trans hou
    refine hw_lst hx hb hW hS 1 ho9 rfl 0 rfl (by decide) (by decide) d_Lw_known_9 (fun H locs hW hS => ?_)
    have hW : hw_W D qcl (qty cI cJ cZ cN) _ (va_up Mr ou (some (.inl (cJ, 1, .inr (.inl (vp_updL f0 0 x1)))))) s H := hW
    generalize hMw2 : va_up Mr ou (some (.inl (cJ, 1, .inr (.inl (vp_updL f0 0 x1))))) = Mw2 at hW
    have ho9 : Mw2 ou = some (.inl (cJ, 1, .inr (.inl (vp_updL f0 0 x1)))) := by rw [← hMw2]; exact va_up_self _ _ _
    have hfr_Mw2 : ∀ x9, x9 ≠ ou → Mw2 x9 = Mr x9 := fun x9 z9 => by rw [← hMw2, va_up_ne _ _ z9]
    refine lv_goto (tgt := 21) hx hb d_Lw_known_10 (by decide) ?_
    refine lv_iconst (v := 0) hx hb d_Lw_known_21 (by decide) ?_
    exact hw_reti hx hb hr hlocks hW hS (lw_A.yes hC hJr hzr hZou hfr_Mw2 ho9 (by rw [pk_uLs, ex1, hR9])) d_Lw_known_22
set_option maxHeartbeats 4000000 in
set_option maxRecDepth 100000 in
theorem c_Lw_holds (hl0 : l.stackTraces = false) (M : Nat → Option va_E) (sz n : Nat) (g : Nat → abn) (qs : Nat → nq) (f0 : Nat → Int64) (hJq : qo_J cI cJ cN h0 na v va vb om oa ob im ia ib ro mk ka kb fa la Z M n qs) (hqs : ∀ i, i < n → abq (qs i) = g i) (hou : M ou = some (.inl (cJ, 1, .inr (.inl f0)))) (hZou : Z ou) (x1 a1 b1 : Int32) : Met l y_Lw_holds (.codeWith y_Lw_holds b_Lw_holds 6 (some .int) [(0, 19, 22, 21), (0, 19, 26, 15)] :: ww) ({ frames := 24, cells := 2, slots := 12, locals := 1340 }) (lx_Pc D qcl (qty cI cJ cZ cN) [.ref h0, .int x1, .int a1, .int b1, .ref ou] M sz) (va_Qi (lw_A cI cJ cN h0 na v va vb om oa ob im ia ib ro mk ka kb fa la Z ou n qs (cHolds n x1 a1 b1) (fun v9 => lb v9 (aP (g (ix x1)) (a1.toInt : Rat) (b1.toInt : Rat))) M) (hw_B D qcl (qty cI cJ cZ cN) M sz) (hw_A M sz)) 2 12 (hw_A M sz) := by
  obtain ⟨tb, ad, hI⟩ := id hJq
  obtain ⟨hC1, _, hn60⟩ := id hI.1
  refine lx_met (by decide) (Nat.le_of_ble_eq_true rfl) ?_
  intro p e s m below meth c hx hb hr hml hown hlocks hts hsz hX hW hZ hN hex ls hl
  subst hsz
  have hA : ∀ q, s.heap.size ≤ q → hw_A M s.heap.size q := fun q h => Or.inr h
  have hS : va_S (hw_A M s.heap.size) s.heap s.heap [] := va_S.rf
  have hl : lv_has ls 6 [(0, .ref h0), (1, .int x1), (2, .int a1), (3, .int b1), (4, .ref ou)] := hl
  have hown : s.vm.findClass "QuantifierOutLaw" = some m.cls := hown
  refine lv_aload hx hb d_Lw_holds_0 (lv_at hl 4 rfl) ?_
  refine lv_iconst (v := 0) hx hb d_Lw_holds_2 (by decide) ?_
  refine lv_aload_n hx hb d_Lw_holds_3 rfl (lv_at hl 0 rfl) ?_
  refine lv_iload_n hx hb d_Lw_holds_4 rfl (lv_at hl 1 rfl) ?_
  refine lv_iload_n hx hb d_Lw_holds_5 rfl (lv_at hl 2 rfl) ?_
  refine lv_iload_n hx hb d_Lw_holds_6 rfl (lv_at hl 3 rfl) ?_
  refine hx_calli (hx_runV (n := 3) (own := "QuantifierOutLaw") (As := [.int x1, .int a1, .int b1]) (rest := [.int 0, .ref ou]) hx hb hml hown hts hX hW hl.1 hZ hS hA (c_Qo_holds l D cI cJ cZ cN h0 na v va vb om oa ob im ia ib ro mk ka kb fa la Z hl0 M _ n tb ad qs hI x1 a1 b1) hC1 rfl tw_435 tw_436 tw_437 tw_1 tw_438 (by decide +kernel) rfl rfl ⟨by decide, by decide⟩ rfl rfl (Nat.le_of_ble_eq_true rfl) d_Lw_holds_7 ⟨by decide, by decide⟩) hW hS hA (fun E9 ce9 q9 Me H locs hp hW hS hq1 hq2 hq3 => ?_) (fun r9 Mr H locs hp hz hW hS => ?_)
  · skip
    obtain ⟨hp, hJe, hze⟩ := hp
    rcases ca_holds_x hn60 hp with ⟨hE, hC⟩ | ⟨hE, hC⟩
    · skip
      subst hE
      refine vx_catch (own := "QuantifierOutLaw") (name := "java/lang/IndexOutOfBoundsException") (E := "java/lang/IndexOutOfBoundsException") hown [] ⟨0, 19, 22, 21⟩ [⟨0, 19, 26, 15⟩] (by rw [hex]; rfl) (fun _ h9 => absurd h9 List.not_mem_nil) (by decide) (by decide) (hts _ tw_271) (va_Nw.use rfl (hX.1 _ (by decide))) hq1 hq2 hq3 ?_
      refine W.eq (g2 := F0 m 22 ls [.ref q9]) rfl ?_
      refine lv_astore (lv' := [(5, .ref q9), (0, .ref h0), (1, .int x1), (2, .int a1), (3, .int b1), (4, .ref ou)]) hx hb d_Lw_holds_22 hl (by decide) rfl (fun ls hl => ?_)
      refine lv_iconst (v := 1) hx hb d_Lw_holds_24 (by decide) ?_
      exact hw_reti hx hb hr hlocks hW hS (lw_A.no (c0 := 1) hou hZou hC (by decide) hJe hze) d_Lw_holds_25
    · skip
      subst hE
      refine vx_catch (own := "QuantifierOutLaw") (name := "java/lang/IllegalArgumentException") (E := "java/lang/IllegalArgumentException") hown [⟨0, 19, 22, 21⟩] ⟨0, 19, 26, 15⟩ [] (by rw [hex]; rfl) (List.forall_mem_cons.mpr ⟨Or.inr ⟨by decide, "java/lang/IndexOutOfBoundsException", hts _ tw_271, hN.2.1⟩, fun _ h9 => absurd h9 List.not_mem_nil⟩) (by decide) (by decide) (hts _ tw_118) (va_Nw.use rfl (hX.1 _ (by decide))) hq1 hq2 hq3 ?_
      refine W.eq (g2 := F0 m 26 ls [.ref q9]) rfl ?_
      refine lv_astore (lv' := [(5, .ref q9), (0, .ref h0), (1, .int x1), (2, .int a1), (3, .int b1), (4, .ref ou)]) hx hb d_Lw_holds_26 hl (by decide) rfl (fun ls hl => ?_)
      refine lv_iconst (v := 2) hx hb d_Lw_holds_28 (by decide) ?_
      exact hw_reti hx hb hr hlocks hW hS (lw_A.no (c0 := 2) hou hZou hC (by decide) hJe hze) d_Lw_holds_29
  · skip
    obtain ⟨hX9, hJr, hzr⟩ := hp
    obtain ⟨hC, hR9⟩ := ca_holds_v hn60 hqs hX9
    refine lv_if_eq (tgt := 17) hx hb d_Lw_holds_10 (by decide) (fun c_10 => ?_) (fun c_10 => ?_)
    · skip
      refine lv_lconst (v := 0) hx hb d_Lw_holds_17 (by decide) ?_
      have ho9 : Mr ou = some (.inl (cJ, 1, .inr (.inl f0))) := (hzr ou hZou).trans hou
      refine hw_lst hx hb hW hS 1 ho9 rfl 0 rfl (by decide) (by decide) d_Lw_holds_18 (fun H locs hW hS => ?_)
      have hW : hw_W D qcl (qty cI cJ cZ cN) _ (va_up Mr ou (some (.inl (cJ, 1, .inr (.inl (vp_updL f0 0 0)))))) s H := hW
      generalize hMw1 : va_up Mr ou (some (.inl (cJ, 1, .inr (.inl (vp_updL f0 0 0))))) = Mw1 at hW
      have ho9 : Mw1 ou = some (.inl (cJ, 1, .inr (.inl (vp_updL f0 0 0)))) := by rw [← hMw1]; exact va_up_self _ _ _
      have hfr_Mw1 : ∀ x9, x9 ≠ ou → Mw1 x9 = Mr x9 := fun x9 z9 => by rw [← hMw1, va_up_ne _ _ z9]
      refine lv_goto (tgt := 30) hx hb d_Lw_holds_19 (by decide) ?_
      refine lv_iconst (v := 0) hx hb d_Lw_holds_30 (by decide) ?_
      exact hw_reti hx hb hr hlocks hW hS (lw_A.yes hC hJr hzr hZou hfr_Mw1 ho9 (by rw [pk_uLs]; exact Or.inr ⟨rfl, it_b0 hR9 c_10⟩)) d_Lw_holds_31
    · skip
      refine lv_lconst (v := 1) hx hb d_Lw_holds_13 (by decide) ?_
      refine lv_goto (tgt := 18) hx hb d_Lw_holds_14 (by decide) ?_
      have ho9 : Mr ou = some (.inl (cJ, 1, .inr (.inl f0))) := (hzr ou hZou).trans hou
      refine hw_lst hx hb hW hS 1 ho9 rfl 0 rfl (by decide) (by decide) d_Lw_holds_18 (fun H locs hW hS => ?_)
      have hW : hw_W D qcl (qty cI cJ cZ cN) _ (va_up Mr ou (some (.inl (cJ, 1, .inr (.inl (vp_updL f0 0 1)))))) s H := hW
      generalize hMw2 : va_up Mr ou (some (.inl (cJ, 1, .inr (.inl (vp_updL f0 0 1))))) = Mw2 at hW
      have ho9 : Mw2 ou = some (.inl (cJ, 1, .inr (.inl (vp_updL f0 0 1)))) := by rw [← hMw2]; exact va_up_self _ _ _
      have hfr_Mw2 : ∀ x9, x9 ≠ ou → Mw2 x9 = Mr x9 := fun x9 z9 => by rw [← hMw2, va_up_ne _ _ z9]
      refine lv_goto (tgt := 30) hx hb d_Lw_holds_19 (by decide) ?_
      refine lv_iconst (v := 0) hx hb d_Lw_holds_30 (by decide) ?_
      exact hw_reti hx hb hr hlocks hW hS (lw_A.yes hC hJr hzr hZou hfr_Mw2 ho9 (by rw [pk_uLs]; exact Or.inl ⟨rfl, it_b1 hR9 c_10⟩)) d_Lw_holds_31
set_option maxHeartbeats 4000000 in
set_option maxRecDepth 100000 in
theorem c_Lw_decide (hl0 : l.stackTraces = false) (M : Nat → Option va_E) (sz n : Nat) (g : Nat → abn) (qs : Nat → nq) (f0 : Nat → Int64) (hJq : qo_J cI cJ cN h0 na v va vb om oa ob im ia ib ro mk ka kb fa la Z M n qs) (hqs : ∀ i, i < n → abq (qs i) = g i) (hou : M ou = some (.inl (cJ, 1, .inr (.inl f0)))) (hZou : Z ou) (x1 : Int32) : Met l y_Lw_decide (.codeWith y_Lw_decide b_Lw_decide 4 (some .int) [(0, 16, 19, 21), (0, 16, 22, 13)] :: ww) ({ frames := 24, cells := 2, slots := 12, locals := 1340 }) (lx_Pc D qcl (qty cI cJ cZ cN) [.ref h0, .int x1, .ref ou] M sz) (va_Qi (lw_A cI cJ cN h0 na v va vb om oa ob im ia ib ro mk ka kb fa la Z ou n qs (cDecide n g x1) (fun v9 => lb v9 (aP (g (ix x1)) 0 0)) M) (hw_B D qcl (qty cI cJ cZ cN) M sz) (hw_A M sz)) 2 12 (hw_A M sz) := by
  obtain ⟨tb, ad, hI⟩ := id hJq
  obtain ⟨hC1, _, hn60⟩ := id hI.1
  refine lx_met (by decide) (Nat.le_of_ble_eq_true rfl) ?_
  intro p e s m below meth c hx hb hr hml hown hlocks hts hsz hX hW hZ hN hex ls hl
  subst hsz
  have hA : ∀ q, s.heap.size ≤ q → hw_A M s.heap.size q := fun q h => Or.inr h
  have hS : va_S (hw_A M s.heap.size) s.heap s.heap [] := va_S.rf
  have hl : lv_has ls 4 [(0, .ref h0), (1, .int x1), (2, .ref ou)] := hl
  have hown : s.vm.findClass "QuantifierOutLaw" = some m.cls := hown
  refine lv_aload_n hx hb d_Lw_decide_0 rfl (lv_at hl 2 rfl) ?_
  refine lv_iconst (v := 0) hx hb d_Lw_decide_1 (by decide) ?_
  refine lv_aload_n hx hb d_Lw_decide_2 rfl (lv_at hl 0 rfl) ?_
  refine lv_iload_n hx hb d_Lw_decide_3 rfl (lv_at hl 1 rfl) ?_
  refine hx_calli (hx_runV (n := 1) (own := "QuantifierOutLaw") (As := [.int x1]) (rest := [.int 0, .ref ou]) hx hb hml hown hts hX hW hl.1 hZ hS hA (c_Qo_decide l D cI cJ cZ cN h0 na v va vb om oa ob im ia ib ro mk ka kb fa la Z hl0 M _ n tb ad qs hI x1) hC1 rfl tw_504 tw_505 tw_506 tw_1 tw_507 (by decide +kernel) rfl rfl ⟨by decide, by decide⟩ rfl rfl (Nat.le_of_ble_eq_true rfl) d_Lw_decide_4 ⟨by decide, by decide⟩) hW hS hA (fun E9 ce9 q9 Me H locs hp hW hS hq1 hq2 hq3 => ?_) (fun r9 Mr H locs hp hz hW hS => ?_)
  · skip
    obtain ⟨hp, hJe, hze⟩ := hp
    rcases ca_decide_x hn60 hqs hp with ⟨hE, hC⟩ | ⟨hE, hC⟩
    · skip
      subst hE
      refine vx_catch (own := "QuantifierOutLaw") (name := "java/lang/IndexOutOfBoundsException") (E := "java/lang/IndexOutOfBoundsException") hown [] ⟨0, 16, 19, 21⟩ [⟨0, 16, 22, 13⟩] (by rw [hex]; rfl) (fun _ h9 => absurd h9 List.not_mem_nil) (by decide) (by decide) (hts _ tw_271) (va_Nw.use rfl (hX.1 _ (by decide))) hq1 hq2 hq3 ?_
      refine W.eq (g2 := F0 m 19 ls [.ref q9]) rfl ?_
      refine lv_astore_n (lv' := [(3, .ref q9), (0, .ref h0), (1, .int x1), (2, .ref ou)]) hx hb d_Lw_decide_19 rfl hl (by decide) rfl (fun ls hl => ?_)
      refine lv_iconst (v := 1) hx hb d_Lw_decide_20 (by decide) ?_
      exact hw_reti hx hb hr hlocks hW hS (lw_A.no (c0 := 1) hou hZou hC (by decide) hJe hze) d_Lw_decide_21
    · skip
      subst hE
      refine vx_catch (own := "QuantifierOutLaw") (name := "java/lang/IllegalStateException") (E := "java/lang/IllegalStateException") hown [⟨0, 16, 19, 21⟩] ⟨0, 16, 22, 13⟩ [] (by rw [hex]; rfl) (List.forall_mem_cons.mpr ⟨Or.inr ⟨by decide, "java/lang/IndexOutOfBoundsException", hts _ tw_271, hN.1⟩, fun _ h9 => absurd h9 List.not_mem_nil⟩) (by decide) (by decide) (hts _ tw_117) (va_Nw.use rfl (hX.1 _ (by decide))) hq1 hq2 hq3 ?_
      refine W.eq (g2 := F0 m 22 ls [.ref q9]) rfl ?_
      refine lv_astore_n (lv' := [(3, .ref q9), (0, .ref h0), (1, .int x1), (2, .ref ou)]) hx hb d_Lw_decide_22 rfl hl (by decide) rfl (fun ls hl => ?_)
      refine lv_iconst (v := 2) hx hb d_Lw_decide_23 (by decide) ?_
      exact hw_reti hx hb hr hlocks hW hS (lw_A.no (c0 := 2) hou hZou hC (by decide) hJe hze) d_Lw_decide_24
  · skip
    obtain ⟨hX9, hJr, hzr⟩ := hp
    obtain ⟨hC, hR9⟩ := ca_decide_v hn60 hqs hX9
    refine lv_if_eq (tgt := 14) hx hb d_Lw_decide_7 (by decide) (fun c_7 => ?_) (fun c_7 => ?_)
    · skip
      refine lv_lconst (v := 0) hx hb d_Lw_decide_14 (by decide) ?_
      have ho9 : Mr ou = some (.inl (cJ, 1, .inr (.inl f0))) := (hzr ou hZou).trans hou
      refine hw_lst hx hb hW hS 1 ho9 rfl 0 rfl (by decide) (by decide) d_Lw_decide_15 (fun H locs hW hS => ?_)
      have hW : hw_W D qcl (qty cI cJ cZ cN) _ (va_up Mr ou (some (.inl (cJ, 1, .inr (.inl (vp_updL f0 0 0)))))) s H := hW
      generalize hMw1 : va_up Mr ou (some (.inl (cJ, 1, .inr (.inl (vp_updL f0 0 0))))) = Mw1 at hW
      have ho9 : Mw1 ou = some (.inl (cJ, 1, .inr (.inl (vp_updL f0 0 0)))) := by rw [← hMw1]; exact va_up_self _ _ _
      have hfr_Mw1 : ∀ x9, x9 ≠ ou → Mw1 x9 = Mr x9 := fun x9 z9 => by rw [← hMw1, va_up_ne _ _ z9]
      refine lv_goto (tgt := 25) hx hb d_Lw_decide_16 (by decide) ?_
      refine lv_iconst (v := 0) hx hb d_Lw_decide_25 (by decide) ?_
      exact hw_reti hx hb hr hlocks hW hS (lw_A.yes hC hJr hzr hZou hfr_Mw1 ho9 (by rw [pk_uLs]; exact Or.inr ⟨rfl, it_b0 hR9 c_7⟩)) d_Lw_decide_26
    · skip
      refine lv_lconst (v := 1) hx hb d_Lw_decide_10 (by decide) ?_
      refine lv_goto (tgt := 15) hx hb d_Lw_decide_11 (by decide) ?_
      have ho9 : Mr ou = some (.inl (cJ, 1, .inr (.inl f0))) := (hzr ou hZou).trans hou
      refine hw_lst hx hb hW hS 1 ho9 rfl 0 rfl (by decide) (by decide) d_Lw_decide_15 (fun H locs hW hS => ?_)
      have hW : hw_W D qcl (qty cI cJ cZ cN) _ (va_up Mr ou (some (.inl (cJ, 1, .inr (.inl (vp_updL f0 0 1)))))) s H := hW
      generalize hMw2 : va_up Mr ou (some (.inl (cJ, 1, .inr (.inl (vp_updL f0 0 1))))) = Mw2 at hW
      have ho9 : Mw2 ou = some (.inl (cJ, 1, .inr (.inl (vp_updL f0 0 1)))) := by rw [← hMw2]; exact va_up_self _ _ _
      have hfr_Mw2 : ∀ x9, x9 ≠ ou → Mw2 x9 = Mr x9 := fun x9 z9 => by rw [← hMw2, va_up_ne _ _ z9]
      refine lv_goto (tgt := 25) hx hb d_Lw_decide_16 (by decide) ?_
      refine lv_iconst (v := 0) hx hb d_Lw_decide_25 (by decide) ?_
      exact hw_reti hx hb hr hlocks hW hS (lw_A.yes hC hJr hzr hZou hfr_Mw2 ho9 (by rw [pk_uLs]; exact Or.inl ⟨rfl, it_b1 hR9 c_7⟩)) d_Lw_decide_26
set_option maxHeartbeats 4000000 in
set_option maxRecDepth 100000 in
theorem c_Lw_alike (hl0 : l.stackTraces = false) (M : Nat → Option va_E) (sz n : Nat) (g : Nat → abn) (qs : Nat → nq) (f0 : Nat → Int64) (hJq : qo_J cI cJ cN h0 na v va vb om oa ob im ia ib ro mk ka kb fa la Z M n qs) (hqs : ∀ i, i < n → abq (qs i) = g i) (hou : M ou = some (.inl (cJ, 1, .inr (.inl f0)))) (hZou : Z ou) (x1 y1 : Int32) : Met l y_Lw_alike (.codeWith y_Lw_alike b_Lw_alike 5 (some .int) [(0, 17, 20, 21)] :: ww) ({ frames := 61, cells := 2, slots := 12, locals := 2640 }) (lx_Pc D qcl (qty cI cJ cZ cN) [.ref h0, .int x1, .int y1, .ref ou] M sz) (va_Qi (lw_A cI cJ cN h0 na v va vb om oa ob im ia ib ro mk ka kb fa la Z ou n qs (cAlike n x1 y1) (fun v9 => lb v9 (∀ t, t < 25 → (gP (aP (g (ix x1))) t ↔ gP (aP (g (ix y1))) t))) M) (hw_B D qcl (qty cI cJ cZ cN) M sz) (hw_A M sz)) 2 12 (hw_A M sz) := by
  obtain ⟨tb, ad, hI⟩ := id hJq
  obtain ⟨hC1, _, hn60⟩ := id hI.1
  refine lx_met (by decide) (Nat.le_of_ble_eq_true rfl) ?_
  intro p e s m below meth c hx hb hr hml hown hlocks hts hsz hX hW hZ hN hex ls hl
  subst hsz
  have hA : ∀ q, s.heap.size ≤ q → hw_A M s.heap.size q := fun q h => Or.inr h
  have hS : va_S (hw_A M s.heap.size) s.heap s.heap [] := va_S.rf
  have hl : lv_has ls 5 [(0, .ref h0), (1, .int x1), (2, .int y1), (3, .ref ou)] := hl
  have hown : s.vm.findClass "QuantifierOutLaw" = some m.cls := hown
  refine lv_aload_n hx hb d_Lw_alike_0 rfl (lv_at hl 3 rfl) ?_
  refine lv_iconst (v := 0) hx hb d_Lw_alike_1 (by decide) ?_
  refine lv_aload_n hx hb d_Lw_alike_2 rfl (lv_at hl 0 rfl) ?_
  refine lv_iload_n hx hb d_Lw_alike_3 rfl (lv_at hl 1 rfl) ?_
  refine lv_iload_n hx hb d_Lw_alike_4 rfl (lv_at hl 2 rfl) ?_
  refine hx_calli (hx_runV (n := 2) (own := "QuantifierOutLaw") (As := [.int x1, .int y1]) (rest := [.int 0, .ref ou]) hx hb hml hown hts hX hW hl.1 hZ hS hA (c_Qo_alike l D cI cJ cZ cN h0 na v va vb om oa ob im ia ib ro mk ka kb fa la Z hl0 M _ n tb ad qs hI x1 y1) hC1 rfl tw_567 tw_568 tw_569 tw_1 tw_570 (by decide +kernel) rfl rfl ⟨by decide, by decide⟩ rfl rfl (Nat.le_of_ble_eq_true rfl) d_Lw_alike_5 ⟨by decide, by decide⟩) hW hS hA (fun E9 ce9 q9 Me H locs hp hW hS hq1 hq2 hq3 => ?_) (fun r9 Mr H locs hp hz hW hS => ?_)
  · skip
    obtain ⟨hp, hJe, hze⟩ := hp
    obtain ⟨hE, hC⟩ := ca_alike_x hn60 hp
    subst hE
    refine vx_catch (own := "QuantifierOutLaw") (name := "java/lang/IndexOutOfBoundsException") (E := "java/lang/IndexOutOfBoundsException") hown [] ⟨0, 17, 20, 21⟩ [] (by rw [hex]; rfl) (fun _ h9 => absurd h9 List.not_mem_nil) (by decide) (by decide) (hts _ tw_271) (va_Nw.use rfl (hX.1 _ (by decide))) hq1 hq2 hq3 ?_
    refine W.eq (g2 := F0 m 20 ls [.ref q9]) rfl ?_
    refine lv_astore (lv' := [(4, .ref q9), (0, .ref h0), (1, .int x1), (2, .int y1), (3, .ref ou)]) hx hb d_Lw_alike_20 hl (by decide) rfl (fun ls hl => ?_)
    refine lv_iconst (v := 1) hx hb d_Lw_alike_22 (by decide) ?_
    exact hw_reti hx hb hr hlocks hW hS (lw_A.no (c0 := 1) hou hZou hC (by decide) hJe hze) d_Lw_alike_23
  · skip
    obtain ⟨hX9, hJr, hzr⟩ := hp
    obtain ⟨hC, hR9⟩ := ca_alike_v hn60 hqs hX9
    refine lv_if_eq (tgt := 15) hx hb d_Lw_alike_8 (by decide) (fun c_8 => ?_) (fun c_8 => ?_)
    · skip
      refine lv_lconst (v := 0) hx hb d_Lw_alike_15 (by decide) ?_
      have ho9 : Mr ou = some (.inl (cJ, 1, .inr (.inl f0))) := (hzr ou hZou).trans hou
      refine hw_lst hx hb hW hS 1 ho9 rfl 0 rfl (by decide) (by decide) d_Lw_alike_16 (fun H locs hW hS => ?_)
      have hW : hw_W D qcl (qty cI cJ cZ cN) _ (va_up Mr ou (some (.inl (cJ, 1, .inr (.inl (vp_updL f0 0 0)))))) s H := hW
      generalize hMw1 : va_up Mr ou (some (.inl (cJ, 1, .inr (.inl (vp_updL f0 0 0))))) = Mw1 at hW
      have ho9 : Mw1 ou = some (.inl (cJ, 1, .inr (.inl (vp_updL f0 0 0)))) := by rw [← hMw1]; exact va_up_self _ _ _
      have hfr_Mw1 : ∀ x9, x9 ≠ ou → Mw1 x9 = Mr x9 := fun x9 z9 => by rw [← hMw1, va_up_ne _ _ z9]
      refine lv_goto (tgt := 24) hx hb d_Lw_alike_17 (by decide) ?_
      refine lv_iconst (v := 0) hx hb d_Lw_alike_24 (by decide) ?_
      exact hw_reti hx hb hr hlocks hW hS (lw_A.yes hC hJr hzr hZou hfr_Mw1 ho9 (by rw [pk_uLs]; exact Or.inr ⟨rfl, it_b0 hR9 c_8⟩)) d_Lw_alike_25
    · skip
      refine lv_lconst (v := 1) hx hb d_Lw_alike_11 (by decide) ?_
      refine lv_goto (tgt := 16) hx hb d_Lw_alike_12 (by decide) ?_
      have ho9 : Mr ou = some (.inl (cJ, 1, .inr (.inl f0))) := (hzr ou hZou).trans hou
      refine hw_lst hx hb hW hS 1 ho9 rfl 0 rfl (by decide) (by decide) d_Lw_alike_16 (fun H locs hW hS => ?_)
      have hW : hw_W D qcl (qty cI cJ cZ cN) _ (va_up Mr ou (some (.inl (cJ, 1, .inr (.inl (vp_updL f0 0 1)))))) s H := hW
      generalize hMw2 : va_up Mr ou (some (.inl (cJ, 1, .inr (.inl (vp_updL f0 0 1))))) = Mw2 at hW
      have ho9 : Mw2 ou = some (.inl (cJ, 1, .inr (.inl (vp_updL f0 0 1)))) := by rw [← hMw2]; exact va_up_self _ _ _
      have hfr_Mw2 : ∀ x9, x9 ≠ ou → Mw2 x9 = Mr x9 := fun x9 z9 => by rw [← hMw2, va_up_ne _ _ z9]
      refine lv_goto (tgt := 24) hx hb d_Lw_alike_17 (by decide) ?_
      refine lv_iconst (v := 0) hx hb d_Lw_alike_24 (by decide) ?_
      exact hw_reti hx hb hr hlocks hW hS (lw_A.yes hC hJr hzr hZou hfr_Mw2 ho9 (by rw [pk_uLs]; exact Or.inl ⟨rfl, it_b1 hR9 c_8⟩)) d_Lw_alike_25
set_option maxHeartbeats 4000000 in
set_option maxRecDepth 100000 in
theorem c_Lw_pieces (hl0 : l.stackTraces = false) (M : Nat → Option va_E) (sz n : Nat) (g : Nat → abn) (qs : Nat → nq) (f0 : Nat → Int64) (hJq : qo_J cI cJ cN h0 na v va vb om oa ob im ia ib ro mk ka kb fa la Z M n qs) (hqs : ∀ i, i < n → abq (qs i) = g i) (hou : M ou = some (.inl (cJ, 1, .inr (.inl f0)))) (hZou : Z ou) (x1 : Int32) : Met l y_Lw_pieces (.codeWith y_Lw_pieces b_Lw_pieces 4 (some .int) [(0, 9, 12, 21), (0, 9, 15, 13)] :: ww) ({ frames := 29, cells := 2, slots := 12, locals := 1570 }) (lx_Pc D qcl (qty cI cJ cZ cN) [.ref h0, .int x1, .ref ou] M sz) (va_Qi (lw_A cI cJ cN h0 na v va vb om oa ob im ia ib ro mk ka kb fa la Z ou n qs (cSet n g x1) (fun v9 => ∃ (mm : Nat) (Lf Rt : Nat → Option (Rat × Bool)), v9 = (nI mm).toInt64 ∧ qp_sys (aSet (g (ix x1))) mm Lf Rt) M) (hw_B D qcl (qty cI cJ cZ cN) M sz) (hw_A M sz)) 2 12 (hw_A M sz) := by
  obtain ⟨tb, ad, hI⟩ := id hJq
  obtain ⟨hC1, _, hn60⟩ := id hI.1
  refine lx_met (by decide) (Nat.le_of_ble_eq_true rfl) ?_
  intro p e s m below meth c hx hb hr hml hown hlocks hts hsz hX hW hZ hN hex ls hl
  subst hsz
  have hA : ∀ q, s.heap.size ≤ q → hw_A M s.heap.size q := fun q h => Or.inr h
  have hS : va_S (hw_A M s.heap.size) s.heap s.heap [] := va_S.rf
  have hl : lv_has ls 4 [(0, .ref h0), (1, .int x1), (2, .ref ou)] := hl
  have hown : s.vm.findClass "QuantifierOutLaw" = some m.cls := hown
  refine lv_aload_n hx hb d_Lw_pieces_0 rfl (lv_at hl 2 rfl) ?_
  refine lv_iconst (v := 0) hx hb d_Lw_pieces_1 (by decide) ?_
  refine lv_aload_n hx hb d_Lw_pieces_2 rfl (lv_at hl 0 rfl) ?_
  refine lv_iload_n hx hb d_Lw_pieces_3 rfl (lv_at hl 1 rfl) ?_
  refine hx_calli (hx_runV (n := 1) (own := "QuantifierOutLaw") (As := [.int x1]) (rest := [.int 0, .ref ou]) hx hb hml hown hts hX hW hl.1 hZ hS hA (c_Qo_pieces l D cI cJ cZ cN h0 na v va vb om oa ob im ia ib ro mk ka kb fa la Z hl0 M _ n tb ad qs hI x1) hC1 rfl tw_512 tw_513 tw_514 tw_1 tw_515 (by decide +kernel) rfl rfl ⟨by decide, by decide⟩ rfl rfl (Nat.le_of_ble_eq_true rfl) d_Lw_pieces_4 ⟨by decide, by decide⟩) hW hS hA (fun E9 ce9 q9 Me H locs hp hW hS hq1 hq2 hq3 => ?_) (fun r9 Mr H locs hp hz hW hS => ?_)
  · skip
    obtain ⟨hp, hJe, hze⟩ := hp
    rcases ca_set_x hn60 hqs hp with ⟨hE, hC⟩ | ⟨hE, hC⟩
    · skip
      subst hE
      refine vx_catch (own := "QuantifierOutLaw") (name := "java/lang/IndexOutOfBoundsException") (E := "java/lang/IndexOutOfBoundsException") hown [] ⟨0, 9, 12, 21⟩ [⟨0, 9, 15, 13⟩] (by rw [hex]; rfl) (fun _ h9 => absurd h9 List.not_mem_nil) (by decide) (by decide) (hts _ tw_271) (va_Nw.use rfl (hX.1 _ (by decide))) hq1 hq2 hq3 ?_
      refine W.eq (g2 := F0 m 12 ls [.ref q9]) rfl ?_
      refine lv_astore_n (lv' := [(3, .ref q9), (0, .ref h0), (1, .int x1), (2, .ref ou)]) hx hb d_Lw_pieces_12 rfl hl (by decide) rfl (fun ls hl => ?_)
      refine lv_iconst (v := 1) hx hb d_Lw_pieces_13 (by decide) ?_
      exact hw_reti hx hb hr hlocks hW hS (lw_A.no (c0 := 1) hou hZou hC (by decide) hJe hze) d_Lw_pieces_14
    · skip
      subst hE
      refine vx_catch (own := "QuantifierOutLaw") (name := "java/lang/IllegalStateException") (E := "java/lang/IllegalStateException") hown [⟨0, 9, 12, 21⟩] ⟨0, 9, 15, 13⟩ [] (by rw [hex]; rfl) (List.forall_mem_cons.mpr ⟨Or.inr ⟨by decide, "java/lang/IndexOutOfBoundsException", hts _ tw_271, hN.1⟩, fun _ h9 => absurd h9 List.not_mem_nil⟩) (by decide) (by decide) (hts _ tw_117) (va_Nw.use rfl (hX.1 _ (by decide))) hq1 hq2 hq3 ?_
      refine W.eq (g2 := F0 m 15 ls [.ref q9]) rfl ?_
      refine lv_astore_n (lv' := [(3, .ref q9), (0, .ref h0), (1, .int x1), (2, .ref ou)]) hx hb d_Lw_pieces_15 rfl hl (by decide) rfl (fun ls hl => ?_)
      refine lv_iconst (v := 2) hx hb d_Lw_pieces_16 (by decide) ?_
      exact hw_reti hx hb hr hlocks hW hS (lw_A.no (c0 := 2) hou hZou hC (by decide) hJe hze) d_Lw_pieces_17
  · skip
    obtain ⟨hX9, hJr, hzr⟩ := hp
    obtain ⟨hC, hR9⟩ := (show cSet n g x1 = 0 ∧ (∃ (mm : Nat) (Lf Rt : Nat → Option (Rat × Bool)), r9.toInt64 = (nI mm).toInt64 ∧ qp_sys (aSet (g (ix x1))) mm Lf Rt) by obtain ⟨i, mm, Lf, Rt, hi, e1, h2, hm, h4, h5⟩ := hX9; obtain ⟨k1, k2⟩ := ca_set_v hn60 hqs hi e1 h2; exact ⟨k1, mm, Lf, Rt, by rw [h4], k2 ▸ h5⟩)
    obtain ⟨x1, ex1⟩ : ∃ y9 : Int64, y9 = (r9 : Int32).toInt64 := ⟨_, rfl⟩
    refine lv_i2l (v := x1) hx hb d_Lw_pieces_7 ex1.symm ?_
    have ho9 : Mr ou = some (.inl (cJ, 1, .inr (.inl f0))) := (hzr ou hZou).trans hou
    refine hw_lst hx hb hW hS 1 ho9 rfl 0 rfl (by decide) (by decide) d_Lw_pieces_8 (fun H locs hW hS => ?_)
    have hW : hw_W D qcl (qty cI cJ cZ cN) _ (va_up Mr ou (some (.inl (cJ, 1, .inr (.inl (vp_updL f0 0 x1)))))) s H := hW
    generalize hMw2 : va_up Mr ou (some (.inl (cJ, 1, .inr (.inl (vp_updL f0 0 x1))))) = Mw2 at hW
    have ho9 : Mw2 ou = some (.inl (cJ, 1, .inr (.inl (vp_updL f0 0 x1)))) := by rw [← hMw2]; exact va_up_self _ _ _
    have hfr_Mw2 : ∀ x9, x9 ≠ ou → Mw2 x9 = Mr x9 := fun x9 z9 => by rw [← hMw2, va_up_ne _ _ z9]
    refine lv_goto (tgt := 18) hx hb d_Lw_pieces_9 (by decide) ?_
    refine lv_iconst (v := 0) hx hb d_Lw_pieces_18 (by decide) ?_
    exact hw_reti hx hb hr hlocks hW hS (lw_A.yes hC hJr hzr hZou hfr_Mw2 ho9 (by rw [pk_uLs, ex1]; exact hR9)) d_Lw_pieces_19
set_option maxHeartbeats 4000000 in
set_option maxRecDepth 100000 in
theorem c_Lw_end (hl0 : l.stackTraces = false) (M : Nat → Option va_E) (sz n : Nat) (g : Nat → abn) (qs : Nat → nq) (f0 : Nat → Int64) (hJq : qo_J cI cJ cN h0 na v va vb om oa ob im ia ib ro mk ka kb fa la Z M n qs) (hqs : ∀ i, i < n → abq (qs i) = g i) (hou : M ou = some (.inl (cJ, 1, .inr (.inl f0)))) (hZou : Z ou) (x1 k1 s1 t1 : Int32) : Met l y_Lw_end (.codeWith y_Lw_end b_Lw_end 7 (some .int) [(0, 13, 16, 21), (0, 13, 20, 13), (0, 13, 24, 15)] :: ww) ({ frames := 29, cells := 3, slots := 18, locals := 1570 }) (lx_Pc D qcl (qty cI cJ cZ cN) [.ref h0, .int x1, .int k1, .int s1, .int t1, .ref ou] M sz) (va_Qi (lw_E cI cJ cN h0 na v va vb om oa ob im ia ib ro mk ka kb fa la Z ou n g qs x1 k1 s1 t1 M) (hw_B D qcl (qty cI cJ cZ cN) M sz) (hw_A M sz)) 3 18 (hw_A M sz) := by
  obtain ⟨tb, ad, hI⟩ := id hJq
  obtain ⟨hC1, _, hn60⟩ := id hI.1
  refine lx_met (by decide) (Nat.le_of_ble_eq_true rfl) ?_
  intro p e s m below meth c hx hb hr hml hown hlocks hts hsz hX hW hZ hN hex ls hl
  subst hsz
  have hA : ∀ q, s.heap.size ≤ q → hw_A M s.heap.size q := fun q h => Or.inr h
  have hS : va_S (hw_A M s.heap.size) s.heap s.heap [] := va_S.rf
  have hl : lv_has ls 7 [(0, .ref h0), (1, .int x1), (2, .int k1), (3, .int s1), (4, .int t1), (5, .ref ou)] := hl
  have hown : s.vm.findClass "QuantifierOutLaw" = some m.cls := hown
  refine lv_aload hx hb d_Lw_end_0 (lv_at hl 5 rfl) ?_
  refine lv_iconst (v := 0) hx hb d_Lw_end_2 (by decide) ?_
  refine lv_aload_n hx hb d_Lw_end_3 rfl (lv_at hl 0 rfl) ?_
  refine lv_iload_n hx hb d_Lw_end_4 rfl (lv_at hl 1 rfl) ?_
  refine lv_iload_n hx hb d_Lw_end_5 rfl (lv_at hl 2 rfl) ?_
  refine lv_iload_n hx hb d_Lw_end_6 rfl (lv_at hl 3 rfl) ?_
  refine lv_iload hx hb d_Lw_end_7 (lv_at hl 4 rfl) ?_
  refine hx_calll (hx_runV (n := 4) (own := "QuantifierOutLaw") (As := [.int x1, .int k1, .int s1, .int t1]) (rest := [.int 0, .ref ou]) hx hb hml hown hts hX hW hl.1 hZ hS hA (c_Qo_end l D cI cJ cZ cN h0 na v va vb om oa ob im ia ib ro mk ka kb fa la Z hl0 M _ n tb ad qs hI x1 k1 s1 t1) hC1 rfl tw_534 tw_535 tw_536 tw_1 tw_537 (by decide +kernel) rfl rfl ⟨by decide, by decide⟩ rfl rfl (Nat.le_of_ble_eq_true rfl) d_Lw_end_9 ⟨by decide, by decide⟩) hW hS hA (fun E9 ce9 q9 Me H locs hp hW hS hq1 hq2 hq3 => ?_) (fun r9 Mr H locs hp hz hW hS => ?_)
  · skip
    obtain ⟨hp, hJe, hze⟩ := hp
    rcases (show (E9 = "java/lang/IndexOutOfBoundsException" ∧ ((cSet n g x1 ≠ 0 ∧ (1 : Int32) = nI (cSet n g x1)) ∨ (cSet n g x1 = 0 ∧ ∃ (mm : Nat) (Lf Rt : Nat → Option (Rat × Bool)), qp_sys (aSet (g (ix x1))) mm Lf Rt ∧ (1 : Int32) = nI (cEnd mm k1 s1 t1) ∧ cEnd mm k1 s1 t1 ≠ 0))) ∨ (E9 = "java/lang/IllegalStateException" ∧ ((cSet n g x1 ≠ 0 ∧ (2 : Int32) = nI (cSet n g x1)) ∨ (cSet n g x1 = 0 ∧ ∃ (mm : Nat) (Lf Rt : Nat → Option (Rat × Bool)), qp_sys (aSet (g (ix x1))) mm Lf Rt ∧ (2 : Int32) = nI (cEnd mm k1 s1 t1) ∧ cEnd mm k1 s1 t1 ≠ 0))) ∨ (E9 = "java/lang/IllegalArgumentException" ∧ ((cSet n g x1 ≠ 0 ∧ (3 : Int32) = nI (cSet n g x1)) ∨ (cSet n g x1 = 0 ∧ ∃ (mm : Nat) (Lf Rt : Nat → Option (Rat × Bool)), qp_sys (aSet (g (ix x1))) mm Lf Rt ∧ (3 : Int32) = nI (cEnd mm k1 s1 t1) ∧ cEnd mm k1 s1 t1 ≠ 0))) by
      rcases hp with hp | ⟨i, mm, Lf, Rt, hi, e1, h2, hm, h4, h5⟩
      · rcases ca_set_x hn60 hqs hp with ⟨h1, h2⟩ | ⟨h1, h2⟩
        · exact Or.inl ⟨h1, Or.inl ⟨by rw [h2]; decide, by rw [h2]; rfl⟩⟩
        · exact Or.inr (Or.inl ⟨h1, Or.inl ⟨by rw [h2]; decide, by rw [h2]; rfl⟩⟩)
      · obtain ⟨k8, k9⟩ := ca_set_v hn60 hqs hi e1 h2
        have h4 : qp_sys (aSet (g (ix x1))) mm Lf Rt := k9 ▸ h4
        obtain ⟨d1, d2, d3⟩ := ca_end_c (mm := mm) (xk := k1) (xs := s1) (xt := t1) (by omega)
        rcases h5 with ⟨h6, h7⟩ | ⟨h6, h7, h8⟩
        · exact Or.inl ⟨h7, Or.inr ⟨k8, mm, Lf, Rt, h4, by rw [d1 h6]; rfl, by rw [d1 h6]; decide⟩⟩
        · exact Or.inr (Or.inr ⟨h8, Or.inr ⟨k8, mm, Lf, Rt, h4, by rw [d2 h6 h7]; rfl, by rw [d2 h6 h7]; decide⟩⟩)) with ⟨hE, hC⟩ | ⟨hE, hC⟩ | ⟨hE, hC⟩
    · skip
      subst hE
      refine vx_catch (own := "QuantifierOutLaw") (name := "java/lang/IndexOutOfBoundsException") (E := "java/lang/IndexOutOfBoundsException") hown [] ⟨0, 13, 16, 21⟩ [⟨0, 13, 20, 13⟩, ⟨0, 13, 24, 15⟩] (by rw [hex]; rfl) (fun _ h9 => absurd h9 List.not_mem_nil) (by decide) (by decide) (hts _ tw_271) (va_Nw.use rfl (hX.1 _ (by decide))) hq1 hq2 hq3 ?_
      refine W.eq (g2 := F0 m 16 ls [.ref q9]) rfl ?_
      refine lv_astore (lv' := [(6, .ref q9), (0, .ref h0), (1, .int x1), (2, .int k1), (3, .int s1), (4, .int t1), (5, .ref ou)]) hx hb d_Lw_end_16 hl (by decide) rfl (fun ls hl => ?_)
      refine lv_iconst (v := 1) hx hb d_Lw_end_18 (by decide) ?_
      exact hw_reti hx hb hr hlocks hW hS (⟨fun z h9 _ => hze z h9, f0, hJe, (hze ou hZou).trans hou, hC.elim Or.inl (fun h9 => Or.inr ⟨h9.1, h9.2.imp fun mm h8 => h8.imp fun Lf h7 => h7.imp fun Rt h6 => ⟨h6.1, h6.2.1, fun z => absurd z h6.2.2⟩⟩)⟩) d_Lw_end_19
    · skip
      subst hE
      refine vx_catch (own := "QuantifierOutLaw") (name := "java/lang/IllegalStateException") (E := "java/lang/IllegalStateException") hown [⟨0, 13, 16, 21⟩] ⟨0, 13, 20, 13⟩ [⟨0, 13, 24, 15⟩] (by rw [hex]; rfl) (List.forall_mem_cons.mpr ⟨Or.inr ⟨by decide, "java/lang/IndexOutOfBoundsException", hts _ tw_271, hN.1⟩, fun _ h9 => absurd h9 List.not_mem_nil⟩) (by decide) (by decide) (hts _ tw_117) (va_Nw.use rfl (hX.1 _ (by decide))) hq1 hq2 hq3 ?_
      refine W.eq (g2 := F0 m 20 ls [.ref q9]) rfl ?_
      refine lv_astore (lv' := [(6, .ref q9), (0, .ref h0), (1, .int x1), (2, .int k1), (3, .int s1), (4, .int t1), (5, .ref ou)]) hx hb d_Lw_end_20 hl (by decide) rfl (fun ls hl => ?_)
      refine lv_iconst (v := 2) hx hb d_Lw_end_22 (by decide) ?_
      exact hw_reti hx hb hr hlocks hW hS (⟨fun z h9 _ => hze z h9, f0, hJe, (hze ou hZou).trans hou, hC.elim Or.inl (fun h9 => Or.inr ⟨h9.1, h9.2.imp fun mm h8 => h8.imp fun Lf h7 => h7.imp fun Rt h6 => ⟨h6.1, h6.2.1, fun z => absurd z h6.2.2⟩⟩)⟩) d_Lw_end_23
    · skip
      subst hE
      refine vx_catch (own := "QuantifierOutLaw") (name := "java/lang/IllegalArgumentException") (E := "java/lang/IllegalArgumentException") hown [⟨0, 13, 16, 21⟩, ⟨0, 13, 20, 13⟩] ⟨0, 13, 24, 15⟩ [] (by rw [hex]; rfl) (List.forall_mem_cons.mpr ⟨Or.inr ⟨by decide, "java/lang/IndexOutOfBoundsException", hts _ tw_271, hN.2.1⟩, List.forall_mem_cons.mpr ⟨Or.inr ⟨by decide, "java/lang/IllegalStateException", hts _ tw_117, hN.2.2⟩, fun _ h9 => absurd h9 List.not_mem_nil⟩⟩) (by decide) (by decide) (hts _ tw_118) (va_Nw.use rfl (hX.1 _ (by decide))) hq1 hq2 hq3 ?_
      refine W.eq (g2 := F0 m 24 ls [.ref q9]) rfl ?_
      refine lv_astore (lv' := [(6, .ref q9), (0, .ref h0), (1, .int x1), (2, .int k1), (3, .int s1), (4, .int t1), (5, .ref ou)]) hx hb d_Lw_end_24 hl (by decide) rfl (fun ls hl => ?_)
      refine lv_iconst (v := 3) hx hb d_Lw_end_26 (by decide) ?_
      exact hw_reti hx hb hr hlocks hW hS (⟨fun z h9 _ => hze z h9, f0, hJe, (hze ou hZou).trans hou, hC.elim Or.inl (fun h9 => Or.inr ⟨h9.1, h9.2.imp fun mm h8 => h8.imp fun Lf h7 => h7.imp fun Rt h6 => ⟨h6.1, h6.2.1, fun z => absurd z h6.2.2⟩⟩)⟩) d_Lw_end_27
  · skip
    obtain ⟨⟨i, mm, kx, sd, pt, Lf, Rt, hi, e1, h2, hm22, hs9, hkm, ek, hsd, es, hpt, et, hr9⟩, hJr, hzr⟩ := hp
    obtain ⟨k8, k9⟩ := ca_set_v hn60 hqs hi e1 h2
    have hs9 : qp_sys (aSet (g (ix x1))) mm Lf Rt := k9 ▸ hs9
    have hr9 : r9.toInt = pe_v (if ix s1 = 0 then Lf (ix k1) else Rt (ix k1)) (ix t1) := by rw [es, ek, et, ix_nI (i := sd) (by omega), ix_nI (i := kx) (by omega), ix_nI (i := pt) (by omega)]; exact hr9
    have ho9 : Mr ou = some (.inl (cJ, 1, .inr (.inl f0))) := (hzr ou hZou).trans hou
    refine hw_lst hx hb hW hS 1 ho9 rfl 0 rfl (by decide) (by decide) d_Lw_end_12 (fun H locs hW hS => ?_)
    have hW : hw_W D qcl (qty cI cJ cZ cN) _ (va_up Mr ou (some (.inl (cJ, 1, .inr (.inl (vp_updL f0 0 r9)))))) s H := hW
    generalize hMw1 : va_up Mr ou (some (.inl (cJ, 1, .inr (.inl (vp_updL f0 0 r9))))) = Mw1 at hW
    have ho9 : Mw1 ou = some (.inl (cJ, 1, .inr (.inl (vp_updL f0 0 r9)))) := by rw [← hMw1]; exact va_up_self _ _ _
    have hfr_Mw1 : ∀ x9, x9 ≠ ou → Mw1 x9 = Mr x9 := fun x9 z9 => by rw [← hMw1, va_up_ne _ _ z9]
    refine lv_goto (tgt := 28) hx hb d_Lw_end_13 (by decide) ?_
    refine lv_iconst (v := 0) hx hb d_Lw_end_28 (by decide) ?_
    exact hw_reti hx hb hr hlocks hW hS (⟨fun z h9 h8 => (hfr_Mw1 z h8).trans (hzr z h9), _, qo_J.out hJr hZou hfr_Mw1 (by rw [ho9]; exact Option.some_ne_none _), ho9, Or.inr ⟨k8, mm, Lf, Rt, hs9, by rw [(ca_end_c (by omega)).2.2 ⟨kx, hkm, ek⟩ ⟨sd, hsd, es⟩ ⟨pt, hpt, et⟩]; rfl, fun _ => by rw [pk_uLs]; exact hr9⟩⟩) d_Lw_end_29
end G57b

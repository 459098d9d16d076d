/-! Methods that may throw, over the world by addresses. -/
def hz_names : List String := ["java/lang/RuntimeException", "java/lang/Exception"]
def hz_strs : List (Nat × String) := [(131, "60 nodes are there"), (42, "a, b and c are -5 .. 5"), (47, "op is 0, 1 or 2"), (129, "no such node"), (133, "the size would be above 6"), (140, "letter is 0 or 1"), (142, "the depth would be above 2"), (83, "what is 0 .. 3"), (88, "x and y are -50 .. 50"), (103, "x or y is free"), (149, "it has no set"), (114, "no such piece"), (117, "side is 0 or 1"), (119, "part is 0, 1 or 2")]
/-- what a throw needs of the machine: two statics of Throwable outside A, and the texts -/
def hz (A : Nat → Prop) (s : State) (H : Heap) : Prop := vx_Zq Bundle.tN "UNASSIGNED_STACK" Bundle.steD A s H ∧ vx_Zq Bundle.tN "SUPPRESSED_SENTINEL" Bundle.listD A s H ∧ ∀ w ∈ hz_strs, ∃ sa, vk_R "QuantifierOut" w.1 w.2 sa s
theorem hz.next {A B : Nat → Prop} {s U : State} {H0 H : Heap} {locs : List Loc} (h : hz A s H0) (hS : va_S A H0 H locs) (hB : ∀ q, B q → A q) (hw : s.WarmedH U.vm) : hz B U H :=
  ⟨((h.1.kept hS.2.1).narrow hB).moved hw.alike, ((h.2.1.kept hS.2.1).narrow hB).moved hw.alike, fun w hw9 => (h.2.2 w hw9).imp fun _ q => vk_R.warm hw q⟩
def hx_Pc (D : va_G) (cl : List vw_C) (tys : List (ClassId × FieldType)) (av : List Value) (M : Nat → Option va_E) (sz : Nat) : Array Value → State → Prop := va_Pc av (fun U => U.heap.size = sz ∧ hw_W D cl tys (fun _ => True) M U U.heap ∧ hw_X U ∧ hz (hw_A M sz) U U.heap)
def hx_X (D : va_G) (cl : List vw_C) (tys : List (ClassId × FieldType)) (M : Nat → Option va_E) (sz : Nat) (px : String → (Nat → Option va_E) → Prop) : String → State → State → Prop := vx_X (fun _ : Nat → Option va_E => True) (fun E M1 t => px E M1 ∧ hw_B D cl tys M sz M1 t) (hw_A M sz)
theorem hx_Pc.blind {D : va_G} {cl : List vw_C} {tys : List (ClassId × FieldType)} {av : List Value} {M : Nat → Option va_E} {sz : Nat} : FrameBlind (hx_Pc D cl tys av M sz) := by
  intro a U g mk h
  obtain ⟨h1, h2, h3, h4, h5, h6, h7⟩ := h
  exact ⟨h1, h2, h3.moved (u := U.calling g mk a) (Vm.Alike.refl U.vm), hw_X.same (u := U) (U := U.calling g mk a) rfl h4, vx_Zq.moved (u := U) (U := U.calling g mk a) (Vm.Alike.refl U.vm) h5, vx_Zq.moved (u := U) (U := U.calling g mk a) (Vm.Alike.refl U.vm) h6, fun w hw => (h7 w hw).imp fun _ q => vk_R.same (u := U) (U := U.calling g mk a) rfl q⟩
theorem hw_W.kept {D : va_G} {cl : List vw_C} {tys : List (ClassId × FieldType)} {A : Nat → Prop} {M : Nat → Option va_E} {s : State} {H H1 : Heap} (h : hw_W D cl tys A M s H) (hq : ∀ q : Nat, q < H.size → H1[q]? = H[q]?) : hw_W D cl tys A M s H1 := by
  obtain ⟨ws, e, hP, hD, hK⟩ := h
  exact ⟨ws, e, hP.kept (fun k q hk => hq q.1 (hP k q hk).lt), hD, hK⟩
theorem xt_44 : ∀ w ∈ (vx_atS "QuantifierOut" 44 "java/lang/IllegalArgumentException" hz_names).filter goodWord, w ∈ lw_tbl := by decide +kernel
theorem xt_105 : ∀ w ∈ (vx_atS "QuantifierOut" 105 "java/lang/IllegalStateException" hz_names).filter goodWord, w ∈ lw_tbl := by decide +kernel
theorem xt_116 : ∀ w ∈ (vx_atS "QuantifierOut" 116 "java/lang/IndexOutOfBoundsException" hz_names).filter goodWord, w ∈ lw_tbl := by decide +kernel
theorem xt_ww {L : List Cond} (h : ∀ w ∈ L.filter goodWord, w ∈ lw_tbl) : ∀ w ∈ L.filter goodWord, w ∈ ww := fun w hw => List.mem_filter.mpr ⟨h w hw, (List.mem_filter.mp hw).2⟩
theorem xb_44 : ∀ w ∈ (vx_atS "QuantifierOut" 44 "java/lang/IllegalArgumentException" hz_names).filter (fun w => !goodWord w), w ∈ hw_xw := by decide +kernel
theorem xb_105 : ∀ w ∈ (vx_atS "QuantifierOut" 105 "java/lang/IllegalStateException" hz_names).filter (fun w => !goodWord w), w ∈ hw_xw := by decide +kernel
theorem xb_116 : ∀ w ∈ (vx_atS "QuantifierOut" 116 "java/lang/IndexOutOfBoundsException" hz_names).filter (fun w => !goodWord w), w ∈ hw_xw := by decide +kernel
theorem xg_44 : ∀ w ∈ Cond.classLink "QuantifierOut" 40 "java/lang/IllegalArgumentException" :: Cond.initialized "java/lang/IllegalArgumentException" :: vx_atS "QuantifierOut" 44 "java/lang/IllegalArgumentException" hz_names, vx_ot w = true := by decide +kernel
theorem xg_105 : ∀ w ∈ Cond.classLink "QuantifierOut" 101 "java/lang/IllegalStateException" :: Cond.initialized "java/lang/IllegalStateException" :: vx_atS "QuantifierOut" 105 "java/lang/IllegalStateException" hz_names, vx_ot w = true := by decide +kernel
theorem xg_116 : ∀ w ∈ Cond.classLink "QuantifierOut" 112 "java/lang/IndexOutOfBoundsException" :: Cond.initialized "java/lang/IndexOutOfBoundsException" :: vx_atS "QuantifierOut" 116 "java/lang/IndexOutOfBoundsException" hz_names, vx_ot w = true := by decide +kernel
theorem xf_I : Bundle.fit "java/lang/IllegalArgumentException" = true := by decide +kernel
theorem xf_S : Bundle.fit "java/lang/IllegalStateException" = true := by decide +kernel
theorem xf_O : Bundle.fit "java/lang/IndexOutOfBoundsException" = true := by decide +kernel
theorem xf_n : ∀ n ∈ hz_names, Bundle.fit n = true := by decide +kernel
section HXM
variable {l : Launch} {D : va_G} {tys : List (ClassId × FieldType)} {cl : List vw_C}
theorem hx_met {y : MethodName} {cc : ByteArray} {maxL : Nat} {ret : Option FieldType} {rm : Room} {av : List Value} {M : Nat → Option va_E} {sz : Nat} {Qc : Array Value → State → Outcome → State → Prop} {XC : String → State → State → Prop} {mc ms : Nat} {free : Addr → Prop}
    (hy : plainName y.cls = true) (hav : (lg_sl av).length ≤ maxL)
    (body : ∀ (p : Program) (e : Env) (s : State) (m : MethodId) (below : List Frame) (meth : Method) (c : Code), p.tables.exec = Jvm.exec → c.code = cc → meth.sig.returnType = ret → c.maxLocals = maxL → s.vm.findClass y.cls = some m.cls → meth.locks = false → meth.name = y.name → (∀ w ∈ ww, w.before av.toArray s = true) → s.heap.size = sz → hw_X s → hw_W D cl tys (hw_A M s.heap.size) M s s.heap → hz (hw_A M s.heap.size) s s.heap → (∀ x ∈ c.exceptionTable.toList, False) → ∀ ls : Array Slot, lv_has ls maxL (lv_args 0 av) →
      W p l e rm s m av.toArray below meth c s.heap [] 0 0 (vx_MQ below Qc XC av.toArray s mc ms free) (F0 m 0 ls [])) :
    vx_Met l y (.code y cc maxL ret :: ww) rm (hx_Pc D cl tys av M sz) Qc XC mc ms free := by
  refine vx_ofW (cc := cc) (maxL := maxL) (ret := ret) hy rfl ?_
  intro p e s m args below meth c s₁ B hml hno hv
  obtain ⟨rfl, hsz, hW, hX, hZ⟩ := hv
  have hts := atoms_spec (ws := .code y cc maxL ret :: ww) B.pre
  rw [lg_entry_eq]
  exact body p e s m below meth c B.exec B.bytes B.returns hml (findClass_of_methodNamed B.named) B.notSynchronized (name_of_methodNamed B.named B.method).1 (fun w h => hts w (List.mem_cons_of_mem _ h)) hsz hX hW.self (by rw [hsz]; exact hZ) hno _ (lv_entry av hav)
variable {p : Program} {e : Env} {R : Room} {s : State} {m : MethodId} {args : Array Value} {below : List Frame} {meth : Method} {c : Code} {H : Heap} {locs : List Loc} {cells slots : Nat} {Q : State → Prop}
variable {cc : ByteArray} {pc : Nat} {ls : Array Slot} {rest : List Value} {A : Nat → Prop} {a : Nat} {M : Nat → Option va_E} {H0 : Heap}
theorem hx_preS (hX : hw_X s) (hW : hw_W D cl tys A M s H) (hZ : hz A s H0) (hS : va_S A H0 H locs) (hA : ∀ q, H0.size ≤ q → A q) {As : List Value} : PreS s H (hx_Pc D cl tys As M H.size) As :=
  ⟨hx_Pc.blind, fun U hU hw => ⟨rfl, by rw [hU], by rw [hU]; exact (hW.moved hw.alike).weaken (fun _ _ => trivial), hX.warm hw, by rw [hU]; exact hZ.next hS (hW.free hS hA) hw⟩⟩
theorem hx_preV (hX : hw_X s) (hW : hw_W D cl tys A M s H) (hZ : hz A s H0) (hS : va_S A H0 H locs) (hA : ∀ q, H0.size ≤ q → A q) {b ci : Nat} {fs : List Value} (hb : M b = some (.inr (ci, fs))) {q : vw_C} (hc : cl[ci]? = some q) {As : List Value} : PreV s H q.1 b (hx_Pc D cl tys (.ref b :: As) M H.size) As :=
  ⟨hx_Pc.blind, (hw_preV hX hW hb hc (As := As)).2.1, (hx_preS hX hW hZ hS hA).2⟩
theorem hx_runV {y : MethodName} {bytes : ByteArray} {maxL nL mc ms n index : Nat} {ret : Option FieldType} {rm : Room} {Qc : Array Value → State → Outcome → State → Prop} {XC : String → State → State → Prop} {free : Addr → Prop} {own : String} {b ci : Nat} {fs : List Value} {T : u_T} {N : Nat} {As : List Value} {st0 : List Value}
    (hx : p.tables.exec = Jvm.exec) (hb : c.code = cc) (hml : c.maxLocals = nL) (hown : s.vm.findClass own = some m.cls) (hts : ∀ w ∈ ww, w.before args s = true) (hX : hw_X s) (hW : hw_W D cl tys A M s H) (hl : ls.size = nL)
    (hZ : hz A s H0) (hS : va_S A H0 H locs) (hA : ∀ q, H0.size ≤ q → A q)
    (hM : vx_Met l y (.code y bytes maxL ret :: ww) rm (hx_Pc D cl tys (.ref b :: As) M H.size) Qc XC mc ms free)
    (hbM : M b = some (.inr (ci, fs))) (hc : cl[ci]? = some (y.cls, T, N))
    (w1 : Cond.methodLink own index y ∈ ww) (w2 : Cond.instanceMethod y ∈ ww) (w3 : Cond.selects y.cls y y ∈ ww) (w4 : Cond.initialized y.cls ∈ ww) (w5 : Cond.code y bytes maxL ret ∈ ww)
    (hd : y.cls ≠ "java/lang/invoke/MethodHandle" ∧ y.cls ≠ "java/lang/invoke/VarHandle" ∧ (parseMethodDescriptor y.desc).map (fun d => d.parameters.length) = some n)
    (hrc : rm.cells = mc) (hrs : rm.slots = ms) (hR : rm.frames + 1 ≤ R.frames ∧ 8 + (maxL + 11) + rm.locals ≤ R.locals) (hn : As.length = n) (hst : st0 = As.reverse ++ .ref b :: rest) (hrw : (rest.map fun v => v.category).sum ≤ 8)
    (hdg : decode cc pc = .ok (.invokevirtual index, 3)) (hf : cells + mc ≤ R.cells ∧ slots + ms ≤ R.slots) :
    vx_Run p l e R s m args below meth c H locs cells slots mc ms (F0 m pc ls st0) rest (Qc (Value.ref b :: As).toArray) XC free :=
  vx_runV (Ts := ww) ⟨hx, hb, hml, hown, hts⟩ hM (cwV n hts (hw_gi w5 (hw_f4 w1 w2 w3 w4)) rfl hrc hrs ⟨rfl, hd⟩ hR) (hx_preV hX hW hZ hS hA hbM hc) rfl hn hl hst (lv_room hrw) hdg hf
theorem hx_calli {st0 : List Value} {a9 : Array Value} {mc ms : Nat} {post : Int32 → (Nat → Option va_E) → Prop} {px : String → (Nat → Option va_E) → Prop} (hr : vx_Run p l e R s m args below meth c H locs cells slots mc ms (F0 m pc ls st0) rest (va_Qi post (hw_B D cl tys M H.size) (hw_A M H.size) a9) (hx_X D cl tys M H.size px) (hw_A M H.size)) (hW : hw_W D cl tys A M s H) (hS : va_S A H0 H locs) (hA : ∀ q, H0.size ≤ q → A q)
    (kx : ∀ (E : String) (ce : Cell) (q9 : Addr) (M1 : Nat → Option va_E) (H1 : Heap) (locs1 : List Loc), px E M1 → hw_W D cl tys A M1 s H1 → va_S A H0 H1 locs1 → H1[q9]? = some ce → ce.vm = .none → s.vm.findClass E = some ce.cls → vx_W p l e R s m args below meth c H1 locs1 (cells + mc) (slots + ms) Q (F0 m pc ls rest) q9)
    (kk : ∀ (r : Int32) (M1 : Nat → Option va_E) (H1 : Heap) (locs1 : List Loc), post r M1 → H.size ≤ H1.size → hw_W D cl tys A M1 s H1 → va_S A H0 H1 locs1 → W p l e R s m args below meth c H1 locs1 (cells + mc) (slots + ms) Q (F0 m (pc + 3) ls (.int r :: rest))) : W p l e R s m args below meth c H locs cells slots Q (F0 m pc ls st0) :=
  vx_calli hr hS (fun q _ h => hW.free hS hA q h) (fun q h => hW.free hS hA q h) (fun q _ h => hW.free hS hA q h) (fun E ce q9 M1 _ H1 locs1 ht hvm _ hp _ _ hS1 h1 h2 h3 => kx E ce q9 M1 H1 locs1 hp.1 (hw_back (A1 := A) hW hS hA ht hvm hp.2) hS1 h1 h2 h3) (fun r M1 _ H1 locs1 ht hvm hp hB hz _ hS1 => kk r M1 H1 locs1 hp hz (hw_back (A1 := A) hW hS hA ht hvm hB) hS1)
theorem hx_calll {st0 : List Value} {a9 : Array Value} {mc ms : Nat} {post : Int64 → (Nat → Option va_E) → Prop} {px : String → (Nat → Option va_E) → Prop} (hr : vx_Run p l e R s m args below meth c H locs cells slots mc ms (F0 m pc ls st0) rest (va_Ql post (hw_B D cl tys M H.size) (hw_A M H.size) a9) (hx_X D cl tys M H.size px) (hw_A M H.size)) (hW : hw_W D cl tys A M s H) (hS : va_S A H0 H locs) (hA : ∀ q, H0.size ≤ q → A q)
    (kx : ∀ (E : String) (ce : Cell) (q9 : Addr) (M1 : Nat → Option va_E) (H1 : Heap) (locs1 : List Loc), px E M1 → hw_W D cl tys A M1 s H1 → va_S A H0 H1 locs1 → H1[q9]? = some ce → ce.vm = .none → s.vm.findClass E = some ce.cls → vx_W p l e R s m args below meth c H1 locs1 (cells + mc) (slots + ms) Q (F0 m pc ls rest) q9)
    (kk : ∀ (r : Int64) (M1 : Nat → Option va_E) (H1 : Heap) (locs1 : List Loc), post r M1 → H.size ≤ H1.size → hw_W D cl tys A M1 s H1 → va_S A H0 H1 locs1 → W p l e R s m args below meth c H1 locs1 (cells + mc) (slots + ms) Q (F0 m (pc + 3) ls (.long r :: rest))) : W p l e R s m args below meth c H locs cells slots Q (F0 m pc ls st0) :=
  vx_calll hr hS (fun q _ h => hW.free hS hA q h) (fun q h => hW.free hS hA q h) (fun q _ h => hW.free hS hA q h) (fun E ce q9 M1 _ H1 locs1 ht hvm _ hp _ _ hS1 h1 h2 h3 => kx E ce q9 M1 H1 locs1 hp.1 (hw_back (A1 := A) hW hS hA ht hvm hp.2) hS1 h1 h2 h3) (fun r M1 _ H1 locs1 ht hvm hp hB hz _ hS1 => kk r M1 H1 locs1 hp hz (hw_back (A1 := A) hW hS hA ht hvm hB) hS1)
theorem hx_callv {st0 : List Value} {a9 : Array Value} {mc ms : Nat} {post : (Nat → Option va_E) → Prop} {px : String → (Nat → Option va_E) → Prop} (hr : vx_Run p l e R s m args below meth c H locs cells slots mc ms (F0 m pc ls st0) rest (va_Qv post (hw_B D cl tys M H.size) (hw_A M H.size) a9) (hx_X D cl tys M H.size px) (hw_A M H.size)) (hW : hw_W D cl tys A M s H) (hS : va_S A H0 H locs) (hA : ∀ q, H0.size ≤ q → A q)
    (kx : ∀ (E : String) (ce : Cell) (q9 : Addr) (M1 : Nat → Option va_E) (H1 : Heap) (locs1 : List Loc), px E M1 → hw_W D cl tys A M1 s H1 → va_S A H0 H1 locs1 → H1[q9]? = some ce → ce.vm = .none → s.vm.findClass E = some ce.cls → vx_W p l e R s m args below meth c H1 locs1 (cells + mc) (slots + ms) Q (F0 m pc ls rest) q9)
    (kk : ∀ (M1 : Nat → Option va_E) (H1 : Heap) (locs1 : List Loc), post M1 → H.size ≤ H1.size → hw_W D cl tys A M1 s H1 → va_S A H0 H1 locs1 → W p l e R s m args below meth c H1 locs1 (cells + mc) (slots + ms) Q (F0 m (pc + 3) ls (rest))) : W p l e R s m args below meth c H locs cells slots Q (F0 m pc ls st0) :=
  vx_callv hr hS (fun q _ h => hW.free hS hA q h) (fun q h => hW.free hS hA q h) (fun q _ h => hW.free hS hA q h) (fun E ce q9 M1 _ H1 locs1 ht hvm _ hp _ _ hS1 h1 h2 h3 => kx E ce q9 M1 H1 locs1 hp.1 (hw_back (A1 := A) hW hS hA ht hvm hp.2) hS1 h1 h2 h3) (fun M1 _ H1 locs1 ht hvm hp hB hz _ hS1 => kk M1 H1 locs1 hp hz (hw_back (A1 := A) hW hS hA ht hvm hB) hS1)
theorem hx_callq {st0 : List Value} {a9 : Array Value} {mc ms : Nat} {post : Option Nat → (Nat → Option va_E) → Prop} {px : String → (Nat → Option va_E) → Prop} (hr : vx_Run p l e R s m args below meth c H locs cells slots mc ms (F0 m pc ls st0) rest (va_Qq post (hw_B D cl tys M H.size) (hw_A M H.size) a9) (hx_X D cl tys M H.size px) (hw_A M H.size)) (hW : hw_W D cl tys A M s H) (hS : va_S A H0 H locs) (hA : ∀ q, H0.size ≤ q → A q)
    (kx : ∀ (E : String) (ce : Cell) (q9 : Addr) (M1 : Nat → Option va_E) (H1 : Heap) (locs1 : List Loc), px E M1 → hw_W D cl tys A M1 s H1 → va_S A H0 H1 locs1 → H1[q9]? = some ce → ce.vm = .none → s.vm.findClass E = some ce.cls → vx_W p l e R s m args below meth c H1 locs1 (cells + mc) (slots + ms) Q (F0 m pc ls rest) q9)
    (kk : ∀ (r : Option Nat) (M1 : Nat → Option va_E) (H1 : Heap) (locs1 : List Loc), post r M1 → H.size ≤ H1.size → hw_W D cl tys A M1 s H1 → va_S A H0 H1 locs1 → W p l e R s m args below meth c H1 locs1 (cells + mc) (slots + ms) Q (F0 m (pc + 3) ls (va_rf r :: rest))) : W p l e R s m args below meth c H locs cells slots Q (F0 m pc ls st0) := by
  intro T hT X
  rcases hr T hT X with ⟨v, st₀, t, T', L, h0, X', hL, e1, e2, ⟨⟨r, u, hv, hp, hb⟩, hF⟩, st⟩ | ⟨q, st₀, t, T', L, E, ce, h0, X', hL, e1, e2, ⟨u, -, hp, hF⟩, hce, hcv, hcl, st⟩
  · cases hv
    obtain ⟨k1, k2, k3⟩ := vx_keep h0 e1 hS (fun q _ h => hW.free hS hA q h) (fun q h => hW.free hS hA q h) hL hF
    obtain ⟨t2, a1, b1⟩ := kk r u T'.heap (locs ++ L) hp k1 (hw_back (A1 := A) hW hS hA e1.symm (by rw [← e2]; exact X'.warmed.alike) hb) k3 T' rfl X'
    exact ⟨t2, st t2 a1, b1⟩
  · obtain ⟨k1, k2, k3⟩ := vx_keep h0 e1 hS (fun q _ h => hW.free hS hA q h) (fun q h => hW.free hS hA q h) hL hF
    obtain ⟨t2, a1, b1⟩ := kx E ce q u T'.heap (locs ++ L) hp.1 (hw_back (A1 := A) hW hS hA e1.symm (by rw [← e2]; exact X'.warmed.alike) hp.2) k3 (by rw [e1]; exact hce) hcv hcl T' rfl X'
    exact ⟨t2, st.trans a1, b1⟩
/-- a callee's throw goes on to the caller -/
theorem hx_out {Qc : Array Value → State → Outcome → State → Prop} {px : String → (Nat → Option va_E) → Prop} {M0 : Nat → Option va_E} {E : String} {ce : Cell} {q : Addr} {mc ms : Nat} (hno : ∀ x ∈ c.exceptionTable.toList, False) (hlocks : meth.locks = false) (hcell : H[q]? = some ce) (hv : ce.vm = .none) (hcl : s.vm.findClass E = some ce.cls)
    (hW : hw_W D cl tys (hw_A M0 s.heap.size) M s H) (hS : va_S (hw_A M0 s.heap.size) s.heap H locs) (hp : px E M) (hc : cells ≤ mc) (hs : slots ≤ ms) :
    vx_W p l e R s m args below meth c H locs cells slots (vx_MQ below Qc (hx_X D cl tys M0 s.heap.size px) args s mc ms (hw_A M0 s.heap.size)) (F0 m pc ls rest) q :=
  vx_out (fun x h => (hno x h).elim) hlocks hcell hv hcl (fun t ht hal => ⟨M, trivial, ⟨hp, by unfold hw_B; rw [ht]; exact hW.moved hal⟩, hS.F ht⟩) hS.2.2 hc hs
/-- throw new E("text") -/
theorem hx_throw {Qc : Array Value → State → Outcome → State → Prop} {px : String → (Nat → Option va_E) → Prop} {M0 : Nat → Option va_E} {mc ms ik is ic : Nat} {cls text : String} (hexec : p.tables.exec = Jvm.exec) (hb : c.code = cc) (hl : l.stackTraces = false) (hml : c.maxLocals = ls.size) (hown : s.vm.findClass "QuantifierOut" = some m.cls) (hts : ∀ w ∈ ww, w.before args s = true) (hX : hw_X s)
    (hcls : Bundle.fit cls = true) (hk : Cond.classLink "QuantifierOut" ik cls ∈ ww) (hini : Cond.initialized cls ∈ ww) (hstr : (is, text) ∈ hz_strs) (h1 : ∀ w ∈ (vx_atS "QuantifierOut" ic cls hz_names).filter goodWord, w ∈ lw_tbl) (h2 : ∀ w ∈ (vx_atS "QuantifierOut" ic cls hz_names).filter (fun w => !goodWord w), w ∈ hw_xw)
    (hgood : ∀ w ∈ Cond.classLink "QuantifierOut" ik cls :: Cond.initialized cls :: vx_atS "QuantifierOut" ic cls hz_names, vx_ot w = true)
    (hno : ∀ x ∈ c.exceptionTable.toList, False) (hlocks : meth.locks = false) (hZ : hz (hw_A M0 s.heap.size) s s.heap)
    (hW : hw_W D cl tys (hw_A M0 s.heap.size) M s H) (hS : va_S (hw_A M0 s.heap.size) s.heap H locs) (hp : px cls M)
    (d0 : decode cc pc = .ok (.new ik, 3)) (d3 : decode cc (pc + 3) = .ok (.dup, 1)) (d4 : decode cc (pc + 4) = .ok (.ldc is, 2)) (d6 : decode cc (pc + 6) = .ok (.invokespecial ic, 3)) (d9 : decode cc (pc + 9) = .ok (.athrow, 1))
    (hRf : 6 ≤ R.frames) (hRl : (rest.map fun v => v.category).sum + 82 ≤ R.locals) (hRc : cells + 1 ≤ R.cells) (hRs : slots + 6 ≤ R.slots) (hc : cells + 1 ≤ mc) (hs : slots + 6 ≤ ms) :
    W p l e R s m args below meth c H locs cells slots (vx_MQ below Qc (hx_X D cl tys M0 s.heap.size px) args s mc ms (hw_A M0 s.heap.size)) (F0 m pc ls rest) := by
  obtain ⟨sa, hsa⟩ := hZ.2.2 _ hstr
  exact vx_throwS (names := hz_names) hexec hb hl hown hcls xf_n (hts _ hk) (hts _ hini) hsa (vx_hat (fun w hw => hts w (xt_ww h1 w hw)) h2 (fun w hw => va_Nw.use (hw_xw_ot w hw) (hX.1 w hw))) hgood hZ.1 hZ.2.1 hS hml.symm d0 d3 d4 d6 d9 (fun x h => (hno x h).elim) hRf hRl hRc hRs hlocks
    (fun t hal hz9 hq9 => ⟨M, trivial, ⟨hp, (hW.kept hq9).moved hal⟩, ⟨Nat.le_trans hS.1 hz9, fun q h1 h2 => by rw [hq9 q (Nat.lt_of_lt_of_le h1 hS.1)]; exact hS.2.1 q h1 h2⟩⟩) hS.2.2 hc hs
end HXM

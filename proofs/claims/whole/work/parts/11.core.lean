/-! A contract's head, and calls, over the words ww that all contracts share. -/
section HCO
variable {l : Launch} {D : va_G} {tys : List (ClassId × FieldType)} {cl : List vw_C}
theorem hw_met {y : MethodName} {cc : ByteArray} {maxL : Nat} {ret : Option FieldType} {rm : Room} {av : List Value} {M : Nat → Option va_E} {sz : Nat} {Qc : Array Value → State → Outcome → State → Prop} {mc ms : Nat} {free : Addr → Prop}
    (hy : plainName y.cls = true) (hav : (lg_sl av).length ≤ maxL)
    (body : ∀ (p : Program) (e : Env) (s : State) (m : MethodId) (below : List Frame) (meth : Method) (c : Code), p.tables.exec = Jvm.exec → c.code = cc → meth.sig.returnType = ret → c.maxLocals = maxL → s.vm.findClass y.cls = some m.cls → meth.locks = false → meth.name = y.name → (∀ w ∈ ww, w.before av.toArray s = true) → s.heap.size = sz → hw_X s → hw_W D cl tys (hw_A M s.heap.size) M s s.heap → ∀ ls : Array Slot, lv_has ls maxL (lv_args 0 av) →
      W p l e rm s m av.toArray below meth c s.heap [] 0 0 (MQ below Qc av.toArray s mc ms free) (F0 m 0 ls [])) :
    Met l y (.code y cc maxL ret :: ww) rm (hw_Pc D cl tys av M sz) Qc mc ms free := by
  refine Met.ofW (cc := cc) (maxL := maxL) (ret := ret) hy rfl ?_
  intro p e s m args below meth c s₁ B hml hv
  obtain ⟨rfl, hsz, hW, hX⟩ := hv
  have hts := atoms_spec (ws := .code y cc maxL ret :: ww) B.pre
  rw [lg_entry_eq]
  exact body p e s m below meth c B.exec B.bytes B.returns hml (findClass_of_methodNamed B.named) B.notSynchronized (name_of_methodNamed B.named B.method).1 (fun w h => hts w (List.mem_cons_of_mem _ h)) hsz hX hW.self _ (lv_entry av hav)
theorem hw_gi {y : Cond} {l : List Cond} (hy : y ∈ ww) (hl : ∀ w ∈ l, w ∈ ww) : GoodIn ww (l ++ (y :: ww)) := by
  have ok : ∀ w ∈ ww, w ∈ ww ∧ ((w.onTables && w.keeps) = true ∨ ∃ ty, w = .arrayClass ty) := fun w h => ⟨h, good_of_word (List.mem_filter.mp h).2⟩
  intro w hw
  rcases List.mem_append.mp hw with h | h
  · exact ok w (hl w h)
  · rcases List.mem_cons.mp h with h | h
    · rw [h]; exact ok y hy
    · exact ok w h
theorem hw_f4 {a b c d : Cond} (h1 : a ∈ ww) (h2 : b ∈ ww) (h3 : c ∈ ww) (h4 : d ∈ ww) : ∀ w ∈ [a, b, c, d], w ∈ ww := List.forall_mem_cons.mpr ⟨h1, List.forall_mem_cons.mpr ⟨h2, List.forall_mem_cons.mpr ⟨h3, List.forall_mem_cons.mpr ⟨h4, fun _ h => absurd h List.not_mem_nil⟩⟩⟩⟩
theorem hw_f5 {a b c d e : Cond} (h1 : a ∈ ww) (h2 : b ∈ ww) (h3 : c ∈ ww) (h4 : d ∈ ww) (h5 : e ∈ ww) : ∀ w ∈ [a, b, c, d, e], w ∈ ww := List.forall_mem_cons.mpr ⟨h1, hw_f4 h2 h3 h4 h5⟩
theorem hw_f3 {a b c : Cond} (h1 : a ∈ ww) (h2 : b ∈ ww) (h3 : c ∈ ww) : ∀ w ∈ [a, b, c], w ∈ ww := List.forall_mem_cons.mpr ⟨h1, List.forall_mem_cons.mpr ⟨h2, List.forall_mem_cons.mpr ⟨h3, fun _ h => absurd h List.not_mem_nil⟩⟩⟩
theorem hw_f0 : ∀ w ∈ ([] : List Cond), w ∈ ww := fun _ h => absurd h List.not_mem_nil
variable {p : Program} {e : Env} {R : Room} {s : State} {m : MethodId} {args : Array Value} {below : List Frame} {meth : Method} {c : Code} {H : Heap} {locs : List Loc} {cells slots : Nat} {Q : State → Prop}
variable {cc : ByteArray} {pc : Nat} {ls : Array Slot} {rest : List Value} {A : Nat → Prop} {a : Nat} {M : Nat → Option va_E} {H0 : Heap}
/-- a virtual call of a method of the receiver's own class -/
theorem hw_runV {y : MethodName} {bytes : ByteArray} {maxL nL mc ms n index : Nat} {ret : Option FieldType} {rm : Room} {Qc : Array Value → State → Outcome → State → Prop} {free : Addr → Prop} {own : String} {b ci : Nat} {fs : List Value} {T : u_T} {N : Nat} {As : List Value} {st0 : List Value}
    (hx : p.tables.exec = Jvm.exec) (hb : c.code = cc) (hml : c.maxLocals = nL) (hown : s.vm.findClass own = some m.cls) (hts : ∀ w ∈ ww, w.before args s = true) (hX : hw_X s) (hW : hw_W D cl tys A M s H) (hl : ls.size = nL)
    (hM : Met l y (.code y bytes maxL ret :: ww) rm (hw_Pc D cl tys (.ref b :: As) M H.size) Qc mc ms free)
    (hbM : M b = some (.inr (ci, fs))) (hc : cl[ci]? = some (y.cls, T, N))
    (w1 : Cond.methodLink own index y ∈ ww) (w2 : Cond.instanceMethod y ∈ ww) (w3 : Cond.selects y.cls y y ∈ ww) (w4 : Cond.initialized y.cls ∈ ww) (w5 : Cond.code y bytes maxL ret ∈ ww)
    (hd : y.cls ≠ "java/lang/invoke/MethodHandle" ∧ y.cls ≠ "java/lang/invoke/VarHandle" ∧ (parseMethodDescriptor y.desc).map (fun d => d.parameters.length) = some n)
    (hrc : rm.cells = mc) (hrs : rm.slots = ms) (hR : rm.frames + 1 ≤ R.frames ∧ 8 + (maxL + 11) + rm.locals ≤ R.locals) (hn : As.length = n) (hst : st0 = As.reverse ++ .ref b :: rest) (hrw : (rest.map fun v => v.category).sum ≤ 8)
    (hdg : decode cc pc = .ok (.invokevirtual index, 3)) (hf : cells + mc ≤ R.cells ∧ slots + ms ≤ R.slots) :
    va_Run p l e R s m args below meth c H locs cells slots mc ms (F0 m pc ls st0) rest (Qc (Value.ref b :: As).toArray) free :=
  va_runV (Ts := ww) ⟨hx, hb, hml, hown, hts⟩ hM (cwV n hts (hw_gi w5 (hw_f4 w1 w2 w3 w4)) rfl hrc hrs ⟨rfl, hd⟩ hR) (hw_preV hX hW hbM hc) rfl hn hl hst (lv_room hrw) hdg hf
/-- .. of a method of a class above, or overridden (named by x, of the class 'owner') -/
theorem hw_runU {x y : MethodName} {bytes : ByteArray} {maxL nL mc ms n index : Nat} {ret : Option FieldType} {rm : Room} {Qc : Array Value → State → Outcome → State → Prop} {free : Addr → Prop} {own C : String} {b ci : Nat} {fs : List Value} {T : u_T} {N : Nat} {As : List Value} {st0 : List Value}
    (hx : p.tables.exec = Jvm.exec) (hb : c.code = cc) (hml : c.maxLocals = nL) (hown : s.vm.findClass own = some m.cls) (hts : ∀ w ∈ ww, w.before args s = true) (hX : hw_X s) (hW : hw_W D cl tys A M s H) (hl : ls.size = nL)
    (hM : Met l y (.code y bytes maxL ret :: ww) rm (hw_Pc D cl tys (.ref b :: As) M H.size) Qc mc ms free)
    (hbM : M b = some (.inr (ci, fs))) (hc : cl[ci]? = some (C, T, N)) (hdecl : va_Decl s x)
    (w1 : Cond.methodLink own index x ∈ ww) (w2 : Cond.sameMethod x.cls x.cls x.name x.desc ∈ ww) (w3 : Cond.selects C x y ∈ ww) (w4 : Cond.instanceMethod y ∈ ww) (w6 : Cond.initialized y.cls ∈ ww) (w5 : Cond.code y bytes maxL ret ∈ ww)
    (hd : x.cls ≠ "java/lang/invoke/MethodHandle" ∧ x.cls ≠ "java/lang/invoke/VarHandle" ∧ (parseMethodDescriptor x.desc).map (fun d => d.parameters.length) = some n)
    (hrc : rm.cells = mc) (hrs : rm.slots = ms) (hR : rm.frames + 1 ≤ R.frames ∧ 8 + (maxL + 11) + rm.locals ≤ R.locals) (hn : As.length = n) (hst : st0 = As.reverse ++ .ref b :: rest) (hrw : (rest.map fun v => v.category).sum ≤ 8)
    (hdg : decode cc pc = .ok (.invokevirtual index, 3)) (hf : cells + mc ≤ R.cells ∧ slots + ms ≤ R.slots) :
    va_Run p l e R s m args below meth c H locs cells slots mc ms (F0 m pc ls st0) rest (Qc (Value.ref b :: As).toArray) free := by
  have hG : GoodIn ww (va_wsU own index C x.cls x y (.code y bytes maxL ret :: ww)) := hw_gi w5 (hw_f5 w1 w2 w3 w4 w6)
  have cw : va_CU R s args own C x.cls index x y bytes maxL ret (.code y bytes maxL ret :: ww) rm mc ms n := by
    refine ⟨⟨hrc, hrs, hR.1, hR.2, pay_in hts (fun w h => hG w (by unfold va_wsU; exact List.mem_append_right _ h)), List.mem_cons_self⟩, hts _ w5, hts _ w6, ⟨hd.1, hd.2.1⟩, fun sig h => ?_, hts _ w1, hts _ w2, hdecl, hts _ w3, hts _ w4⟩
    have h2 := hd.2.2
    rw [h] at h2
    exact (Option.some.inj h2).symm
  exact va_runU (Ts := ww) ⟨hx, hb, hml, hown, hts⟩ hM cw (hw_preV hX hW hbM hc) rfl hn hl hst (lv_room hrw) hdg hf
theorem hw_runS {y : MethodName} {bytes : ByteArray} {maxL nL mc ms n index : Nat} {ret : Option FieldType} {rm : Room} {Qc : Array Value → State → Outcome → State → Prop} {free : Addr → Prop} {own : String} {As : List Value} {st0 : List Value}
    (hx : p.tables.exec = Jvm.exec) (hb : c.code = cc) (hml : c.maxLocals = nL) (hown : s.vm.findClass own = some m.cls) (hts : ∀ w ∈ ww, w.before args s = true) (hX : hw_X s) (hW : hw_W D cl tys A M s H) (hl : ls.size = nL)
    (hM : Met l y (.code y bytes maxL ret :: ww) rm (hw_Pc D cl tys As M H.size) Qc mc ms free)
    (w1 : Cond.methodLink own index y ∈ ww) (w2 : Cond.static y ∈ ww) (w3 : Cond.initialized y.cls ∈ ww) (w5 : Cond.code y bytes maxL ret ∈ ww)
    (hd : y.cls ≠ "java/lang/invoke/MethodHandle" ∧ y.cls ≠ "java/lang/invoke/VarHandle" ∧ (parseMethodDescriptor y.desc).map (fun d => d.parameters.length) = some n)
    (hrc : rm.cells = mc) (hrs : rm.slots = ms) (hR : rm.frames + 1 ≤ R.frames ∧ 8 + (maxL + 11) + rm.locals ≤ R.locals) (hn : As.length = n) (hst : st0 = As.reverse ++ rest) (hrw : (rest.map fun v => v.category).sum ≤ 8)
    (hdg : decode cc pc = .ok (.invokestatic index, 3)) (hf : cells + mc ≤ R.cells ∧ slots + ms ≤ R.slots) :
    va_Run p l e R s m args below meth c H locs cells slots mc ms (F0 m pc ls st0) rest (Qc As.toArray) free :=
  va_runS (Ts := ww) ⟨hx, hb, hml, hown, hts⟩ hM (va_cwS n hts (hw_gi w5 (hw_f3 w1 w2 w3)) rfl hrc hrs hd hR) (hw_preS hX hW) rfl hn hl hst (lv_room hrw) hdg hf
theorem hw_runI {y : MethodName} {bytes : ByteArray} {maxL nL mc ms n index : Nat} {rm : Room} {Qc : Array Value → State → Outcome → State → Prop} {free : Addr → Prop} {own : String} {b : Nat} {As : List Value} {st0 : List Value}
    (hx : p.tables.exec = Jvm.exec) (hb : c.code = cc) (hml : c.maxLocals = nL) (hown : s.vm.findClass own = some m.cls) (hts : ∀ w ∈ ww, w.before args s = true) (hX : hw_X s) (hW : hw_W D cl tys A M s H) (hl : ls.size = nL)
    (hM : Met l y (.code y bytes maxL none :: ww) rm (hw_Pc D cl tys (.ref b :: As) M H.size) Qc mc ms free)
    (w1 : Cond.methodLink own index y ∈ ww) (w2 : Cond.instanceMethod y ∈ ww) (w3 : Cond.initialized y.cls ∈ ww) (w5 : Cond.code y bytes maxL none ∈ ww) (hy1 : y.name = "<init>")
    (hd : y.cls ≠ "java/lang/invoke/MethodHandle" ∧ y.cls ≠ "java/lang/invoke/VarHandle" ∧ (parseMethodDescriptor y.desc).map (fun d => d.parameters.length) = some n)
    (hrc : rm.cells = mc) (hrs : rm.slots = ms) (hR : rm.frames + 1 ≤ R.frames ∧ 8 + (maxL + 11) + rm.locals ≤ R.locals) (hn : As.length = n) (hst : st0 = As.reverse ++ .ref b :: rest) (hrw : (rest.map fun v => v.category).sum ≤ 8)
    (hdg : decode cc pc = .ok (.invokespecial index, 3)) (hf : cells + mc ≤ R.cells ∧ slots + ms ≤ R.slots) :
    va_Run p l e R s m args below meth c H locs cells slots mc ms (F0 m pc ls st0) rest (Qc (Value.ref b :: As).toArray) free :=
  va_runI (Ts := ww) ⟨hx, hb, hml, hown, hts⟩ hM (cwI n hts (hw_gi (l := []) w5 hw_f0) rfl hrc hrs (hts _ w3) (hts _ w1) (hts _ w2) hy1 hd hR) (hw_preS hX hW) rfl hn hl hst (lv_room hrw) hdg hf
end HCO

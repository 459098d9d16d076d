/-! Nodes of any kind: their common fields; Node.isFree, Node.size; Marks.markValue, Marks.markCrossing -/
/-- a node's cell: of one of the four kinds; free, depth, lines, grid; then its own fields -/
def nd_c (M : Nat → Option va_E) (a ci : Nat) (fr dp : Int32) (la : Nat) (gr : Int32) (ex : List Value) : Prop := (ci = 1 ∨ ci = 3 ∨ ci = 4 ∨ ci = 6) ∧ M a = some (.inr (ci, .int fr :: .int dp :: .ref la :: .int gr :: ex))
def nd_fr (fx fy : Bool) : Int32 := nI (fx.toNat + 2 * fy.toNat)
/-- the cells of a Values object -/
def vs_S (cJ : ClassId) (M : Nat → Option va_E) (v a b o i : Nat) (f g : Nat → Int64) : Prop := M v = some (.inr (7, [.ref a, .ref b, .ref o, .ref i])) ∧ M a = some (.inl (cJ, 2, .inr (.inl f))) ∧ M b = some (.inl (cJ, 2, .inr (.inl g)))
section G16
section
variable {p : Program} {l : Launch} {e : Env} {R : Room} {s : State} {m : MethodId} {args : Array Value} {below : List Frame} {meth : Method} {c : Code} {H : Heap} {locs : List Loc} {cells slots : Nat} {Q : State → Prop}
variable {cc : ByteArray} {pc : Nat} {ls : Array Slot} {rest : List Value} {D : va_G} {A : Nat → Prop} {a : Nat} {tys : List (ClassId × FieldType)} {M : Nat → Option va_E} {H0 : Heap}
theorem nd_get0 (hexec : p.tables.exec = Jvm.exec) (hb : c.code = cc) {own : String} {index : Nat} (hts : ∀ w ∈ ww, w.before args s = true) (hown : s.vm.findClass own = some m.cls) (hW : hw_W D qcl tys A M s H) {ci la : Nat} {fr dp gr : Int32} {ex : List Value} (he : nd_c M a ci fr dp la gr ex) (hlink : Cond.fieldLink own index "QuantifierOut$Node" "free" "I" ∈ ww) (hdg : decode cc pc = .ok (.getfield index, 3))
    (kk : W p l e R s m args below meth c H locs cells slots Q (F0 m (pc + 3) ls (.int fr :: rest))) : W p l e R s m args below meth c H locs cells slots Q (F0 m pc ls (.ref a :: rest)) := by
  obtain ⟨hci, he⟩ := he
  rcases hci with rfl | rfl | rfl | rfl
  · exact hw_get (C := "QuantifierOut$Atom") (T := F_At) (N := 8) hexec hb hts i_At hown hW he rfl 0 (by decide) (hts _ hlink) (fun _ h9 => h9) rfl hdg kk
  · exact hw_get (C := "QuantifierOut$Negation") (T := F_Ng) (N := 5) hexec hb hts i_Ng hown hW he rfl 0 (by decide) (hts _ hlink) (fun _ h9 => h9) rfl hdg kk
  · exact hw_get (C := "QuantifierOut$Pair") (T := F_Pr) (N := 7) hexec hb hts i_Pr hown hW he rfl 0 (by decide) (hts _ hlink) (fun _ h9 => h9) rfl hdg kk
  · exact hw_get (C := "QuantifierOut$Quantified") (T := F_Qf) (N := 7) hexec hb hts i_Qf hown hW he rfl 0 (by decide) (hts _ hlink) (fun _ h9 => h9) rfl hdg kk
theorem nd_get1 (hexec : p.tables.exec = Jvm.exec) (hb : c.code = cc) {own : String} {index : Nat} (hts : ∀ w ∈ ww, w.before args s = true) (hown : s.vm.findClass own = some m.cls) (hW : hw_W D qcl tys A M s H) {ci la : Nat} {fr dp gr : Int32} {ex : List Value} (he : nd_c M a ci fr dp la gr ex) (hlink : Cond.fieldLink own index "QuantifierOut$Node" "depth" "I" ∈ ww) (hdg : decode cc pc = .ok (.getfield index, 3))
    (kk : W p l e R s m args below meth c H locs cells slots Q (F0 m (pc + 3) ls (.int dp :: rest))) : W p l e R s m args below meth c H locs cells slots Q (F0 m pc ls (.ref a :: rest)) := by
  obtain ⟨hci, he⟩ := he
  rcases hci with rfl | rfl | rfl | rfl
  · exact hw_get (C := "QuantifierOut$Atom") (T := F_At) (N := 8) hexec hb hts i_At hown hW he rfl 1 (by decide) (hts _ hlink) (fun _ h9 => h9) rfl hdg kk
  · exact hw_get (C := "QuantifierOut$Negation") (T := F_Ng) (N := 5) hexec hb hts i_Ng hown hW he rfl 1 (by decide) (hts _ hlink) (fun _ h9 => h9) rfl hdg kk
  · exact hw_get (C := "QuantifierOut$Pair") (T := F_Pr) (N := 7) hexec hb hts i_Pr hown hW he rfl 1 (by decide) (hts _ hlink) (fun _ h9 => h9) rfl hdg kk
  · exact hw_get (C := "QuantifierOut$Quantified") (T := F_Qf) (N := 7) hexec hb hts i_Qf hown hW he rfl 1 (by decide) (hts _ hlink) (fun _ h9 => h9) rfl hdg kk
theorem nd_get2 (hexec : p.tables.exec = Jvm.exec) (hb : c.code = cc) {own : String} {index : Nat} (hts : ∀ w ∈ ww, w.before args s = true) (hown : s.vm.findClass own = some m.cls) (hW : hw_W D qcl tys A M s H) {ci la : Nat} {fr dp gr : Int32} {ex : List Value} (he : nd_c M a ci fr dp la gr ex) (hlink : Cond.fieldLink own index "QuantifierOut$Node" "lines" "[I" ∈ ww) (hdg : decode cc pc = .ok (.getfield index, 3))
    (kk : W p l e R s m args below meth c H locs cells slots Q (F0 m (pc + 3) ls (.ref la :: rest))) : W p l e R s m args below meth c H locs cells slots Q (F0 m pc ls (.ref a :: rest)) := by
  obtain ⟨hci, he⟩ := he
  rcases hci with rfl | rfl | rfl | rfl
  · exact hw_get (C := "QuantifierOut$Atom") (T := F_At) (N := 8) hexec hb hts i_At hown hW he rfl 2 (by decide) (hts _ hlink) (fun _ h9 => h9) rfl hdg kk
  · exact hw_get (C := "QuantifierOut$Negation") (T := F_Ng) (N := 5) hexec hb hts i_Ng hown hW he rfl 2 (by decide) (hts _ hlink) (fun _ h9 => h9) rfl hdg kk
  · exact hw_get (C := "QuantifierOut$Pair") (T := F_Pr) (N := 7) hexec hb hts i_Pr hown hW he rfl 2 (by decide) (hts _ hlink) (fun _ h9 => h9) rfl hdg kk
  · exact hw_get (C := "QuantifierOut$Quantified") (T := F_Qf) (N := 7) hexec hb hts i_Qf hown hW he rfl 2 (by decide) (hts _ hlink) (fun _ h9 => h9) rfl hdg kk
theorem nd_get3 (hexec : p.tables.exec = Jvm.exec) (hb : c.code = cc) {own : String} {index : Nat} (hts : ∀ w ∈ ww, w.before args s = true) (hown : s.vm.findClass own = some m.cls) (hW : hw_W D qcl tys A M s H) {ci la : Nat} {fr dp gr : Int32} {ex : List Value} (he : nd_c M a ci fr dp la gr ex) (hlink : Cond.fieldLink own index "QuantifierOut$Node" "grid" "I" ∈ ww) (hdg : decode cc pc = .ok (.getfield index, 3))
    (kk : W p l e R s m args below meth c H locs cells slots Q (F0 m (pc + 3) ls (.int gr :: rest))) : W p l e R s m args below meth c H locs cells slots Q (F0 m pc ls (.ref a :: rest)) := by
  obtain ⟨hci, he⟩ := he
  rcases hci with rfl | rfl | rfl | rfl
  · exact hw_get (C := "QuantifierOut$Atom") (T := F_At) (N := 8) hexec hb hts i_At hown hW he rfl 3 (by decide) (hts _ hlink) (fun _ h9 => h9) rfl hdg kk
  · exact hw_get (C := "QuantifierOut$Negation") (T := F_Ng) (N := 5) hexec hb hts i_Ng hown hW he rfl 3 (by decide) (hts _ hlink) (fun _ h9 => h9) rfl hdg kk
  · exact hw_get (C := "QuantifierOut$Pair") (T := F_Pr) (N := 7) hexec hb hts i_Pr hown hW he rfl 3 (by decide) (hts _ hlink) (fun _ h9 => h9) rfl hdg kk
  · exact hw_get (C := "QuantifierOut$Quantified") (T := F_Qf) (N := 7) hexec hb hts i_Qf hown hW he rfl 3 (by decide) (hts _ hlink) (fun _ h9 => h9) rfl hdg kk
/-- a call of a method that Node itself has and no kind of node overrides -/
theorem nd_runF {y : MethodName} {bytes : ByteArray} {maxL nL mc ms n index : Nat} {ret : Option FieldType} {rm : Room} {Qc : Array Value → State → Outcome → State → Prop} {free : Addr → Prop} {own : String} {b ci la : Nat} {fr dp gr : Int32} {ex : List Value} {As : List Value} {st0 : List Value}
    (hx : p.tables.exec = Jvm.exec) (hb : c.code = cc) (hml : c.maxLocals = nL) (hown : s.vm.findClass own = some m.cls) (hts : ∀ w ∈ ww, w.before args s = true) (hX : hw_X s) (hW : hw_W D qcl tys A M s H) (hl : ls.size = nL)
    (hM : Met l y (.code y bytes maxL ret :: ww) rm (hw_Pc D qcl tys (.ref b :: As) M H.size) Qc mc ms free)
    (he : nd_c M b ci fr dp la gr ex)
    (w1 : Cond.methodLink own index y ∈ ww) (w2 : Cond.sameMethod y.cls y.cls y.name y.desc ∈ ww) (s1 : Cond.selects "QuantifierOut$Atom" y y ∈ ww) (s2 : Cond.selects "QuantifierOut$Negation" y y ∈ ww) (s3 : Cond.selects "QuantifierOut$Pair" y y ∈ ww) (s4 : Cond.selects "QuantifierOut$Quantified" y y ∈ ww) (w4 : Cond.instanceMethod y ∈ ww) (w6 : Cond.initialized y.cls ∈ ww) (w5 : Cond.code y bytes maxL ret ∈ ww)
    (hd : y.cls ≠ "java/lang/invoke/MethodHandle" ∧ y.cls ≠ "java/lang/invoke/VarHandle" ∧ (parseMethodDescriptor y.desc).map (fun d => d.parameters.length) = some n)
    (hrc : rm.cells = mc) (hrs : rm.slots = ms) (hR : rm.frames + 1 ≤ R.frames ∧ 8 + (maxL + 11) + rm.locals ≤ R.locals) (hn : As.length = n) (hst : st0 = As.reverse ++ .ref b :: rest) (hrw : (rest.map fun v => v.category).sum ≤ 8)
    (hdg : decode cc pc = .ok (.invokevirtual index, 3)) (hf : cells + mc ≤ R.cells ∧ slots + ms ≤ R.slots) :
    va_Run p l e R s m args below meth c H locs cells slots mc ms (F0 m pc ls st0) rest (Qc (Value.ref b :: As).toArray) free := by
  have hdecl : va_Decl s y := va_Decl.of (hts _ w4) (hts _ w5)
  obtain ⟨hci, he⟩ := he
  rcases hci with rfl | rfl | rfl | rfl
  · exact hw_runU (C := "QuantifierOut$Atom") hx hb hml hown hts hX hW hl hM he rfl hdecl w1 w2 s1 w4 w6 w5 hd hrc hrs hR hn hst hrw hdg hf
  · exact hw_runU (C := "QuantifierOut$Negation") hx hb hml hown hts hX hW hl hM he rfl hdecl w1 w2 s2 w4 w6 w5 hd hrc hrs hR hn hst hrw hdg hf
  · exact hw_runU (C := "QuantifierOut$Pair") hx hb hml hown hts hX hW hl hM he rfl hdecl w1 w2 s3 w4 w6 w5 hd hrc hrs hR hn hst hrw hdg hf
  · exact hw_runU (C := "QuantifierOut$Quantified") hx hb hml hown hts hX hW hl hM he rfl hdecl w1 w2 s4 w4 w6 w5 hd hrc hrs hR hn hst hrw hdg hf
end
variable (l : Launch) (D : va_G) (cI cJ cZ cN : ClassId)
set_option maxHeartbeats 4000000 in
set_option maxRecDepth 100000 in
theorem c_Nd_isFree (h0 ci la j sz : Nat) (fx fy : Bool) (dp gr : Int32) (ex : List Value) (M : Nat → Option va_E) (hnd : nd_c M h0 ci (nd_fr fx fy) dp la gr ex) (hj : j < 2) : Met l y_Nd_isFree (.code y_Nd_isFree b_Nd_isFree 2 (some .boolean) :: ww) ({ frames := 0, cells := 0, slots := 0, locals := 0 }) (hw_Pc D qcl (qty cI cJ cZ cN) [.ref h0, .int (nI j)] M sz) (va_Qi (fun r M1 => r = (if (if j = 0 then fx else fy) = true then 1 else 0) ∧ M1 = M) (hw_B D qcl (qty cI cJ cZ cN) M sz) (hw_A M sz)) 0 0 (hw_A M sz) := by
  refine hw_met (by decide) (Nat.le_of_ble_eq_true rfl) ?_
  intro p e s m below meth c hx hb hr hml hown hlocks hnm hts hsz hX hW ls hl
  subst hsz
  have hA : ∀ q, s.heap.size ≤ q → hw_A M s.heap.size q := fun q h => Or.inr h
  have hS : va_S (hw_A M s.heap.size) s.heap s.heap [] := va_S.rf
  have hl : lv_has ls 2 [(0, .ref h0), (1, .int (nI j))] := hl
  have hown : s.vm.findClass "QuantifierOut$Node" = some m.cls := hown
  refine lv_aload_n hx hb d_Nd_isFree_0 rfl (lv_at hl 0 rfl) ?_
  refine nd_get0 (own := "QuantifierOut$Node") hx hb hts hown hW hnd tw_231 d_Nd_isFree_1 ?_
  refine lv_iload_n hx hb d_Nd_isFree_4 rfl (lv_at hl 1 rfl) ?_
  refine lv_ishr hx hb d_Nd_isFree_5 ?_
  refine lv_topi (fun x1 ex1 => ?_)
  refine lv_iconst (v := 1) hx hb d_Nd_isFree_6 (by decide) ?_
  refine lv_iand hx hb d_Nd_isFree_7 ?_
  refine lv_topi (fun x2 ex2 => ?_)
  refine lv_iconst (v := 1) hx hb d_Nd_isFree_8 (by decide) ?_
  refine lv_icmp_ne (tgt := 16) hx hb d_Nd_isFree_9 (by decide) (fun c_9 => ?_) (fun c_9 => ?_)
  · skip
    refine lv_iconst (v := 0) hx hb d_Nd_isFree_16 (by decide) ?_
    refine hw_retz hx hb hr rfl hlocks hW hS ⟨?_, rfl⟩ d_Nd_isFree_17
    rw [if_neg]
    intro q; apply c_9; rw [ex2, ex1]; revert q
    rcases (show j = 0 ∨ j = 1 by omega) with rfl | rfl <;> cases fx <;> cases fy <;> decide
  · skip
    refine lv_iconst (v := 1) hx hb d_Nd_isFree_12 (by decide) ?_
    refine lv_goto (tgt := 17) hx hb d_Nd_isFree_13 (by decide) ?_
    refine hw_retz hx hb hr rfl hlocks hW hS ⟨?_, rfl⟩ d_Nd_isFree_17
    rw [if_pos]
    rw [ex2, ex1] at c_9; revert c_9
    rcases (show j = 0 ∨ j = 1 by omega) with rfl | rfl <;> cases fx <;> cases fy <;> decide
set_option maxHeartbeats 4000000 in
set_option maxRecDepth 100000 in
theorem c_Nd_size (h0 ci la nl sz : Nat) (fr dp gr : Int32) (F : Nat → Int32) (ex : List Value) (M : Nat → Option va_E) (hnd : nd_c M h0 ci fr dp la gr ex) (hla : M la = some (.inl (cI, 3 * nl, .inl F))) (hnl : nl < 1000) : Met l y_Nd_size (.code y_Nd_size b_Nd_size 1 (some .int) :: ww) ({ frames := 0, cells := 0, slots := 0, locals := 0 }) (hw_Pc D qcl (qty cI cJ cZ cN) [.ref h0] M sz) (va_Qi (fun r M1 => r = nI nl ∧ M1 = M) (hw_B D qcl (qty cI cJ cZ cN) M sz) (hw_A M sz)) 0 0 (hw_A M sz) := by
  refine hw_met (by decide) (Nat.le_of_ble_eq_true rfl) ?_
  intro p e s m below meth c hx hb hr hml hown hlocks hnm hts hsz hX hW ls hl
  subst hsz
  have hA : ∀ q, s.heap.size ≤ q → hw_A M s.heap.size q := fun q h => Or.inr h
  have hS : va_S (hw_A M s.heap.size) s.heap s.heap [] := va_S.rf
  have hl : lv_has ls 1 [(0, .ref h0)] := hl
  have hown : s.vm.findClass "QuantifierOut$Node" = some m.cls := hown
  refine lv_aload_n hx hb d_Nd_size_0 rfl (lv_at hl 0 rfl) ?_
  refine nd_get2 (own := "QuantifierOut$Node") hx hb hts hown hW hnd tw_242 d_Nd_size_1 ?_
  refine hw_alen (v := (nI (3 * nl))) hx hb hW 0 hla rfl (by rfl) d_Nd_size_4 ?_
  refine lv_iconst (v := 3) hx hb d_Nd_size_5 (by decide) ?_
  refine lv_idiv hx hb d_Nd_size_6 (by decide) ?_
  refine lv_topi (fun x1 ex1 => ?_)
  refine hw_reti hx hb hr hlocks hW hS ⟨?_, rfl⟩ d_Nd_size_7
  rw [ex1, show (3 : Int32) = nI 3 from rfl, pk_div (by omega) (by omega) (by omega)]; congr 1; omega
set_option maxHeartbeats 4000000 in
set_option maxRecDepth 100000 in
theorem c_Mk_markValue (h0 ma mb n B Bv sz la nl t j o v va vb om im : Nat) (f g fv gv : Nat → Int64) (F : Nat → Int32) (M : Nat → Option va_E) (hM : mk_S cJ M h0 ma mb n f g) (hne : ma ≠ mb) (hn : n ≤ 21) (hro : mk_row f g n B) (hB : B ≤ 1000000) (hla : M la = some (.inl (cI, 3 * nl, .inl F))) (hnl : nl ≤ 6) (ht : t < nl) (hjo : j + o = 1) (hF : ∀ i, i < 3 * nl → (F i).toInt.natAbs ≤ 5) (hV : vs_S cJ M v va vb om im fv gv) (hfv : (fv o).toInt.natAbs ≤ Bv) (hgv : (gv o).toInt.natAbs ≤ Bv) (hBv : 10 * Bv ≤ B) : Met l y_Mk_markValue (.code y_Mk_markValue b_Mk_markValue 10 none :: ww) ({ frames := 2, cells := 0, slots := 0, locals := 100 }) (hw_Pc D qcl (qty cI cJ cZ cN) [.ref h0, .ref la, .int (nI (3 * t)), .int (nI j), .ref v] M sz) (va_Qv (fun M1 => ∃ (n2 : Nat) (f2 g2 : Nat → Int64), mk_S cJ M1 h0 ma mb n2 f2 g2 ∧ (∀ q, q ≠ h0 → q ≠ ma → q ≠ mb → M1 q = M q) ∧ mk_ins n f g (-((F (3 * t + o)).toInt * (fv o).toInt + (F (3 * t + 2)).toInt * (gv o).toInt)) ((F (3 * t + j)).toInt * (gv o).toInt) B n2 f2 g2) (hw_B D qcl (qty cI cJ cZ cN) M sz) (hw_A M sz)) 0 0 (hw_A M sz) := by
  obtain ⟨hv, hva, hvb⟩ := hV
  have hk := hM.1
  refine hw_met (by decide) (Nat.le_of_ble_eq_true rfl) ?_
  intro p e s m below meth c hx hb hr hml hown hlocks hnm hts hsz hX hW ls hl
  subst hsz
  have hA : ∀ q, s.heap.size ≤ q → hw_A M s.heap.size q := fun q h => Or.inr h
  have hS : va_S (hw_A M s.heap.size) s.heap s.heap [] := va_S.rf
  have hl : lv_has ls 10 [(0, .ref h0), (1, .ref la), (2, .int (nI (3 * t))), (3, .int (nI j)), (4, .ref v)] := hl
  have hown : s.vm.findClass "QuantifierOut$Marks" = some m.cls := hown
  have hnb : 3 * nl < 1000000 := by omega
  refine lv_iconst (v := 1) hx hb d_Mk_markValue_0 (by decide) ?_
  refine lv_iload_n hx hb d_Mk_markValue_1 rfl (lv_at hl 3 rfl) ?_
  refine lv_isub hx hb d_Mk_markValue_2 ?_
  refine lv_topi (fun x1 ex1 => ?_)
  refine lv_istore (lv' := [(5, .int x1), (0, .ref h0), (1, .ref la), (2, .int (nI (3 * t))), (3, .int (nI j)), (4, .ref v)]) hx hb d_Mk_markValue_3 hl (by decide) rfl (fun ls hl => ?_)
  have eo : x1 = nI o := by rw [ex1, show (1 : Int32) = nI 1 from rfl, pk_sub (by omega)]; congr 1; omega
  refine lv_aload hx hb d_Mk_markValue_5 (lv_at hl 5 rfl) ?_
  refine hw_get (own := "QuantifierOut$Marks") (v := .ref vb) hx hb hts i_Vs hown hW hv rfl 1 (by decide) (hts _ tw_59) (fun _ h9 => h9) rfl d_Mk_markValue_7 ?_
  refine lv_iload hx hb d_Mk_markValue_10 (lv_at hl 0 rfl) ?_
  refine hw_lld hx hb hW 1 hvb rfl o eo (by omega) (by decide) d_Mk_markValue_12 ?_
  refine lv_topl (fun ob eob => ?_)
  refine lv_lstore (lv' := [(6, .long ob), (5, .int x1), (0, .ref h0), (1, .ref la), (2, .int (nI (3 * t))), (3, .int (nI j)), (4, .ref v)]) hx hb d_Mk_markValue_13 hl (by decide) rfl (fun ls hl => ?_)
  refine lv_aload_n hx hb d_Mk_markValue_15 rfl (lv_at hl 3 rfl) ?_
  refine lv_iload_n hx hb d_Mk_markValue_16 rfl (lv_at hl 4 rfl) ?_
  refine lv_iload hx hb d_Mk_markValue_17 (lv_at hl 1 rfl) ?_
  refine lv_iadd hx hb d_Mk_markValue_19 ?_
  refine lv_topi (fun x2 ex2 => ?_)
  refine hw_ild hx hb hW 0 hla rfl (3 * t + o) (by rw [ex2, eo]; exact nI_add (3 * t) o) (by omega) hnb d_Mk_markValue_20 ?_
  refine lv_topi (fun Fo eFo => ?_)
  obtain ⟨x3, ex3⟩ : ∃ y9 : Int64, y9 = (Fo : Int32).toInt64 := ⟨_, rfl⟩
  refine lv_i2l (v := x3) hx hb d_Mk_markValue_21 ex3.symm ?_
  refine lv_aload hx hb d_Mk_markValue_22 (lv_at hl 6 rfl) ?_
  refine hw_get (own := "QuantifierOut$Marks") (v := .ref va) hx hb hts i_Vs hown hW hv rfl 0 (by decide) (hts _ tw_55) (fun _ h9 => h9) rfl d_Mk_markValue_24 ?_
  refine lv_iload hx hb d_Mk_markValue_27 (lv_at hl 1 rfl) ?_
  refine hw_lld hx hb hW 1 hva rfl o eo (by omega) (by decide) d_Mk_markValue_29 ?_
  refine lv_topl (fun ov eov => ?_)
  refine lv_lmul hx hb d_Mk_markValue_30 ?_
  refine lv_topl (fun x4 ex4 => ?_)
  refine lv_aload_n hx hb d_Mk_markValue_31 rfl (lv_at hl 3 rfl) ?_
  refine lv_iload_n hx hb d_Mk_markValue_32 rfl (lv_at hl 4 rfl) ?_
  refine lv_iconst (v := 2) hx hb d_Mk_markValue_33 (by decide) ?_
  refine lv_iadd hx hb d_Mk_markValue_34 ?_
  refine lv_topi (fun x5 ex5 => ?_)
  refine hw_ild hx hb hW 0 hla rfl (3 * t + 2) (by rw [ex5]; exact nI_add (3 * t) 2) (by omega) hnb d_Mk_markValue_35 ?_
  refine lv_topi (fun Fc eFc => ?_)
  obtain ⟨x6, ex6⟩ : ∃ y9 : Int64, y9 = (Fc : Int32).toInt64 := ⟨_, rfl⟩
  refine lv_i2l (v := x6) hx hb d_Mk_markValue_36 ex6.symm ?_
  refine lv_lload hx hb d_Mk_markValue_37 (lv_at hl 0 rfl) ?_
  refine lv_lmul hx hb d_Mk_markValue_39 ?_
  refine lv_topl (fun x7 ex7 => ?_)
  refine lv_ladd hx hb d_Mk_markValue_40 ?_
  refine lv_topl (fun x8 ex8 => ?_)
  refine lv_lstore (lv' := [(8, .long x8), (6, .long ob), (5, .int x1), (0, .ref h0), (1, .ref la), (2, .int (nI (3 * t))), (3, .int (nI j)), (4, .ref v)]) hx hb d_Mk_markValue_41 hl (by decide) rfl (fun ls hl => ?_)
  refine lv_aload_n hx hb d_Mk_markValue_43 rfl (lv_at hl 3 rfl) ?_
  refine lv_lload hx hb d_Mk_markValue_44 (lv_at hl 0 rfl) ?_
  refine lv_lneg hx hb d_Mk_markValue_46 ?_
  refine lv_topl (fun x9 ex9 => ?_)
  refine lv_aload_n hx hb d_Mk_markValue_47 rfl (lv_at hl 4 rfl) ?_
  refine lv_iload_n hx hb d_Mk_markValue_48 rfl (lv_at hl 5 rfl) ?_
  refine lv_iload_n hx hb d_Mk_markValue_49 rfl (lv_at hl 6 rfl) ?_
  refine lv_iadd hx hb d_Mk_markValue_50 ?_
  refine lv_topi (fun x10 ex10 => ?_)
  refine hw_ild hx hb hW 0 hla rfl (3 * t + j) (by rw [ex10]; exact nI_add (3 * t) j) (by omega) hnb d_Mk_markValue_51 ?_
  refine lv_topi (fun Fj eFj => ?_)
  obtain ⟨x11, ex11⟩ : ∃ y9 : Int64, y9 = (Fj : Int32).toInt64 := ⟨_, rfl⟩
  refine lv_i2l (v := x11) hx hb d_Mk_markValue_52 ex11.symm ?_
  refine lv_lload hx hb d_Mk_markValue_53 (lv_at hl 1 rfl) ?_
  refine lv_lmul hx hb d_Mk_markValue_55 ?_
  refine lv_topl (fun x12 ex12 => ?_)
  have bFo := hF (3 * t + o) (by omega); have bFc := hF (3 * t + 2) (by omega); have bFj := hF (3 * t + j) (by omega)
  have p1 := nm_mulb bFo hfv; have p2 := nm_mulb bFc hgv; have p3 := nm_mulb bFj hgv
  have t3 : x3.toInt = (F (3 * t + o)).toInt := by rw [ex3, nm_i2l, eFo]
  have t4 : x4.toInt = (F (3 * t + o)).toInt * (fv o).toInt := by rw [ex4, nm_lmul (by rw [t3, eov]; omega), t3, eov]
  have t6 : x6.toInt = (F (3 * t + 2)).toInt := by rw [ex6, nm_i2l, eFc]
  have t7 : x7.toInt = (F (3 * t + 2)).toInt * (gv o).toInt := by rw [ex7, nm_lmul (by rw [t6, eob]; omega), t6, eob]
  have t8 : x8.toInt = (F (3 * t + o)).toInt * (fv o).toInt + (F (3 * t + 2)).toInt * (gv o).toInt := by rw [ex8, nm_ladd (by rw [t4, t7]; omega), t4, t7]
  have t9 : x9.toInt = (-((F (3 * t + o)).toInt * (fv o).toInt + (F (3 * t + 2)).toInt * (gv o).toInt)) := by rw [ex9, nm_lneg (by rw [t8]; omega), t8]
  have t11 : x11.toInt = (F (3 * t + j)).toInt := by rw [ex11, nm_i2l, eFj]
  have t12 : x12.toInt = ((F (3 * t + j)).toInt * (gv o).toInt) := by rw [ex12, nm_lmul (by rw [t11, eob]; omega), t11, eob]
  refine hw_callv (hw_runV (n := 2) (own := "QuantifierOut$Marks") (As := [.long x9, .long x12]) (rest := []) hx hb hml hown hts hX hW hl.1 (c_Mk_insert l D cI cJ cZ cN h0 ma mb n B _ f g x9 x12 M hM hne hn hro hB (by rw [t9]; omega) (by rw [t12]; omega)) hk rfl tw_479 tw_481 ts_7 tw_3 tw_482 (by decide +kernel) rfl rfl ⟨by decide, by decide⟩ rfl rfl (Nat.le_of_ble_eq_true rfl) d_Mk_markValue_56 ⟨by decide, by decide⟩) hW hS hA (fun M1 H locs hp hz hW hS => ?_)
  obtain ⟨n2, f2, g2, q1, q2, q3⟩ := hp
  rw [t9, t12] at q3
  exact hw_retv hx hb hr hlocks hW hS ⟨n2, f2, g2, q1, q2, q3⟩ d_Mk_markValue_59
set_option maxHeartbeats 4000000 in
set_option maxRecDepth 100000 in
theorem c_Mk_markCrossing (h0 ma mb n B sz la nl t r j o : Nat) (f g : Nat → Int64) (F : Nat → Int32) (M : Nat → Option va_E) (hM : mk_S cJ M h0 ma mb n f g) (hne : ma ≠ mb) (hn : n ≤ 21) (hro : mk_row f g n B) (hB : B ≤ 1000000) (hB5 : 50 ≤ B) (hla : M la = some (.inl (cI, 3 * nl, .inl F))) (hnl : nl ≤ 6) (ht : t < nl) (hr9 : r < nl) (hjo : j + o = 1) (hF : ∀ i, i < 3 * nl → (F i).toInt.natAbs ≤ 5) : Met l y_Mk_markCrossing (.code y_Mk_markCrossing b_Mk_markCrossing 8 none :: ww) ({ frames := 2, cells := 0, slots := 0, locals := 100 }) (hw_Pc D qcl (qty cI cJ cZ cN) [.ref h0, .ref la, .int (nI (3 * t)), .int (nI (3 * r)), .int (nI j)] M sz) (va_Qv (fun M1 => ∃ (n2 : Nat) (f2 g2 : Nat → Int64), mk_S cJ M1 h0 ma mb n2 f2 g2 ∧ (∀ q, q ≠ h0 → q ≠ ma → q ≠ mb → M1 q = M q) ∧ mk_ins n f g (-((F (3 * t + 2)).toInt * (F (3 * r + o)).toInt - (F (3 * r + 2)).toInt * (F (3 * t + o)).toInt)) ((F (3 * t + j)).toInt * (F (3 * r + o)).toInt - (F (3 * r + j)).toInt * (F (3 * t + o)).toInt) B n2 f2 g2) (hw_B D qcl (qty cI cJ cZ cN) M sz) (hw_A M sz)) 0 0 (hw_A M sz) := by
  have hk := hM.1
  refine hw_met (by decide) (Nat.le_of_ble_eq_true rfl) ?_
  intro p e s m below meth c hx hb hr hml hown hlocks hnm hts hsz hX hW ls hl
  subst hsz
  have hA : ∀ q, s.heap.size ≤ q → hw_A M s.heap.size q := fun q h => Or.inr h
  have hS : va_S (hw_A M s.heap.size) s.heap s.heap [] := va_S.rf
  have hl : lv_has ls 8 [(0, .ref h0), (1, .ref la), (2, .int (nI (3 * t))), (3, .int (nI (3 * r))), (4, .int (nI j))] := hl
  have hown : s.vm.findClass "QuantifierOut$Marks" = some m.cls := hown
  have hnb : 3 * nl < 1000000 := by omega
  refine lv_iconst (v := 1) hx hb d_Mk_markCrossing_0 (by decide) ?_
  refine lv_iload hx hb d_Mk_markCrossing_1 (lv_at hl 4 rfl) ?_
  refine lv_isub hx hb d_Mk_markCrossing_3 ?_
  refine lv_topi (fun x1 ex1 => ?_)
  refine lv_istore (lv' := [(5, .int x1), (0, .ref h0), (1, .ref la), (2, .int (nI (3 * t))), (3, .int (nI (3 * r))), (4, .int (nI j))]) hx hb d_Mk_markCrossing_4 hl (by decide) rfl (fun ls hl => ?_)
  have eo : x1 = nI o := by rw [ex1, show (1 : Int32) = nI 1 from rfl, pk_sub (by omega)]; congr 1; omega
  refine lv_aload_n hx hb d_Mk_markCrossing_6 rfl (lv_at hl 2 rfl) ?_
  refine lv_iload_n hx hb d_Mk_markCrossing_7 rfl (lv_at hl 3 rfl) ?_
  refine lv_iload hx hb d_Mk_markCrossing_8 (lv_at hl 5 rfl) ?_
  refine lv_iadd hx hb d_Mk_markCrossing_10 ?_
  refine lv_topi (fun x2 ex2 => ?_)
  refine hw_ild hx hb hW 0 hla rfl (3 * t + j) (by rw [ex2]; exact nI_add (3 * t) j) (by omega) hnb d_Mk_markCrossing_11 ?_
  refine lv_topi (fun y0 ey0 => ?_)
  refine lv_aload_n hx hb d_Mk_markCrossing_12 rfl (lv_at hl 2 rfl) ?_
  refine lv_iload_n hx hb d_Mk_markCrossing_13 rfl (lv_at hl 4 rfl) ?_
  refine lv_iload hx hb d_Mk_markCrossing_14 (lv_at hl 0 rfl) ?_
  refine lv_iadd hx hb d_Mk_markCrossing_16 ?_
  refine lv_topi (fun x3 ex3 => ?_)
  refine hw_ild hx hb hW 0 hla rfl (3 * r + o) (by rw [ex3, eo]; exact nI_add (3 * r) o) (by omega) hnb d_Mk_markCrossing_17 ?_
  refine lv_topi (fun y1 ey1 => ?_)
  refine lv_imul hx hb d_Mk_markCrossing_18 ?_
  refine lv_topi (fun x4 ex4 => ?_)
  refine lv_aload_n hx hb d_Mk_markCrossing_19 rfl (lv_at hl 2 rfl) ?_
  refine lv_iload_n hx hb d_Mk_markCrossing_20 rfl (lv_at hl 4 rfl) ?_
  refine lv_iload hx hb d_Mk_markCrossing_21 (lv_at hl 5 rfl) ?_
  refine lv_iadd hx hb d_Mk_markCrossing_23 ?_
  refine lv_topi (fun x5 ex5 => ?_)
  refine hw_ild hx hb hW 0 hla rfl (3 * r + j) (by rw [ex5]; exact nI_add (3 * r) j) (by omega) hnb d_Mk_markCrossing_24 ?_
  refine lv_topi (fun y2 ey2 => ?_)
  refine lv_aload_n hx hb d_Mk_markCrossing_25 rfl (lv_at hl 2 rfl) ?_
  refine lv_iload_n hx hb d_Mk_markCrossing_26 rfl (lv_at hl 3 rfl) ?_
  refine lv_iload hx hb d_Mk_markCrossing_27 (lv_at hl 0 rfl) ?_
  refine lv_iadd hx hb d_Mk_markCrossing_29 ?_
  refine lv_topi (fun x6 ex6 => ?_)
  refine hw_ild hx hb hW 0 hla rfl (3 * t + o) (by rw [ex6, eo]; exact nI_add (3 * t) o) (by omega) hnb d_Mk_markCrossing_30 ?_
  refine lv_topi (fun y3 ey3 => ?_)
  refine lv_imul hx hb d_Mk_markCrossing_31 ?_
  refine lv_topi (fun x7 ex7 => ?_)
  refine lv_isub hx hb d_Mk_markCrossing_32 ?_
  refine lv_topi (fun x8 ex8 => ?_)
  refine lv_istore (lv' := [(6, .int x8), (5, .int x1), (0, .ref h0), (1, .ref la), (2, .int (nI (3 * t))), (3, .int (nI (3 * r))), (4, .int (nI j))]) hx hb d_Mk_markCrossing_33 hl (by decide) rfl (fun ls hl => ?_)
  refine lv_aload_n hx hb d_Mk_markCrossing_35 rfl (lv_at hl 3 rfl) ?_
  refine lv_iload_n hx hb d_Mk_markCrossing_36 rfl (lv_at hl 4 rfl) ?_
  refine lv_iconst (v := 2) hx hb d_Mk_markCrossing_37 (by decide) ?_
  refine lv_iadd hx hb d_Mk_markCrossing_38 ?_
  refine lv_topi (fun x9 ex9 => ?_)
  refine hw_ild hx hb hW 0 hla rfl (3 * t + 2) (by rw [ex9]; exact nI_add (3 * t) 2) (by omega) hnb d_Mk_markCrossing_39 ?_
  refine lv_topi (fun y4 ey4 => ?_)
  refine lv_aload_n hx hb d_Mk_markCrossing_40 rfl (lv_at hl 3 rfl) ?_
  refine lv_iload_n hx hb d_Mk_markCrossing_41 rfl (lv_at hl 5 rfl) ?_
  refine lv_iload hx hb d_Mk_markCrossing_42 (lv_at hl 1 rfl) ?_
  refine lv_iadd hx hb d_Mk_markCrossing_44 ?_
  refine lv_topi (fun x10 ex10 => ?_)
  refine hw_ild hx hb hW 0 hla rfl (3 * r + o) (by rw [ex10, eo]; exact nI_add (3 * r) o) (by omega) hnb d_Mk_markCrossing_45 ?_
  refine lv_topi (fun y5 ey5 => ?_)
  refine lv_imul hx hb d_Mk_markCrossing_46 ?_
  refine lv_topi (fun x11 ex11 => ?_)
  refine lv_aload_n hx hb d_Mk_markCrossing_47 rfl (lv_at hl 3 rfl) ?_
  refine lv_iload_n hx hb d_Mk_markCrossing_48 rfl (lv_at hl 5 rfl) ?_
  refine lv_iconst (v := 2) hx hb d_Mk_markCrossing_49 (by decide) ?_
  refine lv_iadd hx hb d_Mk_markCrossing_50 ?_
  refine lv_topi (fun x12 ex12 => ?_)
  refine hw_ild hx hb hW 0 hla rfl (3 * r + 2) (by rw [ex12]; exact nI_add (3 * r) 2) (by omega) hnb d_Mk_markCrossing_51 ?_
  refine lv_topi (fun y6 ey6 => ?_)
  refine lv_aload_n hx hb d_Mk_markCrossing_52 rfl (lv_at hl 3 rfl) ?_
  refine lv_iload_n hx hb d_Mk_markCrossing_53 rfl (lv_at hl 4 rfl) ?_
  refine lv_iload hx hb d_Mk_markCrossing_54 (lv_at hl 1 rfl) ?_
  refine lv_iadd hx hb d_Mk_markCrossing_56 ?_
  refine lv_topi (fun x13 ex13 => ?_)
  refine hw_ild hx hb hW 0 hla rfl (3 * t + o) (by rw [ex13, eo]; exact nI_add (3 * t) o) (by omega) hnb d_Mk_markCrossing_57 ?_
  refine lv_topi (fun y7 ey7 => ?_)
  refine lv_imul hx hb d_Mk_markCrossing_58 ?_
  refine lv_topi (fun x14 ex14 => ?_)
  refine lv_isub hx hb d_Mk_markCrossing_59 ?_
  refine lv_topi (fun x15 ex15 => ?_)
  refine lv_istore (lv' := [(7, .int x15), (6, .int x8), (5, .int x1), (0, .ref h0), (1, .ref la), (2, .int (nI (3 * t))), (3, .int (nI (3 * r))), (4, .int (nI j))]) hx hb d_Mk_markCrossing_60 hl (by decide) rfl (fun ls hl => ?_)
  refine lv_aload_n hx hb d_Mk_markCrossing_62 rfl (lv_at hl 3 rfl) ?_
  refine lv_iload hx hb d_Mk_markCrossing_63 (lv_at hl 0 rfl) ?_
  refine lv_ineg hx hb d_Mk_markCrossing_65 ?_
  refine lv_topi (fun x16 ex16 => ?_)
  obtain ⟨x17, ex17⟩ : ∃ y9 : Int64, y9 = (x16 : Int32).toInt64 := ⟨_, rfl⟩
  refine lv_i2l (v := x17) hx hb d_Mk_markCrossing_66 ex17.symm ?_
  refine lv_iload hx hb d_Mk_markCrossing_67 (lv_at hl 1 rfl) ?_
  obtain ⟨x18, ex18⟩ : ∃ y9 : Int64, y9 = (x8 : Int32).toInt64 := ⟨_, rfl⟩
  refine lv_i2l (v := x18) hx hb d_Mk_markCrossing_69 ex18.symm ?_
  have bb : ∀ a b, a < 3 * nl → b < 3 * nl → ((F a).toInt * (F b).toInt).natAbs ≤ 25 := fun a b ha hb => nm_mulb (hF a ha) (hF b hb)
  have ty0 : y0.toInt = (F (3 * t + j)).toInt := by rw [ey0]
  have ty1 : y1.toInt = (F (3 * r + o)).toInt := by rw [ey1]
  have ty2 : y2.toInt = (F (3 * r + j)).toInt := by rw [ey2]
  have ty3 : y3.toInt = (F (3 * t + o)).toInt := by rw [ey3]
  have ty4 : y4.toInt = (F (3 * t + 2)).toInt := by rw [ey4]
  have ty5 : y5.toInt = (F (3 * r + o)).toInt := by rw [ey5]
  have ty6 : y6.toInt = (F (3 * r + 2)).toInt := by rw [ey6]
  have ty7 : y7.toInt = (F (3 * t + o)).toInt := by rw [ey7]
  have zx4 := bb (3 * t + j) (3 * r + o) (by omega) (by omega)
  have tx4 : x4.toInt = (F (3 * t + j)).toInt * (F (3 * r + o)).toInt := by rw [ex4, nm_imul (by rw [ty0, ty1]; omega), ty0, ty1]
  have zx7 := bb (3 * r + j) (3 * t + o) (by omega) (by omega)
  have tx7 : x7.toInt = (F (3 * r + j)).toInt * (F (3 * t + o)).toInt := by rw [ex7, nm_imul (by rw [ty2, ty3]; omega), ty2, ty3]
  have zx11 := bb (3 * t + 2) (3 * r + o) (by omega) (by omega)
  have tx11 : x11.toInt = (F (3 * t + 2)).toInt * (F (3 * r + o)).toInt := by rw [ex11, nm_imul (by rw [ty4, ty5]; omega), ty4, ty5]
  have zx14 := bb (3 * r + 2) (3 * t + o) (by omega) (by omega)
  have tx14 : x14.toInt = (F (3 * r + 2)).toInt * (F (3 * t + o)).toInt := by rw [ex14, nm_imul (by rw [ty6, ty7]; omega), ty6, ty7]
  have tx8 : x8.toInt = (F (3 * t + j)).toInt * (F (3 * r + o)).toInt - (F (3 * r + j)).toInt * (F (3 * t + o)).toInt := by rw [ex8, nm_isub (by rw [tx4, tx7]; omega), tx4, tx7]
  have tx15 : x15.toInt = (F (3 * t + 2)).toInt * (F (3 * r + o)).toInt - (F (3 * r + 2)).toInt * (F (3 * t + o)).toInt := by rw [ex15, nm_isub (by rw [tx11, tx14]; omega), tx11, tx14]
  have tx16 : x16.toInt = (-((F (3 * t + 2)).toInt * (F (3 * r + o)).toInt - (F (3 * r + 2)).toInt * (F (3 * t + o)).toInt)) := by rw [ex16, nm_ineg (by rw [tx15]; omega), tx15]
  have tU : x17.toInt = (-((F (3 * t + 2)).toInt * (F (3 * r + o)).toInt - (F (3 * r + 2)).toInt * (F (3 * t + o)).toInt)) := by rw [ex17, nm_i2l, tx16]
  have tD : x18.toInt = ((F (3 * t + j)).toInt * (F (3 * r + o)).toInt - (F (3 * r + j)).toInt * (F (3 * t + o)).toInt) := by rw [ex18, nm_i2l, tx8]
  refine hw_callv (hw_runV (n := 2) (own := "QuantifierOut$Marks") (As := [.long x17, .long x18]) (rest := []) hx hb hml hown hts hX hW hl.1 (c_Mk_insert l D cI cJ cZ cN h0 ma mb n B _ f g x17 x18 M hM hne hn hro hB (by rw [tU]; omega) (by rw [tD]; omega)) hk rfl tw_479 tw_481 ts_7 tw_3 tw_482 (by decide +kernel) rfl rfl ⟨by decide, by decide⟩ rfl rfl (Nat.le_of_ble_eq_true rfl) d_Mk_markCrossing_70 ⟨by decide, by decide⟩) hW hS hA (fun M1 H locs hp hz hW hS => ?_)
  obtain ⟨n2, f2, g2, q1, q2, q3⟩ := hp
  rw [tU, tD] at q3
  exact hw_retv hx hb hr hlocks hW hS ⟨n2, f2, g2, q1, q2, q3⟩ d_Mk_markCrossing_73
end G16

section
-- ===== PART A: goes FIRST, ahead of the names: the tables' words, and 'selects' of the private methods out of them =====
/-- a private method of a class that the tables say can be made, by its rows of tables_1 -/
def lw_okq (q : MethodName × Nat) : Prop := (q.1.cls ≠ "java/lang/invoke/MethodHandle" ∧ q.1.cls ≠ "java/lang/invoke/VarHandle") ∧ Cond.instantiable q.1.cls q.2 ∈ tables_1 ∧ Cond.privateMethod q.1 ∈ tables_1 ∧ Cond.instanceMethod q.1 ∈ tables_1
theorem lw_p0 : lw_okq (⟨"QuantifierOut", "checkRoom", "()V"⟩, 4) := ⟨⟨by decide +kernel, by decide +kernel⟩, List.mem_of_getElem? (i := 20) (by decide +kernel), List.mem_of_getElem? (i := 124) (by decide +kernel), List.mem_of_getElem? (i := 125) (by decide +kernel)⟩
theorem lw_p1 : lw_okq (⟨"java/lang/Throwable", "fillInStackTrace", "(I)Ljava/lang/Throwable;"⟩, 6) := ⟨⟨by decide +kernel, by decide +kernel⟩, List.mem_of_getElem? (i := 166) (by decide +kernel), List.mem_of_getElem? (i := 164) (by decide +kernel), List.mem_of_getElem? (i := 165) (by decide +kernel)⟩
theorem lw_p2 : lw_okq (⟨"QuantifierOut", "add", "(LQuantifierOut$Node;)I"⟩, 4) := ⟨⟨by decide +kernel, by decide +kernel⟩, List.mem_of_getElem? (i := 20) (by decide +kernel), List.mem_of_getElem? (i := 265) (by decide +kernel), List.mem_of_getElem? (i := 266) (by decide +kernel)⟩
theorem lw_p3 : lw_okq (⟨"QuantifierOut", "addPair", "(IIZ)I"⟩, 4) := ⟨⟨by decide +kernel, by decide +kernel⟩, List.mem_of_getElem? (i := 20) (by decide +kernel), List.mem_of_getElem? (i := 277) (by decide +kernel), List.mem_of_getElem? (i := 278) (by decide +kernel)⟩
theorem lw_p4 : lw_okq (⟨"QuantifierOut", "nodeAt", "(I)LQuantifierOut$Node;"⟩, 4) := ⟨⟨by decide +kernel, by decide +kernel⟩, List.mem_of_getElem? (i := 20) (by decide +kernel), List.mem_of_getElem? (i := 281) (by decide +kernel), List.mem_of_getElem? (i := 282) (by decide +kernel)⟩
theorem lw_p5 : lw_okq (⟨"QuantifierOut", "addQuantified", "(IIZ)I"⟩, 4) := ⟨⟨by decide +kernel, by decide +kernel⟩, List.mem_of_getElem? (i := 20) (by decide +kernel), List.mem_of_getElem? (i := 384) (by decide +kernel), List.mem_of_getElem? (i := 385) (by decide +kernel)⟩
theorem lw_p6 : lw_okq (⟨"QuantifierOut$Marks", "markValue", "([IIILQuantifierOut$Values;)V"⟩, 3) := ⟨⟨by decide +kernel, by decide +kernel⟩, List.mem_of_getElem? (i := 36) (by decide +kernel), List.mem_of_getElem? (i := 476) (by decide +kernel), List.mem_of_getElem? (i := 477) (by decide +kernel)⟩
theorem lw_p7 : lw_okq (⟨"QuantifierOut$Marks", "insert", "(JJ)V"⟩, 3) := ⟨⟨by decide +kernel, by decide +kernel⟩, List.mem_of_getElem? (i := 36) (by decide +kernel), List.mem_of_getElem? (i := 480) (by decide +kernel), List.mem_of_getElem? (i := 481) (by decide +kernel)⟩
theorem lw_p8 : lw_okq (⟨"QuantifierOut$Marks", "markCrossing", "([IIII)V"⟩, 3) := ⟨⟨by decide +kernel, by decide +kernel⟩, List.mem_of_getElem? (i := 36) (by decide +kernel), List.mem_of_getElem? (i := 485) (by decide +kernel), List.mem_of_getElem? (i := 486) (by decide +kernel)⟩
theorem lw_p9 : lw_okq (⟨"QuantifierOut", "findPieces", "(I)V"⟩, 4) := ⟨⟨by decide +kernel, by decide +kernel⟩, List.mem_of_getElem? (i := 20) (by decide +kernel), List.mem_of_getElem? (i := 517) (by decide +kernel), List.mem_of_getElem? (i := 518) (by decide +kernel)⟩
theorem lw_p10 : lw_okq (⟨"QuantifierOut$Marks", "divisorOf", "(I)J"⟩, 3) := ⟨⟨by decide +kernel, by decide +kernel⟩, List.mem_of_getElem? (i := 36) (by decide +kernel), List.mem_of_getElem? (i := 551) (by decide +kernel), List.mem_of_getElem? (i := 552) (by decide +kernel)⟩
theorem lw_p11 : lw_okq (⟨"QuantifierOutModel", "add", "(III)I"⟩, 23) := ⟨⟨by decide +kernel, by decide +kernel⟩, List.mem_of_getElem? (i := 598) (by decide +kernel), List.mem_of_getElem? (i := 689) (by decide +kernel), List.mem_of_getElem? (i := 690) (by decide +kernel)⟩
theorem lw_p12 : lw_okq (⟨"QuantifierOutModel", "pair", "(III)I"⟩, 23) := ⟨⟨by decide +kernel, by decide +kernel⟩, List.mem_of_getElem? (i := 598) (by decide +kernel), List.mem_of_getElem? (i := 697) (by decide +kernel), List.mem_of_getElem? (i := 698) (by decide +kernel)⟩
theorem lw_p13 : lw_okq (⟨"QuantifierOutModel", "isNode", "(I)Z"⟩, 23) := ⟨⟨by decide +kernel, by decide +kernel⟩, List.mem_of_getElem? (i := 598) (by decide +kernel), List.mem_of_getElem? (i := 701) (by decide +kernel), List.mem_of_getElem? (i := 702) (by decide +kernel)⟩
theorem lw_p14 : lw_okq (⟨"QuantifierOutModel", "quantified", "(III)I"⟩, 23) := ⟨⟨by decide +kernel, by decide +kernel⟩, List.mem_of_getElem? (i := 598) (by decide +kernel), List.mem_of_getElem? (i := 717) (by decide +kernel), List.mem_of_getElem? (i := 718) (by decide +kernel)⟩
theorem lw_p15 : lw_okq (⟨"QuantifierOutModel", "at", "(IJJ)Z"⟩, 23) := ⟨⟨by decide +kernel, by decide +kernel⟩, List.mem_of_getElem? (i := 598) (by decide +kernel), List.mem_of_getElem? (i := 740) (by decide +kernel), List.mem_of_getElem? (i := 741) (by decide +kernel)⟩
def lw_privs_1 : List (MethodName × Nat) := [(⟨"QuantifierOut", "checkRoom", "()V"⟩, 4), (⟨"java/lang/Throwable", "fillInStackTrace", "(I)Ljava/lang/Throwable;"⟩, 6), (⟨"QuantifierOut", "add", "(LQuantifierOut$Node;)I"⟩, 4), (⟨"QuantifierOut", "addPair", "(IIZ)I"⟩, 4), (⟨"QuantifierOut", "nodeAt", "(I)LQuantifierOut$Node;"⟩, 4), (⟨"QuantifierOut", "addQuantified", "(IIZ)I"⟩, 4), (⟨"QuantifierOut$Marks", "markValue", "([IIILQuantifierOut$Values;)V"⟩, 3), (⟨"QuantifierOut$Marks", "insert", "(JJ)V"⟩, 3), (⟨"QuantifierOut$Marks", "markCrossing", "([IIII)V"⟩, 3), (⟨"QuantifierOut", "findPieces", "(I)V"⟩, 4), (⟨"QuantifierOut$Marks", "divisorOf", "(I)J"⟩, 3), (⟨"QuantifierOutModel", "add", "(III)I"⟩, 23), (⟨"QuantifierOutModel", "pair", "(III)I"⟩, 23), (⟨"QuantifierOutModel", "isNode", "(I)Z"⟩, 23), (⟨"QuantifierOutModel", "quantified", "(III)I"⟩, 23), (⟨"QuantifierOutModel", "at", "(IJJ)Z"⟩, 23)]
theorem lw_r1 : ∀ q ∈ lw_privs_1, lw_okq q := List.forall_mem_cons.mpr ⟨lw_p0, List.forall_mem_cons.mpr ⟨lw_p1, List.forall_mem_cons.mpr ⟨lw_p2, List.forall_mem_cons.mpr ⟨lw_p3, List.forall_mem_cons.mpr ⟨lw_p4, List.forall_mem_cons.mpr ⟨lw_p5, List.forall_mem_cons.mpr ⟨lw_p6, List.forall_mem_cons.mpr ⟨lw_p7, List.forall_mem_cons.mpr ⟨lw_p8, List.forall_mem_cons.mpr ⟨lw_p9, List.forall_mem_cons.mpr ⟨lw_p10, List.forall_mem_cons.mpr ⟨lw_p11, List.forall_mem_cons.mpr ⟨lw_p12, List.forall_mem_cons.mpr ⟨lw_p13, List.forall_mem_cons.mpr ⟨lw_p14, List.forall_mem_cons.mpr ⟨lw_p15, fun _ h => absurd h List.not_mem_nil⟩⟩⟩⟩⟩⟩⟩⟩⟩⟩⟩⟩⟩⟩⟩⟩
theorem lw_p16 : lw_okq (⟨"QuantifierOutModel", "truth2", "(I)Z"⟩, 23) := ⟨⟨by decide +kernel, by decide +kernel⟩, List.mem_of_getElem? (i := 598) (by decide +kernel), List.mem_of_getElem? (i := 744) (by decide +kernel), List.mem_of_getElem? (i := 745) (by decide +kernel)⟩
theorem lw_p17 : lw_okq (⟨"QuantifierOutModel", "mark", "(II)V"⟩, 23) := ⟨⟨by decide +kernel, by decide +kernel⟩, List.mem_of_getElem? (i := 598) (by decide +kernel), List.mem_of_getElem? (i := 748) (by decide +kernel), List.mem_of_getElem? (i := 749) (by decide +kernel)⟩
theorem lw_p18 : lw_okq (⟨"QuantifierOutModel", "plain", "(II)Z"⟩, 23) := ⟨⟨by decide +kernel, by decide +kernel⟩, List.mem_of_getElem? (i := 598) (by decide +kernel), List.mem_of_getElem? (i := 752) (by decide +kernel), List.mem_of_getElem? (i := 753) (by decide +kernel)⟩
theorem lw_p19 : lw_okq (⟨"QuantifierOutModel", "atomAt", "(II)Z"⟩, 23) := ⟨⟨by decide +kernel, by decide +kernel⟩, List.mem_of_getElem? (i := 598) (by decide +kernel), List.mem_of_getElem? (i := 756) (by decide +kernel), List.mem_of_getElem? (i := 757) (by decide +kernel)⟩
theorem lw_p20 : lw_okq (⟨"QuantifierOutModel", "of", "(II)I"⟩, 23) := ⟨⟨by decide +kernel, by decide +kernel⟩, List.mem_of_getElem? (i := 598) (by decide +kernel), List.mem_of_getElem? (i := 760) (by decide +kernel), List.mem_of_getElem? (i := 761) (by decide +kernel)⟩
theorem lw_p21 : lw_okq (⟨"QuantifierOutModel", "tries2", "(I)Z"⟩, 23) := ⟨⟨by decide +kernel, by decide +kernel⟩, List.mem_of_getElem? (i := 598) (by decide +kernel), List.mem_of_getElem? (i := 764) (by decide +kernel), List.mem_of_getElem? (i := 765) (by decide +kernel)⟩
theorem lw_p22 : lw_okq (⟨"QuantifierOutModel", "gather", "(IIIJJ)V"⟩, 23) := ⟨⟨by decide +kernel, by decide +kernel⟩, List.mem_of_getElem? (i := 598) (by decide +kernel), List.mem_of_getElem? (i := 768) (by decide +kernel), List.mem_of_getElem? (i := 769) (by decide +kernel)⟩
theorem lw_p23 : lw_okq (⟨"QuantifierOutModel", "lowest", "(JJ)V"⟩, 23) := ⟨⟨by decide +kernel, by decide +kernel⟩, List.mem_of_getElem? (i := 598) (by decide +kernel), List.mem_of_getElem? (i := 772) (by decide +kernel), List.mem_of_getElem? (i := 773) (by decide +kernel)⟩
theorem lw_p24 : lw_okq (⟨"QuantifierOutModel", "keep", "(I)V"⟩, 23) := ⟨⟨by decide +kernel, by decide +kernel⟩, List.mem_of_getElem? (i := 598) (by decide +kernel), List.mem_of_getElem? (i := 776) (by decide +kernel), List.mem_of_getElem? (i := 777) (by decide +kernel)⟩
theorem lw_p25 : lw_okq (⟨"QuantifierOutModel", "meet", "(IIII)V"⟩, 23) := ⟨⟨by decide +kernel, by decide +kernel⟩, List.mem_of_getElem? (i := 598) (by decide +kernel), List.mem_of_getElem? (i := 780) (by decide +kernel), List.mem_of_getElem? (i := 781) (by decide +kernel)⟩
theorem lw_p26 : lw_okq (⟨"QuantifierOutModel", "trial", "(II)V"⟩, 23) := ⟨⟨by decide +kernel, by decide +kernel⟩, List.mem_of_getElem? (i := 598) (by decide +kernel), List.mem_of_getElem? (i := 784) (by decide +kernel), List.mem_of_getElem? (i := 785) (by decide +kernel)⟩
theorem lw_p27 : lw_okq (⟨"QuantifierOutModel", "step", "(II)V"⟩, 23) := ⟨⟨by decide +kernel, by decide +kernel⟩, List.mem_of_getElem? (i := 598) (by decide +kernel), List.mem_of_getElem? (i := 788) (by decide +kernel), List.mem_of_getElem? (i := 789) (by decide +kernel)⟩
theorem lw_p28 : lw_okq (⟨"QuantifierOutModel", "truth1", "(I)Z"⟩, 23) := ⟨⟨by decide +kernel, by decide +kernel⟩, List.mem_of_getElem? (i := 598) (by decide +kernel), List.mem_of_getElem? (i := 792) (by decide +kernel), List.mem_of_getElem? (i := 793) (by decide +kernel)⟩
theorem lw_p29 : lw_okq (⟨"QuantifierOutModel", "tries1", "(I)Z"⟩, 23) := ⟨⟨by decide +kernel, by decide +kernel⟩, List.mem_of_getElem? (i := 598) (by decide +kernel), List.mem_of_getElem? (i := 796) (by decide +kernel), List.mem_of_getElem? (i := 797) (by decide +kernel)⟩
theorem lw_p30 : lw_okq (⟨"QuantifierOutModel", "truth0", "(I)Z"⟩, 23) := ⟨⟨by decide +kernel, by decide +kernel⟩, List.mem_of_getElem? (i := 598) (by decide +kernel), List.mem_of_getElem? (i := 800) (by decide +kernel), List.mem_of_getElem? (i := 801) (by decide +kernel)⟩
theorem lw_p31 : lw_okq (⟨"QuantifierOutModel", "find", "(I)Z"⟩, 23) := ⟨⟨by decide +kernel, by decide +kernel⟩, List.mem_of_getElem? (i := 598) (by decide +kernel), List.mem_of_getElem? (i := 816) (by decide +kernel), List.mem_of_getElem? (i := 817) (by decide +kernel)⟩
def lw_privs_2 : List (MethodName × Nat) := [(⟨"QuantifierOutModel", "truth2", "(I)Z"⟩, 23), (⟨"QuantifierOutModel", "mark", "(II)V"⟩, 23), (⟨"QuantifierOutModel", "plain", "(II)Z"⟩, 23), (⟨"QuantifierOutModel", "atomAt", "(II)Z"⟩, 23), (⟨"QuantifierOutModel", "of", "(II)I"⟩, 23), (⟨"QuantifierOutModel", "tries2", "(I)Z"⟩, 23), (⟨"QuantifierOutModel", "gather", "(IIIJJ)V"⟩, 23), (⟨"QuantifierOutModel", "lowest", "(JJ)V"⟩, 23), (⟨"QuantifierOutModel", "keep", "(I)V"⟩, 23), (⟨"QuantifierOutModel", "meet", "(IIII)V"⟩, 23), (⟨"QuantifierOutModel", "trial", "(II)V"⟩, 23), (⟨"QuantifierOutModel", "step", "(II)V"⟩, 23), (⟨"QuantifierOutModel", "truth1", "(I)Z"⟩, 23), (⟨"QuantifierOutModel", "tries1", "(I)Z"⟩, 23), (⟨"QuantifierOutModel", "truth0", "(I)Z"⟩, 23), (⟨"QuantifierOutModel", "find", "(I)Z"⟩, 23)]
theorem lw_r2 : ∀ q ∈ lw_privs_2, lw_okq q := List.forall_mem_cons.mpr ⟨lw_p16, List.forall_mem_cons.mpr ⟨lw_p17, List.forall_mem_cons.mpr ⟨lw_p18, List.forall_mem_cons.mpr ⟨lw_p19, List.forall_mem_cons.mpr ⟨lw_p20, List.forall_mem_cons.mpr ⟨lw_p21, List.forall_mem_cons.mpr ⟨lw_p22, List.forall_mem_cons.mpr ⟨lw_p23, List.forall_mem_cons.mpr ⟨lw_p24, List.forall_mem_cons.mpr ⟨lw_p25, List.forall_mem_cons.mpr ⟨lw_p26, List.forall_mem_cons.mpr ⟨lw_p27, List.forall_mem_cons.mpr ⟨lw_p28, List.forall_mem_cons.mpr ⟨lw_p29, List.forall_mem_cons.mpr ⟨lw_p30, List.forall_mem_cons.mpr ⟨lw_p31, fun _ h => absurd h List.not_mem_nil⟩⟩⟩⟩⟩⟩⟩⟩⟩⟩⟩⟩⟩⟩⟩⟩
theorem lw_p32 : lw_okq (⟨"QuantifierOutModel", "raise", "(I)I"⟩, 23) := ⟨⟨by decide +kernel, by decide +kernel⟩, List.mem_of_getElem? (i := 598) (by decide +kernel), List.mem_of_getElem? (i := 824) (by decide +kernel), List.mem_of_getElem? (i := 825) (by decide +kernel)⟩
def lw_privs_3 : List (MethodName × Nat) := [(⟨"QuantifierOutModel", "raise", "(I)I"⟩, 23)]
theorem lw_r3 : ∀ q ∈ lw_privs_3, lw_okq q := List.forall_mem_cons.mpr ⟨lw_p32, fun _ h => absurd h List.not_mem_nil⟩
def lw_privs : List (MethodName × Nat) := lw_privs_1 ++ (lw_privs_2 ++ (lw_privs_3))
def lw_tbl : List Cond := k2_sels lw_privs ++ tables_1
theorem lw_privs_ok : ∀ q ∈ lw_privs, lw_okq q := by
  show ∀ q ∈ lw_privs_1 ++ (lw_privs_2 ++ (lw_privs_3)), lw_okq q
  exact List.forall_mem_append.mpr ⟨lw_r1, List.forall_mem_append.mpr ⟨lw_r2, lw_r3⟩⟩
/-- the words that ride with every call -/
def ww : List Cond := lw_tbl.filter goodWord
theorem ww_tbl : ∀ w ∈ ww, w ∈ lw_tbl := fun _ h => (List.mem_filter.mp h).1
theorem ww_in {w : Cond} (i : Nat) (h : tables_1[i]? = some w) (g : goodWord w = true) : w ∈ ww := List.mem_filter.mpr ⟨List.mem_append_right _ (List.mem_of_getElem? h), g⟩
theorem ww_sel {w : Cond} (i : Nat) (h : (k2_sels lw_privs)[i]? = some w) (g : goodWord w = true) : w ∈ ww := List.mem_filter.mpr ⟨List.mem_append_left _ (List.mem_of_getElem? h), g⟩
theorem ww_goodIn {a : Cond} {l : List Cond} {y : Cond} (hy : y ∈ ww) (hl : ∀ w ∈ l, w ∈ ww) : GoodIn (a :: ww) (l ++ (y :: ww)) := by
  have ok : ∀ w ∈ ww, w ∈ a :: ww ∧ ((w.onTables && w.keeps) = true ∨ ∃ ty, w = .arrayClass ty) := fun w h => ⟨List.mem_cons_of_mem _ h, good_of_word (List.mem_filter.mp h).2⟩
  intro w hw
  rcases List.mem_append.mp hw with h | h
  · exact ok w (hl w h)
  · rcases List.mem_cons.mp h with h | h
    · rw [h]; exact ok y hy
    · exact ok w h
end
section
/-! ===== BEGIN words of one list among another's, by their places ===== -/
theorem goodIn_r {big : List Cond} (ws : List Cond) (ps : List Nat) (hp : ws = ps.filterMap (fun i => big[i]?)) (h : ws.all goodWord = true) : GoodIn big ws := by
  intro w hw
  have h1 := List.all_eq_true.mp h w hw
  rw [hp] at hw
  obtain ⟨i, -, hi⟩ := List.mem_filterMap.mp hw
  have hm : w ∈ big := by first | exact List.mem_of_getElem? hi | exact List.getElem?_mem hi
  exact ⟨hm, good_of_word h1⟩
theorem goodIn_app {big a b : List Cond} (ha : GoodIn big a) (hb : GoodIn big b) : GoodIn big (a ++ b) := fun w h => (List.mem_append.mp h).elim (ha w) (hb w)
theorem goodIn_ca {big a b : List Cond} {c : Cond} (ha : GoodIn big (c :: a)) (hb : GoodIn big b) : GoodIn big (c :: (a ++ b)) := fun w h => (List.mem_cons.mp h).elim (fun e => ha w (List.mem_cons.mpr (Or.inl e))) (fun h => (List.mem_append.mp h).elim (fun h => ha w (List.mem_cons.mpr (Or.inr h))) (hb w))
theorem goodIn_sub {big ws : List Cond} (hm : ∀ w ∈ ws, w ∈ big) (h : ws.all goodWord = true) : GoodIn big ws := fun w hw => ⟨hm w hw, good_of_word (List.all_eq_true.mp h w hw)⟩
/-! ===== END ===== -/

/-! ===== BEGIN exceptions that leave a method, and their catching by the caller (launches without stack traces) ===== -/
section VXA
/-! The laws vx_back, vx_callV, vx_callS, vx_callSW, vx_throw0, vx_throwS follow proofs of the library, with one case more: JvmDerived/Free/Laws.lean (Back.of_free), Shelf42/LK1.lean (callV, callS), Shelf/KitTraced.lean (throwNew0V, throwNewS). -/
/-- where a method has thrown q: the class by its name, the cell, what was written, the world -/
def vx_T (XC : String → State → State → Prop) (st : State) (q : Addr) (t : State) (mc ms : Nat) (free : Addr → Prop) : Prop :=
  ∃ (E : String) (ce : Cell) (L : List Loc), XC E st t ∧ t.heap[q]? = some ce ∧ ce.vm = .none ∧ st.vm.findClass E = some ce.cls ∧ st.WarmedH t.vm ∧ st.sameButNew ({ t with vm := st.vm } : State) L mc ms ∧ ∀ z ∈ L, free z.base
def vx_Q (Qc : Array Value → State → Outcome → State → Prop) (XC : String → State → State → Prop) (mc ms : Nat) (free : Addr → Prop) : Array Value → State → Outcome → State → Prop := fun a st o t =>
  (Qc a st o t ∧ ∃ L, FrameEnd st o t L mc ms ∧ ∀ q ∈ L, free q.base) ∨ ∃ q, o = .threw q ∧ vx_T XC st q t mc ms free
/-- a callee that returns or throws -/
def vx_Met (l : Launch) (y : MethodName) (ws : List Cond) (rm : Room) (Pc : Array Value → State → Prop) (Qc : Array Value → State → Outcome → State → Prop) (XC : String → State → State → Prop) (mc ms : Nat) (free : Addr → Prop) : Prop :=
  MetFree l y (headSpec ws rm) Pc (fun _ _ _ _ _ => True) (vx_Q Qc XC mc ms free)
def vx_Post (XC : String → State → State → Prop) (mc ms : Nat) (free : Addr → Prop) : Pt → Array Value → Addr → Pt → Prop := fun A a q B =>
  ∃ (g : JFrame) (mk : MethodId) (t : State) (L : List Loc) (E : String) (ce : Cell), B.U.heap = t.heap ∧ B.U.vm = t.vm ∧ XC E (A.U.calling g mk a) t ∧ t.heap[q]? = some ce ∧ ce.vm = .none ∧ A.U.vm.findClass E = some ce.cls ∧ B.locs = A.locs ++ L ∧ (∀ z ∈ L, free z.base) ∧ B.cells = A.cells + mc ∧ B.slots = A.slots + ms
def vx_Back (l : Launch) (R : Room) (p : Program) (e : Env) (below : List Frame) (s : State) (sargs : Array Value) (y : MethodName) (len W9 : Nat)
    (Pre : Pt → Array Value → Prop) (Post : Pt → Array Value → Option Value → Pt → Prop) (PostX : Pt → Array Value → Addr → Pt → Prop) : Prop :=
  ∀ (m : MethodId) (meth : Method) (c : Code) (A : Pt) (g : JFrame) (ig : Instr) (mk : MethodId) (a : Array Value),
    Stand p l e R s m sargs below meth c A.U A.locs A.cells A.slots → g.method = m → g.locals.size = c.maxLocals → decode c.code g.pc = .ok (ig, len) →
    2 * g.monitorRoom + (g.stack.map fun v => v.category).sum ≤ W9 → A.U.methodNamed? y = some mk → Pre A a →
    (∃ (v : Option Value) (B : Pt), Stand p l e R s m sargs below meth c B.U B.locs B.cells B.slots ∧ Post A a v B ∧
      Steps p.tables e below (doInvoke e (A.U.setTop g) [] mk a).1 (B.U.setTop { g with pc := g.pc + len, stack := v.toList ++ g.stack })) ∨
    (∃ (q : Addr) (B : Pt), Stand p l e R s m sargs below meth c B.U B.locs B.cells B.slots ∧ PostX A a q B ∧
      Steps p.tables e below (doInvoke e (A.U.setTop g) [] mk a).1 ((B.U.setTop g).pushFrame (.throwing q)))
section Payer
variable {l : Launch} {R : Room} {p : Program} {e : Env} {below : List Frame} {s : State} {sargs : Array Value} {y : MethodName} {len W9 : Nat}
theorem vx_back {ws : List Cond} {rm : Room} {Pc : Array Value → State → Prop} {Qc : Array Value → State → Outcome → State → Prop} {XC : String → State → State → Prop} {mc ms : Nat} {free : Addr → Prop} {bytes : ByteArray} {maxL : Nat} {ret : Option FieldType}
    (hM : vx_Met l y ws rm Pc Qc XC mc ms free) (hblind : FrameBlind Pc) (hrc : rm.cells = mc) (hrs : rm.slots = ms)
    (hframes : rm.frames + 1 ≤ R.frames) (hlocals : W9 + (maxL + 11) + rm.locals ≤ R.locals)
    (hws : ∀ w ∈ ws, ∀ a' U, s.WarmedH U.vm → w.before a' U = true) (hcode : Cond.code y bytes maxL ret ∈ ws) (hinit : ∀ a' U, s.WarmedH U.vm → (Cond.initialized y.cls).before a' U = true) :
    vx_Back l R p e below s sargs y len W9 (PreOf R mc ms Pc) (PostOf Qc mc ms free) (vx_Post XC mc ms free) := by
  intro m meth c A g ig mk a X hg hsize hdg hW hn hp
  have h1 : (headSpec ws rm).pre.before a A.U = true := atoms_intro fun w hw => hws w hw _ _ X.warmed
  have h2 : (Cond.code y bytes maxL ret).before a A.U = true := hws _ hcode _ _ X.warmed
  have h3 : (Cond.initialized y.cls).before a A.U = true := hinit _ _ X.warmed
  have h4 : A.cells + (headSpec ws rm).room.cells ≤ R.cells := by rw [show (headSpec ws rm).room.cells = mc from hrc]; exact hp.1
  have h5 : A.slots + (headSpec ws rm).room.slots ≤ R.slots := by rw [show (headSpec ws rm).room.slots = ms from hrs]; exact hp.2.1
  have hPc : Pc a (A.U.calling g mk a) := hblind _ _ _ _ hp.2.2
  obtain ⟨U, Ls, c0, s0⟩ := A
  dsimp only [Pt.U, Pt.locs, Pt.cells, Pt.slots] at h1 h2 h3 h4 h5 X hn hPc ⊢
  obtain ⟨methY, cY, hmY, hcY, -, hlY, -, -, -, -⟩ := Cond.code_spec hn h2
  obtain ⟨kY, hkY, -⟩ := className_of_methodNamed hn
  have hinitY : kY.init = .initialized := Cond.initialized_spec (findClass_of_methodNamed hn) hkY h3
  have h : At U g.method c below := by rw [hg]; exact X.here
  have hlocals9 : W9 + (maxL + 11) + (headSpec ws rm).room.locals ≤ R.locals := hlocals
  have happ : (headSpec ws rm).appliesLoose y e.platform (U.calling g mk a) = true :=
    Spec.appliesLoose_calling (g := g) h hdg hn hkY hinitY
      (X.room_calling (g := g) (R' := (headSpec ws rm).room) hsize hmY hcY hframes (by rw [hlY]; omega) h4 h5) h1
  obtain ⟨mid, hmid⟩ := h.above
  have hfr : (U.setTop g).frames = (.java g :: mid) ++ below := by rw [State.frames_setTop' g h.top, hmid]; rfl
  obtain ⟨o, s₂, hsteps, -, hend, hq⟩ := Steps.callFree hM p X.admits X.cas X.clock (acts := []) hfr happ hPc trivial
  have hq' : vx_Q Qc XC mc ms free a (U.calling g mk a) o s₂ := hq
  rw [State.frames_setTop' g h.top] at hend
  obtain ⟨g₀, hg0⟩ := Option.isSome_iff_exists.mp h.top
  obtain ⟨r, hr⟩ := State.topJava?_eq_some.mp hg0
  have hr' : (({ U with heap := s₂.heap, slotsUsed := s₂.slotsUsed } : State).setVm s₂.vm).frames = .java g₀ :: r := hr
  rcases hq' with ⟨hqc, L, hfe, hL⟩ | ⟨q, rfl, E, ce, L, hx, hce, hcv, hcl, hW₂, hsm, hL⟩
  · obtain ⟨⟨v, rfl⟩, hW₂, e2, q2, q3, q4, q5, q6⟩ := id hfe
    have e3 : s₂ = ({ (U.calling g mk a).setFrames s₂.frames with heap := s₂.heap, slotsUsed := s₂.slotsUsed } : State).setVm s₂.vm := by
      have : s₂ = ({ s₂ with vm := (U.calling g mk a).vm } : State).setVm s₂.vm := rfl
      rw [e2] at this
      exact this
    obtain ⟨c₂, i₂, len₂, hc₂, hd₂, hf₂⟩ := hend
    have hW' : U.WarmedH s₂.vm := hW₂
    have hcc : c₂ = c := by
      have h1 : s₂.code? g.method = U.code? g.method := by
        rw [State.code?_eq, State.code?_eq, hW'.alike.method?]
      exact Option.some.inj (hc₂.symm.trans (h1.trans h.code))
    subst hcc
    have hlen : len₂ = len := by rw [hdg] at hd₂; cases hd₂; rfl
    subst hlen
    have hs₂ : s₂ = (({ U with heap := s₂.heap, slotsUsed := s₂.slotsUsed } : State).setVm s₂.vm).setTop { g with pc := g.pc + len₂, stack := v.toList ++ g.stack } := by
      refine e3.trans ?_
      rw [hf₂, State.calling_eq h.top, State.setFrames_setFrames, State.setTop_of_frames _ hr', hr]
      rfl
    have hsame : U.sameButNew ({ U with heap := s₂.heap, slotsUsed := s₂.slotsUsed } : State) L mc ms := by
      refine ⟨?_, q2, q3, q4, q5, q6⟩
      obtain ⟨t, ht, -⟩ := State.frames_cons hr
      show ({ U with heap := s₂.heap, slotsUsed := s₂.slotsUsed } : State) = { U.setFrames U.frames with heap := s₂.heap, slotsUsed := s₂.slotsUsed }
      rw [State.setFrames_self ht]
    subst hg
    refine Or.inl ⟨v, ⟨(({ U with heap := s₂.heap, slotsUsed := s₂.slotsUsed } : State).setVm s₂.vm), Ls ++ L, c0 + mc, s0 + ms⟩,
      ⟨X.admits, X.cas, X.clock, X.frames, X.room, X.hears, X.method, X.code, (X.here.setHeapUsed s₂.heap s₂.slotsUsed).setVm hW'.alike, X.tail, State.WarmedH.trans X.warmed hW', X.limits, X.bytes, X.same.trans (hsame.setVm s.vm)⟩,
      ⟨g, mk, s₂, L, rfl, rfl, hqc, rfl, hL, rfl, rfl⟩, ?_⟩
    show Steps p.tables e below _ ((({ U with heap := s₂.heap, slotsUsed := s₂.slotsUsed } : State).setVm s₂.vm).setTop { g with pc := g.pc + len₂, stack := v.toList ++ g.stack })
    rw [← hs₂]
    exact hsteps
  · obtain ⟨e2, q2, q3, q4, q5, q6⟩ := id hsm
    have e3 : s₂ = ({ (U.calling g mk a).setFrames s₂.frames with heap := s₂.heap, slotsUsed := s₂.slotsUsed } : State).setVm s₂.vm := by
      have : s₂ = ({ s₂ with vm := (U.calling g mk a).vm } : State).setVm s₂.vm := rfl
      rw [e2] at this
      exact this
    have hf₂ : s₂.frames = .throwing q :: .java g :: U.frames.tail := hend
    have hW' : U.WarmedH s₂.vm := hW₂
    have hs₂ : s₂ = ((({ U with heap := s₂.heap, slotsUsed := s₂.slotsUsed } : State).setVm s₂.vm).setTop g).pushFrame (.throwing q) := by
      refine e3.trans ?_
      rw [hf₂, State.calling_eq h.top, State.setFrames_setFrames, State.pushFrame, State.frames_setTop _ hr', State.setTop_of_frames _ hr', State.setFrames_setFrames, hr]
      rfl
    have hsame : U.sameButNew ({ U with heap := s₂.heap, slotsUsed := s₂.slotsUsed } : State) L mc ms := by
      refine ⟨?_, q2, q3, q4, q5, q6⟩
      obtain ⟨t, ht, -⟩ := State.frames_cons hr
      show ({ U with heap := s₂.heap, slotsUsed := s₂.slotsUsed } : State) = { U.setFrames U.frames with heap := s₂.heap, slotsUsed := s₂.slotsUsed }
      rw [State.setFrames_self ht]
    subst hg
    refine Or.inr ⟨q, ⟨(({ U with heap := s₂.heap, slotsUsed := s₂.slotsUsed } : State).setVm s₂.vm), Ls ++ L, c0 + mc, s0 + ms⟩,
      ⟨X.admits, X.cas, X.clock, X.frames, X.room, X.hears, X.method, X.code, (X.here.setHeapUsed s₂.heap s₂.slotsUsed).setVm hW'.alike, X.tail, State.WarmedH.trans X.warmed hW', X.limits, X.bytes, X.same.trans (hsame.setVm s.vm)⟩,
      ⟨g, mk, s₂, L, E, ce, rfl, rfl, hx, hce, hcv, hcl, rfl, hL, rfl, rfl⟩, ?_⟩
    show Steps p.tables e below _ (((({ U with heap := s₂.heap, slotsUsed := s₂.slotsUsed } : State).setVm s₂.vm).setTop g).pushFrame (.throwing q))
    rw [← hs₂]
    exact hsteps
end Payer
section Calls
variable {p : Program} {l : Launch} {e : Env} {R : Room} {s : State} {m : MethodId} {args : Array Value} {below : List Frame} {meth : Method} {c : Code} {T : State} {locs : List Loc} {cells slots : Nat}
theorem vx_callV (X : Stand p l e R s m args below meth c T locs cells slots) (hexec : p.tables.exec = Jvm.exec) {own C : String} {index : Nat} {y : MethodName} {bytes : ByteArray} {maxL : Nat} {ret : Option FieldType}
    (hown : s.vm.findClass own = some m.cls) (hlink : (Cond.methodLink own index y).before args s = true) (hinst : (Cond.instanceMethod y).before args s = true) (hsel : (Cond.selects C y y).before args s = true)
    (hcode : (Cond.code y bytes maxL ret).before args s = true) (hy : y.cls ≠ "java/lang/invoke/MethodHandle" ∧ y.cls ≠ "java/lang/invoke/VarHandle")
    {W9 : Nat} {Pre : Pt → Array Value → Prop} {Post : Pt → Array Value → Option Value → Pt → Prop} {PostX : Pt → Array Value → Addr → Pt → Prop} (hK : vx_Back l R p e below s args y 3 W9 Pre Post PostX)
    {b : Addr} {cellB : Cell} (hcell : T.heap[b]? = some cellB) (hobj : cellB.vm.isStatics = false) (hcls : s.vm.findClass C = some cellB.cls)
    {g : JFrame} (hg : g.method = m) (hsize : g.locals.size = c.maxLocals) {argsL rest : List Value} (hlen : ∀ sig, parseMethodDescriptor y.desc = some sig → argsL.length = sig.parameters.length)
    (hstack : g.stack = argsL.reverse ++ .ref b :: rest) (hW : 2 * g.monitorRoom + (rest.map fun v => v.category).sum ≤ W9) (hdg : decode c.code g.pc = .ok (.invokevirtual index, 3))
    (hpre : ∀ vm₁, s.WarmedH vm₁ → Pre ⟨T.setVm vm₁, locs, cells, slots⟩ (Value.ref b :: argsL).toArray) :
    (∃ (v : Option Value) (vm₁ : Vm) (B : Pt), s.WarmedH vm₁ ∧ Stand p l e R s m args below meth c B.U B.locs B.cells B.slots ∧ Post ⟨T.setVm vm₁, locs, cells, slots⟩ (Value.ref b :: argsL).toArray v B ∧
      ∀ target, Steps p.tables e below (B.U.setTop { g with pc := g.pc + 3, stack := v.toList ++ rest }) target → Steps p.tables e below (T.setTop g) target) ∨
    (∃ (q : Addr) (vm₁ : Vm) (B : Pt), s.WarmedH vm₁ ∧ Stand p l e R s m args below meth c B.U B.locs B.cells B.slots ∧ PostX ⟨T.setVm vm₁, locs, cells, slots⟩ (Value.ref b :: argsL).toArray q B ∧
      Steps p.tables e below (T.setTop g) ((B.U.setTop { g with stack := rest }).pushFrame (.throwing q))) := by
  obtain ⟨mk, methM, hnamed, hmethM, hstM, habM⟩ := Cond.instanceMethod_spec hinst
  obtain ⟨methM', cM, hmethM', -, -, -, -, -, -, hsigM⟩ := Cond.code_spec hnamed hcode
  cases hmethM.symm.trans hmethM'
  obtain ⟨c2, r2, m2, q1, q2, q3, q4, kP, hkP, hkPi⟩ := Cond.selects_spec hsel
  cases hcls.symm.trans q1
  cases (State.methodFound?_of_named hnamed hy).symm.trans q2
  cases hnamed.symm.trans q3
  have hselP : selectMethod e.platform s.vm cellB.cls mk = .method mk := by rw [Launch.admits_selectMethod X.admits]; exact q4
  obtain ⟨vm₁, X₁, hstep₁⟩ := X.invokevirtual hexec hown hlink hnamed hmethM hstM hkP hkPi hy (a := b) (cell := cellB) hcell
    (fun z h => by rw [h] at hobj; cases hobj) hselP hmethM habM hkP hkPi (g := g) hg (argsL := argsL) (rest := rest) (hlen _ hsigM) hstack hdg
  rcases hK m meth c ⟨T.setVm vm₁, locs, cells, slots⟩ { g with stack := rest } (.invokevirtual index) mk (Value.ref b :: argsL).toArray X₁ hg hsize hdg hW (X₁.named hnamed) (hpre vm₁ X₁.warmed) with ⟨v, B, X', hpost, hsteps⟩ | ⟨q, B, X', hpost, hsteps⟩
  · exact Or.inl ⟨v, vm₁, B, X₁.warmed, X', hpost, fun target h => hstep₁ _ fun acts => by rw [doInvoke_state]; exact hsteps.trans h⟩
  · exact Or.inr ⟨q, vm₁, B, X₁.warmed, X', hpost, hstep₁ _ fun acts => by rw [doInvoke_state]; exact hsteps⟩
theorem vx_callS (X : Stand p l e R s m args below meth c T locs cells slots) (hexec : p.tables.exec = Jvm.exec) {own : String} {index : Nat} {y : MethodName} {bytes : ByteArray} {maxL : Nat} {ret : Option FieldType}
    (hown : s.vm.findClass own = some m.cls) (hlink : (Cond.methodLink own index y).before args s = true) (hstat : (Cond.static y).before args s = true) (hinit : (Cond.initialized y.cls).before args s = true)
    (hcode : (Cond.code y bytes maxL ret).before args s = true) (hy : y.cls ≠ "java/lang/invoke/MethodHandle" ∧ y.cls ≠ "java/lang/invoke/VarHandle")
    {W9 : Nat} {Pre : Pt → Array Value → Prop} {Post : Pt → Array Value → Option Value → Pt → Prop} {PostX : Pt → Array Value → Addr → Pt → Prop} (hK : vx_Back l R p e below s args y 3 W9 Pre Post PostX)
    {g : JFrame} (hg : g.method = m) (hsize : g.locals.size = c.maxLocals) {argsL rest : List Value} (hlen : ∀ sig, parseMethodDescriptor y.desc = some sig → argsL.length = sig.parameters.length)
    (hstack : g.stack = argsL.reverse ++ rest) (hW : 2 * g.monitorRoom + (rest.map fun v => v.category).sum ≤ W9) (hdg : decode c.code g.pc = .ok (.invokestatic index, 3))
    (hpre : ∀ vm₁, s.WarmedH vm₁ → Pre ⟨T.setVm vm₁, locs, cells, slots⟩ argsL.toArray) :
    (∃ (v : Option Value) (vm₁ : Vm) (B : Pt), s.WarmedH vm₁ ∧ Stand p l e R s m args below meth c B.U B.locs B.cells B.slots ∧ Post ⟨T.setVm vm₁, locs, cells, slots⟩ argsL.toArray v B ∧
      ∀ target, Steps p.tables e below (B.U.setTop { g with pc := g.pc + 3, stack := v.toList ++ rest }) target → Steps p.tables e below (T.setTop g) target) ∨
    (∃ (q : Addr) (vm₁ : Vm) (B : Pt), s.WarmedH vm₁ ∧ Stand p l e R s m args below meth c B.U B.locs B.cells B.slots ∧ PostX ⟨T.setVm vm₁, locs, cells, slots⟩ argsL.toArray q B ∧
      Steps p.tables e below (T.setTop g) ((B.U.setTop { g with stack := rest }).pushFrame (.throwing q))) := by
  obtain ⟨mk, hnamed⟩ := Cond.code_named hcode
  obtain ⟨methM, cM, hmethM, -, -, -, -, -, -, hsigM⟩ := Cond.code_spec hnamed hcode
  have hstatic : methM.isStatic = true := Cond.static_spec hnamed hmethM hstat
  obtain ⟨kP, hkP, -⟩ := className_of_methodNamed hnamed
  have hinitP : kP.init = .initialized := Cond.initialized_spec (findClass_of_methodNamed hnamed) hkP hinit
  obtain ⟨vm₁, X₁, hstep₁⟩ := X.invokestatic hexec hown hlink hnamed hmethM hstatic hkP hinitP hy (g := g) hg (argsL := argsL) (rest := rest) (hlen _ hsigM) hstack hdg
  rcases hK m meth c ⟨T.setVm vm₁, locs, cells, slots⟩ { g with stack := rest } (.invokestatic index) mk argsL.toArray X₁ hg hsize hdg hW (X₁.named hnamed) (hpre vm₁ X₁.warmed) with ⟨v, B, X', hpost, hsteps⟩ | ⟨q, B, X', hpost, hsteps⟩
  · exact Or.inl ⟨v, vm₁, B, X₁.warmed, X', hpost, fun target h => hstep₁ _ fun acts => by rw [doInvoke_state]; exact hsteps.trans h⟩
  · exact Or.inr ⟨q, vm₁, B, X₁.warmed, X', hpost, hstep₁ _ fun acts => by rw [doInvoke_state]; exact hsteps⟩
end Calls
theorem vx_cls {s : State} {T : State} {vm₁ : Vm} {E : String} {k : ClassId} (hW : s.WarmedH vm₁) (h : (T.setVm vm₁).vm.findClass E = some k) : s.vm.findClass E = some k := by
  have h1 : vm₁.findClass E = some k := h
  rw [hW.alike.findClass] at h1
  exact h1
/-- the method's frame g, with q thrown over it -/
def vx_W (p : Program) (l : Launch) (e : Env) (R : Room) (s : State) (m : MethodId) (args : Array Value) (below : List Frame) (meth : Method) (c : Code) (H : Heap) (locs : List Loc) (cells slots : Nat) (Q : State → Prop) (g : JFrame) (q : Addr) : Prop :=
  ∀ T : State, T.heap = H → Stand p l e R s m args below meth c T locs cells slots → ∃ t, Steps p.tables e below ((T.setTop g).pushFrame (.throwing q)) t ∧ Q t
def vx_Run (p : Program) (l : Launch) (e : Env) (R : Room) (s : State) (m : MethodId) (args : Array Value) (below : List Frame) (meth : Method) (c : Code) (H : Heap) (locs : List Loc) (cells slots mc ms : Nat) (g : JFrame) (rest : List Value) (Qa : State → Outcome → State → Prop) (XC : String → State → State → Prop) (free : Addr → Prop) : Prop :=
  ∀ T : State, T.heap = H → Stand p l e R s m args below meth c T locs cells slots →
    (∃ (v : Option Value) (st₀ t T' : State) (L : List Loc), st₀.heap = H ∧ Stand p l e R s m args below meth c T' (locs ++ L) (cells + mc) (slots + ms) ∧ (∀ q ∈ L, free q.base) ∧ T'.heap = t.heap ∧ T'.vm = t.vm ∧ Qa st₀ (.returned v) t ∧
      Goes p e below T g T' { g with pc := g.pc + 3, stack := v.toList ++ rest }) ∨
    (∃ (q : Addr) (st₀ t T' : State) (L : List Loc) (E : String) (ce : Cell), st₀.heap = H ∧ Stand p l e R s m args below meth c T' (locs ++ L) (cells + mc) (slots + ms) ∧ (∀ z ∈ L, free z.base) ∧ T'.heap = t.heap ∧ T'.vm = t.vm ∧ XC E st₀ t ∧ t.heap[q]? = some ce ∧ ce.vm = .none ∧ s.vm.findClass E = some ce.cls ∧
      Steps p.tables e below (T.setTop g) ((T'.setTop { g with stack := rest }).pushFrame (.throwing q)))
def vx_X {S : Type} (px : S → Prop) (B : String → S → State → Prop) (A : Nat → Prop) : String → State → State → Prop := fun E st t => ∃ u : S, px u ∧ B E u t ∧ va_F A st t
section Runs
variable {p : Program} {l : Launch} {e : Env} {R : Room} {s : State} {m : MethodId} {args : Array Value} {below : List Frame} {meth : Method} {c : Code} {H : Heap} {locs : List Loc} {cells slots : Nat}
variable {y : MethodName} {bytes cc : ByteArray} {maxL nL mc ms n index : Nat} {ret : Option FieldType} {ws : List Cond} {rm : Room} {Pc : Array Value → State → Prop} {Qc : Array Value → State → Outcome → State → Prop} {XC : String → State → State → Prop} {free : Addr → Prop} {Ts : List Cond} {own C : String} {b : Addr} {As rest : List Value} {g : JFrame}
theorem vx_callBack (cb : CallB R s args own index y bytes maxL ret ws rm mc ms n) (hM : vx_Met l y ws rm Pc Qc XC mc ms free) (hbl : FrameBlind Pc) : vx_Back l R p e below s args y 3 8 (PreOf R mc ms Pc) (PostOf Qc mc ms free) (vx_Post XC mc ms free) := by
  obtain ⟨hrc, hrs, hfr, hlo, hws, hcw, -, hini, -⟩ := cb
  exact vx_back (bytes := bytes) (maxL := maxL) (ret := ret) hM hbl hrc hrs hfr hlo hws hcw (fun a' U hW => word_at hW (Or.inl (by first | rfl | simp [Cond.onTables, Cond.keeps, Cond.steady])) hini)
theorem vx_runV (S : CallFix p m c cc nL s args Ts own) (hM : vx_Met l y ws rm Pc Qc XC mc ms free) (cw : CallW R s args own C index y bytes maxL ret ws rm mc ms n) (hp : PreV s H C b Pc As)
    (hg : g.method = m) (hn : As.length = n) (hsize : g.locals.size = nL) (hstack : g.stack = As.reverse ++ .ref b :: rest) (hW : 2 * g.monitorRoom + (rest.map fun v => v.category).sum ≤ 8) (hdg : decode cc g.pc = .ok (.invokevirtual index, 3)) (hf : cells + mc ≤ R.cells ∧ slots + ms ≤ R.slots) :
    vx_Run p l e R s m args below meth c H locs cells slots mc ms g rest (Qc (Value.ref b :: As).toArray) XC free := by
  have hK : vx_Back l R p e below s args y 3 8 (PreOf R mc ms Pc) (PostOf Qc mc ms free) (vx_Post XC mc ms free) := vx_callBack cw.1 hM hp.1
  obtain ⟨⟨-, -, -, -, -, -, hcode, -, hy, hlen, hl⟩, hin, hse⟩ := cw
  obtain ⟨hx, hb, hml, ho, -⟩ := S
  obtain ⟨-, ⟨cellB, hcB, hoB, hclB⟩, hPc⟩ := hp
  intro T hT X
  rcases vx_callV X hx (C := C) (bytes := bytes) (maxL := maxL) (ret := ret) ho hl hin hse hcode hy hK (by rw [hT]; exact hcB) hoB hclB hg (hsize.trans hml.symm) (argsL := As) (rest := rest) (fun sig h => hn.trans (hlen sig h)) hstack hW (by rw [hb]; exact hdg)
    (fun vm₁ hW₁ => ⟨hf.1, hf.2, hPc (T.setVm vm₁) hT hW₁⟩) with ⟨v, vm₁, ⟨U', l2, c2, s2⟩, hW₁, X', ⟨g', mk, t, L, e1, e2, hq, h1, hL, h2, h3⟩, st⟩ | ⟨q, vm₁, ⟨U', l2, c2, s2⟩, hW₁, X', ⟨g', mk, t, L, E, ce, e1, e2, hq, hce, hcv, hcl, h1, hL, h2, h3⟩, st⟩
  · dsimp only [Pt.U, Pt.locs, Pt.cells, Pt.slots] at X' e1 e2 h1 h2 h3 st
    subst h1; subst h2; subst h3
    exact Or.inl ⟨v, (T.setVm vm₁).calling g' mk (Value.ref b :: As).toArray, t, U', L, hT, X', hL, e1, e2, hq, st⟩
  · dsimp only [Pt.U, Pt.locs, Pt.cells, Pt.slots] at X' e1 e2 h1 h2 h3 st hcl
    subst h1; subst h2; subst h3
    exact Or.inr ⟨q, (T.setVm vm₁).calling g' mk (Value.ref b :: As).toArray, t, U', L, E, ce, hT, X', hL, e1, e2, hq, hce, hcv, vx_cls hW₁ hcl, st⟩
theorem vx_runS (S : CallFix p m c cc nL s args Ts own) (hM : vx_Met l y ws rm Pc Qc XC mc ms free) (cw : CallB R s args own index y bytes maxL ret ws rm mc ms n ∧ (Cond.static y).before args s = true) (hp : PreS s H Pc As)
    (hg : g.method = m) (hn : As.length = n) (hsize : g.locals.size = nL) (hstack : g.stack = As.reverse ++ rest) (hW : 2 * g.monitorRoom + (rest.map fun v => v.category).sum ≤ 8) (hdg : decode cc g.pc = .ok (.invokestatic index, 3)) (hf : cells + mc ≤ R.cells ∧ slots + ms ≤ R.slots) :
    vx_Run p l e R s m args below meth c H locs cells slots mc ms g rest (Qc As.toArray) XC free := by
  have hK : vx_Back l R p e below s args y 3 8 (PreOf R mc ms Pc) (PostOf Qc mc ms free) (vx_Post XC mc ms free) := vx_callBack cw.1 hM hp.1
  obtain ⟨⟨-, -, -, -, -, -, hcode, hini, hy, hlen, hl⟩, hstt⟩ := cw
  obtain ⟨hx, hb, hml, ho, -⟩ := S
  intro T hT X
  rcases vx_callS X hx (bytes := bytes) (maxL := maxL) (ret := ret) ho hl hstt hini hcode hy hK hg (hsize.trans hml.symm) (argsL := As) (rest := rest) (fun sig h => hn.trans (hlen sig h)) hstack hW (by rw [hb]; exact hdg)
    (fun vm₁ hW₁ => ⟨hf.1, hf.2, hp.2 (T.setVm vm₁) hT hW₁⟩) with ⟨v, vm₁, ⟨U', l2, c2, s2⟩, hW₁, X', ⟨g', mk, t, L, e1, e2, hq, h1, hL, h2, h3⟩, st⟩ | ⟨q, vm₁, ⟨U', l2, c2, s2⟩, hW₁, X', ⟨g', mk, t, L, E, ce, e1, e2, hq, hce, hcv, hcl, h1, hL, h2, h3⟩, st⟩
  · dsimp only [Pt.U, Pt.locs, Pt.cells, Pt.slots] at X' e1 e2 h1 h2 h3 st
    subst h1; subst h2; subst h3
    exact Or.inl ⟨v, (T.setVm vm₁).calling g' mk As.toArray, t, U', L, hT, X', hL, e1, e2, hq, st⟩
  · dsimp only [Pt.U, Pt.locs, Pt.cells, Pt.slots] at X' e1 e2 h1 h2 h3 st hcl
    subst h1; subst h2; subst h3
    exact Or.inr ⟨q, (T.setVm vm₁).calling g' mk As.toArray, t, U', L, E, ce, hT, X', hL, e1, e2, hq, hce, hcv, vx_cls hW₁ hcl, st⟩
end Runs
section Rows
variable {p : Program} {l : Launch} {e : Env} {R : Room} {s : State} {m : MethodId} {args : Array Value} {below : List Frame} {meth : Method} {c : Code} {H : Heap} {locs : List Loc} {cells slots : Nat} {Q : State → Prop}
variable {mc ms : Nat} {free : Addr → Prop} {A0 A1 : Nat → Prop} {H0 : Heap} {a : Array Value} {pc : Nat} {ls : Array Slot} {st0 rest : List Value}
theorem vx_keep {st₀ t T' : State} {L : List Loc} (h0 : st₀.heap = H) (e1 : T'.heap = t.heap) (hS : va_S A0 H0 H locs) (hA : ∀ q, q < H.size → A1 q → A0 q) (hf : ∀ q, free q → A0 q) (hL : ∀ q ∈ L, free q.base) (hF : va_F A1 st₀ t) :
    H.size ≤ T'.heap.size ∧ (∀ q : Nat, q < H.size → ¬ A1 q → T'.heap[q]? = H[q]?) ∧ va_S A0 H0 T'.heap (locs ++ L) := by
  obtain ⟨hz, hk⟩ := hF
  rw [h0] at hz hk
  exact ⟨by rw [e1]; exact hz, fun q h1 h2 => by rw [e1]; exact hk q h1 h2,
    ⟨Nat.le_trans hS.1 (by rw [e1]; exact hz), fun q h1 h2 => by rw [e1, hk q (Nat.lt_of_lt_of_le h1 hS.1) (fun z => h2 (hA q (Nat.lt_of_lt_of_le h1 hS.1) z))]; exact hS.2.1 q h1 h2, fun q hq => by
      rcases List.mem_append.mp hq with h | h
      · exact hS.2.2 q h
      · exact hf _ (hL q h)⟩⟩
theorem vx_calli {S SX : Type} {post : Int32 → S → Prop} {px : SX → Prop} {B : S → State → Prop} {BX : String → SX → State → Prop} {AX : Nat → Prop} (hr : vx_Run p l e R s m args below meth c H locs cells slots mc ms (F0 m pc ls st0) rest (va_Qi post B A1 a) (vx_X px BX AX) free) (hS : va_S A0 H0 H locs) (hA : ∀ q, q < H.size → A1 q → A0 q) (hf : ∀ q, free q → A0 q) (hAX : ∀ q, q < H.size → AX q → A0 q)
    (kx : ∀ (E : String) (ce : Cell) (q9 : Addr) (u : SX) (t : State) (H1 : Heap) (locs1 : List Loc), t.heap = H1 → s.vm.Alike t.vm → px u → BX E u t → H.size ≤ H1.size → (∀ q : Nat, q < H.size → ¬ AX q → H1[q]? = H[q]?) → va_S A0 H0 H1 locs1 → H1[q9]? = some ce → ce.vm = .none → s.vm.findClass E = some ce.cls → vx_W p l e R s m args below meth c H1 locs1 (cells + mc) (slots + ms) Q (F0 m pc ls rest) q9)
    (kk : ∀ (r : Int32) (u : S) (t : State) (H1 : Heap) (locs1 : List Loc), t.heap = H1 → s.vm.Alike t.vm → post r u → B u t → H.size ≤ H1.size → (∀ q : Nat, q < H.size → ¬ A1 q → H1[q]? = H[q]?) → va_S A0 H0 H1 locs1 → W p l e R s m args below meth c H1 locs1 (cells + mc) (slots + ms) Q (F0 m (pc + 3) ls (.int r :: rest))) : W p l e R s m args below meth c H locs cells slots Q (F0 m pc ls st0) := by
  intro T hT X
  rcases hr T hT X with ⟨v, st₀, t, T', L, h0, X', hL, e1, e2, ⟨⟨r, u, hv, hp, hb⟩, hF⟩, st⟩ | ⟨q, st₀, t, T', L, E, ce, h0, X', hL, e1, e2, ⟨u, hp, hb, hF⟩, hce, hcv, hcl, st⟩
  · cases hv
    obtain ⟨k1, k2, k3⟩ := vx_keep h0 e1 hS hA hf hL hF
    obtain ⟨t2, a1, b1⟩ := kk r u t T'.heap (locs ++ L) e1.symm (by rw [← e2]; exact X'.warmed.alike) hp hb k1 k2 k3 T' rfl X'
    exact ⟨t2, st t2 a1, b1⟩
  · obtain ⟨k1, k2, k3⟩ := vx_keep h0 e1 hS hAX hf hL hF
    obtain ⟨t2, a1, b1⟩ := kx E ce q u t T'.heap (locs ++ L) e1.symm (by rw [← e2]; exact X'.warmed.alike) hp hb k1 k2 k3 (by rw [e1]; exact hce) hcv hcl T' rfl X'
    exact ⟨t2, st.trans a1, b1⟩
theorem vx_calll {S SX : Type} {post : Int64 → S → Prop} {px : SX → Prop} {B : S → State → Prop} {BX : String → SX → State → Prop} {AX : Nat → Prop} (hr : vx_Run p l e R s m args below meth c H locs cells slots mc ms (F0 m pc ls st0) rest (va_Ql post B A1 a) (vx_X px BX AX) free) (hS : va_S A0 H0 H locs) (hA : ∀ q, q < H.size → A1 q → A0 q) (hf : ∀ q, free q → A0 q) (hAX : ∀ q, q < H.size → AX q → A0 q)
    (kx : ∀ (E : String) (ce : Cell) (q9 : Addr) (u : SX) (t : State) (H1 : Heap) (locs1 : List Loc), t.heap = H1 → s.vm.Alike t.vm → px u → BX E u t → H.size ≤ H1.size → (∀ q : Nat, q < H.size → ¬ AX q → H1[q]? = H[q]?) → va_S A0 H0 H1 locs1 → H1[q9]? = some ce → ce.vm = .none → s.vm.findClass E = some ce.cls → vx_W p l e R s m args below meth c H1 locs1 (cells + mc) (slots + ms) Q (F0 m pc ls rest) q9)
    (kk : ∀ (r : Int64) (u : S) (t : State) (H1 : Heap) (locs1 : List Loc), t.heap = H1 → s.vm.Alike t.vm → post r u → B u t → H.size ≤ H1.size → (∀ q : Nat, q < H.size → ¬ A1 q → H1[q]? = H[q]?) → va_S A0 H0 H1 locs1 → W p l e R s m args below meth c H1 locs1 (cells + mc) (slots + ms) Q (F0 m (pc + 3) ls (.long r :: rest))) : W p l e R s m args below meth c H locs cells slots Q (F0 m pc ls st0) := by
  intro T hT X
  rcases hr T hT X with ⟨v, st₀, t, T', L, h0, X', hL, e1, e2, ⟨⟨r, u, hv, hp, hb⟩, hF⟩, st⟩ | ⟨q, st₀, t, T', L, E, ce, h0, X', hL, e1, e2, ⟨u, hp, hb, hF⟩, hce, hcv, hcl, st⟩
  · cases hv
    obtain ⟨k1, k2, k3⟩ := vx_keep h0 e1 hS hA hf hL hF
    obtain ⟨t2, a1, b1⟩ := kk r u t T'.heap (locs ++ L) e1.symm (by rw [← e2]; exact X'.warmed.alike) hp hb k1 k2 k3 T' rfl X'
    exact ⟨t2, st t2 a1, b1⟩
  · obtain ⟨k1, k2, k3⟩ := vx_keep h0 e1 hS hAX hf hL hF
    obtain ⟨t2, a1, b1⟩ := kx E ce q u t T'.heap (locs ++ L) e1.symm (by rw [← e2]; exact X'.warmed.alike) hp hb k1 k2 k3 (by rw [e1]; exact hce) hcv hcl T' rfl X'
    exact ⟨t2, st.trans a1, b1⟩
theorem vx_callf {S SX : Type} {post : UInt32 → S → Prop} {px : SX → Prop} {B : S → State → Prop} {BX : String → SX → State → Prop} {AX : Nat → Prop} (hr : vx_Run p l e R s m args below meth c H locs cells slots mc ms (F0 m pc ls st0) rest (va_Qf post B A1 a) (vx_X px BX AX) free) (hS : va_S A0 H0 H locs) (hA : ∀ q, q < H.size → A1 q → A0 q) (hf : ∀ q, free q → A0 q) (hAX : ∀ q, q < H.size → AX q → A0 q)
    (kx : ∀ (E : String) (ce : Cell) (q9 : Addr) (u : SX) (t : State) (H1 : Heap) (locs1 : List Loc), t.heap = H1 → s.vm.Alike t.vm → px u → BX E u t → H.size ≤ H1.size → (∀ q : Nat, q < H.size → ¬ AX q → H1[q]? = H[q]?) → va_S A0 H0 H1 locs1 → H1[q9]? = some ce → ce.vm = .none → s.vm.findClass E = some ce.cls → vx_W p l e R s m args below meth c H1 locs1 (cells + mc) (slots + ms) Q (F0 m pc ls rest) q9)
    (kk : ∀ (r : UInt32) (u : S) (t : State) (H1 : Heap) (locs1 : List Loc), t.heap = H1 → s.vm.Alike t.vm → post r u → B u t → H.size ≤ H1.size → (∀ q : Nat, q < H.size → ¬ A1 q → H1[q]? = H[q]?) → va_S A0 H0 H1 locs1 → W p l e R s m args below meth c H1 locs1 (cells + mc) (slots + ms) Q (F0 m (pc + 3) ls (.float r :: rest))) : W p l e R s m args below meth c H locs cells slots Q (F0 m pc ls st0) := by
  intro T hT X
  rcases hr T hT X with ⟨v, st₀, t, T', L, h0, X', hL, e1, e2, ⟨⟨r, u, hv, hp, hb⟩, hF⟩, st⟩ | ⟨q, st₀, t, T', L, E, ce, h0, X', hL, e1, e2, ⟨u, hp, hb, hF⟩, hce, hcv, hcl, st⟩
  · cases hv
    obtain ⟨k1, k2, k3⟩ := vx_keep h0 e1 hS hA hf hL hF
    obtain ⟨t2, a1, b1⟩ := kk r u t T'.heap (locs ++ L) e1.symm (by rw [← e2]; exact X'.warmed.alike) hp hb k1 k2 k3 T' rfl X'
    exact ⟨t2, st t2 a1, b1⟩
  · obtain ⟨k1, k2, k3⟩ := vx_keep h0 e1 hS hAX hf hL hF
    obtain ⟨t2, a1, b1⟩ := kx E ce q u t T'.heap (locs ++ L) e1.symm (by rw [← e2]; exact X'.warmed.alike) hp hb k1 k2 k3 (by rw [e1]; exact hce) hcv hcl T' rfl X'
    exact ⟨t2, st.trans a1, b1⟩
theorem vx_calld {S SX : Type} {post : UInt64 → S → Prop} {px : SX → Prop} {B : S → State → Prop} {BX : String → SX → State → Prop} {AX : Nat → Prop} (hr : vx_Run p l e R s m args below meth c H locs cells slots mc ms (F0 m pc ls st0) rest (va_Qd post B A1 a) (vx_X px BX AX) free) (hS : va_S A0 H0 H locs) (hA : ∀ q, q < H.size → A1 q → A0 q) (hf : ∀ q, free q → A0 q) (hAX : ∀ q, q < H.size → AX q → A0 q)
    (kx : ∀ (E : String) (ce : Cell) (q9 : Addr) (u : SX) (t : State) (H1 : Heap) (locs1 : List Loc), t.heap = H1 → s.vm.Alike t.vm → px u → BX E u t → H.size ≤ H1.size → (∀ q : Nat, q < H.size → ¬ AX q → H1[q]? = H[q]?) → va_S A0 H0 H1 locs1 → H1[q9]? = some ce → ce.vm = .none → s.vm.findClass E = some ce.cls → vx_W p l e R s m args below meth c H1 locs1 (cells + mc) (slots + ms) Q (F0 m pc ls rest) q9)
    (kk : ∀ (r : UInt64) (u : S) (t : State) (H1 : Heap) (locs1 : List Loc), t.heap = H1 → s.vm.Alike t.vm → post r u → B u t → H.size ≤ H1.size → (∀ q : Nat, q < H.size → ¬ A1 q → H1[q]? = H[q]?) → va_S A0 H0 H1 locs1 → W p l e R s m args below meth c H1 locs1 (cells + mc) (slots + ms) Q (F0 m (pc + 3) ls (.double r :: rest))) : W p l e R s m args below meth c H locs cells slots Q (F0 m pc ls st0) := by
  intro T hT X
  rcases hr T hT X with ⟨v, st₀, t, T', L, h0, X', hL, e1, e2, ⟨⟨r, u, hv, hp, hb⟩, hF⟩, st⟩ | ⟨q, st₀, t, T', L, E, ce, h0, X', hL, e1, e2, ⟨u, hp, hb, hF⟩, hce, hcv, hcl, st⟩
  · cases hv
    obtain ⟨k1, k2, k3⟩ := vx_keep h0 e1 hS hA hf hL hF
    obtain ⟨t2, a1, b1⟩ := kk r u t T'.heap (locs ++ L) e1.symm (by rw [← e2]; exact X'.warmed.alike) hp hb k1 k2 k3 T' rfl X'
    exact ⟨t2, st t2 a1, b1⟩
  · obtain ⟨k1, k2, k3⟩ := vx_keep h0 e1 hS hAX hf hL hF
    obtain ⟨t2, a1, b1⟩ := kx E ce q u t T'.heap (locs ++ L) e1.symm (by rw [← e2]; exact X'.warmed.alike) hp hb k1 k2 k3 (by rw [e1]; exact hce) hcv hcl T' rfl X'
    exact ⟨t2, st.trans a1, b1⟩
theorem vx_callv {S SX : Type} {post : S → Prop} {px : SX → Prop} {B : S → State → Prop} {BX : String → SX → State → Prop} {AX : Nat → Prop} (hr : vx_Run p l e R s m args below meth c H locs cells slots mc ms (F0 m pc ls st0) rest (va_Qv post B A1 a) (vx_X px BX AX) free) (hS : va_S A0 H0 H locs) (hA : ∀ q, q < H.size → A1 q → A0 q) (hf : ∀ q, free q → A0 q) (hAX : ∀ q, q < H.size → AX q → A0 q)
    (kx : ∀ (E : String) (ce : Cell) (q9 : Addr) (u : SX) (t : State) (H1 : Heap) (locs1 : List Loc), t.heap = H1 → s.vm.Alike t.vm → px u → BX E u t → H.size ≤ H1.size → (∀ q : Nat, q < H.size → ¬ AX q → H1[q]? = H[q]?) → va_S A0 H0 H1 locs1 → H1[q9]? = some ce → ce.vm = .none → s.vm.findClass E = some ce.cls → vx_W p l e R s m args below meth c H1 locs1 (cells + mc) (slots + ms) Q (F0 m pc ls rest) q9)
    (kk : ∀ (u : S) (t : State) (H1 : Heap) (locs1 : List Loc), t.heap = H1 → s.vm.Alike t.vm → post u → B u t → H.size ≤ H1.size → (∀ q : Nat, q < H.size → ¬ A1 q → H1[q]? = H[q]?) → va_S A0 H0 H1 locs1 → W p l e R s m args below meth c H1 locs1 (cells + mc) (slots + ms) Q (F0 m (pc + 3) ls (rest))) : W p l e R s m args below meth c H locs cells slots Q (F0 m pc ls st0) := by
  intro T hT X
  rcases hr T hT X with ⟨v, st₀, t, T', L, h0, X', hL, e1, e2, ⟨⟨u, hv, hp, hb⟩, hF⟩, st⟩ | ⟨q, st₀, t, T', L, E, ce, h0, X', hL, e1, e2, ⟨u, hp, hb, hF⟩, hce, hcv, hcl, st⟩
  · cases hv
    obtain ⟨k1, k2, k3⟩ := vx_keep h0 e1 hS hA hf hL hF
    obtain ⟨t2, a1, b1⟩ := kk u t T'.heap (locs ++ L) e1.symm (by rw [← e2]; exact X'.warmed.alike) hp hb k1 k2 k3 T' rfl X'
    exact ⟨t2, st t2 a1, b1⟩
  · obtain ⟨k1, k2, k3⟩ := vx_keep h0 e1 hS hAX hf hL hF
    obtain ⟨t2, a1, b1⟩ := kx E ce q u t T'.heap (locs ++ L) e1.symm (by rw [← e2]; exact X'.warmed.alike) hp hb k1 k2 k3 (by rw [e1]; exact hce) hcv hcl T' rfl X'
    exact ⟨t2, st.trans a1, b1⟩
/-- caught by the row x of this method's table; the rows ahead don't take it -/
theorem vx_catch {own name : String} {E : String} {ce : Cell} {q : Addr} (hown : s.vm.findClass own = some m.cls) (pre : List ExceptionTableEntry) (x : ExceptionTableEntry) (suf : List ExceptionTableEntry) (hsplit : c.exceptionTable.toList = pre ++ x :: suf)
    (hpass : ∀ z ∈ pre, covers z pc = false ∨ (z.catchType ≠ 0 ∧ ∃ nm : String, (Cond.classLink own z.catchType nm).before args s = true ∧ va_Nc E nm s)) (hx : covers x pc = true) (h0 : x.catchType ≠ 0)
    (hlink : (Cond.classLink own x.catchType name).before args s = true) (hcast : (Cond.castable E name).before args s = true) (hcell : H[q]? = some ce) (hv : ce.vm = .none) (hcl : s.vm.findClass E = some ce.cls)
    (kk : W p l e R s m args below meth c H locs cells slots Q (F0 m x.handlerPc ls [.ref q])) : vx_W p l e R s m args below meth c H locs cells slots Q (F0 m pc ls rest) q := by
  intro T hT X
  have hpl : e.platform.magicAccessors = ({} : Platform).magicAccessors := by rw [X.admits.platform]
  obtain ⟨c3, c4, hc3, hc4, hasg⟩ := Cond.castable_spec hcast
  cases Option.some.inj (hc3.symm.trans hcl)
  obtain ⟨c5, hc5, hcl5⟩ := Cond.classLink_spec hown hlink e.platform hpl
  cases Option.some.inj (hc4.symm.trans hc5)
  obtain ⟨vm', X', st⟩ := X.thenCaughtThrough q (g := F0 m pc ls rest) rfl (Steps.refl _) (by rw [hT]; exact hcell) (by rw [hv]; rfl) (by obtain ⟨k9, h9, -⟩ := Vm.findClass_spec hcl; exact ⟨k9, h9⟩) pre x suf hsplit
    (fun z hz => by
      rcases hpass z hz with h | ⟨hz0, nm, hl1, hn1⟩
      · exact Or.inl h
      · obtain ⟨c6, hc6, hcl6⟩ := Cond.classLink_spec hown hl1 e.platform hpl
        obtain ⟨a8, b8, h1, h2, h3⟩ := hn1
        cases Option.some.inj (h1.symm.trans hcl)
        cases Option.some.inj (h2.symm.trans hc6)
        exact Or.inr ⟨hz0, _, hcl6, h3⟩) hx (Or.inr ⟨h0, c4, hcl5, hasg⟩)
  obtain ⟨t, a1, b1⟩ := kk (T.setVm vm') hT X'
  exact ⟨t, st.trans a1, b1⟩
end Rows
section Ends
variable {p : Program} {l : Launch} {e : Env} {R : Room} {s : State} {m : MethodId} {args : Array Value} {below : List Frame} {meth : Method} {c : Code} {H : Heap} {locs : List Loc} {cells slots : Nat} {Q : State → Prop}
variable {mc ms : Nat} {free : Addr → Prop} {A0 A1 : Nat → Prop} {H0 : Heap} {a : Array Value} {ls : Array Slot} {st0 rest : List Value}
variable {Qc : Array Value → State → Outcome → State → Prop} {XC : String → State → State → Prop}
/-- what a body that may throw owes at its end -/
def vx_MQ (below : List Frame) (Qc : Array Value → State → Outcome → State → Prop) (XC : String → State → State → Prop) (a : Array Value) (s : State) (mc ms : Nat) (free : Addr → Prop) : State → Prop := fun t =>
  ∃ o, t.status = .running ∧ Ended t below o ∧ vx_Q Qc XC mc ms free a s o t
theorem vx_ret {g : JFrame} {mc ms : Nat} (k : W p l e R s m args below meth c H locs cells slots (MQ below Qc args s mc ms free) g) : W p l e R s m args below meth c H locs cells slots (vx_MQ below Qc XC args s mc ms free) g := by
  intro T hT X
  obtain ⟨t, a1, o, b1, b2, b3, b4⟩ := k T hT X
  exact ⟨t, a1, o, b1, b2, Or.inl ⟨b3, b4⟩⟩
/-- not caught here: it goes on to the caller -/
theorem vx_widen {g : JFrame} {q : Addr} {k n : Nat} (h1 : cells ≤ k) (h2 : slots ≤ n) (kk : vx_W p l e R s m args below meth c H locs k n Q g q) : vx_W p l e R s m args below meth c H locs cells slots Q g q := fun T hT X => kk T hT (stand_widen X h1 h2)
theorem vx_out {pc : Nat} {E : String} {ce : Cell} {q : Addr} {mc ms : Nat} (hout : ∀ x ∈ c.exceptionTable.toList, covers x pc = false) (hlocks : meth.locks = false) (hcell : H[q]? = some ce) (hv : ce.vm = .none) (hcl : s.vm.findClass E = some ce.cls)
    (hx : ∀ t : State, t.heap = H → s.vm.Alike t.vm → XC E s t) (hf : ∀ z ∈ locs, free z.base) (hc : cells ≤ mc) (hs : slots ≤ ms) :
    vx_W p l e R s m args below meth c H locs cells slots (vx_MQ below Qc XC args s mc ms free) (F0 m pc ls rest) q := by
  intro T hT X
  obtain ⟨st1, hrun, hend, hW, hsm⟩ := X.leaveThrown q (g := F0 m pc ls rest) rfl rfl rfl hout hlocks
  have hcell9 : (T.setFrames (.throwing q :: below)).heap[q]? = some ce := by
    show T.heap[q]? = some ce
    rw [hT]; exact hcell
  exact ⟨_, st1, .threw q, hrun, hend, Or.inr ⟨q, rfl, E, ce, locs, hx _ hT hW.alike, hcell9, hv, hcl, hW, hsm.mono hc hs, hf⟩⟩
theorem vx_frame {U : State} {k n : Nat} (h : s.sameButNew ({ U with vm := s.vm } : State) locs k n) : s.heap.size ≤ U.heap.size ∧ ∀ q : Nat, q < s.heap.size → (∀ z ∈ locs, z.base ≠ q) → U.heap[q]? = s.heap[q]? := by
  obtain ⟨-, h2, -, -, -, h6⟩ := h
  refine ⟨h2, fun q hq hz => ?_⟩
  obtain ⟨c9, e1, e2, e3, e4⟩ := h6 q _ (Array.getElem?_eq_getElem hq)
  have hs : c9.slots = (s.heap[q]).slots := Array.ext_getElem? fun i => e4 i fun hm => hz _ hm rfl
  have h9 : c9 = s.heap[q] := by
    rw [hs] at e2
    exact e2
  have e5 : U.heap[q]? = some c9 := e1
  rw [e5, h9, Array.getElem?_eq_getElem hq]
/-- the words of a throw but the four that speak of the heap -/
def vx_no (w : Cond) : Bool := decide (w ≠ .isRef (.static Bundle.tN "UNASSIGNED_STACK" Bundle.steD)) && decide (w ≠ .isRef (.static Bundle.tN "SUPPRESSED_SENTINEL" Bundle.listD)) && decide (w ≠ .laysStatic Bundle.tN "UNASSIGNED_STACK" Bundle.steD) && decide (w ≠ .laysStatic Bundle.tN "SUPPRESSED_SENTINEL" Bundle.listD)
def vx_at0 (own : String) (ic : Nat) (X : String) (names : List String) : List Cond := (Bundle.ownAtoms0 own ic X names).filter vx_no
def vx_atS (own : String) (ic : Nat) (X : String) (names : List String) : List Cond := (Bundle.ownAtoms own ic X names).filter vx_no
/-- a word that the tables alone decide, or a good one -/
def vx_ot (w : Cond) : Bool := w.onTables || goodWord w
theorem vx_ot_at {args a' : Array Value} {s U : State} {w : Cond} (hW : s.WarmedH U.vm) (hvm : s.vm = U.vm) (hg : vx_ot w = true) (h : w.before args s = true) : w.before a' U = true := by
  simp only [vx_ot, Bool.or_eq_true] at hg
  rcases hg with hg | hg
  · exact va_tabs hg hvm h
  · exact word_at hW (good_of_word hg) h
/-- a list's words: the good ones out of the method's own list, the others by premises of their own -/
theorem vx_hat {args : Array Value} {s : State} {L B : List Cond} (h1 : ∀ w ∈ L.filter goodWord, w.before args s = true) (h2 : ∀ w ∈ L.filter (fun w => !goodWord w), w ∈ B) (h3 : ∀ w ∈ B, w.before args s = true) : ∀ w ∈ L, w.before args s = true := by
  intro w hw
  by_cases g : goodWord w = true
  · exact h1 w (List.mem_filter.mpr ⟨hw, g⟩)
  · refine h3 w (h2 w (List.mem_filter.mpr ⟨hw, ?_⟩))
    show (!goodWord w) = true
    cases hgw : goodWord w
    · rfl
    · exact absurd hgw g
theorem vx_c {args : Array Value} {s : State} {w : Cond} {B : List Cond} (h : w.before args s = true) (t : ∀ w ∈ B, w.before args s = true) : ∀ w' ∈ w :: B, w'.before args s = true := fun w' h' => (List.mem_cons.mp h').elim (fun e => by rw [e]; exact h) (t w')
theorem vx_n {args : Array Value} {s : State} : ∀ w ∈ ([] : List Cond), w.before args s = true := fun _ h => nomatch h
theorem vx_own {args : Array Value} {s : State} {L : List Cond} (h1 : ∀ w ∈ L.filter vx_no, w.before args s = true)
    (hU : (Cond.isRef (.static Bundle.tN "UNASSIGNED_STACK" Bundle.steD)).before args s = true) (hN : (Cond.isRef (.static Bundle.tN "SUPPRESSED_SENTINEL" Bundle.listD)).before args s = true)
    (lU : (Cond.laysStatic Bundle.tN "UNASSIGNED_STACK" Bundle.steD).before args s = true) (lN : (Cond.laysStatic Bundle.tN "SUPPRESSED_SENTINEL" Bundle.listD).before args s = true) : ∀ w ∈ L, w.before args s = true := by
  intro w hw
  by_cases e1 : w = .isRef (.static Bundle.tN "UNASSIGNED_STACK" Bundle.steD)
  · rw [e1]; exact hU
  · by_cases e2 : w = .isRef (.static Bundle.tN "SUPPRESSED_SENTINEL" Bundle.listD)
    · rw [e2]; exact hN
    · by_cases e3 : w = .laysStatic Bundle.tN "UNASSIGNED_STACK" Bundle.steD
      · rw [e3]; exact lU
      · by_cases e4 : w = .laysStatic Bundle.tN "SUPPRESSED_SENTINEL" Bundle.listD
        · rw [e4]; exact lN
        · exact h1 w (List.mem_filter.mpr ⟨hw, by unfold vx_no; rw [decide_eq_true e1, decide_eq_true e2, decide_eq_true e3, decide_eq_true e4]; rfl⟩)
/-- where a static field lies, its class's statics cell in H -/
def vx_L (C n d : String) (A : Nat → Prop) (U : State) (H : Heap) : Prop := ∃ (c : ClassId) (k : Class) (i : Nat) (f : Field) (a : Nat) (cell : Cell), U.vm.findClass C = some c ∧ U.fieldFound? C n d = some (c, k, i, f) ∧ f.isStatic = true ∧ k.statics = some a ∧ H[a]? = some cell ∧ cell.vm.isStatics = true ∧ cell.cls = c ∧ f.slot < cell.slots.size ∧ k.staticTypes[f.slot]? = some f.type ∧ ¬ A a
theorem vx_L.moved {C n d : String} {A : Nat → Prop} {u U : State} {H : Heap} (hvm : u.vm.Alike U.vm) (h : vx_L C n d A u H) : vx_L C n d A U H := by
  obtain ⟨c, k, i, f, a, cell, h1, h2, h3, h4, h5, h6, h7, h8, h9, h10⟩ := h
  obtain ⟨k', hi', he⟩ := State.fieldFound?_setVm hvm h2
  exact ⟨c, k', i, f, a, cell, by rw [hvm.findClass]; exact h1, hi', h3, by rw [he]; exact h4, h5, h6, h7, h8, by rw [he]; exact h9, h10⟩
theorem vx_L.kept {C n d : String} {A : Nat → Prop} {U : State} {H H1 : Heap} (h : vx_L C n d A U H) (hq : ∀ a : Nat, a < H.size → ¬ A a → H1[a]? = H[a]?) : vx_L C n d A U H1 := by
  obtain ⟨c, k, i, f, a, cell, h1, h2, h3, h4, h5, h6, h7, h8, h9, h10⟩ := h
  exact ⟨c, k, i, f, a, cell, h1, h2, h3, h4, by rw [hq a (Array.getElem?_eq_some_iff.mp h5).1 h10]; exact h5, h6, h7, h8, h9, h10⟩
theorem vx_L.narrow {C n d : String} {A B : Nat → Prop} {U : State} {H : Heap} (h : vx_L C n d A U H) (hAB : ∀ q, B q → A q) : vx_L C n d B U H := by
  obtain ⟨c, k, i, f, a, cell, h1, h2, h3, h4, h5, h6, h7, h8, h9, h10⟩ := h
  exact ⟨c, k, i, f, a, cell, h1, h2, h3, h4, h5, h6, h7, h8, h9, fun z => h10 (hAB _ z)⟩
theorem vx_L.word {C n d : String} {A : Nat → Prop} {s : State} {args : Array Value} (h : vx_L C n d A s s.heap) : (Cond.laysStatic C n d).before args s = true := by
  obtain ⟨c, k, i, f, a, cell, h1, h2, h3, h4, h5, h6, h7, h8, h9, -⟩ := h
  show (Cond.laysStatic C n d).holds args s none s [] = true
  exact Cond.laysStatic_of h1 h2 h3 h4 h5 h6 h7 h8 h9
/-- .. and what it holds: null or some reference -/
def vx_Zq (C n d : String) (A : Nat → Prop) (U : State) (H : Heap) : Prop := va_Zq C n d A U H ∧ vx_L C n d A U H
theorem vx_Zq.moved {C n d : String} {A : Nat → Prop} {u U : State} {H : Heap} (hvm : u.vm.Alike U.vm) (h : vx_Zq C n d A u H) : vx_Zq C n d A U H := ⟨va_Zq.moved hvm h.1, vx_L.moved hvm h.2⟩
theorem vx_Zq.kept {C n d : String} {A : Nat → Prop} {U : State} {H H1 : Heap} (h : vx_Zq C n d A U H) (hq : ∀ a : Nat, a < H.size → ¬ A a → H1[a]? = H[a]?) : vx_Zq C n d A U H1 := ⟨va_Zq.kept h.1 hq, vx_L.kept h.2 hq⟩
theorem vx_Zq.narrow {C n d : String} {A B : Nat → Prop} {U : State} {H : Heap} (h : vx_Zq C n d A U H) (hAB : ∀ q, B q → A q) : vx_Zq C n d B U H := ⟨va_Zq.narrow h.1 hAB, vx_L.narrow h.2 hAB⟩
theorem vx_Zqof {args : Array Value} {s : State} {C n d : String} {A : Nat → Prop} (hl : (Cond.laysStatic C n d).before args s = true) (hini : (Cond.initialized C).before args s = true) (h : (Cond.isRef (.static C n d)).before args s = true) (hA : ∀ a : Nat, a < s.heap.size → ¬ A a) : vx_Zq C n d A s s.heap := by
  refine ⟨va_Zqof hl hini h hA, ?_⟩
  obtain ⟨c, k, i, f, a, cell, h1, h2, h3, h4, h5, h6, h7, h8, h9⟩ := Cond.laysStatic_spec hl
  exact ⟨c, k, i, f, a, cell, h1, h2, h3, h4, h5, h6, h7, h8, h9, hA a (Array.getElem?_eq_some_iff.mp h5).1⟩
theorem vx_isRef {C n d : String} {v : Value} {A : Nat → Prop} {s : State} {args : Array Value} (h : va_Z C n d v A s s.heap) (hv : v.isRef = true) : (Cond.isRef (.static C n d)).before args s = true := by
  obtain ⟨cf, kf, fi, f, a, cell, h1, h2, h3, h4, h5, h6, h7, -⟩ := h
  have he : (Term.static C n d).eval args s none [] s = some v := by
    simp [Term.eval, State.fieldNamed?, h1, h2, h4, h5, h6, h7]
  simp only [Cond.before, Cond.holds, Cond.value, he]
  cases v <;> simp_all [Value.isRef]
theorem vx_isRefq {C n d : String} {A : Nat → Prop} {s : State} {args : Array Value} (h : va_Zq C n d A s s.heap) : (Cond.isRef (.static C n d)).before args s = true := by
  rcases h with h | ⟨t, h⟩
  · exact vx_isRef h rfl
  · exact vx_isRef h rfl
/-- the same frame, seen from here: as if the method were called anew in this heap -/
theorem vx_rebase {T : State} (X : Stand p l e R s m args below meth c T locs cells slots) {R' : Room} (hf : R'.frames ≤ R.frames) (hl : R'.locals ≤ R.locals) (hc : cells + R'.cells ≤ R.cells) (hs : slots + R'.slots ≤ R.slots) :
    Stand p l e R' ((T.setVm s.vm).setFrames (.invoking m args :: below)) m args below meth c T [] 0 0 := by
  have htop : (T.setVm s.vm).topJava?.isSome := X.here.top
  have hF : ((T.setVm s.vm).setFrames (.invoking m args :: below)).frames = .invoking m args :: below := State.frames_setFrames _ (State.cur_lt_of_top htop)
  obtain ⟨g₀, hg0⟩ := Option.isSome_iff_exists.mp htop
  obtain ⟨r, hr⟩ := State.topJava?_eq_some.mp hg0
  have hl9 : e.platform.stackLimits (T.setVm s.vm).me = e.platform.stackLimits s.me := X.limits
  have hb9 : (T.setVm s.vm).me.stackBytes = s.me.stackBytes := X.bytes
  refine ⟨X.admits, X.cas, X.clock, hF, ?_, X.hears, X.method, X.code, X.here, X.tail, X.warmed, ?_, ?_, ?_⟩
  · have h := X.room
    have hU : ((T.setVm s.vm).setFrames (.invoking m args :: below)).localsInUse = s.localsInUse := by
      rw [State.localsInUse_invoking hF (meth := meth) (c := c) X.method X.code, State.localsInUse_invoking X.frames X.method X.code]
    simp only [State.hasRoom, Bool.and_eq_true, decide_eq_true_eq] at h ⊢
    obtain ⟨⟨⟨⟨h1, h2, h3, h4, h5, h6⟩, h7⟩, h8⟩, h9⟩ := h
    rw [X.frames, List.length_cons] at h2 h3
    have q1 := X.heapSize
    have q2 := X.used
    simp only [hF, hU, List.length_cons, State.stackLimits_setFrames, State.stackBytes_setFrames, hl9, hb9]
    refine ⟨⟨⟨⟨by omega, by omega, by omega, by omega, by omega, h6⟩, ?_⟩, ?_⟩, X.book⟩
    · show T.heap.size + R'.cells ≤ e.platform.maxCells
      omega
    · show T.slotsUsed + R'.slots ≤ e.platform.maxSlots
      omega
  · rw [State.stackLimits_setFrames]; rfl
  · rw [State.stackBytes_setFrames]; rfl
  · refine ⟨?_, Nat.le_refl _, Nat.le_refl _, ?_, ?_, fun a c9 h9 => ⟨c9, h9, rfl, rfl, fun _ _ => rfl⟩⟩
    · obtain ⟨t, ht, -⟩ := State.frames_cons hr
      show T.setVm s.vm = { ((T.setVm s.vm).setFrames (.invoking m args :: below)).setFrames (T.setVm s.vm).frames with heap := T.heap, slotsUsed := T.slotsUsed }
      rw [State.setFrames_setFrames, State.setFrames_self ht]
      rfl
    · show T.slotsUsed = T.slotsUsed + ((T.heap.toList.drop T.heap.size).map (·.slots.size)).sum
      rw [List.drop_eq_nil_of_le (Nat.le_of_eq Array.length_toList)]
      rfl
    · show ((T.heap.toList.drop T.heap.size).map (·.slots.size)).sum ≤ 0
      rw [List.drop_eq_nil_of_le (Nat.le_of_eq Array.length_toList)]
      exact Nat.le_refl _
/-- 'throw new E()': new; dup; invokespecial; athrow -/
theorem vx_throw0 {cc : ByteArray} {pc : Nat} (hexec : p.tables.exec = Jvm.exec) (hb : c.code = cc) (hl : l.stackTraces = false) {own cls : String} {names : List String} {ik ic mc ms : Nat} {A : Nat → Prop}
    (hown : s.vm.findClass own = some m.cls) (hcls : Bundle.fit cls = true) (hnames : ∀ n ∈ names, Bundle.fit n = true)
    (hk : (Cond.classLink own ik cls).before args s = true) (hini : (Cond.initialized cls).before args s = true) (hat : ∀ w ∈ vx_at0 own ic cls names, w.before args s = true)
    (hgood : ∀ w ∈ Cond.classLink own ik cls :: Cond.initialized cls :: vx_at0 own ic cls names, vx_ot w = true)
    (hU : vx_Zq Bundle.tN "UNASSIGNED_STACK" Bundle.steD A s s.heap) (hN : vx_Zq Bundle.tN "SUPPRESSED_SENTINEL" Bundle.listD A s s.heap) (hS : va_S A s.heap H locs) (hsize : ls.size = c.maxLocals)
    (d0 : decode cc pc = .ok (.new ik, 3)) (d3 : decode cc (pc + 3) = .ok (.dup, 1)) (d4 : decode cc (pc + 4) = .ok (.invokespecial ic, 3)) (d7 : decode cc (pc + 7) = .ok (.athrow, 1))
    (hout : ∀ x ∈ c.exceptionTable.toList, covers x (pc + 7) = false)
    (hRframes : names.length + 3 < R.frames) (hRlocals : (rest.map fun v => v.category).sum + (13 * (names.length + 1) + 42) ≤ R.locals) (hRcells : cells + 1 ≤ R.cells) (hRslots : slots + 6 ≤ R.slots) (hlocks : meth.locks = false)
    (hx : ∀ t : State, s.vm.Alike t.vm → H.size ≤ t.heap.size → (∀ q : Nat, q < H.size → t.heap[q]? = H[q]?) → XC cls s t)
    (hf : ∀ z ∈ locs, free z.base) (hc : cells + 1 ≤ mc) (hs : slots + 6 ≤ ms) :
    W p l e R s m args below meth c H locs cells slots (vx_MQ below Qc XC args s mc ms free) (F0 m pc ls rest) := by
  intro T hT X
  have htr : e.platform.stackTraces = false := (show e.platform.stackTraces = l.stackTraces by rw [X.admits.platform]).trans hl
  have Y := vx_rebase X (R' := { frames := R.frames, locals := R.locals, cells := 1, slots := 6 }) (Nat.le_refl _) (Nat.le_refl _) hRcells hRslots
  obtain ⟨s', hA⟩ : ∃ z, z = (T.setVm s.vm).setFrames (.invoking m args :: below) := ⟨_, rfl⟩
  rw [← hA] at Y
  have hvm : s'.vm = s.vm := by rw [hA]; rfl
  have hhp : s'.heap = H := by rw [hA]; exact hT
  have hW0 : s.WarmedH s'.vm := by rw [hvm]; exact State.WarmedH.refl s
  have hat' : ∀ w ∈ vx_at0 own ic cls names, w.before args s' = true := fun w hw => vx_ot_at hW0 hvm.symm (hgood w (List.mem_cons_of_mem _ (List.mem_cons_of_mem _ hw))) (hat w hw)
  have hk' : (Cond.classLink own ik cls).before args s' = true := vx_ot_at hW0 hvm.symm (hgood _ List.mem_cons_self) hk
  have hini' : (Cond.initialized cls).before args s' = true := vx_ot_at hW0 hvm.symm (hgood _ (List.mem_cons_of_mem _ List.mem_cons_self)) hini
  have hU' : vx_Zq Bundle.tN "UNASSIGNED_STACK" Bundle.steD A s' s'.heap := by rw [hhp]; exact vx_Zq.moved hW0.alike (hU.kept hS.2.1)
  have hN' : vx_Zq Bundle.tN "SUPPRESSED_SENTINEL" Bundle.listD A s' s'.heap := by rw [hhp]; exact vx_Zq.moved hW0.alike (hN.kept hS.2.1)
  have h : ∀ w ∈ Bundle.ownAtoms0 own ic cls names, w.before args s' = true := vx_own hat' (vx_isRefq hU'.1) (vx_isRefq hN'.1) hU'.2.word hN'.2.word
  have hown' : s'.vm.findClass own = some m.cls := by rw [hvm]; exact hown
  have hins : (Cond.instantiable cls 6).before args s' = true := h _ (by simp [Bundle.ownAtoms0])
  obtain ⟨vm₁, cX, kX, hfX, hkX, -, -, X₁, st1⟩ := Y.newCold hexec (own := own) (C := cls) (index := ik) (n := 6) hown' hk' hins hini'
    (g := F0 m pc ls rest) rfl (by rw [hb]; exact d0) (Nat.le_refl _) (Nat.le_refl _)
  generalize hT1 : (T.setVm vm₁).pushCell { cls := cX, slots := kX.instanceTypes.map defaultValue, vm := .none } = T1 at X₁ st1
  have hcat : (Value.ref T.heap.size).category = 1 := rfl
  have hcellA : T1.heap[T.heap.size]? = some (freshCell cX kX) := by rw [← hT1]; exact State.heap_pushCell_size _ _
  have d3' : decode c.code (pc + 3) = .ok (.dup, 1) := by rw [hb]; exact d3
  obtain ⟨U, hsteps, hrun, hend, hW, hsame, ce, hce, hO⟩ := X₁.ctorThrow0 hexec htr (own := own) (cls := cls) (names := names) (ic := ic) hown' hcls hnames h (fun x hx => nomatch hx) hfX hkX hcellA (by rw [hhp, hT]; exact Nat.le_refl _)
    (g := { method := m, pc := pc + 4, locals := ls, stack := .ref T.heap.size :: .ref T.heap.size :: rest, locked := none }) rfl hsize rfl rfl (rest := rest) rfl
    (by rw [hb]; exact d4) (by rw [hb]; exact d7) hout hRframes (by simp only [List.map_cons, List.sum_cons, hcat]; omega) hlocks
  obtain ⟨f1, f2⟩ := vx_frame hsame
  rw [hhp] at f1 f2
  have hWs : s.WarmedH U.vm := State.WarmedH.trans hW0 hW
  have hcl : s.vm.findClass cls = some ce.cls := by
    have h9 := hO.cls
    rw [hvm] at h9
    exact h9
  have hall : s.sameButNew ({ U with vm := s.vm } : State) locs mc ms := by
    subst hA
    obtain ⟨e1, e2⟩ := hsame
    rw [State.setFrames_setFrames] at e1
    have h2 : (T.setVm s.vm).sameButNew ({ U with vm := s.vm } : State) [] (0 + 1) (0 + 6) := ⟨e1, e2⟩
    have h3 := X.same.trans h2
    rw [List.append_nil] at h3
    exact h3.mono hc hs
  refine ⟨U, ?_, .threw T.heap.size, hrun, hend, Or.inr ⟨T.heap.size, rfl, cls, ce, locs, hx U hWs.alike f1 (fun q hq => f2 q hq (fun z hz => nomatch hz)), hce, hO.vm, hcl, hWs, hall, hf⟩⟩
  refine st1 _ ?_
  show Steps p.tables e below (T1.setTop { method := m, pc := pc + 3, locals := ls, stack := .ref T.heap.size :: rest, locked := none }) _
  jvm_step X₁.here [X₁.here.top, hexec, d3', Value.category]
  exact hsteps
/-- 'throw new E("text")': new; dup; ldc; invokespecial; athrow -/
theorem vx_throwS {cc : ByteArray} {pc : Nat} (hexec : p.tables.exec = Jvm.exec) (hb : c.code = cc) (hl : l.stackTraces = false) {own cls text : String} {names : List String} {ik is ic mc ms sa : Nat} {A : Nat → Prop}
    (hown : s.vm.findClass own = some m.cls) (hcls : Bundle.fit cls = true) (hnames : ∀ n ∈ names, Bundle.fit n = true)
    (hk : (Cond.classLink own ik cls).before args s = true) (hini : (Cond.initialized cls).before args s = true) (hstr : vk_R own is text sa s) (hat : ∀ w ∈ vx_atS own ic cls names, w.before args s = true)
    (hgood : ∀ w ∈ Cond.classLink own ik cls :: Cond.initialized cls :: vx_atS own ic cls names, vx_ot w = true)
    (hU : vx_Zq Bundle.tN "UNASSIGNED_STACK" Bundle.steD A s s.heap) (hN : vx_Zq Bundle.tN "SUPPRESSED_SENTINEL" Bundle.listD A s s.heap) (hS : va_S A s.heap H locs) (hsize : ls.size = c.maxLocals)
    (d0 : decode cc pc = .ok (.new ik, 3)) (d3 : decode cc (pc + 3) = .ok (.dup, 1)) (d4 : decode cc (pc + 4) = .ok (.ldc is, 2)) (d6 : decode cc (pc + 6) = .ok (.invokespecial ic, 3)) (d9 : decode cc (pc + 9) = .ok (.athrow, 1))
    (hout : ∀ x ∈ c.exceptionTable.toList, covers x (pc + 9) = false)
    (hRframes : names.length + 3 < R.frames) (hRlocals : (rest.map fun v => v.category).sum + (13 * (names.length + 1) + 43) ≤ R.locals) (hRcells : cells + 1 ≤ R.cells) (hRslots : slots + 6 ≤ R.slots) (hlocks : meth.locks = false)
    (hx : ∀ t : State, s.vm.Alike t.vm → H.size ≤ t.heap.size → (∀ q : Nat, q < H.size → t.heap[q]? = H[q]?) → XC cls s t)
    (hf : ∀ z ∈ locs, free z.base) (hc : cells + 1 ≤ mc) (hs : slots + 6 ≤ ms) :
    W p l e R s m args below meth c H locs cells slots (vx_MQ below Qc XC args s mc ms free) (F0 m pc ls rest) := by
  intro T hT X
  have htr : e.platform.stackTraces = false := (show e.platform.stackTraces = l.stackTraces by rw [X.admits.platform]).trans hl
  have Y := vx_rebase X (R' := { frames := R.frames, locals := R.locals, cells := 1, slots := 6 }) (Nat.le_refl _) (Nat.le_refl _) hRcells hRslots
  obtain ⟨s', hA⟩ : ∃ z, z = (T.setVm s.vm).setFrames (.invoking m args :: below) := ⟨_, rfl⟩
  rw [← hA] at Y
  have hvm : s'.vm = s.vm := by rw [hA]; rfl
  have hhp : s'.heap = H := by rw [hA]; exact hT
  have hW0 : s.WarmedH s'.vm := by rw [hvm]; exact State.WarmedH.refl s
  have hat' : ∀ w ∈ vx_atS own ic cls names, w.before args s' = true := fun w hw => vx_ot_at hW0 hvm.symm (hgood w (List.mem_cons_of_mem _ (List.mem_cons_of_mem _ hw))) (hat w hw)
  have hk' : (Cond.classLink own ik cls).before args s' = true := vx_ot_at hW0 hvm.symm (hgood _ List.mem_cons_self) hk
  have hini' : (Cond.initialized cls).before args s' = true := vx_ot_at hW0 hvm.symm (hgood _ (List.mem_cons_of_mem _ List.mem_cons_self)) hini
  have hU' : vx_Zq Bundle.tN "UNASSIGNED_STACK" Bundle.steD A s' s'.heap := by rw [hhp]; exact vx_Zq.moved hW0.alike (hU.kept hS.2.1)
  have hN' : vx_Zq Bundle.tN "SUPPRESSED_SENTINEL" Bundle.listD A s' s'.heap := by rw [hhp]; exact vx_Zq.moved hW0.alike (hN.kept hS.2.1)
  have h : ∀ w ∈ Bundle.ownAtoms own ic cls names, w.before args s' = true := vx_own hat' (vx_isRefq hU'.1) (vx_isRefq hN'.1) hU'.2.word hN'.2.word
  have hown' : s'.vm.findClass own = some m.cls := by rw [hvm]; exact hown
  have hins : (Cond.instantiable cls 6).before args s' = true := h _ (by simp [Bundle.ownAtoms])
  obtain ⟨vm₁, cX, kX, hfX, hkX, -, -, X₁, st1⟩ := Y.newCold hexec (own := own) (C := cls) (index := ik) (n := 6) hown' hk' hins hini'
    (g := F0 m pc ls rest) rfl (by rw [hb]; exact d0) (Nat.le_refl _) (Nat.le_refl _)
  generalize hT1 : (T.setVm vm₁).pushCell { cls := cX, slots := kX.instanceTypes.map defaultValue, vm := .none } = T1 at X₁ st1
  have hcat : (Value.ref T.heap.size).category = 1 := rfl
  have hcellA : T1.heap[T.heap.size]? = some (freshCell cX kX) := by rw [← hT1]; exact State.heap_pushCell_size _ _
  have d3' : decode c.code (pc + 3) = .ok (.dup, 1) := by rw [hb]; exact d3
  have d4' : decode c.code (pc + 4) = .ok (.ldc is, 2) := by rw [hb]; exact d4
  have hstr' : vk_R own is text sa s' := vk_R.warm hW0 hstr
  obtain ⟨U, hsteps, hrun, hend, hW, hsame, ce, hce, hO⟩ := X₁.ctorThrowS hexec htr (own := own) (cls := cls) (names := names) (ic := ic) hown' hcls hnames h (fun x hx => nomatch hx) hfX hkX hcellA (by rw [hhp, hT]; exact Nat.le_refl _) (msg := .ref sa) rfl
    (g := { method := m, pc := pc + 6, locals := ls, stack := .ref sa :: .ref T.heap.size :: .ref T.heap.size :: rest, locked := none }) rfl hsize rfl rfl (rest := rest) rfl
    (by rw [hb]; exact d6) (by rw [hb]; exact d9) hout hRframes (by simp only [List.map_cons, List.sum_cons, hcat]; omega) hlocks
  obtain ⟨f1, f2⟩ := vx_frame hsame
  rw [hhp] at f1 f2
  have hWs : s.WarmedH U.vm := State.WarmedH.trans hW0 hW
  have hcl : s.vm.findClass cls = some ce.cls := by
    have h9 := hO.cls
    rw [hvm] at h9
    exact h9
  have hall : s.sameButNew ({ U with vm := s.vm } : State) locs mc ms := by
    subst hA
    obtain ⟨e1, e2⟩ := hsame
    rw [State.setFrames_setFrames] at e1
    have h2 : (T.setVm s.vm).sameButNew ({ U with vm := s.vm } : State) [] (0 + 1) (0 + 6) := ⟨e1, e2⟩
    have h3 := X.same.trans h2
    rw [List.append_nil] at h3
    exact h3.mono hc hs
  refine ⟨U, ?_, .threw T.heap.size, hrun, hend, Or.inr ⟨T.heap.size, rfl, cls, ce, locs, hx U hWs.alike f1 (fun q hq => f2 q hq (fun z hz => nomatch hz)), hce, hO.vm, hcl, hWs, hall, hf⟩⟩
  refine st1 _ ?_
  show Steps p.tables e below (T1.setTop { method := m, pc := pc + 3, locals := ls, stack := .ref T.heap.size :: rest, locked := none }) _
  jvm_step X₁.here [X₁.here.top, hexec, d3', Value.category]
  exact X₁.ldcString hexec (own := own) (text := text) (index := is) (a := sa) hown' hstr'.1 hstr'.2
    (g := { method := m, pc := pc + 4, locals := ls, stack := .ref T.heap.size :: .ref T.heap.size :: rest, locked := none }) rfl d4' _ hsteps
/-- 'throw new E("text")', the text by a wide index -/
theorem vx_throwSW {cc : ByteArray} {pc : Nat} (hexec : p.tables.exec = Jvm.exec) (hb : c.code = cc) (hl : l.stackTraces = false) {own cls text : String} {names : List String} {ik is ic mc ms sa : Nat} {A : Nat → Prop}
    (hown : s.vm.findClass own = some m.cls) (hcls : Bundle.fit cls = true) (hnames : ∀ n ∈ names, Bundle.fit n = true)
    (hk : (Cond.classLink own ik cls).before args s = true) (hini : (Cond.initialized cls).before args s = true) (hstr : vk_R own is text sa s) (hat : ∀ w ∈ vx_atS own ic cls names, w.before args s = true)
    (hgood : ∀ w ∈ Cond.classLink own ik cls :: Cond.initialized cls :: vx_atS own ic cls names, vx_ot w = true)
    (hU : vx_Zq Bundle.tN "UNASSIGNED_STACK" Bundle.steD A s s.heap) (hN : vx_Zq Bundle.tN "SUPPRESSED_SENTINEL" Bundle.listD A s s.heap) (hS : va_S A s.heap H locs) (hsize : ls.size = c.maxLocals)
    (d0 : decode cc pc = .ok (.new ik, 3)) (d3 : decode cc (pc + 3) = .ok (.dup, 1)) (d4 : decode cc (pc + 4) = .ok (.ldc_w is, 3)) (d7 : decode cc (pc + 7) = .ok (.invokespecial ic, 3)) (d10 : decode cc (pc + 10) = .ok (.athrow, 1))
    (hout : ∀ x ∈ c.exceptionTable.toList, covers x (pc + 10) = false)
    (hRframes : names.length + 3 < R.frames) (hRlocals : (rest.map fun v => v.category).sum + (13 * (names.length + 1) + 43) ≤ R.locals) (hRcells : cells + 1 ≤ R.cells) (hRslots : slots + 6 ≤ R.slots) (hlocks : meth.locks = false)
    (hx : ∀ t : State, s.vm.Alike t.vm → H.size ≤ t.heap.size → (∀ q : Nat, q < H.size → t.heap[q]? = H[q]?) → XC cls s t)
    (hf : ∀ z ∈ locs, free z.base) (hc : cells + 1 ≤ mc) (hs : slots + 6 ≤ ms) :
    W p l e R s m args below meth c H locs cells slots (vx_MQ below Qc XC args s mc ms free) (F0 m pc ls rest) := by
  intro T hT X
  have htr : e.platform.stackTraces = false := (show e.platform.stackTraces = l.stackTraces by rw [X.admits.platform]).trans hl
  have Y := vx_rebase X (R' := { frames := R.frames, locals := R.locals, cells := 1, slots := 6 }) (Nat.le_refl _) (Nat.le_refl _) hRcells hRslots
  obtain ⟨s', hA⟩ : ∃ z, z = (T.setVm s.vm).setFrames (.invoking m args :: below) := ⟨_, rfl⟩
  rw [← hA] at Y
  have hvm : s'.vm = s.vm := by rw [hA]; rfl
  have hhp : s'.heap = H := by rw [hA]; exact hT
  have hW0 : s.WarmedH s'.vm := by rw [hvm]; exact State.WarmedH.refl s
  have hat' : ∀ w ∈ vx_atS own ic cls names, w.before args s' = true := fun w hw => vx_ot_at hW0 hvm.symm (hgood w (List.mem_cons_of_mem _ (List.mem_cons_of_mem _ hw))) (hat w hw)
  have hk' : (Cond.classLink own ik cls).before args s' = true := vx_ot_at hW0 hvm.symm (hgood _ List.mem_cons_self) hk
  have hini' : (Cond.initialized cls).before args s' = true := vx_ot_at hW0 hvm.symm (hgood _ (List.mem_cons_of_mem _ List.mem_cons_self)) hini
  have hU' : vx_Zq Bundle.tN "UNASSIGNED_STACK" Bundle.steD A s' s'.heap := by rw [hhp]; exact vx_Zq.moved hW0.alike (hU.kept hS.2.1)
  have hN' : vx_Zq Bundle.tN "SUPPRESSED_SENTINEL" Bundle.listD A s' s'.heap := by rw [hhp]; exact vx_Zq.moved hW0.alike (hN.kept hS.2.1)
  have h : ∀ w ∈ Bundle.ownAtoms own ic cls names, w.before args s' = true := vx_own hat' (vx_isRefq hU'.1) (vx_isRefq hN'.1) hU'.2.word hN'.2.word
  have hown' : s'.vm.findClass own = some m.cls := by rw [hvm]; exact hown
  have hins : (Cond.instantiable cls 6).before args s' = true := h _ (by simp [Bundle.ownAtoms])
  obtain ⟨vm₁, cX, kX, hfX, hkX, -, -, X₁, st1⟩ := Y.newCold hexec (own := own) (C := cls) (index := ik) (n := 6) hown' hk' hins hini'
    (g := F0 m pc ls rest) rfl (by rw [hb]; exact d0) (Nat.le_refl _) (Nat.le_refl _)
  generalize hT1 : (T.setVm vm₁).pushCell { cls := cX, slots := kX.instanceTypes.map defaultValue, vm := .none } = T1 at X₁ st1
  have hcat : (Value.ref T.heap.size).category = 1 := rfl
  have hcellA : T1.heap[T.heap.size]? = some (freshCell cX kX) := by rw [← hT1]; exact State.heap_pushCell_size _ _
  have d3' : decode c.code (pc + 3) = .ok (.dup, 1) := by rw [hb]; exact d3
  have d4' : decode c.code (pc + 4) = .ok (.ldc_w is, 3) := by rw [hb]; exact d4
  have hstr' : vk_R own is text sa s' := vk_R.warm hW0 hstr
  obtain ⟨U, hsteps, hrun, hend, hW, hsame, ce, hce, hO⟩ := X₁.ctorThrowS hexec htr (own := own) (cls := cls) (names := names) (ic := ic) hown' hcls hnames h (fun x hx => nomatch hx) hfX hkX hcellA (by rw [hhp, hT]; exact Nat.le_refl _) (msg := .ref sa) rfl
    (g := { method := m, pc := pc + 7, locals := ls, stack := .ref sa :: .ref T.heap.size :: .ref T.heap.size :: rest, locked := none }) rfl hsize rfl rfl (rest := rest) rfl
    (by rw [hb]; exact d7) (by rw [hb]; exact d10) hout hRframes (by simp only [List.map_cons, List.sum_cons, hcat]; omega) hlocks
  obtain ⟨f1, f2⟩ := vx_frame hsame
  rw [hhp] at f1 f2
  have hWs : s.WarmedH U.vm := State.WarmedH.trans hW0 hW
  have hcl : s.vm.findClass cls = some ce.cls := by
    have h9 := hO.cls
    rw [hvm] at h9
    exact h9
  have hall : s.sameButNew ({ U with vm := s.vm } : State) locs mc ms := by
    subst hA
    obtain ⟨e1, e2⟩ := hsame
    rw [State.setFrames_setFrames] at e1
    have h2 : (T.setVm s.vm).sameButNew ({ U with vm := s.vm } : State) [] (0 + 1) (0 + 6) := ⟨e1, e2⟩
    have h3 := X.same.trans h2
    rw [List.append_nil] at h3
    exact h3.mono hc hs
  refine ⟨U, ?_, .threw T.heap.size, hrun, hend, Or.inr ⟨T.heap.size, rfl, cls, ce, locs, hx U hWs.alike f1 (fun q hq => f2 q hq (fun z hz => nomatch hz)), hce, hO.vm, hcl, hWs, hall, hf⟩⟩
  refine st1 _ ?_
  show Steps p.tables e below (T1.setTop { method := m, pc := pc + 3, locals := ls, stack := .ref T.heap.size :: rest, locked := none }) _
  jvm_step X₁.here [X₁.here.top, hexec, d3', Value.category]
  exact X₁.ldcStringW hexec (own := own) (text := text) (index := is) (a := sa) hown' hstr'.1 hstr'.2
    (g := { method := m, pc := pc + 4, locals := ls, stack := .ref T.heap.size :: .ref T.heap.size :: rest, locked := none }) rfl d4' _ hsteps
end Ends
section Bodies
variable {l : Launch}
theorem vx_ofW {y : MethodName} {ws ws' : List Cond} {rm : Room} {Pc : Array Value → State → Prop} {Qc : Array Value → State → Outcome → State → Prop} {XC : String → State → State → Prop} {mc ms : Nat} {free : Addr → Prop} {cc : ByteArray} {maxL : Nat} {ret : Option FieldType}
    (hy : plainName y.cls = true) (hw : ws = Cond.code y cc maxL ret :: ws')
    (body : ∀ p e s m args below meth c s₁, BodyLoose p l y (headSpec ws rm) cc maxL ret e s m args below meth c s₁ → c.maxLocals = maxL → (∀ x ∈ c.exceptionTable.toList, False) → Pc args s →
      W p l e (headSpec ws rm).room s m args below meth c s.heap [] 0 0 (vx_MQ below Qc XC args s mc ms free) (entryFrame m args maxL)) : vx_Met l y ws rm Pc Qc XC mc ms free := by
  refine MetFree.of_bodyS (code := cc) (maxLocals := maxL) (ret := ret) hy ?_ ?_
  · intro args s m h hn
    obtain ⟨meth, c, h1, h2, h3, h4, h5, h6, -, -⟩ := Cond.code_spec hn (atoms_spec (ws := ws) h _ (by rw [hw]; exact List.mem_cons_self))
    exact ⟨meth, c, h1, h2, h3, h4, h5, h6⟩
  · intro p e s m args below meth c s₁ B hml hP _
    have hh0 : s₁.heap = s.heap := by rw [B.state]; rfl
    have ht : ∀ x ∈ c.exceptionTable.toList, False := by
      obtain ⟨meth9, c9, h1, h2, -, -, -, -, h7, -⟩ := Cond.code_spec B.named (atoms_spec (ws := ws) B.pre _ (by rw [hw]; exact List.mem_cons_self))
      cases Option.some.inj (h1.symm.trans B.method)
      cases Option.some.inj (h2.symm.trans (Stand.of_body B).code)
      intro x hx
      rw [Array.isEmpty_iff.mp h7] at hx
      cases hx
    obtain ⟨t, a1, o, b1, b2, b3⟩ := body p e s m args below meth c s₁ B hml ht hP s₁ hh0 (Stand.of_body B)
    exact ⟨t, o, a1, b1, b2, b3⟩
/-- the table of a body with handlers -/
theorem vx_table {p : Program} {x y : MethodName} {S : Spec} {cc bytes : ByteArray} {maxL maxL' : Nat} {ret ret' : Option FieldType} {e : Env} {s s₁ : State} {m : MethodId} {args : Array Value} {below : List Frame} {meth : Method} {c : Code} {hh : List (Nat × Nat × Nat × Nat)}
    (B : BodyLoose p l y S cc maxL ret e s m args below meth c s₁) (h : (Cond.codeWith y bytes maxL' ret' hh).before args s = true) : c.exceptionTable.toList = tableOf hh := by
  obtain ⟨m9, meth9, c9, hn9, h1, h2, -, -, h6, -⟩ := Cond.codeWith_spec h
  cases Option.some.inj (hn9.symm.trans B.named)
  cases Option.some.inj (h1.symm.trans B.method)
  cases Option.some.inj (h2.symm.trans (Stand.of_body B).code)
  rw [← h6, table_eq]
end Bodies
end VXA
/-! ===== END ===== -/
/-! ===== BEGIN a static call of a method with an exception table ===== -/
section VXS
variable {p : Program} {l : Launch} {e : Env} {R : Room} {s : State} {m : MethodId} {args : Array Value} {below : List Frame} {meth : Method} {c : Code} {T : State} {H : Heap} {locs : List Loc} {cells slots : Nat}
abbrev vx_CSW (R : Room) (s : State) (args : Array Value) (own : String) (index : Nat) (y : MethodName) (bytes : ByteArray) (maxL : Nat) (ret : Option FieldType) (hh : List (Nat × Nat × Nat × Nat)) (ws : List Cond) (rm : Room) (mc ms n : Nat) : Prop :=
  (rm.cells = mc ∧ rm.slots = ms ∧ rm.frames + 1 ≤ R.frames ∧ 8 + (maxL + 11) + rm.locals ≤ R.locals ∧ (∀ w ∈ ws, ∀ (a' : Array Value) (U : State), s.WarmedH U.vm → w.before a' U = true) ∧ Cond.codeWith y bytes maxL ret hh ∈ ws) ∧
  (Cond.codeWith y bytes maxL ret hh).before args s = true ∧ (Cond.initialized y.cls).before args s = true ∧ (y.cls ≠ "java/lang/invoke/MethodHandle" ∧ y.cls ≠ "java/lang/invoke/VarHandle") ∧
  (∀ sig, parseMethodDescriptor y.desc = some sig → n = sig.parameters.length) ∧ (Cond.methodLink own index y).before args s = true ∧ (Cond.static y).before args s = true
theorem vx_cwSW {own : String} {index maxL mc ms : Nat} {y : MethodName} {bytes : ByteArray} {ret : Option FieldType} {hh : List (Nat × Nat × Nat × Nat)} {Ts ws ws' : List Cond} {rm : Room} (n : Nat) (ht : ∀ w ∈ Ts, w.before args s = true) (hT : GoodIn Ts (va_wsS own index y ws)) (hw : ws = Cond.codeWith y bytes maxL ret hh :: ws') (hrc : rm.cells = mc) (hrs : rm.slots = ms)
    (hd : y.cls ≠ "java/lang/invoke/MethodHandle" ∧ y.cls ≠ "java/lang/invoke/VarHandle" ∧ (parseMethodDescriptor y.desc).map (fun d => d.parameters.length) = some n) (hR : rm.frames + 1 ≤ R.frames ∧ 8 + (maxL + 11) + rm.locals ≤ R.locals) :
    vx_CSW R s args own index y bytes maxL ret hh ws rm mc ms n := by
  have ok : ∀ w ∈ va_wsS own index y ws, w.before args s = true := fun w h => ht w (hT w h).1
  have hG : GoodIn Ts ws := fun w h => hT w (by unfold va_wsS; exact List.mem_append_right _ h)
  have hc : Cond.codeWith y bytes maxL ret hh ∈ ws := by rw [hw]; exact List.mem_cons_self
  refine ⟨⟨hrc, hrs, hR.1, hR.2, pay_in ht hG, hc⟩, ht _ (hG _ hc).1, ok _ (by simp [va_wsS]), ⟨hd.1, hd.2.1⟩, fun sig h => ?_, ok _ (by simp [va_wsS]), ok _ (by simp [va_wsS])⟩
  have h2 := hd.2.2
  rw [h] at h2
  exact (Option.some.inj h2).symm
theorem vx_callSW (X : Stand p l e R s m args below meth c T locs cells slots) (hexec : p.tables.exec = Jvm.exec) {own : String} {index : Nat} {y : MethodName} {bytes : ByteArray} {maxL : Nat} {ret : Option FieldType} {hh : List (Nat × Nat × Nat × Nat)}
    (hown : s.vm.findClass own = some m.cls) (hlink : (Cond.methodLink own index y).before args s = true) (hstat : (Cond.static y).before args s = true) (hinit : (Cond.initialized y.cls).before args s = true)
    (hcode : (Cond.codeWith y bytes maxL ret hh).before args s = true) (hy : y.cls ≠ "java/lang/invoke/MethodHandle" ∧ y.cls ≠ "java/lang/invoke/VarHandle")
    {W9 : Nat} {Pre : Pt → Array Value → Prop} {Post : Pt → Array Value → Option Value → Pt → Prop} (hK : Back l R p e below s args y 3 W9 Pre Post)
    {g : JFrame} (hg : g.method = m) (hsize : g.locals.size = c.maxLocals) {argsL rest : List Value} (hlen : ∀ sig, parseMethodDescriptor y.desc = some sig → argsL.length = sig.parameters.length)
    (hstack : g.stack = argsL.reverse ++ rest) (hW : 2 * g.monitorRoom + (rest.map fun v => v.category).sum ≤ W9) (hdg : decode c.code g.pc = .ok (.invokestatic index, 3))
    (hpre : ∀ vm₁, s.WarmedH vm₁ → Pre ⟨T.setVm vm₁, locs, cells, slots⟩ argsL.toArray) :
    ∃ (v : Option Value) (vm₁ : Vm) (B : Pt), s.WarmedH vm₁ ∧ Stand p l e R s m args below meth c B.U B.locs B.cells B.slots ∧ Post ⟨T.setVm vm₁, locs, cells, slots⟩ argsL.toArray v B ∧
      ∀ target, Steps p.tables e below (B.U.setTop { g with pc := g.pc + 3, stack := v.toList ++ rest }) target → Steps p.tables e below (T.setTop g) target := by
  obtain ⟨mk, methM, cM, hnamed, hmethM, -, -, -, -, -, -, hsigM⟩ := Cond.codeWith_spec hcode
  have hstatic : methM.isStatic = true := Cond.static_spec hnamed hmethM hstat
  obtain ⟨kP, hkP, -⟩ := className_of_methodNamed hnamed
  have hinitP : kP.init = .initialized := Cond.initialized_spec (findClass_of_methodNamed hnamed) hkP hinit
  obtain ⟨vm₁, X₁, hstep₁⟩ := X.invokestatic hexec hown hlink hnamed hmethM hstatic hkP hinitP hy (g := g) hg (argsL := argsL) (rest := rest) (hlen _ hsigM) hstack hdg
  obtain ⟨v, B, X', hpost, hsteps⟩ := hK m meth c ⟨T.setVm vm₁, locs, cells, slots⟩ { g with stack := rest } (.invokestatic index) mk argsL.toArray X₁ hg hsize hdg hW (X₁.named hnamed) (hpre vm₁ X₁.warmed)
  exact ⟨v, vm₁, B, X₁.warmed, X', hpost, fun target h => hstep₁ _ fun acts => by rw [doInvoke_state]; exact hsteps.trans h⟩
theorem vx_runSW {y : MethodName} {bytes cc : ByteArray} {maxL nL mc ms n index : Nat} {ret : Option FieldType} {hh : List (Nat × Nat × Nat × Nat)} {ws : List Cond} {rm : Room} {Pc : Array Value → State → Prop} {Qc : Array Value → State → Outcome → State → Prop} {free : Addr → Prop} {Ts : List Cond} {own : String} {As rest : List Value} {g : JFrame}
    (S : CallFix p m c cc nL s args Ts own) (hM : Met l y ws rm Pc Qc mc ms free) (cw : vx_CSW R s args own index y bytes maxL ret hh ws rm mc ms n) (hp : PreS s H Pc As)
    (hg : g.method = m) (hn : As.length = n) (hsize : g.locals.size = nL) (hstack : g.stack = As.reverse ++ rest) (hW : 2 * g.monitorRoom + (rest.map fun v => v.category).sum ≤ 8) (hdg : decode cc g.pc = .ok (.invokestatic index, 3)) (hf : cells + mc ≤ R.cells ∧ slots + ms ≤ R.slots) :
    va_Run p l e R s m args below meth c H locs cells slots mc ms g rest (Qc As.toArray) (free) := by
  obtain ⟨⟨hrc, hrs, hfr, hlo, hws, hcw⟩, hcode, hini, hy, hlen, hl, hstt⟩ := cw
  have hK : Back l R p e below s args y 3 8 (PreOf R mc ms Pc) (PostOf Qc mc ms free) := va_backW (hh := hh) (bytes := bytes) (maxL := maxL) (ret := ret) hM hp.1 hrc hrs hfr hlo hws hcw (fun a' U hW => word_at hW (Or.inl (by first | rfl | simp [Cond.onTables, Cond.keeps, Cond.steady])) hini)
  obtain ⟨hx, hb, hml, ho, -⟩ := S
  intro T hT X
  obtain ⟨v, vm₁, ⟨U', l2, c2, s2⟩, hW₁, X', ⟨g', mk, t, L, e1, e2, hq, h1, hL, h2, h3⟩, st⟩ := vx_callSW X hx (hh := hh) (bytes := bytes) (maxL := maxL) (ret := ret) ho hl hstt hini hcode hy hK hg (hsize.trans hml.symm) (argsL := As) (rest := rest) (fun sig h => hn.trans (hlen sig h)) hstack hW (by rw [hb]; exact hdg)
    (fun vm₁ hW₁ => ⟨hf.1, hf.2, hp.2 (T.setVm vm₁) hT hW₁⟩)
  dsimp only [Pt.U, Pt.locs, Pt.cells, Pt.slots] at X' e1 e2 h1 h2 h3 st
  subst h1; subst h2; subst h3
  exact ⟨v, (T.setVm vm₁).calling g' mk As.toArray, t, U', L, hT, X', hL, e1, e2, hq, st⟩
/-- not caught here, past rows that name other classes: it goes on to the caller -/
theorem vx_outP {p : Program} {l : Launch} {e : Env} {R : Room} {s : State} {m : MethodId} {args : Array Value} {below : List Frame} {meth : Method} {c : Code} {H : Heap} {locs : List Loc} {cells slots : Nat} {free : Addr → Prop} {ls : Array Slot} {rest : List Value} {Qc : Array Value → State → Outcome → State → Prop} {XC : String → State → State → Prop}
    {pc : Nat} {own E : String} {ce : Cell} {q : Addr} {mc ms : Nat} (hown : s.vm.findClass own = some m.cls) (hlocks : meth.locks = false)
    (hpass : ∀ z ∈ c.exceptionTable.toList, covers z pc = false ∨ (z.catchType ≠ 0 ∧ ∃ nm : String, (Cond.classLink own z.catchType nm).before args s = true ∧ va_Nc E nm s)) (hcell : H[q]? = some ce) (hv : ce.vm = .none) (hcl : s.vm.findClass E = some ce.cls)
    (hx : ∀ t : State, t.heap = H → s.vm.Alike t.vm → XC E s t) (hf : ∀ z ∈ locs, free z.base) (hc : cells ≤ mc) (hs : slots ≤ ms) :
    vx_W p l e R s m args below meth c H locs cells slots (vx_MQ below Qc XC args s mc ms free) (F0 m pc ls rest) q := by
  intro T hT X
  have hpl : e.platform.magicAccessors = ({} : Platform).magicAccessors := by rw [X.admits.platform]
  obtain ⟨vm', hW', X', st⟩ := X.outThrough hlocks q (g := F0 m pc ls rest) rfl rfl rfl (cell := ce) (by rw [hT]; exact hcell) (by rw [hv]; rfl)
    (by obtain ⟨k9, h9, -⟩ := Vm.findClass_spec hcl; exact ⟨k9, h9⟩) (fun z hz => by
      rcases hpass z hz with h | ⟨hz0, nm, hl1, hn1⟩
      · exact Or.inl h
      · obtain ⟨c6, hc6, hcl6⟩ := Cond.classLink_spec hown hl1 e.platform hpl
        obtain ⟨a8, b8, h1, h2, h3⟩ := hn1
        cases Option.some.inj (h1.symm.trans hcl)
        cases Option.some.inj (h2.symm.trans hc6)
        exact Or.inr ⟨hz0, _, hcl6, h3⟩)
  obtain ⟨g₀, hfr⟩ := X'.frames_eq
  have hcell9 : ((T.setVm vm').setFrames (.throwing q :: below)).heap[q]? = some ce := by
    show T.heap[q]? = some ce
    rw [hT]; exact hcell
  have hend : Ended ((T.setVm vm').setFrames (.throwing q :: below)) below (.threw q) := State.frames_setFrames _ (State.cur_lt_of_frames hfr)
  refine ⟨(T.setVm vm').setFrames (.throwing q :: below), ?_, .threw q, X'.here.running, hend, Or.inr ⟨q, rfl, E, ce, locs, hx _ hT (X'.ends _).1.alike, hcell9, hv, hcl, (X'.ends _).1, (X'.ends _).2.mono hc hs, hf⟩⟩
  rw [X.pushThrowing_eq]
  exact st
/-- a thing of a world lies in the heap -/
theorem vx_lt {D : va_G} {cl : List vw_C} {ws : va_W} {H1 : Heap} (h : va_P D cl ws H1) {k : Nat} {q : Nat × va_E} (hk : ws[k]? = some q) : q.1 < H1.size := (h k q hk).lt
end VXS
/-! ===== END ===== -/
/-! ===== BEGIN methods with a table of their own: called by a name, returning or throwing ===== -/
section VXH
/-! vx_backW, vx_callVX, vx_callSX, vx_callVW, vx_runVW, vx_runVX, vx_runSX, vx_ofWH follow the same proofs as their sisters above (Free/Laws.lean, Shelf42/LK1.lean); vx_outP calls Shelf42/NT130.lean (outThrough). -/
section
variable {l : Launch} {R : Room} {p : Program} {e : Env} {below : List Frame} {s : State} {sargs : Array Value} {y : MethodName} {len W9 : Nat}
theorem vx_backW {ws : List Cond} {rm : Room} {Pc : Array Value → State → Prop} {Qc : Array Value → State → Outcome → State → Prop} {XC : String → State → State → Prop} {mc ms : Nat} {free : Addr → Prop} {bytes : ByteArray} {maxL : Nat} {ret : Option FieldType} {hh : List (Nat × Nat × Nat × Nat)}
    (hM : vx_Met l y ws rm Pc Qc XC mc ms free) (hblind : FrameBlind Pc) (hrc : rm.cells = mc) (hrs : rm.slots = ms)
    (hframes : rm.frames + 1 ≤ R.frames) (hlocals : W9 + (maxL + 11) + rm.locals ≤ R.locals)
    (hws : ∀ w ∈ ws, ∀ a' U, s.WarmedH U.vm → w.before a' U = true) (hcode : Cond.codeWith y bytes maxL ret hh ∈ ws) (hinit : ∀ a' U, s.WarmedH U.vm → (Cond.initialized y.cls).before a' U = true) :
    vx_Back l R p e below s sargs y len W9 (PreOf R mc ms Pc) (PostOf Qc mc ms free) (vx_Post XC mc ms free) := by
  intro m meth c A g ig mk a X hg hsize hdg hW hn hp
  have h1 : (headSpec ws rm).pre.before a A.U = true := atoms_intro fun w hw => hws w hw _ _ X.warmed
  have h2 : (Cond.codeWith y bytes maxL ret hh).before a A.U = true := hws _ hcode _ _ X.warmed
  have h3 : (Cond.initialized y.cls).before a A.U = true := hinit _ _ X.warmed
  have h4 : A.cells + (headSpec ws rm).room.cells ≤ R.cells := by rw [show (headSpec ws rm).room.cells = mc from hrc]; exact hp.1
  have h5 : A.slots + (headSpec ws rm).room.slots ≤ R.slots := by rw [show (headSpec ws rm).room.slots = ms from hrs]; exact hp.2.1
  have hPc : Pc a (A.U.calling g mk a) := hblind _ _ _ _ hp.2.2
  obtain ⟨U, Ls, c0, s0⟩ := A
  dsimp only [Pt.U, Pt.locs, Pt.cells, Pt.slots] at h1 h2 h3 h4 h5 X hn hPc ⊢
  obtain ⟨m9, methY, cY, hn9, hmY, hcY, -, hlY, -⟩ := Cond.codeWith_spec h2
  cases Option.some.inj (hn9.symm.trans hn)
  obtain ⟨kY, hkY, -⟩ := className_of_methodNamed hn
  have hinitY : kY.init = .initialized := Cond.initialized_spec (findClass_of_methodNamed hn) hkY h3
  have h : At U g.method c below := by rw [hg]; exact X.here
  have hlocals9 : W9 + (maxL + 11) + (headSpec ws rm).room.locals ≤ R.locals := hlocals
  have happ : (headSpec ws rm).appliesLoose y e.platform (U.calling g mk a) = true :=
    Spec.appliesLoose_calling (g := g) h hdg hn hkY hinitY
      (X.room_calling (g := g) (R' := (headSpec ws rm).room) hsize hmY hcY hframes (by rw [hlY]; omega) h4 h5) h1
  obtain ⟨mid, hmid⟩ := h.above
  have hfr : (U.setTop g).frames = (.java g :: mid) ++ below := by rw [State.frames_setTop' g h.top, hmid]; rfl
  obtain ⟨o, s₂, hsteps, -, hend, hq⟩ := Steps.callFree hM p X.admits X.cas X.clock (acts := []) hfr happ hPc trivial
  have hq' : vx_Q Qc XC mc ms free a (U.calling g mk a) o s₂ := hq
  rw [State.frames_setTop' g h.top] at hend
  obtain ⟨g₀, hg0⟩ := Option.isSome_iff_exists.mp h.top
  obtain ⟨r, hr⟩ := State.topJava?_eq_some.mp hg0
  have hr' : (({ U with heap := s₂.heap, slotsUsed := s₂.slotsUsed } : State).setVm s₂.vm).frames = .java g₀ :: r := hr
  rcases hq' with ⟨hqc, L, hfe, hL⟩ | ⟨q, rfl, E, ce, L, hx, hce, hcv, hcl, hW₂, hsm, hL⟩
  · obtain ⟨⟨v, rfl⟩, hW₂, e2, q2, q3, q4, q5, q6⟩ := id hfe
    have e3 : s₂ = ({ (U.calling g mk a).setFrames s₂.frames with heap := s₂.heap, slotsUsed := s₂.slotsUsed } : State).setVm s₂.vm := by
      have : s₂ = ({ s₂ with vm := (U.calling g mk a).vm } : State).setVm s₂.vm := rfl
      rw [e2] at this
      exact this
    obtain ⟨c₂, i₂, len₂, hc₂, hd₂, hf₂⟩ := hend
    have hW' : U.WarmedH s₂.vm := hW₂
    have hcc : c₂ = c := by
      have h1 : s₂.code? g.method = U.code? g.method := by
        rw [State.code?_eq, State.code?_eq, hW'.alike.method?]
      exact Option.some.inj (hc₂.symm.trans (h1.trans h.code))
    subst hcc
    have hlen : len₂ = len := by rw [hdg] at hd₂; cases hd₂; rfl
    subst hlen
    have hs₂ : s₂ = (({ U with heap := s₂.heap, slotsUsed := s₂.slotsUsed } : State).setVm s₂.vm).setTop { g with pc := g.pc + len₂, stack := v.toList ++ g.stack } := by
      refine e3.trans ?_
      rw [hf₂, State.calling_eq h.top, State.setFrames_setFrames, State.setTop_of_frames _ hr', hr]
      rfl
    have hsame : U.sameButNew ({ U with heap := s₂.heap, slotsUsed := s₂.slotsUsed } : State) L mc ms := by
      refine ⟨?_, q2, q3, q4, q5, q6⟩
      obtain ⟨t, ht, -⟩ := State.frames_cons hr
      show ({ U with heap := s₂.heap, slotsUsed := s₂.slotsUsed } : State) = { U.setFrames U.frames with heap := s₂.heap, slotsUsed := s₂.slotsUsed }
      rw [State.setFrames_self ht]
    subst hg
    refine Or.inl ⟨v, ⟨(({ U with heap := s₂.heap, slotsUsed := s₂.slotsUsed } : State).setVm s₂.vm), Ls ++ L, c0 + mc, s0 + ms⟩,
      ⟨X.admits, X.cas, X.clock, X.frames, X.room, X.hears, X.method, X.code, (X.here.setHeapUsed s₂.heap s₂.slotsUsed).setVm hW'.alike, X.tail, State.WarmedH.trans X.warmed hW', X.limits, X.bytes, X.same.trans (hsame.setVm s.vm)⟩,
      ⟨g, mk, s₂, L, rfl, rfl, hqc, rfl, hL, rfl, rfl⟩, ?_⟩
    show Steps p.tables e below _ ((({ U with heap := s₂.heap, slotsUsed := s₂.slotsUsed } : State).setVm s₂.vm).setTop { g with pc := g.pc + len₂, stack := v.toList ++ g.stack })
    rw [← hs₂]
    exact hsteps
  · obtain ⟨e2, q2, q3, q4, q5, q6⟩ := id hsm
    have e3 : s₂ = ({ (U.calling g mk a).setFrames s₂.frames with heap := s₂.heap, slotsUsed := s₂.slotsUsed } : State).setVm s₂.vm := by
      have : s₂ = ({ s₂ with vm := (U.calling g mk a).vm } : State).setVm s₂.vm := rfl
      rw [e2] at this
      exact this
    have hf₂ : s₂.frames = .throwing q :: .java g :: U.frames.tail := hend
    have hW' : U.WarmedH s₂.vm := hW₂
    have hs₂ : s₂ = ((({ U with heap := s₂.heap, slotsUsed := s₂.slotsUsed } : State).setVm s₂.vm).setTop g).pushFrame (.throwing q) := by
      refine e3.trans ?_
      rw [hf₂, State.calling_eq h.top, State.setFrames_setFrames, State.pushFrame, State.frames_setTop _ hr', State.setTop_of_frames _ hr', State.setFrames_setFrames, hr]
      rfl
    have hsame : U.sameButNew ({ U with heap := s₂.heap, slotsUsed := s₂.slotsUsed } : State) L mc ms := by
      refine ⟨?_, q2, q3, q4, q5, q6⟩
      obtain ⟨t, ht, -⟩ := State.frames_cons hr
      show ({ U with heap := s₂.heap, slotsUsed := s₂.slotsUsed } : State) = { U.setFrames U.frames with heap := s₂.heap, slotsUsed := s₂.slotsUsed }
      rw [State.setFrames_self ht]
    subst hg
    refine Or.inr ⟨q, ⟨(({ U with heap := s₂.heap, slotsUsed := s₂.slotsUsed } : State).setVm s₂.vm), Ls ++ L, c0 + mc, s0 + ms⟩,
      ⟨X.admits, X.cas, X.clock, X.frames, X.room, X.hears, X.method, X.code, (X.here.setHeapUsed s₂.heap s₂.slotsUsed).setVm hW'.alike, X.tail, State.WarmedH.trans X.warmed hW', X.limits, X.bytes, X.same.trans (hsame.setVm s.vm)⟩,
      ⟨g, mk, s₂, L, E, ce, rfl, rfl, hx, hce, hcv, hcl, rfl, hL, rfl, rfl⟩, ?_⟩
    show Steps p.tables e below _ (((({ U with heap := s₂.heap, slotsUsed := s₂.slotsUsed } : State).setVm s₂.vm).setTop g).pushFrame (.throwing q))
    rw [← hs₂]
    exact hsteps
end
variable {p : Program} {l : Launch} {e : Env} {R : Room} {s : State} {m : MethodId} {args : Array Value} {below : List Frame} {meth : Method} {c : Code} {T : State} {H : Heap} {locs : List Loc} {cells slots : Nat}
theorem vx_callVX (X : Stand p l e R s m args below meth c T locs cells slots) (hexec : p.tables.exec = Jvm.exec) {own C : String} {index : Nat} {y : MethodName} {bytes : ByteArray} {maxL : Nat} {ret : Option FieldType} {hh : List (Nat × Nat × Nat × Nat)}
    (hown : s.vm.findClass own = some m.cls) (hlink : (Cond.methodLink own index y).before args s = true) (hinst : (Cond.instanceMethod y).before args s = true) (hsel : (Cond.selects C y y).before args s = true)
    (hcode : (Cond.codeWith y bytes maxL ret hh).before args s = true) (hy : y.cls ≠ "java/lang/invoke/MethodHandle" ∧ y.cls ≠ "java/lang/invoke/VarHandle")
    {W9 : Nat} {Pre : Pt → Array Value → Prop} {Post : Pt → Array Value → Option Value → Pt → Prop} {PostX : Pt → Array Value → Addr → Pt → Prop} (hK : vx_Back l R p e below s args y 3 W9 Pre Post PostX)
    {b : Addr} {cellB : Cell} (hcell : T.heap[b]? = some cellB) (hobj : cellB.vm.isStatics = false) (hcls : s.vm.findClass C = some cellB.cls)
    {g : JFrame} (hg : g.method = m) (hsize : g.locals.size = c.maxLocals) {argsL rest : List Value} (hlen : ∀ sig, parseMethodDescriptor y.desc = some sig → argsL.length = sig.parameters.length)
    (hstack : g.stack = argsL.reverse ++ .ref b :: rest) (hW : 2 * g.monitorRoom + (rest.map fun v => v.category).sum ≤ W9) (hdg : decode c.code g.pc = .ok (.invokevirtual index, 3))
    (hpre : ∀ vm₁, s.WarmedH vm₁ → Pre ⟨T.setVm vm₁, locs, cells, slots⟩ (Value.ref b :: argsL).toArray) :
    (∃ (v : Option Value) (vm₁ : Vm) (B : Pt), s.WarmedH vm₁ ∧ Stand p l e R s m args below meth c B.U B.locs B.cells B.slots ∧ Post ⟨T.setVm vm₁, locs, cells, slots⟩ (Value.ref b :: argsL).toArray v B ∧
      ∀ target, Steps p.tables e below (B.U.setTop { g with pc := g.pc + 3, stack := v.toList ++ rest }) target → Steps p.tables e below (T.setTop g) target) ∨
    (∃ (q : Addr) (vm₁ : Vm) (B : Pt), s.WarmedH vm₁ ∧ Stand p l e R s m args below meth c B.U B.locs B.cells B.slots ∧ PostX ⟨T.setVm vm₁, locs, cells, slots⟩ (Value.ref b :: argsL).toArray q B ∧
      Steps p.tables e below (T.setTop g) ((B.U.setTop { g with stack := rest }).pushFrame (.throwing q))) := by
  obtain ⟨mk, methM, hnamed, hmethM, hstM, habM⟩ := Cond.instanceMethod_spec hinst
  obtain ⟨m8, methM', cM, hn8, hmethM', -, -, -, -, -, -, hsigM⟩ := Cond.codeWith_spec hcode
  cases Option.some.inj (hn8.symm.trans hnamed)
  cases hmethM.symm.trans hmethM'
  obtain ⟨c2, r2, m2, q1, q2, q3, q4, kP, hkP, hkPi⟩ := Cond.selects_spec hsel
  cases hcls.symm.trans q1
  cases (State.methodFound?_of_named hnamed hy).symm.trans q2
  cases hnamed.symm.trans q3
  have hselP : selectMethod e.platform s.vm cellB.cls mk = .method mk := by rw [Launch.admits_selectMethod X.admits]; exact q4
  obtain ⟨vm₁, X₁, hstep₁⟩ := X.invokevirtual hexec hown hlink hnamed hmethM hstM hkP hkPi hy (a := b) (cell := cellB) hcell
    (fun z h => by rw [h] at hobj; cases hobj) hselP hmethM habM hkP hkPi (g := g) hg (argsL := argsL) (rest := rest) (hlen _ hsigM) hstack hdg
  rcases hK m meth c ⟨T.setVm vm₁, locs, cells, slots⟩ { g with stack := rest } (.invokevirtual index) mk (Value.ref b :: argsL).toArray X₁ hg hsize hdg hW (X₁.named hnamed) (hpre vm₁ X₁.warmed) with ⟨v, B, X', hpost, hsteps⟩ | ⟨q, B, X', hpost, hsteps⟩
  · exact Or.inl ⟨v, vm₁, B, X₁.warmed, X', hpost, fun target h => hstep₁ _ fun acts => by rw [doInvoke_state]; exact hsteps.trans h⟩
  · exact Or.inr ⟨q, vm₁, B, X₁.warmed, X', hpost, hstep₁ _ fun acts => by rw [doInvoke_state]; exact hsteps⟩
theorem vx_callSX (X : Stand p l e R s m args below meth c T locs cells slots) (hexec : p.tables.exec = Jvm.exec) {own : String} {index : Nat} {y : MethodName} {bytes : ByteArray} {maxL : Nat} {ret : Option FieldType} {hh : List (Nat × Nat × Nat × Nat)}
    (hown : s.vm.findClass own = some m.cls) (hlink : (Cond.methodLink own index y).before args s = true) (hstat : (Cond.static y).before args s = true) (hinit : (Cond.initialized y.cls).before args s = true)
    (hcode : (Cond.codeWith y bytes maxL ret hh).before args s = true) (hy : y.cls ≠ "java/lang/invoke/MethodHandle" ∧ y.cls ≠ "java/lang/invoke/VarHandle")
    {W9 : Nat} {Pre : Pt → Array Value → Prop} {Post : Pt → Array Value → Option Value → Pt → Prop} {PostX : Pt → Array Value → Addr → Pt → Prop} (hK : vx_Back l R p e below s args y 3 W9 Pre Post PostX)
    {g : JFrame} (hg : g.method = m) (hsize : g.locals.size = c.maxLocals) {argsL rest : List Value} (hlen : ∀ sig, parseMethodDescriptor y.desc = some sig → argsL.length = sig.parameters.length)
    (hstack : g.stack = argsL.reverse ++ rest) (hW : 2 * g.monitorRoom + (rest.map fun v => v.category).sum ≤ W9) (hdg : decode c.code g.pc = .ok (.invokestatic index, 3))
    (hpre : ∀ vm₁, s.WarmedH vm₁ → Pre ⟨T.setVm vm₁, locs, cells, slots⟩ argsL.toArray) :
    (∃ (v : Option Value) (vm₁ : Vm) (B : Pt), s.WarmedH vm₁ ∧ Stand p l e R s m args below meth c B.U B.locs B.cells B.slots ∧ Post ⟨T.setVm vm₁, locs, cells, slots⟩ argsL.toArray v B ∧
      ∀ target, Steps p.tables e below (B.U.setTop { g with pc := g.pc + 3, stack := v.toList ++ rest }) target → Steps p.tables e below (T.setTop g) target) ∨
    (∃ (q : Addr) (vm₁ : Vm) (B : Pt), s.WarmedH vm₁ ∧ Stand p l e R s m args below meth c B.U B.locs B.cells B.slots ∧ PostX ⟨T.setVm vm₁, locs, cells, slots⟩ argsL.toArray q B ∧
      Steps p.tables e below (T.setTop g) ((B.U.setTop { g with stack := rest }).pushFrame (.throwing q))) := by
  obtain ⟨mk, methM, cM, hnamed, hmethM, -, -, -, -, -, -, hsigM⟩ := Cond.codeWith_spec hcode
  have hstatic : methM.isStatic = true := Cond.static_spec hnamed hmethM hstat
  obtain ⟨kP, hkP, -⟩ := className_of_methodNamed hnamed
  have hinitP : kP.init = .initialized := Cond.initialized_spec (findClass_of_methodNamed hnamed) hkP hinit
  obtain ⟨vm₁, X₁, hstep₁⟩ := X.invokestatic hexec hown hlink hnamed hmethM hstatic hkP hinitP hy (g := g) hg (argsL := argsL) (rest := rest) (hlen _ hsigM) hstack hdg
  rcases hK m meth c ⟨T.setVm vm₁, locs, cells, slots⟩ { g with stack := rest } (.invokestatic index) mk argsL.toArray X₁ hg hsize hdg hW (X₁.named hnamed) (hpre vm₁ X₁.warmed) with ⟨v, B, X', hpost, hsteps⟩ | ⟨q, B, X', hpost, hsteps⟩
  · exact Or.inl ⟨v, vm₁, B, X₁.warmed, X', hpost, fun target h => hstep₁ _ fun acts => by rw [doInvoke_state]; exact hsteps.trans h⟩
  · exact Or.inr ⟨q, vm₁, B, X₁.warmed, X', hpost, hstep₁ _ fun acts => by rw [doInvoke_state]; exact hsteps⟩
theorem vx_callVW (X : Stand p l e R s m args below meth c T locs cells slots) (hexec : p.tables.exec = Jvm.exec) {own C : String} {index : Nat} {y : MethodName} {bytes : ByteArray} {maxL : Nat} {ret : Option FieldType} {hh : List (Nat × Nat × Nat × Nat)}
    (hown : s.vm.findClass own = some m.cls) (hlink : (Cond.methodLink own index y).before args s = true) (hinst : (Cond.instanceMethod y).before args s = true) (hsel : (Cond.selects C y y).before args s = true)
    (hcode : (Cond.codeWith y bytes maxL ret hh).before args s = true) (hy : y.cls ≠ "java/lang/invoke/MethodHandle" ∧ y.cls ≠ "java/lang/invoke/VarHandle")
    {W9 : Nat} {Pre : Pt → Array Value → Prop} {Post : Pt → Array Value → Option Value → Pt → Prop} (hK : Back l R p e below s args y 3 W9 Pre Post)
    {b : Addr} {cellB : Cell} (hcell : T.heap[b]? = some cellB) (hobj : cellB.vm.isStatics = false) (hcls : s.vm.findClass C = some cellB.cls)
    {g : JFrame} (hg : g.method = m) (hsize : g.locals.size = c.maxLocals) {argsL rest : List Value} (hlen : ∀ sig, parseMethodDescriptor y.desc = some sig → argsL.length = sig.parameters.length)
    (hstack : g.stack = argsL.reverse ++ .ref b :: rest) (hW : 2 * g.monitorRoom + (rest.map fun v => v.category).sum ≤ W9) (hdg : decode c.code g.pc = .ok (.invokevirtual index, 3))
    (hpre : ∀ vm₁, s.WarmedH vm₁ → Pre ⟨T.setVm vm₁, locs, cells, slots⟩ (Value.ref b :: argsL).toArray) :
    ∃ (v : Option Value) (vm₁ : Vm) (B : Pt), s.WarmedH vm₁ ∧ Stand p l e R s m args below meth c B.U B.locs B.cells B.slots ∧ Post ⟨T.setVm vm₁, locs, cells, slots⟩ (Value.ref b :: argsL).toArray v B ∧
      ∀ target, Steps p.tables e below (B.U.setTop { g with pc := g.pc + 3, stack := v.toList ++ rest }) target → Steps p.tables e below (T.setTop g) target := by
  obtain ⟨mk, methM, hnamed, hmethM, hstM, habM⟩ := Cond.instanceMethod_spec hinst
  obtain ⟨m8, methM', cM, hn8, hmethM', -, -, -, -, -, -, hsigM⟩ := Cond.codeWith_spec hcode
  cases Option.some.inj (hn8.symm.trans hnamed)
  cases hmethM.symm.trans hmethM'
  obtain ⟨c2, r2, m2, q1, q2, q3, q4, kP, hkP, hkPi⟩ := Cond.selects_spec hsel
  cases hcls.symm.trans q1
  cases (State.methodFound?_of_named hnamed hy).symm.trans q2
  cases hnamed.symm.trans q3
  have hselP : selectMethod e.platform s.vm cellB.cls mk = .method mk := by rw [Launch.admits_selectMethod X.admits]; exact q4
  obtain ⟨vm₁, X₁, hstep₁⟩ := X.invokevirtual hexec hown hlink hnamed hmethM hstM hkP hkPi hy (a := b) (cell := cellB) hcell
    (fun z h => by rw [h] at hobj; cases hobj) hselP hmethM habM hkP hkPi (g := g) hg (argsL := argsL) (rest := rest) (hlen _ hsigM) hstack hdg
  obtain ⟨v, B, X', hpost, hsteps⟩ := hK m meth c ⟨T.setVm vm₁, locs, cells, slots⟩ { g with stack := rest } (.invokevirtual index) mk (Value.ref b :: argsL).toArray X₁ hg hsize hdg hW (X₁.named hnamed) (hpre vm₁ X₁.warmed)
  exact ⟨v, vm₁, B, X₁.warmed, X', hpost, fun target h => hstep₁ _ fun acts => by rw [doInvoke_state]; exact hsteps.trans h⟩
abbrev vx_CVW (R : Room) (s : State) (args : Array Value) (own C : String) (index : Nat) (y : MethodName) (bytes : ByteArray) (maxL : Nat) (ret : Option FieldType) (hh : List (Nat × Nat × Nat × Nat)) (ws : List Cond) (rm : Room) (mc ms n : Nat) : Prop :=
  (rm.cells = mc ∧ rm.slots = ms ∧ rm.frames + 1 ≤ R.frames ∧ 8 + (maxL + 11) + rm.locals ≤ R.locals ∧ (∀ w ∈ ws, ∀ (a' : Array Value) (U : State), s.WarmedH U.vm → w.before a' U = true) ∧ Cond.codeWith y bytes maxL ret hh ∈ ws) ∧
  (Cond.codeWith y bytes maxL ret hh).before args s = true ∧ (Cond.initialized y.cls).before args s = true ∧ (y.cls ≠ "java/lang/invoke/MethodHandle" ∧ y.cls ≠ "java/lang/invoke/VarHandle") ∧
  (∀ sig, parseMethodDescriptor y.desc = some sig → n = sig.parameters.length) ∧ (Cond.methodLink own index y).before args s = true ∧ (Cond.instanceMethod y).before args s = true ∧ (Cond.selects C y y).before args s = true
theorem vx_cwVW {own C : String} {index maxL mc ms : Nat} {y : MethodName} {bytes : ByteArray} {ret : Option FieldType} {hh : List (Nat × Nat × Nat × Nat)} {Ts ws ws' : List Cond} {rm : Room} (n : Nat) (ht : ∀ w ∈ Ts, w.before args s = true) (hT : GoodIn Ts (wsV own index C y ws)) (hw : ws = Cond.codeWith y bytes maxL ret hh :: ws') (hrc : rm.cells = mc) (hrs : rm.slots = ms)
    (hd : y.cls = C ∧ y.cls ≠ "java/lang/invoke/MethodHandle" ∧ y.cls ≠ "java/lang/invoke/VarHandle" ∧ (parseMethodDescriptor y.desc).map (fun d => d.parameters.length) = some n) (hR : rm.frames + 1 ≤ R.frames ∧ 8 + (maxL + 11) + rm.locals ≤ R.locals) :
    vx_CVW R s args own C index y bytes maxL ret hh ws rm mc ms n := by
  obtain ⟨hC, hd⟩ := hd
  subst hC
  have ok : ∀ w ∈ wsV own index y.cls y ws, w.before args s = true := fun w h => ht w (hT w h).1
  have hG : GoodIn Ts ws := fun w h => hT w (by unfold wsV; exact List.mem_append_right _ h)
  have hc : Cond.codeWith y bytes maxL ret hh ∈ ws := by rw [hw]; exact List.mem_cons_self
  refine ⟨⟨hrc, hrs, hR.1, hR.2, pay_in ht hG, hc⟩, ht _ (hG _ hc).1, ok _ (by simp [wsV]), ⟨hd.1, hd.2.1⟩, fun sig h => ?_, ok _ (by simp [wsV]), ok _ (by simp [wsV]), ok _ (by simp [wsV])⟩
  have h2 := hd.2.2
  rw [h] at h2
  exact (Option.some.inj h2).symm
theorem vx_runVW {y : MethodName} {bytes cc : ByteArray} {maxL nL mc ms n index : Nat} {ret : Option FieldType} {hh : List (Nat × Nat × Nat × Nat)} {ws : List Cond} {rm : Room} {Pc : Array Value → State → Prop} {Qc : Array Value → State → Outcome → State → Prop} {free : Addr → Prop} {Ts : List Cond} {own C : String} {b : Addr} {As rest : List Value} {g : JFrame}
    (S : CallFix p m c cc nL s args Ts own) (hM : Met l y ws rm Pc Qc mc ms free) (cw : vx_CVW R s args own C index y bytes maxL ret hh ws rm mc ms n) (hp : PreV s H C b Pc As)
    (hg : g.method = m) (hn : As.length = n) (hsize : g.locals.size = nL) (hstack : g.stack = As.reverse ++ .ref b :: rest) (hW : 2 * g.monitorRoom + (rest.map fun v => v.category).sum ≤ 8) (hdg : decode cc g.pc = .ok (.invokevirtual index, 3)) (hf : cells + mc ≤ R.cells ∧ slots + ms ≤ R.slots) :
    va_Run p l e R s m args below meth c H locs cells slots mc ms g rest (Qc (Value.ref b :: As).toArray) free := by
  obtain ⟨⟨hrc, hrs, hfr, hlo, hws, hcw⟩, hcode, hini, hy, hlen, hl, hin, hse⟩ := cw
  have hK : Back l R p e below s args y 3 8 (PreOf R mc ms Pc) (PostOf Qc mc ms free) := va_backW (hh := hh) (bytes := bytes) (maxL := maxL) (ret := ret) hM hp.1 hrc hrs hfr hlo hws hcw (fun a' U hW => word_at hW (Or.inl (by first | rfl | simp [Cond.onTables, Cond.keeps, Cond.steady])) hini)
  obtain ⟨hx, hb, hml, ho, -⟩ := S
  obtain ⟨-, ⟨cellB, hcB, hoB, hclB⟩, hPc⟩ := hp
  intro T hT X
  obtain ⟨v, vm₁, ⟨U', l2, c2, s2⟩, hW₁, X', ⟨g', mk, t, L, e1, e2, hq, h1, hL, h2, h3⟩, st⟩ := vx_callVW X hx (C := C) (hh := hh) (bytes := bytes) (maxL := maxL) (ret := ret) ho hl hin hse hcode hy hK (by rw [hT]; exact hcB) hoB hclB hg (hsize.trans hml.symm) (argsL := As) (rest := rest) (fun sig h => hn.trans (hlen sig h)) hstack hW (by rw [hb]; exact hdg)
    (fun vm₁ hW₁ => ⟨hf.1, hf.2, hPc (T.setVm vm₁) hT hW₁⟩)
  dsimp only [Pt.U, Pt.locs, Pt.cells, Pt.slots] at X' e1 e2 h1 h2 h3 st
  subst h1; subst h2; subst h3
  exact ⟨v, (T.setVm vm₁).calling g' mk (Value.ref b :: As).toArray, t, U', L, hT, X', hL, e1, e2, hq, st⟩
section
variable {y : MethodName} {bytes cc : ByteArray} {maxL nL mc ms n index : Nat} {ret : Option FieldType} {ws : List Cond} {rm : Room} {Pc : Array Value → State → Prop} {Qc : Array Value → State → Outcome → State → Prop} {XC : String → State → State → Prop} {free : Addr → Prop} {Ts : List Cond} {own C : String} {b : Addr} {As rest : List Value} {g : JFrame}
theorem vx_runVX {hh : List (Nat × Nat × Nat × Nat)} (S : CallFix p m c cc nL s args Ts own) (hM : vx_Met l y ws rm Pc Qc XC mc ms free) (cw : vx_CVW R s args own C index y bytes maxL ret hh ws rm mc ms n) (hp : PreV s H C b Pc As)
    (hg : g.method = m) (hn : As.length = n) (hsize : g.locals.size = nL) (hstack : g.stack = As.reverse ++ .ref b :: rest) (hW : 2 * g.monitorRoom + (rest.map fun v => v.category).sum ≤ 8) (hdg : decode cc g.pc = .ok (.invokevirtual index, 3)) (hf : cells + mc ≤ R.cells ∧ slots + ms ≤ R.slots) :
    vx_Run p l e R s m args below meth c H locs cells slots mc ms g rest (Qc (Value.ref b :: As).toArray) XC free := by
  obtain ⟨⟨hrc, hrs, hfr, hlo, hws, hcw⟩, hcode, hini, hy, hlen, hl, hin, hse⟩ := cw
  have hK : vx_Back l R p e below s args y 3 8 (PreOf R mc ms Pc) (PostOf Qc mc ms free) (vx_Post XC mc ms free) := vx_backW (hh := hh) (bytes := bytes) (maxL := maxL) (ret := ret) hM hp.1 hrc hrs hfr hlo hws hcw (fun a' U hW => word_at hW (Or.inl (by first | rfl | simp [Cond.onTables, Cond.keeps, Cond.steady])) hini)
  obtain ⟨hx, hb, hml, ho, -⟩ := S
  obtain ⟨-, ⟨cellB, hcB, hoB, hclB⟩, hPc⟩ := hp
  intro T hT X
  rcases vx_callVX X hx (C := C) (hh := hh) (bytes := bytes) (maxL := maxL) (ret := ret) ho hl hin hse hcode hy hK (by rw [hT]; exact hcB) hoB hclB hg (hsize.trans hml.symm) (argsL := As) (rest := rest) (fun sig h => hn.trans (hlen sig h)) hstack hW (by rw [hb]; exact hdg)
    (fun vm₁ hW₁ => ⟨hf.1, hf.2, hPc (T.setVm vm₁) hT hW₁⟩) with ⟨v, vm₁, ⟨U', l2, c2, s2⟩, hW₁, X', ⟨g', mk, t, L, e1, e2, hq, h1, hL, h2, h3⟩, st⟩ | ⟨q, vm₁, ⟨U', l2, c2, s2⟩, hW₁, X', ⟨g', mk, t, L, E, ce, e1, e2, hq, hce, hcv, hcl, h1, hL, h2, h3⟩, st⟩
  · dsimp only [Pt.U, Pt.locs, Pt.cells, Pt.slots] at X' e1 e2 h1 h2 h3 st
    subst h1; subst h2; subst h3
    exact Or.inl ⟨v, (T.setVm vm₁).calling g' mk (Value.ref b :: As).toArray, t, U', L, hT, X', hL, e1, e2, hq, st⟩
  · dsimp only [Pt.U, Pt.locs, Pt.cells, Pt.slots] at X' e1 e2 h1 h2 h3 st hcl
    subst h1; subst h2; subst h3
    exact Or.inr ⟨q, (T.setVm vm₁).calling g' mk (Value.ref b :: As).toArray, t, U', L, E, ce, hT, X', hL, e1, e2, hq, hce, hcv, vx_cls hW₁ hcl, st⟩
theorem vx_runSX {hh : List (Nat × Nat × Nat × Nat)} (S : CallFix p m c cc nL s args Ts own) (hM : vx_Met l y ws rm Pc Qc XC mc ms free) (cw : vx_CSW R s args own index y bytes maxL ret hh ws rm mc ms n) (hp : PreS s H Pc As)
    (hg : g.method = m) (hn : As.length = n) (hsize : g.locals.size = nL) (hstack : g.stack = As.reverse ++ rest) (hW : 2 * g.monitorRoom + (rest.map fun v => v.category).sum ≤ 8) (hdg : decode cc g.pc = .ok (.invokestatic index, 3)) (hf : cells + mc ≤ R.cells ∧ slots + ms ≤ R.slots) :
    vx_Run p l e R s m args below meth c H locs cells slots mc ms g rest (Qc As.toArray) XC free := by
  obtain ⟨⟨hrc, hrs, hfr, hlo, hws, hcw⟩, hcode, hini, hy, hlen, hl, hstt⟩ := cw
  have hK : vx_Back l R p e below s args y 3 8 (PreOf R mc ms Pc) (PostOf Qc mc ms free) (vx_Post XC mc ms free) := vx_backW (hh := hh) (bytes := bytes) (maxL := maxL) (ret := ret) hM hp.1 hrc hrs hfr hlo hws hcw (fun a' U hW => word_at hW (Or.inl (by first | rfl | simp [Cond.onTables, Cond.keeps, Cond.steady])) hini)
  obtain ⟨hx, hb, hml, ho, -⟩ := S
  intro T hT X
  rcases vx_callSX X hx (hh := hh) (bytes := bytes) (maxL := maxL) (ret := ret) ho hl hstt hini hcode hy hK hg (hsize.trans hml.symm) (argsL := As) (rest := rest) (fun sig h => hn.trans (hlen sig h)) hstack hW (by rw [hb]; exact hdg)
    (fun vm₁ hW₁ => ⟨hf.1, hf.2, hp.2 (T.setVm vm₁) hT hW₁⟩) with ⟨v, vm₁, ⟨U', l2, c2, s2⟩, hW₁, X', ⟨g', mk, t, L, e1, e2, hq, h1, hL, h2, h3⟩, st⟩ | ⟨q, vm₁, ⟨U', l2, c2, s2⟩, hW₁, X', ⟨g', mk, t, L, E, ce, e1, e2, hq, hce, hcv, hcl, h1, hL, h2, h3⟩, st⟩
  · dsimp only [Pt.U, Pt.locs, Pt.cells, Pt.slots] at X' e1 e2 h1 h2 h3 st
    subst h1; subst h2; subst h3
    exact Or.inl ⟨v, (T.setVm vm₁).calling g' mk As.toArray, t, U', L, hT, X', hL, e1, e2, hq, st⟩
  · dsimp only [Pt.U, Pt.locs, Pt.cells, Pt.slots] at X' e1 e2 h1 h2 h3 st hcl
    subst h1; subst h2; subst h3
    exact Or.inr ⟨q, (T.setVm vm₁).calling g' mk As.toArray, t, U', L, E, ce, hT, X', hL, e1, e2, hq, hce, hcv, vx_cls hW₁ hcl, st⟩
end
end VXH
theorem vx_ofWH {l : Launch} {y : MethodName} {ws ws' : List Cond} {rm : Room} {Pc : Array Value → State → Prop} {Qc : Array Value → State → Outcome → State → Prop} {XC : String → State → State → Prop} {mc ms : Nat} {free : Addr → Prop} {cc : ByteArray} {maxL : Nat} {ret : Option FieldType} {hh : List (Nat × Nat × Nat × Nat)}
    (hy : plainName y.cls = true) (hw : ws = Cond.codeWith y cc maxL ret hh :: ws')
    (body : ∀ p e s m args below meth c s₁, BodyLoose p l y (headSpec ws rm) cc maxL ret e s m args below meth c s₁ → c.maxLocals = maxL → Pc args s →
      W p l e (headSpec ws rm).room s m args below meth c s.heap [] 0 0 (vx_MQ below Qc XC args s mc ms free) (entryFrame m args maxL)) : vx_Met l y ws rm Pc Qc XC mc ms free := by
  refine MetFree.of_bodyS (code := cc) (maxLocals := maxL) (ret := ret) hy ?_ ?_
  · intro args s m h hn
    obtain ⟨m9, meth, c, hn9, h1, h2, h3, h4, -, h5, h6, -⟩ := Cond.codeWith_spec (atoms_spec (ws := ws) h _ (by rw [hw]; exact List.mem_cons_self))
    cases hn.symm.trans hn9
    exact ⟨meth, c, h1, h2, h3, h4, h5, h6⟩
  · intro p e s m args below meth c s₁ B hml hP _
    have hh0 : s₁.heap = s.heap := by rw [B.state]; rfl
    obtain ⟨t, a1, o, b1, b2, b3⟩ := body p e s m args below meth c s₁ B hml hP s₁ hh0 (Stand.of_body B)
    exact ⟨t, o, a1, b1, b2, b3⟩
/-! ===== END ===== -/
end
section
/-! The mathematics of the document, apart from any machine: lines, signs, truth that depends on signs alone, and why finitely many fractions are enough. -/
/-- two numbers have one sign -/
def qm_ss (r t : Rat) : Prop := (r < 0 ↔ t < 0) ∧ (r = 0 ↔ t = 0)
theorem qm_ss_rf (r : Rat) : qm_ss r r := ⟨Iff.rfl, Iff.rfl⟩
theorem qm_ss_sy {r t : Rat} (h : qm_ss r t) : qm_ss t r := ⟨h.1.symm, h.2.symm⟩
theorem qm_ss_tr {r t u : Rat} (h : qm_ss r t) (k : qm_ss t u) : qm_ss r u := ⟨h.1.trans k.1, h.2.trans k.2⟩
theorem qm_tri (r : Rat) : r < 0 ∨ r = 0 ∨ 0 < r := by grind
theorem qm_ss_pos {r t : Rat} (h : qm_ss r t) : 0 < r ↔ 0 < t := by
  obtain ⟨h1, h2⟩ := h
  rcases qm_tri r with a | a | a <;> rcases qm_tri t with b | b | b <;> grind
theorem qm_ss_le {r t : Rat} (h : qm_ss r t) : r ≤ 0 ↔ t ≤ 0 := by
  have h3 := qm_ss_pos h
  rcases qm_tri r with a | a | a <;> rcases qm_tri t with b | b | b <;> grind
theorem qm_ss_neg2 {r t : Rat} (h1 : r < 0) (h2 : t < 0) : qm_ss r t := ⟨⟨fun _ => h2, fun _ => h1⟩, ⟨fun h => by grind, fun h => by grind⟩⟩
theorem qm_ss_pos2 {r t : Rat} (h1 : 0 < r) (h2 : 0 < t) : qm_ss r t := ⟨⟨fun h => by grind, fun h => by grind⟩, ⟨fun h => by grind, fun h => by grind⟩⟩
theorem qm_ss_zero2 {r t : Rat} (h1 : r = 0) (h2 : t = 0) : qm_ss r t := by rw [h1, h2]; exact qm_ss_rf 0
theorem qm_mul_neg_neg {k r : Rat} (hk : k < 0) : k * r < 0 ↔ 0 < r := by
  have h : 0 < -k := by grind
  have h2 := Rat.mul_pos_iff_of_pos_left (b := r) h
  rw [Rat.neg_mul] at h2
  constructor
  · intro q
    exact h2.mp (by grind)
  · intro q
    have := h2.mpr q
    grind
theorem qm_ss_mul {k r t : Rat} (hk : k ≠ 0) (h : qm_ss r t) : qm_ss (k * r) (k * t) := by
  refine ⟨?_, ?_⟩
  · rcases qm_tri k with q | q | q
    · rw [qm_mul_neg_neg q, qm_mul_neg_neg q]
      exact qm_ss_pos h
    · exact absurd q hk
    · rw [Rat.mul_neg_iff_of_pos_left q, Rat.mul_neg_iff_of_pos_left q]
      exact h.1
  · rw [Rat.mul_eq_zero, Rat.mul_eq_zero]
    exact or_congr Iff.rfl h.2
theorem qm_ss_of_mul {k r t : Rat} (hk : k ≠ 0) (h : qm_ss (k * r) (k * t)) : qm_ss r t := by
  have h2 : k⁻¹ ≠ 0 := fun q => hk (by rw [← Rat.inv_inv k, q, Rat.inv_zero])
  have h3 := qm_ss_mul h2 h
  rw [← Rat.mul_assoc, ← Rat.mul_assoc, Rat.inv_mul_cancel k hk, Rat.one_mul, Rat.one_mul] at h3
  exact h3
/-- a line: a x + b y + c -/
def qm_at (L : Int × Int × Int) (x y : Rat) : Rat := (L.1 : Rat) * x + (L.2.1 : Rat) * y + (L.2.2 : Rat)
/-- the line with x and y exchanged -/
def qm_sw (L : Int × Int × Int) : Int × Int × Int := (L.2.1, L.1, L.2.2)
theorem qm_at_sw (L : Int × Int × Int) (x y : Rat) : qm_at (qm_sw L) y x = qm_at L x y := by
  unfold qm_at qm_sw
  dsimp only
  grind
/-- two points have the same signs on all lines; and so to any depth of quantifiers -/
def qm_E0 (Ls : List (Int × Int × Int)) (x y x' y' : Rat) : Prop := ∀ L ∈ Ls, qm_ss (qm_at L x y) (qm_at L x' y')
def qm_E (Ls : List (Int × Int × Int)) : Nat → Rat → Rat → Rat → Rat → Prop
  | 0, x, y, x', y' => qm_E0 Ls x y x' y'
  | n + 1, x, y, x', y' => qm_E0 Ls x y x' y' ∧ (∀ u, ∃ u', qm_E Ls n u y u' y') ∧ (∀ u', ∃ u, qm_E Ls n u y u' y') ∧ (∀ v, ∃ v', qm_E Ls n x v x' v') ∧ (∀ v', ∃ v, qm_E Ls n x v x' v')
theorem qm_E_dn {Ls : List (Int × Int × Int)} : ∀ (n : Nat) (x y x' y' : Rat), qm_E Ls (n + 1) x y x' y' → qm_E Ls n x y x' y'
  | 0, _, _, _, _, h => h.1
  | n + 1, _, _, _, _, h => ⟨h.1, fun u => (h.2.1 u).imp fun _ q => qm_E_dn n _ _ _ _ q, fun u => (h.2.2.1 u).imp fun _ q => qm_E_dn n _ _ _ _ q, fun u => (h.2.2.2.1 u).imp fun _ q => qm_E_dn n _ _ _ _ q, fun u => (h.2.2.2.2 u).imp fun _ q => qm_E_dn n _ _ _ _ q⟩
theorem qm_E_le {Ls : List (Int × Int × Int)} {n m : Nat} {x y x' y' : Rat} (h : n ≤ m) (k : qm_E Ls m x y x' y') : qm_E Ls n x y x' y' := by
  induction m with
  | zero => rw [Nat.le_zero.mp h]; exact k
  | succ m ih =>
    rcases Nat.lt_or_ge m n with q | q
    · have : n = m + 1 := by omega
      rw [this]; exact k
    · exact ih q (qm_E_dn m _ _ _ _ k)
theorem qm_E_sub {Ls Ms : List (Int × Int × Int)} (hs : ∀ L ∈ Ms, L ∈ Ls) : ∀ (n : Nat) (x y x' y' : Rat), qm_E Ls n x y x' y' → qm_E Ms n x y x' y'
  | 0, _, _, _, _, h => fun L hL => h L (hs L hL)
  | n + 1, _, _, _, _, h => ⟨fun L hL => h.1 L (hs L hL), fun u => (h.2.1 u).imp fun _ q => qm_E_sub hs n _ _ _ _ q, fun u => (h.2.2.1 u).imp fun _ q => qm_E_sub hs n _ _ _ _ q, fun u => (h.2.2.2.1 u).imp fun _ q => qm_E_sub hs n _ _ _ _ q, fun u => (h.2.2.2.2 u).imp fun _ q => qm_E_sub hs n _ _ _ _ q⟩
theorem qm_E_rf {Ls : List (Int × Int × Int)} : ∀ (n : Nat) (x y : Rat), qm_E Ls n x y x y
  | 0, _, _ => fun _ _ => qm_ss_rf _
  | n + 1, _, _ => ⟨fun _ _ => qm_ss_rf _, fun u => ⟨u, qm_E_rf n _ _⟩, fun u => ⟨u, qm_E_rf n _ _⟩, fun u => ⟨u, qm_E_rf n _ _⟩, fun u => ⟨u, qm_E_rf n _ _⟩⟩
theorem qm_E0_sw {Ls : List (Int × Int × Int)} {x y x' y' : Rat} (h : qm_E0 (Ls.map qm_sw) y x y' x') : qm_E0 Ls x y x' y' := by
  intro L hL
  have := h (qm_sw L) (List.mem_map_of_mem hL)
  rwa [qm_at_sw, qm_at_sw] at this
theorem qm_E_sw {Ls : List (Int × Int × Int)} : ∀ (n : Nat) (x y x' y' : Rat), qm_E (Ls.map qm_sw) n y x y' x' → qm_E Ls n x y x' y'
  | 0, _, _, _, _, h => qm_E0_sw h
  | n + 1, _, _, _, _, h => ⟨qm_E0_sw h.1, fun u => (h.2.2.2.1 u).imp fun _ q => qm_E_sw n _ _ _ _ q, fun u => (h.2.2.2.2 u).imp fun _ q => qm_E_sw n _ _ _ _ q, fun u => (h.2.1 u).imp fun _ q => qm_E_sw n _ _ _ _ q, fun u => (h.2.2.1 u).imp fun _ q => qm_E_sw n _ _ _ _ q⟩
/-- a truth that depends on the signs alone, to depth d -/
def qm_inv (Ls : List (Int × Int × Int)) (d : Nat) (P : Rat → Rat → Prop) : Prop := ∀ x y x' y', qm_E Ls d x y x' y' → (P x y ↔ P x' y')
theorem qm_inv_and {Ls Ms : List (Int × Int × Int)} {d e : Nat} {P Q : Rat → Rat → Prop} (h1 : qm_inv Ls d P) (h2 : qm_inv Ms e Q) : qm_inv (Ls ++ Ms) (max d e) (fun x y => P x y ∧ Q x y) := fun _ _ _ _ h =>
  and_congr (h1 _ _ _ _ (qm_E_le (Nat.le_max_left d e) (qm_E_sub (fun _ hL => List.mem_append_left _ hL) _ _ _ _ _ h))) (h2 _ _ _ _ (qm_E_le (Nat.le_max_right d e) (qm_E_sub (fun _ hL => List.mem_append_right _ hL) _ _ _ _ _ h)))
theorem qm_inv_or {Ls Ms : List (Int × Int × Int)} {d e : Nat} {P Q : Rat → Rat → Prop} (h1 : qm_inv Ls d P) (h2 : qm_inv Ms e Q) : qm_inv (Ls ++ Ms) (max d e) (fun x y => P x y ∨ Q x y) := fun _ _ _ _ h =>
  or_congr (h1 _ _ _ _ (qm_E_le (Nat.le_max_left d e) (qm_E_sub (fun _ hL => List.mem_append_left _ hL) _ _ _ _ _ h))) (h2 _ _ _ _ (qm_E_le (Nat.le_max_right d e) (qm_E_sub (fun _ hL => List.mem_append_right _ hL) _ _ _ _ _ h)))
theorem qm_inv_not {Ls : List (Int × Int × Int)} {d : Nat} {P : Rat → Rat → Prop} (h : qm_inv Ls d P) : qm_inv Ls d (fun x y => ¬ P x y) := fun _ _ _ _ k => not_congr (h _ _ _ _ k)
theorem qm_inv_sx {Ls : List (Int × Int × Int)} {d : Nat} {P : Rat → Rat → Prop} (h : qm_inv Ls d P) : qm_inv Ls (d + 1) (fun _ y => ∃ u, P u y) := fun _ _ _ _ k =>
  ⟨fun ⟨u, hu⟩ => (k.2.1 u).imp fun _ q => (h _ _ _ _ q).mp hu, fun ⟨u, hu⟩ => (k.2.2.1 u).imp fun _ q => (h _ _ _ _ q).mpr hu⟩
theorem qm_inv_sy {Ls : List (Int × Int × Int)} {d : Nat} {P : Rat → Rat → Prop} (h : qm_inv Ls d P) : qm_inv Ls (d + 1) (fun x _ => ∃ v, P x v) := fun _ _ _ _ k =>
  ⟨fun ⟨u, hu⟩ => (k.2.2.2.1 u).imp fun _ q => (h _ _ _ _ q).mp hu, fun ⟨u, hu⟩ => (k.2.2.2.2 u).imp fun _ q => (h _ _ _ _ q).mpr hu⟩
theorem qm_inv_ex {Ls : List (Int × Int × Int)} {d : Nat} {P : Rat → Rat → Prop} (h : qm_inv Ls d P) : qm_inv Ls (d + 1) (fun _ y => ∀ u, P u y) := fun _ _ _ _ k =>
  ⟨fun hu u => let ⟨w, q⟩ := k.2.2.1 u; (h _ _ _ _ q).mp (hu w), fun hu u => let ⟨w, q⟩ := k.2.1 u; (h _ _ _ _ q).mpr (hu w)⟩
theorem qm_inv_ey {Ls : List (Int × Int × Int)} {d : Nat} {P : Rat → Rat → Prop} (h : qm_inv Ls d P) : qm_inv Ls (d + 1) (fun x _ => ∀ v, P x v) := fun _ _ _ _ k =>
  ⟨fun hu u => let ⟨w, q⟩ := k.2.2.2.2 u; (h _ _ _ _ q).mp (hu w), fun hu u => let ⟨w, q⟩ := k.2.2.2.1 u; (h _ _ _ _ q).mpr (hu w)⟩
theorem qm_inv_sw {Ls : List (Int × Int × Int)} {d : Nat} {P : Rat → Rat → Prop} (h : qm_inv Ls d P) : qm_inv (Ls.map qm_sw) d (fun y x => P x y) := fun y x y' x' k => h x y x' y' (qm_E_sw d _ _ _ _ k)
/-- an atom's truth -/
def qm_atom (L : Int × Int × Int) (op : Nat) (x y : Rat) : Prop := if op = 0 then qm_at L x y = 0 else if op = 1 then qm_at L x y < 0 else qm_at L x y ≤ 0
theorem qm_inv_atom (L : Int × Int × Int) (op : Nat) : qm_inv [L] 0 (qm_atom L op) := by
  intro x y x' y' h
  have h1 : qm_ss (qm_at L x y) (qm_at L x' y') := h L (List.mem_singleton.mpr rfl)
  unfold qm_atom
  split
  · exact h1.2
  · split
    · exact h1.1
    · exact qm_ss_le h1
/-- something lies between all of lo and all of up -/
theorem qm_max : ∀ (l : List Rat), l = [] ∨ ∃ m ∈ l, ∀ a ∈ l, a ≤ m
  | [] => Or.inl rfl
  | b :: l => by
    refine Or.inr ?_
    rcases qm_max l with h | ⟨m, hm, h⟩
    · subst h
      exact ⟨b, List.mem_cons_self, fun a ha => by rw [List.mem_singleton.mp ha]; exact Rat.le_refl⟩
    · rcases Rat.le_total (a := b) (b := m) with q | q
      · refine ⟨m, List.mem_cons_of_mem _ hm, fun a ha => ?_⟩
        rcases List.mem_cons.mp ha with e | e
        · rw [e]; exact q
        · exact h a e
      · refine ⟨b, List.mem_cons_self, fun a ha => ?_⟩
        rcases List.mem_cons.mp ha with e | e
        · rw [e]; exact Rat.le_refl
        · exact Rat.le_trans (h a e) q
theorem qm_min : ∀ (l : List Rat), l = [] ∨ ∃ m ∈ l, ∀ a ∈ l, m ≤ a
  | [] => Or.inl rfl
  | b :: l => by
    refine Or.inr ?_
    rcases qm_min l with h | ⟨m, hm, h⟩
    · subst h
      exact ⟨b, List.mem_cons_self, fun a ha => by rw [List.mem_singleton.mp ha]; exact Rat.le_refl⟩
    · rcases Rat.le_total (a := m) (b := b) with q | q
      · refine ⟨m, List.mem_cons_of_mem _ hm, fun a ha => ?_⟩
        rcases List.mem_cons.mp ha with e | e
        · rw [e]; exact q
        · exact h a e
      · refine ⟨b, List.mem_cons_self, fun a ha => ?_⟩
        rcases List.mem_cons.mp ha with e | e
        · rw [e]; exact Rat.le_refl
        · exact Rat.le_trans q (h a e)
theorem qm_mid {a b : Rat} (h : a < b) : ∃ c, a < c ∧ c < b := by
  have h1 : (0 : Rat) < 2 := by decide
  refine ⟨(a + b) / 2, ?_, ?_⟩
  · rw [Rat.lt_div_iff h1]
    grind
  · rw [Rat.div_lt_iff h1]
    grind
theorem qm_between (lo up : List Rat) (h : ∀ a ∈ lo, ∀ b ∈ up, a < b) : ∃ v, (∀ a ∈ lo, a < v) ∧ ∀ b ∈ up, v < b := by
  rcases qm_max lo with e1 | ⟨m, hm, h1⟩
  · subst e1
    rcases qm_min up with e2 | ⟨n, hn, h2⟩
    · subst e2
      exact ⟨0, fun a ha => (by cases ha), fun a ha => (by cases ha)⟩
    · exact ⟨n - 1, fun a ha => (by cases ha), fun b hb => (by have := h2 b hb; grind)⟩
  · rcases qm_min up with e2 | ⟨n, hn, h2⟩
    · subst e2
      exact ⟨m + 1, fun a ha => (by have := h1 a ha; grind), fun a ha => (by cases ha)⟩
    · obtain ⟨v, v1, v2⟩ := qm_mid (h m hm n hn)
      exact ⟨v, fun a ha => (by have := h1 a ha; grind), fun b hb => (by have := h2 b hb; grind)⟩
/-- what is left of a line at x when y is away -/
def qm_A (L : Int × Int × Int) (x : Rat) : Rat := (L.1 : Rat) * x + (L.2.2 : Rat)
/-- above 0, 0, below 0 as two lines lie at x: where they meet it is 0 -/
def qm_D (L M : Int × Int × Int) (x : Rat) : Rat := (M.2.1 : Rat) * qm_A L x - (L.2.1 : Rat) * qm_A M x
theorem qm_at_A (L : Int × Int × Int) (x y : Rat) : qm_at L x y = (L.2.1 : Rat) * y + qm_A L x := by unfold qm_at qm_A; grind
/-- where the order of the lines over x and over x' is one, each point over x has its like over x' -/
theorem qm_forth {Ls : List (Int × Int × Int)} {x x' : Rat} (hD : ∀ L ∈ Ls, ∀ M ∈ Ls, qm_ss (qm_D L M x) (qm_D L M x')) (hV : ∀ L ∈ Ls, L.2.1 = 0 → qm_ss (qm_A L x) (qm_A L x')) (y : Rat) : ∃ y', qm_E0 Ls x y x' y' := by
  by_cases hz : ∃ L ∈ Ls, L.2.1 ≠ 0 ∧ qm_at L x y = 0
  · obtain ⟨L, hL, hb, h0⟩ := hz
    have hb' : (L.2.1 : Rat) ≠ 0 := fun q => hb (Rat.intCast_eq_zero_iff.mp q)
    refine ⟨-(qm_A L x') / (L.2.1 : Rat), fun M hM => ?_⟩
    have e0 : (L.2.1 : Rat) * y = - qm_A L x := by rw [qm_at_A] at h0; grind
    have e1 : (L.2.1 : Rat) * (-(qm_A L x') / (L.2.1 : Rat)) = - qm_A L x' := by rw [Rat.mul_comm]; exact Rat.div_mul_cancel hb'
    have k0 : (L.2.1 : Rat) * qm_at M x y = (-1) * qm_D L M x := by
      rw [qm_at_A]; unfold qm_D
      have : (L.2.1 : Rat) * ((M.2.1 : Rat) * y + qm_A M x) = (M.2.1 : Rat) * ((L.2.1 : Rat) * y) + (L.2.1 : Rat) * qm_A M x := by grind
      rw [this, e0]; grind
    have k1 : (L.2.1 : Rat) * qm_at M x' (-(qm_A L x') / (L.2.1 : Rat)) = (-1) * qm_D L M x' := by
      rw [qm_at_A]; unfold qm_D
      have : (L.2.1 : Rat) * ((M.2.1 : Rat) * (-(qm_A L x') / (L.2.1 : Rat)) + qm_A M x') = (M.2.1 : Rat) * ((L.2.1 : Rat) * (-(qm_A L x') / (L.2.1 : Rat))) + (L.2.1 : Rat) * qm_A M x' := by grind
      rw [this, e1]; grind
    refine qm_ss_of_mul hb' ?_
    rw [k0, k1]
    exact qm_ss_mul (by decide) (hD L hL M hM)
  · have hn : ∀ L ∈ Ls, L.2.1 ≠ 0 → qm_at L x y ≠ 0 := fun L hL hb h0 => hz ⟨L, hL, hb, h0⟩
    have hgap : ∀ L ∈ Ls, L.2.1 ≠ 0 → ∀ z : Rat, (L.2.1 : Rat) * (y - -(qm_A L x) / (L.2.1 : Rat)) = qm_at L x y ∧ (L.2.1 : Rat) * (z - -(qm_A L x') / (L.2.1 : Rat)) = qm_at L x' z := by
      intro L hL hb z
      have hb' : (L.2.1 : Rat) ≠ 0 := fun q => hb (Rat.intCast_eq_zero_iff.mp q)
      have e1 : ∀ w : Rat, (L.2.1 : Rat) * (-w / (L.2.1 : Rat)) = - w := fun w => by rw [Rat.mul_comm]; exact Rat.div_mul_cancel hb'
      rw [qm_at_A, qm_at_A]
      have a1 := e1 (qm_A L x)
      have a2 := e1 (qm_A L x')
      constructor <;> grind
    obtain ⟨v, hv1, hv2⟩ := qm_between ((Ls.filter (fun L => decide (L.2.1 ≠ 0 ∧ -(qm_A L x) / (L.2.1 : Rat) < y))).map (fun L => -(qm_A L x') / (L.2.1 : Rat))) ((Ls.filter (fun L => decide (L.2.1 ≠ 0 ∧ y < -(qm_A L x) / (L.2.1 : Rat)))).map (fun L => -(qm_A L x') / (L.2.1 : Rat))) (by
      intro a ha b hb
      obtain ⟨L, hL, rfl⟩ := List.mem_map.mp ha
      obtain ⟨M, hM, rfl⟩ := List.mem_map.mp hb
      obtain ⟨hL, hL2⟩ := List.mem_filter.mp hL
      obtain ⟨hM, hM2⟩ := List.mem_filter.mp hM
      obtain ⟨bL, yL⟩ := of_decide_eq_true hL2
      obtain ⟨bM, yM⟩ := of_decide_eq_true hM2
      have bL' : (L.2.1 : Rat) ≠ 0 := fun q => bL (Rat.intCast_eq_zero_iff.mp q)
      have bM' : (M.2.1 : Rat) ≠ 0 := fun q => bM (Rat.intCast_eq_zero_iff.mp q)
      have hk : ((L.2.1 : Rat) * (M.2.1 : Rat)) ≠ 0 := fun q => (Rat.mul_eq_zero.mp q).elim bL' bM'
      have key : ∀ w : Rat, ((L.2.1 : Rat) * (M.2.1 : Rat)) * (-(qm_A M w) / (M.2.1 : Rat) - -(qm_A L w) / (L.2.1 : Rat)) = qm_D L M w := by
        intro w
        have f1 : (L.2.1 : Rat) * (-(qm_A L w) / (L.2.1 : Rat)) = - qm_A L w := by rw [Rat.mul_comm]; exact Rat.div_mul_cancel bL'
        have f2 : (M.2.1 : Rat) * (-(qm_A M w) / (M.2.1 : Rat)) = - qm_A M w := by rw [Rat.mul_comm]; exact Rat.div_mul_cancel bM'
        unfold qm_D
        have : ((L.2.1 : Rat) * (M.2.1 : Rat)) * (-(qm_A M w) / (M.2.1 : Rat) - -(qm_A L w) / (L.2.1 : Rat)) = (L.2.1 : Rat) * ((M.2.1 : Rat) * (-(qm_A M w) / (M.2.1 : Rat))) - (M.2.1 : Rat) * ((L.2.1 : Rat) * (-(qm_A L w) / (L.2.1 : Rat))) := by grind
        rw [this, f1, f2]; grind
      have h1 : qm_ss (-(qm_A M x) / (M.2.1 : Rat) - -(qm_A L x) / (L.2.1 : Rat)) (-(qm_A M x') / (M.2.1 : Rat) - -(qm_A L x') / (L.2.1 : Rat)) := by
        refine qm_ss_of_mul hk ?_
        rw [key, key]
        exact hD L hL M hM
      have h2 := (qm_ss_pos h1).mp (by grind)
      grind)
    refine ⟨v, fun L hL => ?_⟩
    by_cases hb : L.2.1 = 0
    · have h1 := hV L hL hb
      rw [qm_at_A, qm_at_A, hb]
      have e1 : ∀ w z : Rat, ((0 : Int) : Rat) * w + z = z := fun w z => by rw [Rat.intCast_zero]; grind
      rw [e1, e1]
      exact h1
    · have hb' : (L.2.1 : Rat) ≠ 0 := fun q => hb (Rat.intCast_eq_zero_iff.mp q)
      obtain ⟨g1, g2⟩ := hgap L hL hb v
      have g3 := hn L hL hb
      rw [← g1, ← g2]
      refine qm_ss_mul hb' ?_
      have hne : y - -(qm_A L x) / (L.2.1 : Rat) ≠ 0 := fun q => g3 (by rw [← g1, q, Rat.mul_zero])
      rcases qm_tri (y - -(qm_A L x) / (L.2.1 : Rat)) with c | c | c
      · have := hv2 (-(qm_A L x') / (L.2.1 : Rat)) (List.mem_map.mpr ⟨L, List.mem_filter.mpr ⟨hL, decide_eq_true ⟨hb, by grind⟩⟩, rfl⟩)
        exact qm_ss_neg2 c (by grind)
      · exact absurd c hne
      · have := hv1 (-(qm_A L x') / (L.2.1 : Rat)) (List.mem_map.mpr ⟨L, List.mem_filter.mpr ⟨hL, decide_eq_true ⟨hb, by grind⟩⟩, rfl⟩)
        exact qm_ss_pos2 c (by grind)
/-- a linear function keeps its sign where no mark lies between, if its root is a mark -/
theorem qm_lin {p q x x' : Rat} (h : p ≠ 0 → ∃ m : Rat, p * m + q = 0 ∧ qm_ss (x - m) (x' - m)) : qm_ss (p * x + q) (p * x' + q) := by
  by_cases hp : p = 0
  · rw [hp, Rat.zero_mul, Rat.zero_mul]
    exact qm_ss_rf _
  · obtain ⟨m, hm, hs⟩ := h hp
    have e1 : ∀ w : Rat, p * w + q = p * (w - m) := fun w => by grind
    rw [e1, e1]
    exact qm_ss_mul hp hs
/-- the marks mk hold every place where, with y given, a line is 0 -/
def qm_cov0 (Ls : List (Int × Int × Int)) (y : Rat) (mk : Rat → Prop) : Prop := ∀ L ∈ Ls, L.1 ≠ 0 → ∃ m, mk m ∧ qm_at L m y = 0
/-- .. and every place where two lines meet -/
def qm_cov1 (Ls : List (Int × Int × Int)) (mk : Rat → Prop) : Prop := ∀ L ∈ Ls, ∀ M ∈ Ls, M.2.1 * L.1 - L.2.1 * M.1 ≠ 0 → ∃ m, mk m ∧ qm_D L M m = 0
theorem qm_cell0 {Ls : List (Int × Int × Int)} {y x x' : Rat} {mk : Rat → Prop} (h0 : qm_cov0 Ls y mk) (hc : ∀ m, mk m → qm_ss (x - m) (x' - m)) : qm_E0 Ls x y x' y := by
  intro L hL
  have e : ∀ w, qm_at L w y = (L.1 : Rat) * w + ((L.2.1 : Rat) * y + (L.2.2 : Rat)) := fun w => by unfold qm_at; grind
  rw [e, e]
  refine qm_lin fun hp => ?_
  obtain ⟨m, hm, h⟩ := h0 L hL (fun q => hp (by rw [q]; rfl))
  exact ⟨m, by rw [← e]; exact h, hc m hm⟩
theorem qm_cell1 {Ls : List (Int × Int × Int)} {y x x' : Rat} {mk : Rat → Prop} (h0 : qm_cov0 Ls y mk) (h1 : qm_cov1 Ls mk) (hc : ∀ m, mk m → qm_ss (x - m) (x' - m)) : qm_E Ls 1 x y x' y := by
  have hE := qm_cell0 h0 hc
  have hD : ∀ L ∈ Ls, ∀ M ∈ Ls, qm_ss (qm_D L M x) (qm_D L M x') := by
    intro L hL M hM
    have e : ∀ w, qm_D L M w = ((M.2.1 * L.1 - L.2.1 * M.1 : Int) : Rat) * w + ((M.2.1 * L.2.2 - L.2.1 * M.2.2 : Int) : Rat) := fun w => by
      unfold qm_D qm_A
      rw [Rat.intCast_sub, Rat.intCast_sub, Rat.intCast_mul, Rat.intCast_mul, Rat.intCast_mul, Rat.intCast_mul]
      grind
    rw [e, e]
    refine qm_lin fun hp => ?_
    obtain ⟨m, hm, h⟩ := h1 L hL M hM (fun q => hp (by rw [q]; rfl))
    exact ⟨m, by rw [← e]; exact h, hc m hm⟩
  have hV : ∀ L ∈ Ls, L.2.1 = 0 → qm_ss (qm_A L x) (qm_A L x') := by
    intro L hL hb
    have h := hE L hL
    rw [qm_at_A, qm_at_A, hb] at h
    have e1 : ∀ w z : Rat, ((0 : Int) : Rat) * w + z = z := fun w z => by rw [Rat.intCast_zero]; grind
    rw [e1, e1] at h
    exact h
  exact ⟨hE, fun u => ⟨u, fun _ _ => qm_ss_rf _⟩, fun u => ⟨u, fun _ _ => qm_ss_rf _⟩, fun v => qm_forth hD hV v, fun v => (qm_forth (fun L hL M hM => qm_ss_sy (hD L hL M hM)) (fun L hL hb => qm_ss_sy (hV L hL hb)) v).imp fun _ q L hL => qm_ss_sy (q L hL)⟩
theorem qm_same {Ls : List (Int × Int × Int)} {d : Nat} {P : Rat → Rat → Prop} {y x x' : Rat} {mk : Rat → Prop} (hi : qm_inv Ls d P) (hd : d ≤ 1) (h0 : qm_cov0 Ls y mk) (h1 : d = 1 → qm_cov1 Ls mk) (hc : ∀ m, mk m → qm_ss (x - m) (x' - m)) : P x y ↔ P x' y := by
  rcases (show d = 0 ∨ d = 1 by omega) with e | e
  · subst e
    exact hi _ _ _ _ (qm_cell0 h0 hc)
  · subst e
    exact hi _ _ _ _ (qm_cell1 h0 (h1 rfl) hc)
/-- rising marks M 0 .. M (n - 1); the stops: each mark, and one fraction ahead of, between and behind them -/
def qm_inc (M : Nat → Rat) (n : Nat) : Prop := ∀ i j, i < j → j < n → M i < M j
def qm_stops (M : Nat → Rat) (n : Nat) (st : Nat → Rat) : Prop := ∀ k, k ≤ n → (k < n → st (2 * k + 1) = M k) ∧ (∀ j, j < k → M j < st (2 * k)) ∧ (∀ j, k ≤ j → j < n → st (2 * k) < M j)
theorem qm_place (M : Nat → Rat) (x : Rat) : ∀ n, qm_inc M n → ∃ k, k ≤ n ∧ (∀ j, j < k → M j < x) ∧ (∀ j, k ≤ j → j < n → x ≤ M j)
  | 0, _ => ⟨0, Nat.le_refl 0, fun j h => absurd h (Nat.not_lt_zero j), fun j _ h => absurd h (Nat.not_lt_zero j)⟩
  | n + 1, hi => by
    obtain ⟨k, hk, h1, h2⟩ := qm_place M x n (fun i j h h' => hi i j h (by omega))
    rcases Nat.lt_or_ge k n with q | q
    · refine ⟨k, by omega, h1, fun j a b => ?_⟩
      rcases Nat.lt_or_ge j n with c | c
      · exact h2 j a c
      · have e : j = n := by omega
        subst e
        exact Rat.le_trans (h2 k (Nat.le_refl k) q) (Rat.le_of_lt (hi k j q (by omega)))
    · have e : k = n := by omega
      subst e
      rcases Rat.le_total (a := x) (b := M k) with c | c
      · refine ⟨k, by omega, h1, fun j a b => ?_⟩
        have e : j = k := by omega
        subst e
        exact c
      · by_cases e : x = M k
        · refine ⟨k, by omega, h1, fun j a b => ?_⟩
          have e2 : j = k := by omega
          subst e2
          rw [e]; exact Rat.le_refl
        · refine ⟨k + 1, by omega, fun j a => ?_, fun j a b => by omega⟩
          rcases Nat.lt_or_ge j k with d | d
          · exact h1 j d
          · have e2 : j = k := by omega
            subst e2
            exact Rat.lt_of_le_of_ne c (fun q => e q.symm)
theorem qm_stop {M : Nat → Rat} {n : Nat} {st : Nat → Rat} (hi : qm_inc M n) (hs : qm_stops M n st) (x : Rat) : ∃ s, s < 2 * n + 1 ∧ ∀ j, j < n → qm_ss (x - M j) (st s - M j) := by
  obtain ⟨k, hk, h1, h2⟩ := qm_place M x n hi
  by_cases h : k < n ∧ x = M k
  · refine ⟨2 * k + 1, by omega, fun j _ => ?_⟩
    rw [((hs k hk).1 h.1), h.2]
    exact qm_ss_rf _
  · refine ⟨2 * k, by omega, fun j hj => ?_⟩
    obtain ⟨-, s1, s2⟩ := hs k hk
    rcases Nat.lt_or_ge j k with c | c
    · have a := h1 j c
      have b := s1 j c
      exact qm_ss_pos2 (by grind) (by grind)
    · have b := s2 j c hj
      have a : x < M j := by
        have hkn : k < n := by omega
        have hne : x ≠ M k := fun q => h ⟨hkn, q⟩
        have a0 : x < M k := Rat.lt_of_le_of_ne (h2 k (Nat.le_refl k) hkn) hne
        rcases Nat.lt_or_ge k j with d | d
        · have := hi k j d hj
          grind
        · have e : j = k := by omega
          rw [e]; exact a0
      exact qm_ss_neg2 (by grind) (by grind)
theorem qm_some {Ls : List (Int × Int × Int)} {d : Nat} {P : Rat → Rat → Prop} {y : Rat} {M st : Nat → Rat} {n : Nat} (hi : qm_inv Ls d P) (hd : d ≤ 1) (hM : qm_inc M n) (hs : qm_stops M n st) (h0 : qm_cov0 Ls y (fun m => ∃ j, j < n ∧ m = M j)) (h1 : d = 1 → qm_cov1 Ls (fun m => ∃ j, j < n ∧ m = M j)) : (∃ u, P u y) ↔ ∃ s, s < 2 * n + 1 ∧ P (st s) y := by
  constructor
  · intro ⟨u, hu⟩
    obtain ⟨s, a, b⟩ := qm_stop hM hs u
    exact ⟨s, a, (qm_same hi hd h0 h1 (fun m ⟨j, hj, e⟩ => by rw [e]; exact b j hj)).mp hu⟩
  · intro ⟨s, _, h⟩
    exact ⟨_, h⟩
theorem qm_every {Ls : List (Int × Int × Int)} {d : Nat} {P : Rat → Rat → Prop} {y : Rat} {M st : Nat → Rat} {n : Nat} (hi : qm_inv Ls d P) (hd : d ≤ 1) (hM : qm_inc M n) (hs : qm_stops M n st) (h0 : qm_cov0 Ls y (fun m => ∃ j, j < n ∧ m = M j)) (h1 : d = 1 → qm_cov1 Ls (fun m => ∃ j, j < n ∧ m = M j)) : (∀ u, P u y) ↔ ∀ s, s < 2 * n + 1 → P (st s) y := by
  constructor
  · intro h s _
    exact h _
  · intro h u
    obtain ⟨s, a, b⟩ := qm_stop hM hs u
    exact (qm_same hi hd h0 h1 (fun m ⟨j, hj, e⟩ => by rw [e]; exact b j hj)).mpr (h s a)
/-- a fraction out of two whole numbers -/
def qm_fr (u d : Int) : Rat := (u : Rat) / (d : Rat)
theorem qm_fr_mul {u d : Int} (hd : 0 < d) : (d : Rat) * qm_fr u d = (u : Rat) := by
  have h : (d : Rat) ≠ 0 := fun q => by have := Rat.intCast_eq_zero_iff.mp q; omega
  unfold qm_fr
  rw [Rat.mul_comm]
  exact Rat.div_mul_cancel h
theorem qm_fr_pos {d : Int} (hd : 0 < d) : (0 : Rat) < (d : Rat) := Rat.intCast_pos.mpr hd
theorem qm_fr_lt {u d v e : Int} (hd : 0 < d) (he : 0 < e) : qm_fr u d < qm_fr v e ↔ u * e < v * d := by
  have h1 := qm_fr_mul (u := u) hd
  have h2 := qm_fr_mul (u := v) he
  have p1 := qm_fr_pos hd
  have p2 := qm_fr_pos he
  have p : (0 : Rat) < (d : Rat) * (e : Rat) := Rat.mul_pos p1 p2
  rw [← Rat.intCast_lt_intCast, Rat.intCast_mul, Rat.intCast_mul, ← Rat.mul_lt_mul_left p]
  have a1 : (d : Rat) * (e : Rat) * qm_fr u d = (u : Rat) * (e : Rat) := by rw [← h1]; grind
  have a2 : (d : Rat) * (e : Rat) * qm_fr v e = (v : Rat) * (d : Rat) := by rw [← h2]; grind
  rw [a1, a2]
theorem qm_fr_eq {u d v e : Int} (hd : 0 < d) (he : 0 < e) : qm_fr u d = qm_fr v e ↔ u * e = v * d := by
  have h1 := qm_fr_lt (u := u) (v := v) hd he
  have h2 := qm_fr_lt (u := v) (v := u) he hd
  constructor
  · intro h
    have a : ¬ u * e < v * d := fun q => by have := h1.mpr q; grind
    have b : ¬ v * d < u * e := fun q => by have := h2.mpr q; grind
    omega
  · intro h
    have a : ¬ qm_fr u d < qm_fr v e := fun q => by have := h1.mp q; omega
    have b : ¬ qm_fr v e < qm_fr u d := fun q => by have := h2.mp q; omega
    grind
theorem qm_fr_int (u : Int) : qm_fr u 1 = (u : Rat) := by
  have h := qm_fr_mul (u := u) (d := 1) (by decide)
  rw [Rat.intCast_one, Rat.one_mul] at h
  exact h
/-- the sum whose sign an atom asks for -/
theorem qm_at_fr (L : Int × Int × Int) {u d v e : Int} (hd : 0 < d) (he : 0 < e) : ((d * e : Int) : Rat) * qm_at L (qm_fr u d) (qm_fr v e) = ((L.1 * u * e + L.2.1 * v * d + L.2.2 * d * e : Int) : Rat) := by
  have h1 := qm_fr_mul (u := u) hd
  have h2 := qm_fr_mul (u := v) he
  unfold qm_at
  simp only [Rat.intCast_add, Rat.intCast_mul]
  rw [← h1, ← h2]
  grind
theorem qm_at_ss (L : Int × Int × Int) {u d v e : Int} (hd : 0 < d) (he : 0 < e) : qm_ss (qm_at L (qm_fr u d) (qm_fr v e)) ((L.1 * u * e + L.2.1 * v * d + L.2.2 * d * e : Int) : Rat) := by
  have h := qm_at_fr L hd he (u := u) (v := v)
  have p : 0 < d * e := Int.mul_pos hd he
  have hp : (0 : Rat) < ((d * e : Int) : Rat) := qm_fr_pos p
  rw [← h]
  refine ⟨(Rat.mul_neg_iff_of_pos_left hp).symm, ?_⟩
  rw [Rat.mul_eq_zero]
  constructor
  · exact Or.inr
  · intro q
    rcases q with q | q
    · rw [q] at hp; exact absurd hp Rat.lt_irrefl
    · exact q
end
section
/-! A set of fractions as a row of pieces: an end is nothing, or a fraction that belongs to the piece or doesn't. The row is determined by the set. -/
def qp_lo (l : Option (Rat × Bool)) (x : Rat) : Prop := ∀ v b, l = some (v, b) → v < x ∨ (b = true ∧ x = v)
def qp_hi (r : Option (Rat × Bool)) (x : Rat) : Prop := ∀ v b, r = some (v, b) → x < v ∨ (b = true ∧ x = v)
def qp_in (l r : Option (Rat × Bool)) (x : Rat) : Prop := qp_lo l x ∧ qp_hi r x
/-- the n pieces from L k to R k, left to right, are S; none is empty; something that isn't in S lies between two -/
def qp_sys (S : Rat → Prop) (n : Nat) (L R : Nat → Option (Rat × Bool)) : Prop :=
  (∀ x, S x ↔ ∃ k, k < n ∧ qp_in (L k) (R k) x) ∧ (∀ k, k < n → ∃ x, qp_in (L k) (R k) x) ∧
  ∀ j k, j < k → k < n → ∀ x y, qp_in (L j) (R j) x → qp_in (L k) (R k) y → x < y ∧ ∃ z, x < z ∧ z < y ∧ ¬ S z
theorem qp_lo_up {l : Option (Rat × Bool)} {x y : Rat} (h : qp_lo l x) (hy : x < y) : qp_lo l y := by
  intro v b e
  rcases h v b e with q | ⟨-, q⟩
  · exact Or.inl (by grind)
  · exact Or.inl (by grind)
theorem qp_hi_dn {r : Option (Rat × Bool)} {x y : Rat} (h : qp_hi r x) (hy : y < x) : qp_hi r y := by
  intro v b e
  rcases h v b e with q | ⟨-, q⟩
  · exact Or.inl (by grind)
  · exact Or.inl (by grind)
theorem qp_conv {l r : Option (Rat × Bool)} {x y z : Rat} (hx : qp_in l r x) (hy : qp_in l r y) (h1 : x < z) (h2 : z < y) : qp_in l r z := ⟨qp_lo_up hx.1 h1, qp_hi_dn hy.2 h2⟩
theorem qp_uniq1 {S : Rat → Prop} {n n' : Nat} {L R L' R' : Nat → Option (Rat × Bool)} (h : qp_sys S n L R) (h' : qp_sys S n' L' R') (k : Nat) (hk : k < n)
    (ih : ∀ i, i < k → i < n' ∧ ∀ x, qp_in (L i) (R i) x ↔ qp_in (L' i) (R' i) x) (ihn : ∀ i, i < k → i < n) (hk' : k < n') (x : Rat) (hx : qp_in (L k) (R k) x) : qp_in (L' k) (R' k) x := by
  obtain ⟨h1, h2, h3⟩ := h
  obtain ⟨h1', h2', h3'⟩ := h'
  obtain ⟨j, hj, hjx⟩ := (h1' x).mp ((h1 x).mpr ⟨k, hk, hx⟩)
  rcases Nat.lt_or_ge j k with c | c
  · have hjj := ((ih j c).2 x).mpr hjx
    have := (h3 j k c hk x x hjj hx).1
    exact absurd this Rat.lt_irrefl
  · rcases Nat.lt_or_ge k j with d | d
    · obtain ⟨x', hx'⟩ := h2' k hk'
      obtain ⟨i, hi, hix⟩ := (h1 x').mp ((h1' x').mpr ⟨k, hk', hx'⟩)
      obtain ⟨lt, z, z1, z2, z3⟩ := h3' k j d hj x' x hx' hjx
      rcases Nat.lt_or_ge i k with e | e
      · have hii := ((ih i e).2 x').mp hix
        have := (h3' i k e hk' x' x' hii hx').1
        exact absurd this Rat.lt_irrefl
      · rcases Nat.lt_or_ge k i with f | f
        · have := (h3 k i f hi x x' hx hix).1
          exact absurd (show x' < x' by grind) Rat.lt_irrefl
        · have e2 : i = k := by omega
          subst e2
          exact absurd ((h1 z).mpr ⟨i, hk, qp_conv hix hx z1 z2⟩) z3
    · have e2 : j = k := by omega
      subst e2
      exact hjx
theorem qp_uniq {S : Rat → Prop} {n n' : Nat} {L R L' R' : Nat → Option (Rat × Bool)} (h : qp_sys S n L R) (h' : qp_sys S n' L' R') : ∀ k, k < n → k < n' ∧ ∀ x, qp_in (L k) (R k) x ↔ qp_in (L' k) (R' k) x := by
  intro k
  induction k using Nat.strongRecOn with
  | ind k ih =>
    intro hk
    have ih1 : ∀ i, i < k → i < n' ∧ ∀ x, qp_in (L i) (R i) x ↔ qp_in (L' i) (R' i) x := fun i hi => ih i hi (by omega)
    have hk' : k < n' := by
      obtain ⟨x, hx⟩ := h.2.1 k hk
      obtain ⟨j, hj, hjx⟩ := (h'.1 x).mp ((h.1 x).mpr ⟨k, hk, hx⟩)
      rcases Nat.lt_or_ge j k with c | c
      · have hjj := ((ih1 j c).2 x).mpr hjx
        have := (h.2.2 j k c hk x x hjj hx).1
        exact absurd this Rat.lt_irrefl
      · omega
    refine ⟨hk', fun x => ⟨fun hx => qp_uniq1 h h' k hk ih1 (fun i hi => by omega) hk' x hx, fun hx => qp_uniq1 h' h k hk' (fun i hi => ⟨by omega, fun x => ((ih1 i hi).2 x).symm⟩) (fun i hi => (ih1 i hi).1) hk x hx⟩⟩
theorem qp_same_n {S : Rat → Prop} {n n' : Nat} {L R L' R' : Nat → Option (Rat × Bool)} (h : qp_sys S n L R) (h' : qp_sys S n' L' R') : n = n' := by
  rcases Nat.lt_or_ge n n' with c | c
  · have := (qp_uniq h' h n c).1
    omega
  · rcases Nat.lt_or_ge n' n with d | d
    · have := (qp_uniq h h' n' d).1
      omega
    · omega
theorem qp_lo_ex (l : Option (Rat × Bool)) (r : Option (Rat × Bool)) (l' r' : Option (Rat × Bool)) (hs : ∀ x, qp_in l r x ↔ qp_in l' r' x) {w : Rat} (hw : qp_in l r w) (v : Rat) (b : Bool) (hl : l' = some (v, b)) : ∃ c, l = some (v, c) ∧ (c = true → b = true) := by
  have hw' := (hs w).mp hw
  have hvw : v ≤ w := by
    rcases hw'.1 v b hl with q | ⟨-, q⟩
    · exact Rat.le_of_lt q
    · rw [q]; exact Rat.le_refl
  have hnot : ∀ z, z < v → ¬ qp_in l r z := fun z hz hi => by
    rcases ((hs z).mp hi).1 v b hl with q | ⟨-, q⟩ <;> grind
  have hbel : ∀ z, z < w → qp_lo l z → qp_in l r z := fun z hz h => ⟨h, qp_hi_dn hw.2 hz⟩
  cases l with
  | none =>
    exact absurd (hbel (v - 1) (by grind) (fun _ _ e => (by cases e))) (hnot (v - 1) (by grind))
  | some p =>
    obtain ⟨u, c⟩ := p
    have huv : u = v := by
      rcases Rat.le_total (a := u) (b := v) with q | q
      · by_cases e : u = v
        · exact e
        · have hlt : u < v := Rat.lt_of_le_of_ne q e
          obtain ⟨z, z1, z2⟩ := qm_mid hlt
          exact absurd (hbel z (by grind) (fun v' b' e' => by cases e'; exact Or.inl z1)) (hnot z z2)
      · by_cases e : u = v
        · exact e
        · have hlt : v < u := Rat.lt_of_le_of_ne q (fun q => e q.symm)
          obtain ⟨z, z1, z2⟩ := qm_mid hlt
          have huw : u ≤ w := by
            rcases hw.1 u c rfl with q | ⟨-, q⟩
            · exact Rat.le_of_lt q
            · rw [q]; exact Rat.le_refl
          have hz : qp_in l' r' z := ⟨fun v' b' e' => by rw [hl] at e'; cases e'; exact Or.inl z1, qp_hi_dn hw'.2 (by grind)⟩
          have := ((hs z).mpr hz).1 u c rfl
          rcases this with q | ⟨-, q⟩ <;> grind
    subst huv
    refine ⟨c, rfl, fun hc => ?_⟩
    have hin : qp_in (some (u, c)) r u := by
      refine ⟨fun v' b' e' => by cases e'; exact Or.inr ⟨hc, rfl⟩, ?_⟩
      by_cases e : u = w
      · rw [e]; exact hw.2
      · exact qp_hi_dn hw.2 (Rat.lt_of_le_of_ne hvw e)
    rcases ((hs u).mp hin).1 u b hl with q | ⟨q, -⟩
    · exact absurd q Rat.lt_irrefl
    · exact q
theorem qp_lo_eq {l r l' r' : Option (Rat × Bool)} (hs : ∀ x, qp_in l r x ↔ qp_in l' r' x) {w : Rat} (hw : qp_in l r w) : l = l' := by
  cases hl' : l' with
  | none =>
    cases hl : l with
    | none => rfl
    | some p =>
      obtain ⟨u, c⟩ := p
      obtain ⟨c', h, -⟩ := qp_lo_ex l' r' l r (fun x => (hs x).symm) ((hs w).mp hw) u c hl
      rw [hl'] at h; cases h
  | some p =>
    obtain ⟨v, b⟩ := p
    obtain ⟨c, h, hc⟩ := qp_lo_ex l r l' r' hs hw v b hl'
    obtain ⟨c', h', hc'⟩ := qp_lo_ex l' r' l r (fun x => (hs x).symm) ((hs w).mp hw) v c h
    rw [hl'] at h'
    cases h'
    rw [h]
    cases b <;> cases c <;> simp_all
def qp_ng (r : Option (Rat × Bool)) : Option (Rat × Bool) := r.map (fun p => (-p.1, p.2))
theorem qp_ng_hi {r : Option (Rat × Bool)} {x : Rat} : qp_lo (qp_ng r) (-x) ↔ qp_hi r x := by
  cases r with
  | none => exact ⟨fun _ _ _ e => (by cases e), fun _ _ _ e => (by cases e)⟩
  | some p =>
    obtain ⟨u, c⟩ := p
    constructor
    · intro h v b e
      cases e
      rcases h (-u) c rfl with q | ⟨q1, q⟩
      · exact Or.inl (by grind)
      · exact Or.inr ⟨q1, by grind⟩
    · intro h v b e
      cases e
      rcases h u c rfl with q | ⟨q1, q⟩
      · exact Or.inl (by grind)
      · exact Or.inr ⟨q1, by grind⟩
theorem qp_ng_lo {l : Option (Rat × Bool)} {x : Rat} : qp_hi (qp_ng l) (-x) ↔ qp_lo l x := by
  cases l with
  | none => exact ⟨fun _ _ _ e => (by cases e), fun _ _ _ e => (by cases e)⟩
  | some p =>
    obtain ⟨u, c⟩ := p
    constructor
    · intro h v b e
      cases e
      rcases h (-u) c rfl with q | ⟨q1, q⟩
      · exact Or.inl (by grind)
      · exact Or.inr ⟨q1, by grind⟩
    · intro h v b e
      cases e
      rcases h u c rfl with q | ⟨q1, q⟩
      · exact Or.inl (by grind)
      · exact Or.inr ⟨q1, by grind⟩
theorem qp_ng_inj {r r' : Option (Rat × Bool)} (h : qp_ng r = qp_ng r') : r = r' := by
  cases r with
  | none => cases r' with
    | none => rfl
    | some p => cases h
  | some p => cases r' with
    | none => cases h
    | some p' =>
      obtain ⟨u, c⟩ := p
      obtain ⟨u', c'⟩ := p'
      have h1 : (-u, c) = (-u', c') := Option.some.inj h
      have h2 : -u = -u' := congrArg Prod.fst h1
      have h3 : c = c' := congrArg Prod.snd h1
      rw [h3, show u = u' by grind]
theorem qp_hi_eq {l r l' r' : Option (Rat × Bool)} (hs : ∀ x, qp_in l r x ↔ qp_in l' r' x) {w : Rat} (hw : qp_in l r w) : r = r' := by
  refine qp_ng_inj (qp_lo_eq (r := qp_ng l) (r' := qp_ng l') (fun x => ?_) (w := -w) ⟨qp_ng_hi.mpr hw.2, qp_ng_lo.mpr hw.1⟩)
  have e : x = - -x := by grind
  rw [e]
  constructor
  · intro h
    have := (hs (-x)).mp ⟨qp_ng_lo.mp h.2, qp_ng_hi.mp h.1⟩
    exact ⟨qp_ng_hi.mpr this.2, qp_ng_lo.mpr this.1⟩
  · intro h
    have := (hs (-x)).mpr ⟨qp_ng_lo.mp h.2, qp_ng_hi.mp h.1⟩
    exact ⟨qp_ng_hi.mpr this.2, qp_ng_lo.mpr this.1⟩
/-- two rows of pieces of one set are one row -/
theorem qp_one {S : Rat → Prop} {n n' : Nat} {L R L' R' : Nat → Option (Rat × Bool)} (h : qp_sys S n L R) (h' : qp_sys S n' L' R') : n = n' ∧ ∀ k, k < n → L k = L' k ∧ R k = R' k := by
  refine ⟨qp_same_n h h', fun k hk => ?_⟩
  obtain ⟨-, hs⟩ := qp_uniq h h' k hk
  obtain ⟨w, hw⟩ := h.2.1 k hk
  exact ⟨qp_lo_eq hs hw, qp_hi_eq hs hw⟩
end
section
/-! Where a fraction lies among rising marks: at mark i (2 i + 1), ahead of it (2 i), behind the last (2 n). Runs of such places are pieces. -/
def qi_at (M : Nat → Rat) (n s : Nat) (x : Rat) : Prop := (∃ i, i < n ∧ s = 2 * i + 1 ∧ x = M i) ∨ ∃ i, i ≤ n ∧ s = 2 * i ∧ (∀ j, j < i → M j < x) ∧ ∀ j, i ≤ j → j < n → x < M j
theorem qi_ex {M : Nat → Rat} {n : Nat} (hi : qm_inc M n) (x : Rat) : ∃ s, s < 2 * n + 1 ∧ qi_at M n s x := by
  obtain ⟨k, hk, h1, h2⟩ := qm_place M x n hi
  by_cases h : k < n ∧ x = M k
  · exact ⟨2 * k + 1, by omega, Or.inl ⟨k, h.1, rfl, h.2⟩⟩
  · refine ⟨2 * k, by omega, Or.inr ⟨k, hk, rfl, h1, fun j c hj => ?_⟩⟩
    have hkn : k < n := by omega
    have a0 : x < M k := Rat.lt_of_le_of_ne (h2 k (Nat.le_refl k) hkn) (fun q => h ⟨hkn, q⟩)
    rcases Nat.lt_or_ge k j with d | d
    · have := hi k j d hj
      grind
    · have e : j = k := by omega
      rw [e]; exact a0
theorem qi_st {M : Nat → Rat} {n : Nat} {st : Nat → Rat} (hs : qm_stops M n st) {s : Nat} (h : s < 2 * n + 1) : qi_at M n s (st s) := by
  rcases Nat.mod_two_eq_zero_or_one s with e | e
  · have e2 : s = 2 * (s / 2) := by omega
    obtain ⟨-, a, b⟩ := hs (s / 2) (by omega)
    refine Or.inr ⟨s / 2, by omega, e2, ?_, ?_⟩
    · intro j hj
      have := a j hj
      rwa [← e2] at this
    · intro j h1 h2
      have := b j h1 h2
      rwa [← e2] at this
  · have e2 : s = 2 * (s / 2) + 1 := by omega
    obtain ⟨a, -, -⟩ := hs (s / 2) (by omega)
    have a1 := a (by omega)
    rw [← e2] at a1
    exact Or.inl ⟨s / 2, by omega, e2, a1⟩
theorem qi_mk {M : Nat → Rat} {n i : Nat} (h : i < n) : qi_at M n (2 * i + 1) (M i) := Or.inl ⟨i, h, rfl, rfl⟩
theorem qi_lt {M : Nat → Rat} {n s s' : Nat} {x y : Rat} (hi : qm_inc M n) (hx : qi_at M n s x) (hy : qi_at M n s' y) (h : s < s') : x < y := by
  rcases hx with ⟨i, i1, i2, i3⟩ | ⟨i, i1, i2, i3, i4⟩ <;> rcases hy with ⟨j, j1, j2, j3⟩ | ⟨j, j1, j2, j3, j4⟩
  · rw [i3, j3]; exact hi i j (by omega) j1
  · rw [i3]; exact j3 i (by omega)
  · rw [j3]; exact i4 j (by omega) j1
  · have a := i4 i (Nat.le_refl i) (by omega)
    have b := j3 i (by omega)
    grind
theorem qi_un {M : Nat → Rat} {n s s' : Nat} {x : Rat} (hi : qm_inc M n) (hx : qi_at M n s x) (hy : qi_at M n s' x) : s = s' := by
  rcases Nat.lt_or_ge s s' with c | c
  · exact absurd (qi_lt hi hx hy c) Rat.lt_irrefl
  · rcases Nat.lt_or_ge s' s with d | d
    · exact absurd (qi_lt hi hy hx d) Rat.lt_irrefl
    · omega
theorem qi_mono {M : Nat → Rat} {n s s' : Nat} {x y : Rat} (hi : qm_inc M n) (hx : qi_at M n s x) (hy : qi_at M n s' y) (h : x < y) : s ≤ s' := by
  rcases Nat.lt_or_ge s' s with c | c
  · have := qi_lt hi hy hx c
    exact absurd (show x < x by grind) Rat.lt_irrefl
  · exact c
theorem qi_ss {M : Nat → Rat} {n s : Nat} {x y : Rat} (hx : qi_at M n s x) (hy : qi_at M n s y) (j : Nat) (hj : j < n) : qm_ss (x - M j) (y - M j) := by
  rcases hx with ⟨i, i1, i2, i3⟩ | ⟨i, i1, i2, i3, i4⟩ <;> rcases hy with ⟨k, k1, k2, k3⟩ | ⟨k, k1, k2, k3, k4⟩
  · have e : i = k := by omega
    rw [i3, k3, e]; exact qm_ss_rf _
  · omega
  · omega
  · have e : i = k := by omega
    subst e
    rcases Nat.lt_or_ge j i with c | c
    · have a := i3 j c
      have b := k3 j c
      exact qm_ss_pos2 (by grind) (by grind)
    · have a := i4 j c hj
      have b := k4 j c hj
      exact qm_ss_neg2 (by grind) (by grind)
def qi_L (M : Nat → Rat) (f : Nat) : Option (Rat × Bool) := if f = 0 then none else if f % 2 = 1 then some (M (f / 2), true) else some (M (f / 2 - 1), false)
def qi_R (M : Nat → Rat) (n l : Nat) : Option (Rat × Bool) := if l = 2 * n then none else if l % 2 = 1 then some (M (l / 2), true) else some (M (l / 2), false)
theorem qi_lo {M : Nat → Rat} {n s f : Nat} {x : Rat} (hi : qm_inc M n) (hx : qi_at M n s x) (hf : f < 2 * n + 1) : qp_lo (qi_L M f) x ↔ f ≤ s := by
  unfold qi_L
  by_cases e0 : f = 0
  · rw [if_pos e0]
    exact ⟨fun _ => by omega, fun _ _ _ e => (by cases e)⟩
  · rw [if_neg e0]
    by_cases e1 : f % 2 = 1
    · rw [if_pos e1]
      have hm := qi_mk (M := M) (n := n) (i := f / 2) (by omega)
      have ef : 2 * (f / 2) + 1 = f := by omega
      rw [ef] at hm
      constructor
      · intro h
        rcases h _ _ rfl with q | ⟨-, q⟩
        · exact qi_mono hi hm hx q
        · rw [q] at hx
          exact Nat.le_of_eq (qi_un hi hm hx)
      · intro h v b e
        cases e
        rcases Nat.lt_or_ge f s with c | c
        · exact Or.inl (qi_lt hi hm hx c)
        · have : f = s := by omega
          subst this
          rcases hx with ⟨i, i1, i2, i3⟩ | ⟨i, i1, i2, i3, i4⟩
          · have : i = f / 2 := by omega
            subst this
            exact Or.inr ⟨rfl, i3⟩
          · omega
    · rw [if_neg e1]
      have hm := qi_mk (M := M) (n := n) (i := f / 2 - 1) (by omega)
      have ef : 2 * (f / 2 - 1) + 1 = f - 1 := by omega
      rw [ef] at hm
      constructor
      · intro h
        rcases h _ _ rfl with q | ⟨q, -⟩
        · have a := qi_mono hi hm hx q
          have b : s ≠ f - 1 := fun e => by
            subst e
            rcases hx with ⟨i, i1, i2, i3⟩ | ⟨i, i1, i2, i3, i4⟩
            · have : i = f / 2 - 1 := by omega
              subst this
              rw [i3] at q
              exact absurd q Rat.lt_irrefl
            · omega
          omega
        · cases q
      · intro h v b e
        cases e
        exact Or.inl (qi_lt hi hm hx (by omega))
theorem qi_hi {M : Nat → Rat} {n s l : Nat} {x : Rat} (hi : qm_inc M n) (hx : qi_at M n s x) (hs : s < 2 * n + 1) (hl : l < 2 * n + 1) : qp_hi (qi_R M n l) x ↔ s ≤ l := by
  unfold qi_R
  by_cases e0 : l = 2 * n
  · rw [if_pos e0]
    exact ⟨fun _ => by omega, fun _ _ _ e => (by cases e)⟩
  · rw [if_neg e0]
    have hm := qi_mk (M := M) (n := n) (i := l / 2) (by omega)
    by_cases e1 : l % 2 = 1
    · rw [if_pos e1]
      have ef : 2 * (l / 2) + 1 = l := by omega
      rw [ef] at hm
      constructor
      · intro h
        rcases h _ _ rfl with q | ⟨-, q⟩
        · exact qi_mono hi hx hm q
        · rw [q] at hx
          exact Nat.le_of_eq (qi_un hi hx hm)
      · intro h v b e
        cases e
        rcases Nat.lt_or_ge s l with c | c
        · exact Or.inl (qi_lt hi hx hm c)
        · have : s = l := by omega
          subst this
          rcases hx with ⟨i, i1, i2, i3⟩ | ⟨i, i1, i2, i3, i4⟩
          · have : i = s / 2 := by omega
            subst this
            exact Or.inr ⟨rfl, i3⟩
          · omega
    · rw [if_neg e1]
      have ef : 2 * (l / 2) + 1 = l + 1 := by omega
      rw [ef] at hm
      constructor
      · intro h
        rcases h _ _ rfl with q | ⟨q, -⟩
        · have a := qi_mono hi hx hm q
          have b : s ≠ l + 1 := fun e => by
            subst e
            rcases hx with ⟨i, i1, i2, i3⟩ | ⟨i, i1, i2, i3, i4⟩
            · have : i = l / 2 := by omega
              subst this
              rw [i3] at q
              exact absurd q Rat.lt_irrefl
            · omega
          omega
        · cases q
      · intro h v b e
        cases e
        exact Or.inl (qi_lt hi hx hm (by omega))
/-- m runs of true places among the first s, each as long as can be -/
def qi_runs (t : Nat → Prop) (m : Nat) (fs ls : Nat → Nat) (s : Nat) : Prop := (∀ k, k < m → fs k ≤ ls k ∧ ls k < s ∧ ∀ j, fs k ≤ j → j ≤ ls k → t j) ∧ (∀ j, j < s → t j → ∃ k, k < m ∧ fs k ≤ j ∧ j ≤ ls k) ∧ ∀ i k, i < k → k < m → ls i + 1 < fs k ∧ ¬ t (ls i + 1)
theorem qi_sys {S : Rat → Prop} {M st : Nat → Rat} {n m : Nat} {t : Nat → Prop} {fs ls : Nat → Nat} (hi : qm_inc M n) (hst : qm_stops M n st) (hr : qi_runs t m fs ls (2 * n + 1)) (hS : ∀ s, s < 2 * n + 1 → ∀ x, qi_at M n s x → (S x ↔ t s)) : qp_sys S m (fun k => qi_L M (fs k)) (fun k => qi_R M n (ls k)) := by
  obtain ⟨r1, r2, r3⟩ := hr
  have hin : ∀ (k s : Nat) (x : Rat), k < m → s < 2 * n + 1 → qi_at M n s x → (qp_in (qi_L M (fs k)) (qi_R M n (ls k)) x ↔ fs k ≤ s ∧ s ≤ ls k) := fun k s x hk hs hx => by
    obtain ⟨a, b, -⟩ := r1 k hk
    exact and_congr (qi_lo hi hx (by omega)) (qi_hi hi hx hs b)
  refine ⟨fun x => ?_, fun k hk => ?_, fun j k hjk hk x y hx hy => ?_⟩
  · obtain ⟨s, hs, hx⟩ := qi_ex hi x
    rw [hS s hs x hx]
    constructor
    · intro h
      obtain ⟨k, hk, a, b⟩ := r2 s hs h
      exact ⟨k, hk, (hin k s x hk hs hx).mpr ⟨a, b⟩⟩
    · intro ⟨k, hk, h⟩
      obtain ⟨a, b⟩ := (hin k s x hk hs hx).mp h
      exact (r1 k hk).2.2 s a b
  · obtain ⟨a, b, -⟩ := r1 k hk
    exact ⟨st (fs k), (hin k (fs k) _ hk (by omega) (qi_st hst (by omega))).mpr ⟨Nat.le_refl _, a⟩⟩
  · obtain ⟨s, hs, hxs⟩ := qi_ex hi x
    obtain ⟨s', hs', hys⟩ := qi_ex hi y
    have h1 := (hin j s x (by omega) hs hxs).mp hx
    have h2 := (hin k s' y hk hs' hys).mp hy
    obtain ⟨h3, h4⟩ := r3 j k hjk hk
    have hz := qi_st hst (s := ls j + 1) (by omega)
    refine ⟨qi_lt hi hxs hys (by omega), st (ls j + 1), qi_lt hi hxs hz (by omega), qi_lt hi hz hys (by omega), fun h => h4 ((hS _ (by omega) _ hz).mp h)⟩
end
section
/-! Numbers of the machine as whole numbers, where nothing wraps. -/
theorem nm_b64 {z : Int} (h1 : z.natAbs ≤ 9000000000000000000) : z.bmod (2 ^ 64) = z := by
  apply Int.bmod_eq_of_le <;> omega
theorem nm_b32 {z : Int} (h1 : z.natAbs ≤ 2000000000) : z.bmod (2 ^ 32) = z := by
  apply Int.bmod_eq_of_le <;> omega
theorem nm_mulb {x y : Int} {B C : Nat} (h1 : x.natAbs ≤ B) (h2 : y.natAbs ≤ C) : (x * y).natAbs ≤ B * C := by
  rw [Int.natAbs_mul]
  exact Nat.mul_le_mul h1 h2
theorem nm_addb {x y : Int} {B C : Nat} (h1 : x.natAbs ≤ B) (h2 : y.natAbs ≤ C) : (x + y).natAbs ≤ B + C := by omega
theorem nm_subb {x y : Int} {B C : Nat} (h1 : x.natAbs ≤ B) (h2 : y.natAbs ≤ C) : (x - y).natAbs ≤ B + C := by omega
theorem nm_lmul {x y : Int64} (h : (x.toInt * y.toInt).natAbs ≤ 9000000000000000000) : (x * y).toInt = x.toInt * y.toInt := by
  rw [Int64.toInt_mul, nm_b64 h]
theorem nm_ladd {x y : Int64} (h : (x.toInt + y.toInt).natAbs ≤ 9000000000000000000) : (x + y).toInt = x.toInt + y.toInt := by
  rw [Int64.toInt_add, nm_b64 h]
theorem nm_lsub {x y : Int64} (h : (x.toInt - y.toInt).natAbs ≤ 9000000000000000000) : (x - y).toInt = x.toInt - y.toInt := by
  rw [Int64.toInt_sub, nm_b64 h]
theorem nm_lneg {x : Int64} (h : x.toInt.natAbs ≤ 9000000000000000000) : (-x).toInt = -x.toInt := by
  rw [Int64.toInt_neg, nm_b64 (by omega)]
theorem nm_imul {x y : Int32} (h : (x.toInt * y.toInt).natAbs ≤ 2000000000) : (x * y).toInt = x.toInt * y.toInt := by
  rw [Int32.toInt_mul, nm_b32 h]
theorem nm_iadd {x y : Int32} (h : (x.toInt + y.toInt).natAbs ≤ 2000000000) : (x + y).toInt = x.toInt + y.toInt := by
  rw [Int32.toInt_add, nm_b32 h]
theorem nm_isub {x y : Int32} (h : (x.toInt - y.toInt).natAbs ≤ 2000000000) : (x - y).toInt = x.toInt - y.toInt := by
  rw [Int32.toInt_sub, nm_b32 h]
theorem nm_ineg {x : Int32} (h : x.toInt.natAbs ≤ 2000000000) : (-x).toInt = -x.toInt := by
  rw [Int32.toInt_neg, nm_b32 (by omega)]
theorem nm_i2l (x : Int32) : x.toInt64.toInt = x.toInt := Int32.toInt_toInt64 x
theorem nm_llt {x y : Int64} : x < y ↔ x.toInt < y.toInt := Int64.lt_iff_toInt_lt
theorem nm_lle {x y : Int64} : x ≤ y ↔ x.toInt ≤ y.toInt := Int64.le_iff_toInt_le
theorem nm_leq {x y : Int64} : x = y ↔ x.toInt = y.toInt := Int64.toInt_inj.symm
theorem nm_ilt {x y : Int32} : x < y ↔ x.toInt < y.toInt := Int32.lt_iff_toInt_lt
theorem nm_ile {x y : Int32} : x ≤ y ↔ x.toInt ≤ y.toInt := Int32.le_iff_toInt_le
theorem nm_ieq {x y : Int32} : x = y ↔ x.toInt = y.toInt := Int32.toInt_inj.symm
end
section
/-! THE WORLD BY ADDRESSES: a map from addresses to cells. A method's contract takes the caller's whole map and gives back the new one: no cutting out, no joining. -/
/-- the cell that a list has at an address -/
def hw_lk (ws : va_W) (a : Nat) : Option va_E := (ws.find? (fun x => x.1 == a)).map (fun x => x.2)
theorem hw_lk_ix {ws : va_W} {a : Nat} {e : va_E} (h : hw_lk ws a = some e) : ∃ k : Nat, ws[k]? = some (a, e) := by
  unfold hw_lk at h
  cases hf : ws.find? (fun x => x.1 == a) with
  | none => rw [hf] at h; cases h
  | some x =>
    rw [hf] at h
    have h1 : x.1 = a := by simpa using List.find?_some hf
    have h2 : x.2 = e := Option.some.inj h
    obtain ⟨k, hk⟩ := List.getElem?_of_mem (List.mem_of_find?_eq_some hf)
    exact ⟨k, by rw [hk, ← h1, ← h2]⟩
theorem hw_lk_of {A : Nat → Prop} {ws : va_W} (hD : va_D A ws) {k a : Nat} {e : va_E} (h : ws[k]? = some (a, e)) : hw_lk ws a = some e := by
  unfold hw_lk
  cases hf : ws.find? (fun x => x.1 == a) with
  | none =>
    have := List.find?_eq_none.mp hf (a, e) (List.mem_of_getElem? h)
    simp at this
  | some x =>
    have h1 : x.1 = a := by simpa using List.find?_some hf
    obtain ⟨j, hj⟩ := List.getElem?_of_mem (List.mem_of_find?_eq_some hf)
    have h2 := hD.1 j k x (a, e) hj h h1
    subst h2
    rw [hj] at h
    cases h
    rfl
theorem hw_lk_none {ws : va_W} {a : Nat} (h : ∀ (k : Nat) (e : va_E), ws[k]? ≠ some (a, e)) : hw_lk ws a = none := by
  cases hq : hw_lk ws a with
  | none => rfl
  | some e =>
    obtain ⟨k, hk⟩ := hw_lk_ix hq
    exact absurd hk (h k e)
theorem hw_lk_set {A : Nat → Prop} {ws : va_W} (hD : va_D A ws) {k a : Nat} {e0 e : va_E} (h : ws[k]? = some (a, e0)) : hw_lk (ws.set k (a, e)) = va_up (hw_lk ws) a (some e) := by
  have hD1 : va_D A (ws.set k (a, e)) := hD.set h
  have hl : k < ws.length := (List.getElem?_eq_some_iff.mp h).1
  funext b
  by_cases hb : b = a
  · subst hb
    rw [va_up_self]
    exact hw_lk_of hD1 (k := k) (by rw [List.getElem?_set_self hl])
  · rw [va_up_ne _ _ hb]
    cases hq : hw_lk ws b with
    | none =>
      refine hw_lk_none fun j e1 hj => ?_
      by_cases hjk : j = k
      · subst hjk
        rw [List.getElem?_set_self hl] at hj
        cases hj
        exact hb rfl
      · rw [List.getElem?_set_ne (fun q => hjk q.symm)] at hj
        rw [hw_lk_of hD hj] at hq
        cases hq
    | some e1 =>
      obtain ⟨j, hj⟩ := hw_lk_ix hq
      have hjk : j ≠ k := fun q => by
        subst q
        rw [hj] at h
        cases h
        exact hb rfl
      exact hw_lk_of hD1 (k := j) (by rw [List.getElem?_set_ne (fun q => hjk q.symm)]; exact hj)
theorem hw_lk_push {A : Nat → Prop} {ws : va_W} {q : Nat} {e : va_E} (hD1 : va_D A (ws ++ [(q, e)])) : hw_lk (ws ++ [(q, e)]) = va_up (hw_lk ws) q (some e) ∧ hw_lk ws q = none := by
  have hq : (ws ++ [(q, e)])[ws.length]? = some (q, e) := by rw [List.getElem?_append_right (Nat.le_refl _), Nat.sub_self]; rfl
  have hold : ∀ (j : Nat) (x : Nat × va_E), ws[j]? = some x → (ws ++ [(q, e)])[j]? = some x := fun j x hj => by rw [List.getElem?_append_left (List.getElem?_eq_some_iff.mp hj).1]; exact hj
  have hn : hw_lk ws q = none := hw_lk_none fun k e1 hk => by
    have h1 := hD1.1 k ws.length _ _ (hold k _ hk) hq rfl
    have h2 := (List.getElem?_eq_some_iff.mp hk).1
    omega
  refine ⟨?_, hn⟩
  funext b
  by_cases hb : b = q
  · subst hb
    rw [va_up_self]
    exact hw_lk_of hD1 hq
  · rw [va_up_ne _ _ hb]
    cases hx : hw_lk ws b with
    | none =>
      refine hw_lk_none fun j e1 hj => ?_
      rcases Nat.lt_or_ge j ws.length with c | c
      · rw [List.getElem?_append_left c] at hj
        obtain ⟨i, hi⟩ := List.getElem?_of_mem (List.mem_of_getElem? hj)
        have : hw_lk ws b ≠ none := fun z => by
          unfold hw_lk at z
          have z2 := List.find?_eq_none.mp (Option.map_eq_none_iff.mp z) (b, e1) (List.mem_of_getElem? hj)
          simp at z2
        exact this hx
      · rw [List.getElem?_append_right c] at hj
        have : j - ws.length = 0 := by
          have := (List.getElem?_eq_some_iff.mp hj).1
          simp at this
          omega
        rw [this] at hj
        cases hj
        exact hb rfl
    | some e1 =>
      obtain ⟨j, hj⟩ := hw_lk_ix hx
      exact hw_lk_of hD1 (hold j _ hj)
/-- the heap holds the map M, whose addresses are of the kind A -/
def hw_W (D : va_G) (cl : List vw_C) (tys : List (ClassId × FieldType)) (A : Nat → Prop) (M : Nat → Option va_E) (s : State) (H : Heap) : Prop := ∃ ws : va_W, hw_lk ws = M ∧ va_P D cl ws H ∧ va_D A ws ∧ va_K D cl tys s
/-- what a method over M may change -/
def hw_A (M : Nat → Option va_E) (sz : Nat) : Nat → Prop := fun q => M q ≠ none ∨ sz ≤ q
theorem hw_W.K {D : va_G} {cl : List vw_C} {tys : List (ClassId × FieldType)} {A : Nat → Prop} {M : Nat → Option va_E} {s : State} {H : Heap} (h : hw_W D cl tys A M s H) : va_K D cl tys s := by
  obtain ⟨ws, -, -, -, hK⟩ := h
  exact hK
theorem hw_W.at {D : va_G} {cl : List vw_C} {tys : List (ClassId × FieldType)} {A : Nat → Prop} {M : Nat → Option va_E} {s : State} {H : Heap} (h : hw_W D cl tys A M s H) {a : Nat} {e : va_E} (ha : M a = some e) : va_at D cl (a, e) H ∧ A a := by
  obtain ⟨ws, rfl, hP, hD, -⟩ := h
  obtain ⟨k, hk⟩ := hw_lk_ix ha
  exact ⟨hP k _ hk, hD.2 k _ hk⟩
theorem hw_W.lt {D : va_G} {cl : List vw_C} {tys : List (ClassId × FieldType)} {A : Nat → Prop} {M : Nat → Option va_E} {s : State} {H : Heap} (h : hw_W D cl tys A M s H) {a : Nat} {e : va_E} (ha : M a = some e) : a < H.size := (h.at ha).1.lt
theorem hw_W.moved {D : va_G} {cl : List vw_C} {tys : List (ClassId × FieldType)} {A : Nat → Prop} {M : Nat → Option va_E} {s u : State} {H : Heap} (hvm : s.vm.Alike u.vm) (h : hw_W D cl tys A M s H) : hw_W D cl tys A M u H := by
  obtain ⟨ws, e, hP, hD, hK⟩ := h
  exact ⟨ws, e, hP, hD, va_K.moved hvm hK⟩
theorem hw_W.weaken {D : va_G} {cl : List vw_C} {tys : List (ClassId × FieldType)} {A B : Nat → Prop} {M : Nat → Option va_E} {s : State} {H : Heap} (h : hw_W D cl tys A M s H) (hAB : ∀ q, A q → B q) : hw_W D cl tys B M s H := by
  obtain ⟨ws, e, hP, hD, hK⟩ := h
  exact ⟨ws, e, hP, hD.weaken (fun _ q _ h => hAB q.1 h), hK⟩
theorem hw_W.self {D : va_G} {cl : List vw_C} {tys : List (ClassId × FieldType)} {A : Nat → Prop} {M : Nat → Option va_E} {s : State} {H : Heap} {sz : Nat} (h : hw_W D cl tys A M s H) : hw_W D cl tys (hw_A M sz) M s H := by
  obtain ⟨ws, rfl, hP, hD, hK⟩ := h
  refine ⟨ws, rfl, hP, ⟨hD.1, fun k q hk => Or.inl ?_⟩, hK⟩
  rw [hw_lk_of hD (show ws[k]? = some (q.1, q.2) from hk)]
  exact Option.some_ne_none _
theorem hw_W.free {D : va_G} {cl : List vw_C} {tys : List (ClassId × FieldType)} {A : Nat → Prop} {M : Nat → Option va_E} {s : State} {H0 H : Heap} {locs : List Loc} (h : hw_W D cl tys A M s H) (hS : va_S A H0 H locs) (hA : ∀ q, H0.size ≤ q → A q) : ∀ q, hw_A M H.size q → A q := by
  intro q hq
  rcases hq with hq | hq
  · cases hm : M q with
    | none => exact absurd hm hq
    | some e => exact (h.at hm).2
  · exact hA q (Nat.le_trans hS.1 hq)
/-- a contract's start and the world behind it -/
def hw_Pc (D : va_G) (cl : List vw_C) (tys : List (ClassId × FieldType)) (av : List Value) (M : Nat → Option va_E) (sz : Nat) : Array Value → State → Prop := va_Pc av (fun U => U.heap.size = sz ∧ hw_W D cl tys (fun _ => True) M U U.heap)
def hw_B (D : va_G) (cl : List vw_C) (tys : List (ClassId × FieldType)) (M : Nat → Option va_E) (sz : Nat) : (Nat → Option va_E) → State → Prop := fun M1 t => hw_W D cl tys (hw_A M sz) M1 t t.heap
theorem hw_Pc.blind {D : va_G} {cl : List vw_C} {tys : List (ClassId × FieldType)} {av : List Value} {M : Nat → Option va_E} {sz : Nat} : FrameBlind (hw_Pc D cl tys av M sz) := by
  intro a U g mk h
  obtain ⟨h1, h2, h3⟩ := h
  exact ⟨h1, h2, h3.moved (u := U.calling g mk a) (Vm.Alike.refl U.vm)⟩
section HWS
variable {p : Program} {l : Launch} {e : Env} {R : Room} {s : State} {m : MethodId} {args : Array Value} {below : List Frame} {meth : Method} {c : Code} {H : Heap} {locs : List Loc} {cells slots : Nat} {Q : State → Prop}
variable {cc : ByteArray} {pc : Nat} {ls : Array Slot} {rest : List Value} {D : va_G} {cl : List vw_C} {A : Nat → Prop} {a : Nat} {tys : List (ClassId × FieldType)} {M : Nat → Option va_E} {H0 : Heap}
theorem hw_preS {A1 : Nat → Prop} (hW : hw_W D cl tys A1 M s H) {As : List Value} : PreS s H (hw_Pc D cl tys As M H.size) As :=
  ⟨hw_Pc.blind, fun U hU hw => ⟨rfl, by rw [hU], by rw [hU]; exact (hW.moved hw.alike).weaken (fun _ _ => trivial)⟩⟩
theorem hw_preV {A1 : Nat → Prop} (hW : hw_W D cl tys A1 M s H) {b ci : Nat} {fs : List Value} (hb : M b = some (.inr (ci, fs))) {q : vw_C} (hc : cl[ci]? = some q) {As : List Value} : PreV s H q.1 b (hw_Pc D cl tys (.ref b :: As) M H.size) As := by
  refine ⟨hw_Pc.blind, ?_, (hw_preS hW).2⟩
  obtain ⟨ws, rfl, hP, hD, hK⟩ := hW
  obtain ⟨k, hk⟩ := hw_lk_ix hb
  exact va_recv hK hP hc hk
theorem hw_get (hexec : p.tables.exec = Jvm.exec) (hb : c.code = cc) {own ref C : String} {T : u_T} {N ci index : Nat} {Ts : List Cond} (hts : ∀ w ∈ Ts, w.before args s = true) (hin : ∀ w ∈ u_ws C T N, w ∈ Ts) (hown : s.vm.findClass own = some m.cls) (hW : hw_W D cl tys A M s H) {fs : List Value} (he : M a = some (.inr (ci, fs))) (hc : cl[ci]? = some (C, T, N)) (k : Nat) (hk : k < N) (hlink : (Cond.fieldLink own index ref (T k).2.1 (T k).2.2.1).before args s = true) (hsame : ∀ x, s.fieldFound? (T k).1 (T k).2.1 (T k).2.2.1 = some x → s.fieldFound? ref (T k).2.1 (T k).2.2.1 = some x) {v : Value} (hv : fs[k]? = some v) (hdg : decode cc pc = .ok (.getfield index, 3))
    (kk : W p l e R s m args below meth c H locs cells slots Q (F0 m (pc + 3) ls (v :: rest))) : W p l e R s m args below meth c H locs cells slots Q (F0 m pc ls (.ref a :: rest)) := by
  obtain ⟨ws, rfl, hP, hD, hK⟩ := hW
  obtain ⟨q0, hq⟩ := hw_lk_ix he
  exact va_get hexec hb hts hin hown hK hP q0 hq hc k hk hlink hsame hv hdg kk
theorem hw_getN (hexec : p.tables.exec = Jvm.exec) (hb : c.code = cc) {own ref C host : String} {T : u_T} {N ci index : Nat} {Ts : List Cond} (hts : ∀ w ∈ Ts, w.before args s = true) (hin : ∀ w ∈ u_ws C T N, w ∈ Ts) (hown : s.vm.findClass own = some m.cls) (hW : hw_W D cl tys A M s H) {fs : List Value} (he : M a = some (.inr (ci, fs))) (hc : cl[ci]? = some (C, T, N)) (k : Nat) (hk : k < N) (hlink : (Cond.fieldLinkNest own index ref (T k).2.1 (T k).2.2.1 host).before args s = true) (hsame : ∀ x, s.fieldFound? (T k).1 (T k).2.1 (T k).2.2.1 = some x → s.fieldFound? ref (T k).2.1 (T k).2.2.1 = some x) {v : Value} (hv : fs[k]? = some v) (hdg : decode cc pc = .ok (.getfield index, 3))
    (kk : W p l e R s m args below meth c H locs cells slots Q (F0 m (pc + 3) ls (v :: rest))) : W p l e R s m args below meth c H locs cells slots Q (F0 m pc ls (.ref a :: rest)) := by
  obtain ⟨ws, rfl, hP, hD, hK⟩ := hW
  obtain ⟨q0, hq⟩ := hw_lk_ix he
  exact va_getN hexec hb hts hin hown hK hP q0 hq hc k hk hlink hsame hv hdg kk
theorem hw_put (hexec : p.tables.exec = Jvm.exec) (hb : c.code = cc) {own ref C : String} {T : u_T} {N ci index : Nat} {Ts : List Cond} (hts : ∀ w ∈ Ts, w.before args s = true) (hin : ∀ w ∈ u_ws C T N, w ∈ Ts) (ty0 : Nat → FieldType) (hty : ∀ k, k < N → parseFieldDescriptor (T k).2.2.1 = some (ty0 k)) (hnm : ∀ a, a < N → ∀ b, b < N → a ≠ b → (T a).2.1 ≠ (T b).2.1) (hown : s.vm.findClass own = some m.cls) (hW : hw_W D cl tys A M s H) (hS0 : va_S A H0 H locs) {fs : List Value} (he : M a = some (.inr (ci, fs))) (hc : cl[ci]? = some (C, T, N)) (k : Nat) (hk : k < N) (hlink : (Cond.fieldLink own index ref (T k).2.1 (T k).2.2.1).before args s = true) (hsame : ∀ x, s.fieldFound? (T k).1 (T k).2.1 (T k).2.2.1 = some x → s.fieldFound? ref (T k).2.1 (T k).2.2.1 = some x) (hfin : (T k).2.2.2 = false) {ty : FieldType} {v : Value} (hd : parseFieldDescriptor (T k).2.2.1 = some ty) (hn : narrow ty v = v) (hfit : fits ty v = true) (hl : k < fs.length)
    (hdg : decode cc pc = .ok (.putfield index, 3)) (kk : ∀ (H1 : Heap) (locs1 : List Loc), hw_W D cl tys A (va_up M a (some (.inr (ci, fs.set k v)))) s H1 → va_S A H0 H1 locs1 → W p l e R s m args below meth c H1 locs1 cells slots Q (F0 m (pc + 3) ls rest)) : W p l e R s m args below meth c H locs cells slots Q (F0 m pc ls (v :: .ref a :: rest)) := by
  obtain ⟨ws, rfl, hP, hD, hK⟩ := hW
  obtain ⟨q0, hq⟩ := hw_lk_ix he
  exact va_put hexec hb hts hin ty0 hty hnm hown hK hP hD hS0 q0 hq hc k hk hlink hsame hfin hd hn hfit hl hdg (fun H1 locs1 h1 h2 h3 => kk H1 locs1 ⟨_, hw_lk_set hD hq, h1, h2, hK⟩ h3)
theorem hw_putN (hexec : p.tables.exec = Jvm.exec) (hb : c.code = cc) {own ref C host : String} {T : u_T} {N ci index : Nat} {Ts : List Cond} (hts : ∀ w ∈ Ts, w.before args s = true) (hin : ∀ w ∈ u_ws C T N, w ∈ Ts) (ty0 : Nat → FieldType) (hty : ∀ k, k < N → parseFieldDescriptor (T k).2.2.1 = some (ty0 k)) (hnm : ∀ a, a < N → ∀ b, b < N → a ≠ b → (T a).2.1 ≠ (T b).2.1) (hown : s.vm.findClass own = some m.cls) (hW : hw_W D cl tys A M s H) (hS0 : va_S A H0 H locs) {fs : List Value} (he : M a = some (.inr (ci, fs))) (hc : cl[ci]? = some (C, T, N)) (k : Nat) (hk : k < N) (hlink : (Cond.fieldLinkNest own index ref (T k).2.1 (T k).2.2.1 host).before args s = true) (hsame : ∀ x, s.fieldFound? (T k).1 (T k).2.1 (T k).2.2.1 = some x → s.fieldFound? ref (T k).2.1 (T k).2.2.1 = some x) (hfin : (T k).2.2.2 = false) {ty : FieldType} {v : Value} (hd : parseFieldDescriptor (T k).2.2.1 = some ty) (hn : narrow ty v = v) (hfit : fits ty v = true) (hl : k < fs.length)
    (hdg : decode cc pc = .ok (.putfield index, 3)) (kk : ∀ (H1 : Heap) (locs1 : List Loc), hw_W D cl tys A (va_up M a (some (.inr (ci, fs.set k v)))) s H1 → va_S A H0 H1 locs1 → W p l e R s m args below meth c H1 locs1 cells slots Q (F0 m (pc + 3) ls rest)) : W p l e R s m args below meth c H locs cells slots Q (F0 m pc ls (v :: .ref a :: rest)) := by
  obtain ⟨ws, rfl, hP, hD, hK⟩ := hW
  obtain ⟨q0, hq⟩ := hw_lk_ix he
  exact va_putN hexec hb hts hin ty0 hty hnm hown hK hP hD hS0 q0 hq hc k hk hlink hsame hfin hd hn hfit hl hdg (fun H1 locs1 h1 h2 h3 => kk H1 locs1 ⟨_, hw_lk_set hD hq, h1, h2, hK⟩ h3)
theorem hw_putF (hexec : p.tables.exec = Jvm.exec) (hb : c.code = cc) {own ref C : String} {T : u_T} {N ci index : Nat} {Ts : List Cond} (hts : ∀ w ∈ Ts, w.before args s = true) (hin : ∀ w ∈ u_ws C T N, w ∈ Ts) (ty0 : Nat → FieldType) (hty : ∀ k, k < N → parseFieldDescriptor (T k).2.2.1 = some (ty0 k)) (hnm : ∀ a, a < N → ∀ b, b < N → a ≠ b → (T a).2.1 ≠ (T b).2.1) (hown : s.vm.findClass own = some m.cls) (hW : hw_W D cl tys A M s H) (hS0 : va_S A H0 H locs) {fs : List Value} (he : M a = some (.inr (ci, fs))) (hc : cl[ci]? = some (C, T, N)) (k : Nat) (hk : k < N) (hlink : (Cond.fieldLink own index ref (T k).2.1 (T k).2.2.1).before args s = true) (hsame : ∀ x, s.fieldFound? (T k).1 (T k).2.1 (T k).2.2.1 = some x → s.fieldFound? ref (T k).2.1 (T k).2.2.1 = some x) (hfin : (T k).2.2.2 = true) (hin2 : meth.name = "<init>") (hdecl : (T k).1 = own) {ty : FieldType} {v : Value} (hd : parseFieldDescriptor (T k).2.2.1 = some ty) (hn : narrow ty v = v) (hfit : fits ty v = true) (hl : k < fs.length)
    (hdg : decode cc pc = .ok (.putfield index, 3)) (kk : ∀ (H1 : Heap) (locs1 : List Loc), hw_W D cl tys A (va_up M a (some (.inr (ci, fs.set k v)))) s H1 → va_S A H0 H1 locs1 → W p l e R s m args below meth c H1 locs1 cells slots Q (F0 m (pc + 3) ls rest)) : W p l e R s m args below meth c H locs cells slots Q (F0 m pc ls (v :: .ref a :: rest)) := by
  obtain ⟨ws, rfl, hP, hD, hK⟩ := hW
  obtain ⟨q0, hq⟩ := hw_lk_ix he
  exact va_putF hexec hb hts hin ty0 hty hnm hown hK hP hD hS0 q0 hq hc k hk hlink hsame hfin hin2 hdecl hd hn hfit hl hdg (fun H1 locs1 h1 h2 h3 => kk H1 locs1 ⟨_, hw_lk_set hD hq, h1, h2, hK⟩ h3)
theorem hw_iald (hexec : p.tables.exec = Jvm.exec) (hb : c.code = cc) (hW : hw_W D cl tys A M s H) (t0 : Nat) {cA : ClassId} {n : Nat} {f : Nat → Int32} (ha : M a = some (.inl (cA, n, .inl f))) (ht : tys[t0]? = some (cA, .int)) {i : Int32} (hin : vp_in i n) (hdg : decode cc pc = .ok (.iaload, 1))
    (kk : W p l e R s m args below meth c H locs cells slots Q (F0 m (pc + 1) ls (.int (f i.toNatClampNeg) :: rest))) : W p l e R s m args below meth c H locs cells slots Q (F0 m pc ls (.int i :: .ref a :: rest)) := by
  obtain ⟨ws, rfl, hP, hD, hK⟩ := hW
  obtain ⟨q0, hq⟩ := hw_lk_ix ha
  exact va_iald hexec hb hK hP q0 t0 hq ht hin hdg kk
theorem hw_lald (hexec : p.tables.exec = Jvm.exec) (hb : c.code = cc) (hW : hw_W D cl tys A M s H) (t0 : Nat) {cA : ClassId} {n : Nat} {f : Nat → Int64} (ha : M a = some (.inl (cA, n, .inr (.inl f)))) (ht : tys[t0]? = some (cA, .long)) {i : Int32} (hin : vp_in i n) (hdg : decode cc pc = .ok (.laload, 1))
    (kk : W p l e R s m args below meth c H locs cells slots Q (F0 m (pc + 1) ls (.long (f i.toNatClampNeg) :: rest))) : W p l e R s m args below meth c H locs cells slots Q (F0 m pc ls (.int i :: .ref a :: rest)) := by
  obtain ⟨ws, rfl, hP, hD, hK⟩ := hW
  obtain ⟨q0, hq⟩ := hw_lk_ix ha
  exact va_lald hexec hb hK hP q0 t0 hq ht hin hdg kk
theorem hw_aald (hexec : p.tables.exec = Jvm.exec) (hb : c.code = cc) (hW : hw_W D cl tys A M s H) (t0 : Nat) {cA : ClassId} {C : String} {n : Nat} {f : Nat → Option Nat} (ha : M a = some (.inl (cA, n, .inr (.inr (.inr (.inr f)))))) (ht : tys[t0]? = some (cA, .object C)) {i : Int32} (hin : vp_in i n) (hdg : decode cc pc = .ok (.aaload, 1))
    (kk : W p l e R s m args below meth c H locs cells slots Q (F0 m (pc + 1) ls (va_rf (f i.toNatClampNeg) :: rest))) : W p l e R s m args below meth c H locs cells slots Q (F0 m pc ls (.int i :: .ref a :: rest)) := by
  obtain ⟨ws, rfl, hP, hD, hK⟩ := hW
  obtain ⟨q0, hq⟩ := hw_lk_ix ha
  exact va_aldq hexec hb hK hP q0 t0 hq ht hin hdg kk
theorem hw_iast (hexec : p.tables.exec = Jvm.exec) (hb : c.code = cc) (hW : hw_W D cl tys A M s H) (hS : va_S A H0 H locs) (t0 : Nat) {cA : ClassId} {n : Nat} {f : Nat → Int32} (ha : M a = some (.inl (cA, n, .inl f))) (ht : tys[t0]? = some (cA, .int)) {i : Int32} {x : Int32} (hin : vp_in i n) (hdg : decode cc pc = .ok (.iastore, 1))
    (kk : ∀ (H1 : Heap) (locs1 : List Loc), hw_W D cl tys A (va_up M a (some (.inl (cA, n, .inl (upd f i.toNatClampNeg x))))) s H1 → va_S A H0 H1 locs1 → W p l e R s m args below meth c H1 locs1 cells slots Q (F0 m (pc + 1) ls rest)) : W p l e R s m args below meth c H locs cells slots Q (F0 m pc ls (.int x :: .int i :: .ref a :: rest)) := by
  obtain ⟨ws, rfl, hP, hD, hK⟩ := hW
  obtain ⟨q0, hq⟩ := hw_lk_ix ha
  exact va_iast hexec hb hK hP hD hS q0 t0 hq ht hin hdg (fun H1 locs1 h1 h2 h3 => kk H1 locs1 ⟨_, hw_lk_set hD hq, h1, h2, hK⟩ h3)
theorem hw_last (hexec : p.tables.exec = Jvm.exec) (hb : c.code = cc) (hW : hw_W D cl tys A M s H) (hS : va_S A H0 H locs) (t0 : Nat) {cA : ClassId} {n : Nat} {f : Nat → Int64} (ha : M a = some (.inl (cA, n, .inr (.inl f)))) (ht : tys[t0]? = some (cA, .long)) {i : Int32} {x : Int64} (hin : vp_in i n) (hdg : decode cc pc = .ok (.lastore, 1))
    (kk : ∀ (H1 : Heap) (locs1 : List Loc), hw_W D cl tys A (va_up M a (some (.inl (cA, n, .inr (.inl (vp_updL f i.toNatClampNeg x)))))) s H1 → va_S A H0 H1 locs1 → W p l e R s m args below meth c H1 locs1 cells slots Q (F0 m (pc + 1) ls rest)) : W p l e R s m args below meth c H locs cells slots Q (F0 m pc ls (.long x :: .int i :: .ref a :: rest)) := by
  obtain ⟨ws, rfl, hP, hD, hK⟩ := hW
  obtain ⟨q0, hq⟩ := hw_lk_ix ha
  exact va_last hexec hb hK hP hD hS q0 t0 hq ht hin hdg (fun H1 locs1 h1 h2 h3 => kk H1 locs1 ⟨_, hw_lk_set hD hq, h1, h2, hK⟩ h3)
theorem hw_alen (hexec : p.tables.exec = Jvm.exec) (hb : c.code = cc) (hW : hw_W D cl tys A M s H) (t0 : Nat) {cA : ClassId} {x : vp_A} (ha : M a = some (.inl (cA, x))) {ty : FieldType} (ht : tys[t0]? = some (cA, ty)) {v : Int32} (hv : Int32.ofNat x.1 = v) (hdg : decode cc pc = .ok (.arraylength, 1))
    (kk : W p l e R s m args below meth c H locs cells slots Q (F0 m (pc + 1) ls (.int v :: rest))) : W p l e R s m args below meth c H locs cells slots Q (F0 m pc ls (.ref a :: rest)) := by
  obtain ⟨ws, rfl, hP, hD, hK⟩ := hW
  obtain ⟨q0, hq⟩ := hw_lk_ix ha
  exact va_alen hexec hb hK hP q0 t0 hq ht hv hdg kk
theorem hw_new (hexec : p.tables.exec = Jvm.exec) (hb : c.code = cc) {own C : String} {T : u_T} {N ci index : Nat} {Ts : List Cond} (hts : ∀ w ∈ Ts, w.before args s = true) (hin : ∀ w ∈ u_ws C T N, w ∈ Ts) (ty : Nat → FieldType) (hty : ∀ k, k < N → parseFieldDescriptor (T k).2.2.1 = some (ty k)) (hown : s.vm.findClass own = some m.cls) (hcl : (Cond.classLink own index C).before args s = true) (hinst : (Cond.instantiable C N).before args s = true) (hini : (Cond.initialized C).before args s = true)
    (hW : hw_W D cl tys A M s H) (hS : va_S A H0 H locs) (hA : ∀ q, H0.size ≤ q → A q) (hc : cl[ci]? = some (C, T, N)) {fs : List Value} (hfs : ∀ j, j < N → defaultValue (ty j) = vp_V fs j) (hcells : cells + 1 ≤ R.cells) (hslots : slots + N ≤ R.slots) (hdg : decode cc pc = .ok (.new index, 3))
    (kk : ∀ (q : Nat) (H1 : Heap), M q = none → hw_W D cl tys A (va_up M q (some (.inr (ci, fs)))) s H1 → va_S A H0 H1 locs →
      W p l e R s m args below meth c H1 locs (cells + 1) (slots + N) Q (F0 m (pc + 3) ls (.ref q :: rest))) : W p l e R s m args below meth c H locs cells slots Q (F0 m pc ls rest) := by
  obtain ⟨ws, rfl, hP, hD, hK⟩ := hW
  exact va_new hexec hb hts hin ty hty hown hcl hinst hini hK hP hD hS hA hc hfs hcells hslots hdg (fun q H1 h1 h2 h3 => kk q H1 (hw_lk_push h2).2 ⟨_, (hw_lk_push h2).1, h1, h2, hK⟩ h3)
/-- the class of the arrays of a type is one -/
theorem hw_tyU {U : State} {cA cB : ClassId} {ty : FieldType} (h1 : va_RA U cA ty) (h2 : va_RA U cB ty) : cA = cB := by
  cases ty with
  | object C =>
    obtain ⟨_, _, _, _, _, a4⟩ := h1
    obtain ⟨_, _, _, _, _, b4⟩ := h2
    exact Option.some.inj (a4.symm.trans b4)
  | _ => exact Option.some.inj (Eq.trans (Eq.symm h1) h2)
theorem hw_tyK {U : State} {cA cB : ClassId} {ty : FieldType} {t0 : Nat} (hK : va_K D cl (tys ++ [(cA, ty)]) U) (ht : tys[t0]? = some (cB, ty)) : cA = cB := by
  have h1 := (hK.2 tys.length (cA, ty) (by rw [List.getElem?_append_right (Nat.le_refl _), Nat.sub_self]; rfl)).2
  have h2 := (hK.2 t0 (cB, ty) (by rw [List.getElem?_append_left (List.getElem?_eq_some_iff.mp ht).1]; exact ht)).2
  exact hw_tyU h1 h2
theorem hw_newi (hexec : p.tables.exec = Jvm.exec) (hb : c.code = cc) (harr : (Cond.arrayClass .int).before args s = true) (hW : hw_W D cl tys A M s H) (hS : va_S A H0 H locs) (hA : ∀ q, H0.size ≤ q → A q) (t0 : Nat) {cA : ClassId} (ht : tys[t0]? = some (cA, .int))
    {n : Int32} {N' : Nat} (hn : ¬ n < 0) (hN : n.toNatClampNeg = N') (hbytes : N' * 4 ≤ 536870912) (hcells : cells + 1 ≤ R.cells) (hslots : slots + N' ≤ R.slots) (hdg : decode cc pc = .ok (.newarray .int, 2))
    (kk : ∀ (q : Nat) (H1 : Heap), M q = none → hw_W D cl tys A (va_up M q (some (.inl (cA, N', .inl (fun _ => 0))))) s H1 → va_S A H0 H1 locs →
      W p l e R s m args below meth c H1 locs (cells + 1) (slots + N') Q (F0 m (pc + 2) ls (.ref q :: rest))) : W p l e R s m args below meth c H locs cells slots Q (F0 m pc ls (.int n :: rest)) := by
  obtain ⟨ws, rfl, hP, hD, hK⟩ := hW
  refine va_newa (atype := .int) (ty := .int) (a0 := (N', .inl (fun _ => 0))) hexec hb harr rfl hK hP hD hS hA (fun _ => rfl) hn hN hbytes hcells hslots hdg (fun q cB H1 h0 h1 h2 h3 => ?_)
  have e1 := hw_tyK h0 ht
  subst e1
  exact kk q H1 (hw_lk_push h2).2 ⟨_, (hw_lk_push h2).1, h1, h2, hK⟩ h3
theorem hw_newl (hexec : p.tables.exec = Jvm.exec) (hb : c.code = cc) (harr : (Cond.arrayClass .long).before args s = true) (hW : hw_W D cl tys A M s H) (hS : va_S A H0 H locs) (hA : ∀ q, H0.size ≤ q → A q) (t0 : Nat) {cA : ClassId} (ht : tys[t0]? = some (cA, .long))
    {n : Int32} {N' : Nat} (hn : ¬ n < 0) (hN : n.toNatClampNeg = N') (hbytes : N' * 8 ≤ 536870912) (hcells : cells + 1 ≤ R.cells) (hslots : slots + N' ≤ R.slots) (hdg : decode cc pc = .ok (.newarray .long, 2))
    (kk : ∀ (q : Nat) (H1 : Heap), M q = none → hw_W D cl tys A (va_up M q (some (.inl (cA, N', .inr (.inl (fun _ => 0)))))) s H1 → va_S A H0 H1 locs →
      W p l e R s m args below meth c H1 locs (cells + 1) (slots + N') Q (F0 m (pc + 2) ls (.ref q :: rest))) : W p l e R s m args below meth c H locs cells slots Q (F0 m pc ls (.int n :: rest)) := by
  obtain ⟨ws, rfl, hP, hD, hK⟩ := hW
  refine va_newa (atype := .long) (ty := .long) (a0 := (N', .inr (.inl (fun _ => 0)))) hexec hb harr rfl hK hP hD hS hA (fun _ => rfl) hn hN hbytes hcells hslots hdg (fun q cB H1 h0 h1 h2 h3 => ?_)
  have e1 := hw_tyK h0 ht
  subst e1
  exact kk q H1 (hw_lk_push h2).2 ⟨_, (hw_lk_push h2).1, h1, h2, hK⟩ h3
theorem hw_newq (hexec : p.tables.exec = Jvm.exec) (hb : c.code = cc) {own C : String} {index : Nat} (hown : s.vm.findClass own = some m.cls) (hclink : (Cond.classLink own index C).before args s = true) (hover : va_AO C s) (hW : hw_W D cl tys A M s H) (hS : va_S A H0 H locs) (hA : ∀ q, H0.size ≤ q → A q) (t0 : Nat) {cA : ClassId} (ht : tys[t0]? = some (cA, .object C))
    {n : Int32} {N' : Nat} (hn : ¬ n < 0) (hN : n.toNatClampNeg = N') (hbytes : N' * 4 ≤ 536870912) (hcells : cells + 1 ≤ R.cells) (hslots : slots + N' ≤ R.slots) (hdg : decode cc pc = .ok (.anewarray index, 3))
    (kk : ∀ (q : Nat) (H1 : Heap), M q = none → hw_W D cl tys A (va_up M q (some (.inl (cA, N', .inr (.inr (.inr (.inr (fun _ => none)))))))) s H1 → va_S A H0 H1 locs →
      W p l e R s m args below meth c H1 locs (cells + 1) (slots + N') Q (F0 m (pc + 3) ls (.ref q :: rest))) : W p l e R s m args below meth c H locs cells slots Q (F0 m pc ls (.int n :: rest)) := by
  obtain ⟨ws, rfl, hP, hD, hK⟩ := hW
  refine va_newq hexec hb hown hclink hover hK hP hD hS hA hn hN hbytes hcells hslots hdg (fun q cB H1 h0 h1 h2 h3 => ?_)
  have e1 := hw_tyK h0 ht
  subst e1
  exact kk q H1 (hw_lk_push h2).2 ⟨_, (hw_lk_push h2).1, h1, h2, hK⟩ h3
theorem hw_back {A1 : Nat → Prop} {M1 : Nat → Option va_E} {t : State} {H1 : Heap} (hW : hw_W D cl tys A M s H) (hS : va_S A H0 H locs) (hA : ∀ q, H0.size ≤ q → A q) (ht : t.heap = H1) (hvm : s.vm.Alike t.vm) (hB : hw_B D cl tys M H.size M1 t) : hw_W D cl tys A M1 s H1 := by
  have h1 : hw_W D cl tys (hw_A M H.size) M1 t t.heap := hB
  rw [ht] at h1
  exact (h1.moved hvm.symm).weaken (hW.free hS hA)
theorem hw_calli {st0 : List Value} {a9 : Array Value} {mc ms : Nat} {post : Int32 → (Nat → Option va_E) → Prop} (hr : va_Run p l e R s m args below meth c H locs cells slots mc ms (F0 m pc ls st0) rest (va_Qi post (hw_B D cl tys M H.size) (hw_A M H.size) a9) (hw_A M H.size)) (hW : hw_W D cl tys A M s H) (hS : va_S A H0 H locs) (hA : ∀ q, H0.size ≤ q → A q)
    (kk : ∀ (r : Int32) (M1 : Nat → Option va_E) (H1 : Heap) (locs1 : List Loc), post r M1 → H.size ≤ H1.size → hw_W D cl tys A M1 s H1 → va_S A H0 H1 locs1 → W p l e R s m args below meth c H1 locs1 (cells + mc) (slots + ms) Q (F0 m (pc + 3) ls (.int r :: rest))) : W p l e R s m args below meth c H locs cells slots Q (F0 m pc ls st0) :=
  va_calli hr hS (fun q _ h => hW.free hS hA q h) (fun q h => hW.free hS hA q h) (fun r M1 _ H1 locs1 ht hvm hp hB hz _ hS1 => kk r M1 H1 locs1 hp hz (hw_back (A1 := A) hW hS hA ht hvm hB) hS1)
theorem hw_calll {st0 : List Value} {a9 : Array Value} {mc ms : Nat} {post : Int64 → (Nat → Option va_E) → Prop} (hr : va_Run p l e R s m args below meth c H locs cells slots mc ms (F0 m pc ls st0) rest (va_Ql post (hw_B D cl tys M H.size) (hw_A M H.size) a9) (hw_A M H.size)) (hW : hw_W D cl tys A M s H) (hS : va_S A H0 H locs) (hA : ∀ q, H0.size ≤ q → A q)
    (kk : ∀ (r : Int64) (M1 : Nat → Option va_E) (H1 : Heap) (locs1 : List Loc), post r M1 → H.size ≤ H1.size → hw_W D cl tys A M1 s H1 → va_S A H0 H1 locs1 → W p l e R s m args below meth c H1 locs1 (cells + mc) (slots + ms) Q (F0 m (pc + 3) ls (.long r :: rest))) : W p l e R s m args below meth c H locs cells slots Q (F0 m pc ls st0) :=
  va_calll hr hS (fun q _ h => hW.free hS hA q h) (fun q h => hW.free hS hA q h) (fun r M1 _ H1 locs1 ht hvm hp hB hz _ hS1 => kk r M1 H1 locs1 hp hz (hw_back (A1 := A) hW hS hA ht hvm hB) hS1)
theorem hw_callv {st0 : List Value} {a9 : Array Value} {mc ms : Nat} {post : (Nat → Option va_E) → Prop} (hr : va_Run p l e R s m args below meth c H locs cells slots mc ms (F0 m pc ls st0) rest (va_Qv post (hw_B D cl tys M H.size) (hw_A M H.size) a9) (hw_A M H.size)) (hW : hw_W D cl tys A M s H) (hS : va_S A H0 H locs) (hA : ∀ q, H0.size ≤ q → A q)
    (kk : ∀ (M1 : Nat → Option va_E) (H1 : Heap) (locs1 : List Loc), post M1 → H.size ≤ H1.size → hw_W D cl tys A M1 s H1 → va_S A H0 H1 locs1 → W p l e R s m args below meth c H1 locs1 (cells + mc) (slots + ms) Q (F0 m (pc + 3) ls (rest))) : W p l e R s m args below meth c H locs cells slots Q (F0 m pc ls st0) :=
  va_callv hr hS (fun q _ h => hW.free hS hA q h) (fun q h => hW.free hS hA q h) (fun M1 _ H1 locs1 ht hvm hp hB hz _ hS1 => kk M1 H1 locs1 hp hz (hw_back (A1 := A) hW hS hA ht hvm hB) hS1)
theorem hw_callq {st0 : List Value} {a9 : Array Value} {mc ms : Nat} {post : Option Nat → (Nat → Option va_E) → Prop} (hr : va_Run p l e R s m args below meth c H locs cells slots mc ms (F0 m pc ls st0) rest (va_Qq post (hw_B D cl tys M H.size) (hw_A M H.size) a9) (hw_A M H.size)) (hW : hw_W D cl tys A M s H) (hS : va_S A H0 H locs) (hA : ∀ q, H0.size ≤ q → A q)
    (kk : ∀ (r : Option Nat) (M1 : Nat → Option va_E) (H1 : Heap) (locs1 : List Loc), post r M1 → H.size ≤ H1.size → hw_W D cl tys A M1 s H1 → va_S A H0 H1 locs1 → W p l e R s m args below meth c H1 locs1 (cells + mc) (slots + ms) Q (F0 m (pc + 3) ls (va_rf r :: rest))) : W p l e R s m args below meth c H locs cells slots Q (F0 m pc ls st0) :=
  va_callq hr hS (fun q _ h => hW.free hS hA q h) (fun q h => hW.free hS hA q h) (fun r M1 _ H1 locs1 ht hvm hp hB hz _ hS1 => kk r M1 H1 locs1 hp hz (hw_back (A1 := A) hW hS hA ht hvm hB) hS1)
theorem hw_reti {M0 : Nat → Option va_E} {post : Int32 → (Nat → Option va_E) → Prop} {v : Int32} (hexec : p.tables.exec = Jvm.exec) (hb : c.code = cc) (hr : meth.sig.returnType = some .int) (hlocks : meth.locks = false) (hW : hw_W D cl tys (hw_A M0 s.heap.size) M s H) (hS : va_S (hw_A M0 s.heap.size) s.heap H locs) (hp : post v M) (hdg : decode cc pc = .ok (.ireturn, 1)) : W p l e R s m args below meth c H locs cells slots (MQ below (va_Qi post (hw_B D cl tys M0 s.heap.size) (hw_A M0 s.heap.size)) args s cells slots (hw_A M0 s.heap.size)) (F0 m pc ls [.int v]) :=
  W.iret (v := v) hexec hb hr (fun t ht hw => ⟨⟨v, M, rfl, hp, by rw [hw_B, ht]; exact hW.moved hw.alike⟩, hS.F ht⟩) hS.2.2 hdg hlocks
theorem hw_retz {M0 : Nat → Option va_E} {post : Int32 → (Nat → Option va_E) → Prop} {v : Int32} (hexec : p.tables.exec = Jvm.exec) (hb : c.code = cc) (hr : meth.sig.returnType = some .boolean) (hn : narrow .boolean (.int v) = .int v) (hlocks : meth.locks = false) (hW : hw_W D cl tys (hw_A M0 s.heap.size) M s H) (hS : va_S (hw_A M0 s.heap.size) s.heap H locs) (hp : post v M) (hdg : decode cc pc = .ok (.ireturn, 1)) : W p l e R s m args below meth c H locs cells slots (MQ below (va_Qi post (hw_B D cl tys M0 s.heap.size) (hw_A M0 s.heap.size)) args s cells slots (hw_A M0 s.heap.size)) (F0 m pc ls [.int v]) :=
  W.zret (v := v) hexec hb hr hn (fun t ht hw => ⟨⟨v, M, rfl, hp, by rw [hw_B, ht]; exact hW.moved hw.alike⟩, hS.F ht⟩) hS.2.2 hdg hlocks
theorem hw_retl {M0 : Nat → Option va_E} {post : Int64 → (Nat → Option va_E) → Prop} {v : Int64} (hexec : p.tables.exec = Jvm.exec) (hb : c.code = cc) (hr : meth.sig.returnType = some .long) (hlocks : meth.locks = false) (hW : hw_W D cl tys (hw_A M0 s.heap.size) M s H) (hS : va_S (hw_A M0 s.heap.size) s.heap H locs) (hp : post v M) (hdg : decode cc pc = .ok (.lreturn, 1)) : W p l e R s m args below meth c H locs cells slots (MQ below (va_Ql post (hw_B D cl tys M0 s.heap.size) (hw_A M0 s.heap.size)) args s cells slots (hw_A M0 s.heap.size)) (F0 m pc ls [.long v]) :=
  W.lret (v := v) hexec hb hr (fun t ht hw => ⟨⟨v, M, rfl, hp, by rw [hw_B, ht]; exact hW.moved hw.alike⟩, hS.F ht⟩) hS.2.2 hdg hlocks
theorem hw_retv {M0 : Nat → Option va_E} {post : (Nat → Option va_E) → Prop} (hexec : p.tables.exec = Jvm.exec) (hb : c.code = cc) (hr : meth.sig.returnType = none) (hlocks : meth.locks = false) (hW : hw_W D cl tys (hw_A M0 s.heap.size) M s H) (hS : va_S (hw_A M0 s.heap.size) s.heap H locs) (hp : post M) (hdg : decode cc pc = .ok (.return_, 1)) : W p l e R s m args below meth c H locs cells slots (MQ below (va_Qv post (hw_B D cl tys M0 s.heap.size) (hw_A M0 s.heap.size)) args s cells slots (hw_A M0 s.heap.size)) (F0 m pc ls []) :=
  W.vret hexec hb hr (fun t ht hw => ⟨⟨M, rfl, hp, by rw [hw_B, ht]; exact hW.moved hw.alike⟩, hS.F ht⟩) hS.2.2 hdg hlocks
theorem hw_reta {M0 : Nat → Option va_E} {post : Option Nat → (Nat → Option va_E) → Prop} {v : Nat} {rt : FieldType} (hexec : p.tables.exec = Jvm.exec) (hb : c.code = cc) (hr : meth.sig.returnType = some rt) (hrt : (∃ n, rt = .object n) ∨ ∃ t, rt = .array t) (hlocks : meth.locks = false) (hW : hw_W D cl tys (hw_A M0 s.heap.size) M s H) (hS : va_S (hw_A M0 s.heap.size) s.heap H locs) (hp : post (some v) M) (hdg : decode cc pc = .ok (.areturn, 1)) : W p l e R s m args below meth c H locs cells slots (MQ below (va_Qq post (hw_B D cl tys M0 s.heap.size) (hw_A M0 s.heap.size)) args s cells slots (hw_A M0 s.heap.size)) (F0 m pc ls [.ref v]) :=
  W.aret hexec hb hr hrt (Or.inr ⟨v, rfl⟩) (fun t ht hw => ⟨⟨some v, M, rfl, hp, by rw [hw_B, ht]; exact hW.moved hw.alike⟩, hS.F ht⟩) hS.2.2 hdg hlocks
end HWS
end

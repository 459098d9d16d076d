section
-- ===== PART A: goes FIRST, ahead of the names: the tables' words, and 'selects' of the private methods out of them =====
/-- a private method of a class that the tables say can be made, by its rows of tables_1 -/
def lw_okq (q : MethodName × Nat) : Prop := (q.1.cls ≠ "java/lang/invoke/MethodHandle" ∧ q.1.cls ≠ "java/lang/invoke/VarHandle") ∧ Cond.instantiable q.1.cls q.2 ∈ tables_1 ∧ Cond.privateMethod q.1 ∈ tables_1 ∧ Cond.instanceMethod q.1 ∈ tables_1
theorem lw_p0 : lw_okq (⟨"QuantifierOut", "checkRoom", "()V"⟩, 4) := ⟨⟨by decide +kernel, by decide +kernel⟩, List.mem_of_getElem? (i := 20) (by decide +kernel), List.mem_of_getElem? (i := 124) (by decide +kernel), List.mem_of_getElem? (i := 125) (by decide +kernel)⟩
theorem lw_p1 : lw_okq (⟨"java/lang/Throwable", "fillInStackTrace", "(I)Ljava/lang/Throwable;"⟩, 6) := ⟨⟨by decide +kernel, by decide +kernel⟩, List.mem_of_getElem? (i := 166) (by decide +kernel), List.mem_of_getElem? (i := 164) (by decide +kernel), List.mem_of_getElem? (i := 165) (by decide +kernel)⟩
theorem lw_p2 : lw_okq (⟨"QuantifierOut", "add", "(LQuantifierOut$Node;)I"⟩, 4) := ⟨⟨by decide +kernel, by decide +kernel⟩, List.mem_of_getElem? (i := 20) (by decide +kernel), List.mem_of_getElem? (i := 265) (by decide +kernel), List.mem_of_getElem? (i := 266) (by decide +kernel)⟩
theorem lw_p3 : lw_okq (⟨"QuantifierOut", "addPair", "(IIZ)I"⟩, 4) := ⟨⟨by decide +kernel, by decide +kernel⟩, List.mem_of_getElem? (i := 20) (by decide +kernel), List.mem_of_getElem? (i := 277) (by decide +kernel), List.mem_of_getElem? (i := 278) (by decide +kernel)⟩
theorem lw_p4 : lw_okq (⟨"QuantifierOut", "nodeAt", "(I)LQuantifierOut$Node;"⟩, 4) := ⟨⟨by decide +kernel, by decide +kernel⟩, List.mem_of_getElem? (i := 20) (by decide +kernel), List.mem_of_getElem? (i := 281) (by decide +kernel), List.mem_of_getElem? (i := 282) (by decide +kernel)⟩
theorem lw_p5 : lw_okq (⟨"QuantifierOut", "addQuantified", "(IIZ)I"⟩, 4) := ⟨⟨by decide +kernel, by decide +kernel⟩, List.mem_of_getElem? (i := 20) (by decide +kernel), List.mem_of_getElem? (i := 384) (by decide +kernel), List.mem_of_getElem? (i := 385) (by decide +kernel)⟩
theorem lw_p6 : lw_okq (⟨"QuantifierOut$Marks", "markValue", "([IIILQuantifierOut$Values;)V"⟩, 3) := ⟨⟨by decide +kernel, by decide +kernel⟩, List.mem_of_getElem? (i := 36) (by decide +kernel), List.mem_of_getElem? (i := 476) (by decide +kernel), List.mem_of_getElem? (i := 477) (by decide +kernel)⟩
theorem lw_p7 : lw_okq (⟨"QuantifierOut$Marks", "insert", "(JJ)V"⟩, 3) := ⟨⟨by decide +kernel, by decide +kernel⟩, List.mem_of_getElem? (i := 36) (by decide +kernel), List.mem_of_getElem? (i := 480) (by decide +kernel), List.mem_of_getElem? (i := 481) (by decide +kernel)⟩
theorem lw_p8 : lw_okq (⟨"QuantifierOut$Marks", "markCrossing", "([IIII)V"⟩, 3) := ⟨⟨by decide +kernel, by decide +kernel⟩, List.mem_of_getElem? (i := 36) (by decide +kernel), List.mem_of_getElem? (i := 485) (by decide +kernel), List.mem_of_getElem? (i := 486) (by decide +kernel)⟩
theorem lw_p9 : lw_okq (⟨"QuantifierOut", "findPieces", "(I)V"⟩, 4) := ⟨⟨by decide +kernel, by decide +kernel⟩, List.mem_of_getElem? (i := 20) (by decide +kernel), List.mem_of_getElem? (i := 517) (by decide +kernel), List.mem_of_getElem? (i := 518) (by decide +kernel)⟩
theorem lw_p10 : lw_okq (⟨"QuantifierOut$Marks", "divisorOf", "(I)J"⟩, 3) := ⟨⟨by decide +kernel, by decide +kernel⟩, List.mem_of_getElem? (i := 36) (by decide +kernel), List.mem_of_getElem? (i := 551) (by decide +kernel), List.mem_of_getElem? (i := 552) (by decide +kernel)⟩
theorem lw_p11 : lw_okq (⟨"QuantifierOutModel", "add", "(III)I"⟩, 23) := ⟨⟨by decide +kernel, by decide +kernel⟩, List.mem_of_getElem? (i := 598) (by decide +kernel), List.mem_of_getElem? (i := 689) (by decide +kernel), List.mem_of_getElem? (i := 690) (by decide +kernel)⟩
theorem lw_p12 : lw_okq (⟨"QuantifierOutModel", "pair", "(III)I"⟩, 23) := ⟨⟨by decide +kernel, by decide +kernel⟩, List.mem_of_getElem? (i := 598) (by decide +kernel), List.mem_of_getElem? (i := 697) (by decide +kernel), List.mem_of_getElem? (i := 698) (by decide +kernel)⟩
theorem lw_p13 : lw_okq (⟨"QuantifierOutModel", "isNode", "(I)Z"⟩, 23) := ⟨⟨by decide +kernel, by decide +kernel⟩, List.mem_of_getElem? (i := 598) (by decide +kernel), List.mem_of_getElem? (i := 701) (by decide +kernel), List.mem_of_getElem? (i := 702) (by decide +kernel)⟩
theorem lw_p14 : lw_okq (⟨"QuantifierOutModel", "quantified", "(III)I"⟩, 23) := ⟨⟨by decide +kernel, by decide +kernel⟩, List.mem_of_getElem? (i := 598) (by decide +kernel), List.mem_of_getElem? (i := 717) (by decide +kernel), List.mem_of_getElem? (i := 718) (by decide +kernel)⟩
theorem lw_p15 : lw_okq (⟨"QuantifierOutModel", "at", "(IJJ)Z"⟩, 23) := ⟨⟨by decide +kernel, by decide +kernel⟩, List.mem_of_getElem? (i := 598) (by decide +kernel), List.mem_of_getElem? (i := 740) (by decide +kernel), List.mem_of_getElem? (i := 741) (by decide +kernel)⟩
def lw_privs_1 : List (MethodName × Nat) := [(⟨"QuantifierOut", "checkRoom", "()V"⟩, 4), (⟨"java/lang/Throwable", "fillInStackTrace", "(I)Ljava/lang/Throwable;"⟩, 6), (⟨"QuantifierOut", "add", "(LQuantifierOut$Node;)I"⟩, 4), (⟨"QuantifierOut", "addPair", "(IIZ)I"⟩, 4), (⟨"QuantifierOut", "nodeAt", "(I)LQuantifierOut$Node;"⟩, 4), (⟨"QuantifierOut", "addQuantified", "(IIZ)I"⟩, 4), (⟨"QuantifierOut$Marks", "markValue", "([IIILQuantifierOut$Values;)V"⟩, 3), (⟨"QuantifierOut$Marks", "insert", "(JJ)V"⟩, 3), (⟨"QuantifierOut$Marks", "markCrossing", "([IIII)V"⟩, 3), (⟨"QuantifierOut", "findPieces", "(I)V"⟩, 4), (⟨"QuantifierOut$Marks", "divisorOf", "(I)J"⟩, 3), (⟨"QuantifierOutModel", "add", "(III)I"⟩, 23), (⟨"QuantifierOutModel", "pair", "(III)I"⟩, 23), (⟨"QuantifierOutModel", "isNode", "(I)Z"⟩, 23), (⟨"QuantifierOutModel", "quantified", "(III)I"⟩, 23), (⟨"QuantifierOutModel", "at", "(IJJ)Z"⟩, 23)]
theorem lw_r1 : ∀ q ∈ lw_privs_1, lw_okq q := List.forall_mem_cons.mpr ⟨lw_p0, List.forall_mem_cons.mpr ⟨lw_p1, List.forall_mem_cons.mpr ⟨lw_p2, List.forall_mem_cons.mpr ⟨lw_p3, List.forall_mem_cons.mpr ⟨lw_p4, List.forall_mem_cons.mpr ⟨lw_p5, List.forall_mem_cons.mpr ⟨lw_p6, List.forall_mem_cons.mpr ⟨lw_p7, List.forall_mem_cons.mpr ⟨lw_p8, List.forall_mem_cons.mpr ⟨lw_p9, List.forall_mem_cons.mpr ⟨lw_p10, List.forall_mem_cons.mpr ⟨lw_p11, List.forall_mem_cons.mpr ⟨lw_p12, List.forall_mem_cons.mpr ⟨lw_p13, List.forall_mem_cons.mpr ⟨lw_p14, List.forall_mem_cons.mpr ⟨lw_p15, fun _ h => absurd h List.not_mem_nil⟩⟩⟩⟩⟩⟩⟩⟩⟩⟩⟩⟩⟩⟩⟩⟩
theorem lw_p16 : lw_okq (⟨"QuantifierOutModel", "truth2", "(I)Z"⟩, 23) := ⟨⟨by decide +kernel, by decide +kernel⟩, List.mem_of_getElem? (i := 598) (by decide +kernel), List.mem_of_getElem? (i := 744) (by decide +kernel), List.mem_of_getElem? (i := 745) (by decide +kernel)⟩
theorem lw_p17 : lw_okq (⟨"QuantifierOutModel", "mark", "(II)V"⟩, 23) := ⟨⟨by decide +kernel, by decide +kernel⟩, List.mem_of_getElem? (i := 598) (by decide +kernel), List.mem_of_getElem? (i := 748) (by decide +kernel), List.mem_of_getElem? (i := 749) (by decide +kernel)⟩
theorem lw_p18 : lw_okq (⟨"QuantifierOutModel", "plain", "(II)Z"⟩, 23) := ⟨⟨by decide +kernel, by decide +kernel⟩, List.mem_of_getElem? (i := 598) (by decide +kernel), List.mem_of_getElem? (i := 752) (by decide +kernel), List.mem_of_getElem? (i := 753) (by decide +kernel)⟩
theorem lw_p19 : lw_okq (⟨"QuantifierOutModel", "atomAt", "(II)Z"⟩, 23) := ⟨⟨by decide +kernel, by decide +kernel⟩, List.mem_of_getElem? (i := 598) (by decide +kernel), List.mem_of_getElem? (i := 756) (by decide +kernel), List.mem_of_getElem? (i := 757) (by decide +kernel)⟩
theorem lw_p20 : lw_okq (⟨"QuantifierOutModel", "of", "(II)I"⟩, 23) := ⟨⟨by decide +kernel, by decide +kernel⟩, List.mem_of_getElem? (i := 598) (by decide +kernel), List.mem_of_getElem? (i := 760) (by decide +kernel), List.mem_of_getElem? (i := 761) (by decide +kernel)⟩
theorem lw_p21 : lw_okq (⟨"QuantifierOutModel", "tries2", "(I)Z"⟩, 23) := ⟨⟨by decide +kernel, by decide +kernel⟩, List.mem_of_getElem? (i := 598) (by decide +kernel), List.mem_of_getElem? (i := 764) (by decide +kernel), List.mem_of_getElem? (i := 765) (by decide +kernel)⟩
theorem lw_p22 : lw_okq (⟨"QuantifierOutModel", "gather", "(IIIJJ)V"⟩, 23) := ⟨⟨by decide +kernel, by decide +kernel⟩, List.mem_of_getElem? (i := 598) (by decide +kernel), List.mem_of_getElem? (i := 768) (by decide +kernel), List.mem_of_getElem? (i := 769) (by decide +kernel)⟩
theorem lw_p23 : lw_okq (⟨"QuantifierOutModel", "lowest", "(JJ)V"⟩, 23) := ⟨⟨by decide +kernel, by decide +kernel⟩, List.mem_of_getElem? (i := 598) (by decide +kernel), List.mem_of_getElem? (i := 772) (by decide +kernel), List.mem_of_getElem? (i := 773) (by decide +kernel)⟩
theorem lw_p24 : lw_okq (⟨"QuantifierOutModel", "keep", "(I)V"⟩, 23) := ⟨⟨by decide +kernel, by decide +kernel⟩, List.mem_of_getElem? (i := 598) (by decide +kernel), List.mem_of_getElem? (i := 776) (by decide +kernel), List.mem_of_getElem? (i := 777) (by decide +kernel)⟩
theorem lw_p25 : lw_okq (⟨"QuantifierOutModel", "meet", "(IIII)V"⟩, 23) := ⟨⟨by decide +kernel, by decide +kernel⟩, List.mem_of_getElem? (i := 598) (by decide +kernel), List.mem_of_getElem? (i := 780) (by decide +kernel), List.mem_of_getElem? (i := 781) (by decide +kernel)⟩
theorem lw_p26 : lw_okq (⟨"QuantifierOutModel", "trial", "(II)V"⟩, 23) := ⟨⟨by decide +kernel, by decide +kernel⟩, List.mem_of_getElem? (i := 598) (by decide +kernel), List.mem_of_getElem? (i := 784) (by decide +kernel), List.mem_of_getElem? (i := 785) (by decide +kernel)⟩
theorem lw_p27 : lw_okq (⟨"QuantifierOutModel", "step", "(II)V"⟩, 23) := ⟨⟨by decide +kernel, by decide +kernel⟩, List.mem_of_getElem? (i := 598) (by decide +kernel), List.mem_of_getElem? (i := 788) (by decide +kernel), List.mem_of_getElem? (i := 789) (by decide +kernel)⟩
theorem lw_p28 : lw_okq (⟨"QuantifierOutModel", "truth1", "(I)Z"⟩, 23) := ⟨⟨by decide +kernel, by decide +kernel⟩, List.mem_of_getElem? (i := 598) (by decide +kernel), List.mem_of_getElem? (i := 792) (by decide +kernel), List.mem_of_getElem? (i := 793) (by decide +kernel)⟩
theorem lw_p29 : lw_okq (⟨"QuantifierOutModel", "tries1", "(I)Z"⟩, 23) := ⟨⟨by decide +kernel, by decide +kernel⟩, List.mem_of_getElem? (i := 598) (by decide +kernel), List.mem_of_getElem? (i := 796) (by decide +kernel), List.mem_of_getElem? (i := 797) (by decide +kernel)⟩
theorem lw_p30 : lw_okq (⟨"QuantifierOutModel", "truth0", "(I)Z"⟩, 23) := ⟨⟨by decide +kernel, by decide +kernel⟩, List.mem_of_getElem? (i := 598) (by decide +kernel), List.mem_of_getElem? (i := 800) (by decide +kernel), List.mem_of_getElem? (i := 801) (by decide +kernel)⟩
theorem lw_p31 : lw_okq (⟨"QuantifierOutModel", "find", "(I)Z"⟩, 23) := ⟨⟨by decide +kernel, by decide +kernel⟩, List.mem_of_getElem? (i := 598) (by decide +kernel), List.mem_of_getElem? (i := 816) (by decide +kernel), List.mem_of_getElem? (i := 817) (by decide +kernel)⟩
def lw_privs_2 : List (MethodName × Nat) := [(⟨"QuantifierOutModel", "truth2", "(I)Z"⟩, 23), (⟨"QuantifierOutModel", "mark", "(II)V"⟩, 23), (⟨"QuantifierOutModel", "plain", "(II)Z"⟩, 23), (⟨"QuantifierOutModel", "atomAt", "(II)Z"⟩, 23), (⟨"QuantifierOutModel", "of", "(II)I"⟩, 23), (⟨"QuantifierOutModel", "tries2", "(I)Z"⟩, 23), (⟨"QuantifierOutModel", "gather", "(IIIJJ)V"⟩, 23), (⟨"QuantifierOutModel", "lowest", "(JJ)V"⟩, 23), (⟨"QuantifierOutModel", "keep", "(I)V"⟩, 23), (⟨"QuantifierOutModel", "meet", "(IIII)V"⟩, 23), (⟨"QuantifierOutModel", "trial", "(II)V"⟩, 23), (⟨"QuantifierOutModel", "step", "(II)V"⟩, 23), (⟨"QuantifierOutModel", "truth1", "(I)Z"⟩, 23), (⟨"QuantifierOutModel", "tries1", "(I)Z"⟩, 23), (⟨"QuantifierOutModel", "truth0", "(I)Z"⟩, 23), (⟨"QuantifierOutModel", "find", "(I)Z"⟩, 23)]
theorem lw_r2 : ∀ q ∈ lw_privs_2, lw_okq q := List.forall_mem_cons.mpr ⟨lw_p16, List.forall_mem_cons.mpr ⟨lw_p17, List.forall_mem_cons.mpr ⟨lw_p18, List.forall_mem_cons.mpr ⟨lw_p19, List.forall_mem_cons.mpr ⟨lw_p20, List.forall_mem_cons.mpr ⟨lw_p21, List.forall_mem_cons.mpr ⟨lw_p22, List.forall_mem_cons.mpr ⟨lw_p23, List.forall_mem_cons.mpr ⟨lw_p24, List.forall_mem_cons.mpr ⟨lw_p25, List.forall_mem_cons.mpr ⟨lw_p26, List.forall_mem_cons.mpr ⟨lw_p27, List.forall_mem_cons.mpr ⟨lw_p28, List.forall_mem_cons.mpr ⟨lw_p29, List.forall_mem_cons.mpr ⟨lw_p30, List.forall_mem_cons.mpr ⟨lw_p31, fun _ h => absurd h List.not_mem_nil⟩⟩⟩⟩⟩⟩⟩⟩⟩⟩⟩⟩⟩⟩⟩⟩
theorem lw_p32 : lw_okq (⟨"QuantifierOutModel", "raise", "(I)I"⟩, 23) := ⟨⟨by decide +kernel, by decide +kernel⟩, List.mem_of_getElem? (i := 598) (by decide +kernel), List.mem_of_getElem? (i := 824) (by decide +kernel), List.mem_of_getElem? (i := 825) (by decide +kernel)⟩
def lw_privs_3 : List (MethodName × Nat) := [(⟨"QuantifierOutModel", "raise", "(I)I"⟩, 23)]
theorem lw_r3 : ∀ q ∈ lw_privs_3, lw_okq q := List.forall_mem_cons.mpr ⟨lw_p32, fun _ h => absurd h List.not_mem_nil⟩
def lw_privs : List (MethodName × Nat) := lw_privs_1 ++ (lw_privs_2 ++ (lw_privs_3))
def lw_tbl : List Cond := k2_sels lw_privs ++ tables_1
theorem lw_privs_ok : ∀ q ∈ lw_privs, lw_okq q := by
  show ∀ q ∈ lw_privs_1 ++ (lw_privs_2 ++ (lw_privs_3)), lw_okq q
  exact List.forall_mem_append.mpr ⟨lw_r1, List.forall_mem_append.mpr ⟨lw_r2, lw_r3⟩⟩
/-- the words that ride with every call -/
def ww : List Cond := lw_tbl.filter goodWord
theorem ww_tbl : ∀ w ∈ ww, w ∈ lw_tbl := fun _ h => (List.mem_filter.mp h).1
theorem lw_in1 {w : Cond} (i : Nat) (h : tables_1_1[i]? = some w) : w ∈ lw_tbl := List.mem_append_right _ (List.mem_append_left _ (List.mem_of_getElem? h))
theorem ww_in1 {w : Cond} (i : Nat) (h : tables_1_1[i]? = some w) (g : goodWord w = true) : w ∈ ww := List.mem_filter.mpr ⟨lw_in1 i h, g⟩
theorem lw_in2 {w : Cond} (i : Nat) (h : tables_1_2[i]? = some w) : w ∈ lw_tbl := List.mem_append_right _ (List.mem_append_right _ (List.mem_append_left _ (List.mem_of_getElem? h)))
theorem ww_in2 {w : Cond} (i : Nat) (h : tables_1_2[i]? = some w) (g : goodWord w = true) : w ∈ ww := List.mem_filter.mpr ⟨lw_in2 i h, g⟩
theorem lw_in3 {w : Cond} (i : Nat) (h : tables_1_3[i]? = some w) : w ∈ lw_tbl := List.mem_append_right _ (List.mem_append_right _ (List.mem_append_right _ (List.mem_append_left _ (List.mem_of_getElem? h))))
theorem ww_in3 {w : Cond} (i : Nat) (h : tables_1_3[i]? = some w) (g : goodWord w = true) : w ∈ ww := List.mem_filter.mpr ⟨lw_in3 i h, g⟩
theorem lw_in4 {w : Cond} (i : Nat) (h : tables_1_4[i]? = some w) : w ∈ lw_tbl := List.mem_append_right _ (List.mem_append_right _ (List.mem_append_right _ (List.mem_append_right _ (List.mem_of_getElem? h))))
theorem ww_in4 {w : Cond} (i : Nat) (h : tables_1_4[i]? = some w) (g : goodWord w = true) : w ∈ ww := List.mem_filter.mpr ⟨lw_in4 i h, g⟩
theorem ww_sel {w : Cond} (i : Nat) (h : (k2_sels lw_privs)[i]? = some w) (g : goodWord w = true) : w ∈ ww := List.mem_filter.mpr ⟨List.mem_append_left _ (List.mem_of_getElem? h), g⟩
theorem ww_goodIn {a : Cond} {l : List Cond} {y : Cond} (hy : y ∈ ww) (hl : ∀ w ∈ l, w ∈ ww) : GoodIn (a :: ww) (l ++ (y :: ww)) := by
  have ok : ∀ w ∈ ww, w ∈ a :: ww ∧ ((w.onTables && w.keeps) = true ∨ ∃ ty, w = .arrayClass ty) := fun w h => ⟨List.mem_cons_of_mem _ h, good_of_word (List.mem_filter.mp h).2⟩
  intro w hw
  rcases List.mem_append.mp hw with h | h
  · exact ok w (hl w h)
  · rcases List.mem_cons.mp h with h | h
    · rw [h]; exact ok y hy
    · exact ok w h
end
section
/-! ===== BEGIN words of one list among another's, by their places ===== -/
theorem goodIn_r {big : List Cond} (ws : List Cond) (ps : List Nat) (hp : ws = ps.filterMap (fun i => big[i]?)) (h : ws.all goodWord = true) : GoodIn big ws := by
  intro w hw
  have h1 := List.all_eq_true.mp h w hw
  rw [hp] at hw
  obtain ⟨i, -, hi⟩ := List.mem_filterMap.mp hw
  have hm : w ∈ big := by first | exact List.mem_of_getElem? hi | exact List.getElem?_mem hi
  exact ⟨hm, good_of_word h1⟩
theorem goodIn_app {big a b : List Cond} (ha : GoodIn big a) (hb : GoodIn big b) : GoodIn big (a ++ b) := fun w h => (List.mem_append.mp h).elim (ha w) (hb w)
theorem goodIn_ca {big a b : List Cond} {c : Cond} (ha : GoodIn big (c :: a)) (hb : GoodIn big b) : GoodIn big (c :: (a ++ b)) := fun w h => (List.mem_cons.mp h).elim (fun e => ha w (List.mem_cons.mpr (Or.inl e))) (fun h => (List.mem_append.mp h).elim (fun h => ha w (List.mem_cons.mpr (Or.inr h))) (hb w))
theorem goodIn_sub {big ws : List Cond} (hm : ∀ w ∈ ws, w ∈ big) (h : ws.all goodWord = true) : GoodIn big ws := fun w hw => ⟨hm w hw, good_of_word (List.all_eq_true.mp h w hw)⟩
/-! ===== END ===== -/

/-! ===== BEGIN exceptions that leave a method, and their catching by the caller (launches without stack traces) ===== -/
section VXA
/-! The laws vx_back, vx_callV, vx_callS, vx_callSW, vx_throw0, vx_throwS follow proofs of the library, with one case more: JvmDerived/Free/Laws.lean (Back.of_free), Shelf42/LK1.lean (callV, callS), Shelf/KitTraced.lean (throwNew0V, throwNewS). -/
/-- where a method has thrown q: the class by its name, the cell, what was written, the world -/
def vx_T (XC : String → State → State → Prop) (st : State) (q : Addr) (t : State) (mc ms : Nat) (free : Addr → Prop) : Prop :=
  ∃ (E : String) (ce : Cell) (L : List Loc), XC E st t ∧ t.heap[q]? = some ce ∧ ce.vm = .none ∧ st.vm.findClass E = some ce.cls ∧ st.WarmedH t.vm ∧ st.sameButNew ({ t with vm := st.vm } : State) L mc ms ∧ ∀ z ∈ L, free z.base
def vx_Q (Qc : Array Value → State → Outcome → State → Prop) (XC : String → State → State → Prop) (mc ms : Nat) (free : Addr → Prop) : Array Value → State → Outcome → State → Prop := fun a st o t =>
  (Qc a st o t ∧ ∃ L, FrameEnd st o t L mc ms ∧ ∀ q ∈ L, free q.base) ∨ ∃ q, o = .threw q ∧ vx_T XC st q t mc ms free
/-- a callee that returns or throws -/
def vx_Met (l : Launch) (y : MethodName) (ws : List Cond) (rm : Room) (Pc : Array Value → State → Prop) (Qc : Array Value → State → Outcome → State → Prop) (XC : String → State → State → Prop) (mc ms : Nat) (free : Addr → Prop) : Prop :=
  MetFree l y (headSpec ws rm) Pc (fun _ _ _ _ _ => True) (vx_Q Qc XC mc ms free)
def vx_Post (XC : String → State → State → Prop) (mc ms : Nat) (free : Addr → Prop) : Pt → Array Value → Addr → Pt → Prop := fun A a q B =>
  ∃ (g : JFrame) (mk : MethodId) (t : State) (L : List Loc) (E : String) (ce : Cell), B.U.heap = t.heap ∧ B.U.vm = t.vm ∧ XC E (A.U.calling g mk a) t ∧ t.heap[q]? = some ce ∧ ce.vm = .none ∧ A.U.vm.findClass E = some ce.cls ∧ B.locs = A.locs ++ L ∧ (∀ z ∈ L, free z.base) ∧ B.cells = A.cells + mc ∧ B.slots = A.slots + ms
def vx_Back (l : Launch) (R : Room) (p : Program) (e : Env) (below : List Frame) (s : State) (sargs : Array Value) (y : MethodName) (len W9 : Nat)
    (Pre : Pt → Array Value → Prop) (Post : Pt → Array Value → Option Value → Pt → Prop) (PostX : Pt → Array Value → Addr → Pt → Prop) : Prop :=
  ∀ (m : MethodId) (meth : Method) (c : Code) (A : Pt) (g : JFrame) (ig : Instr) (mk : MethodId) (a : Array Value),
    Stand p l e R s m sargs below meth c A.U A.locs A.cells A.slots → g.method = m → g.locals.size = c.maxLocals → decode c.code g.pc = .ok (ig, len) →
    2 * g.monitorRoom + (g.stack.map fun v => v.category).sum ≤ W9 → A.U.methodNamed? y = some mk → Pre A a →
    (∃ (v : Option Value) (B : Pt), Stand p l e R s m sargs below meth c B.U B.locs B.cells B.slots ∧ Post A a v B ∧
      Steps p.tables e below (doInvoke e (A.U.setTop g) [] mk a).1 (B.U.setTop { g with pc := g.pc + len, stack := v.toList ++ g.stack })) ∨
    (∃ (q : Addr) (B : Pt), Stand p l e R s m sargs below meth c B.U B.locs B.cells B.slots ∧ PostX A a q B ∧
      Steps p.tables e below (doInvoke e (A.U.setTop g) [] mk a).1 ((B.U.setTop g).pushFrame (.throwing q)))
section Payer
variable {l : Launch} {R : Room} {p : Program} {e : Env} {below : List Frame} {s : State} {sargs : Array Value} {y : MethodName} {len W9 : Nat}
theorem vx_back {ws : List Cond} {rm : Room} {Pc : Array Value → State → Prop} {Qc : Array Value → State → Outcome → State → Prop} {XC : String → State → State → Prop} {mc ms : Nat} {free : Addr → Prop} {bytes : ByteArray} {maxL : Nat} {ret : Option FieldType}
    (hM : vx_Met l y ws rm Pc Qc XC mc ms free) (hblind : FrameBlind Pc) (hrc : rm.cells = mc) (hrs : rm.slots = ms)
    (hframes : rm.frames + 1 ≤ R.frames) (hlocals : W9 + (maxL + 11) + rm.locals ≤ R.locals)
    (hws : ∀ w ∈ ws, ∀ a' U, s.WarmedH U.vm → w.before a' U = true) (hcode : Cond.code y bytes maxL ret ∈ ws) (hinit : ∀ a' U, s.WarmedH U.vm → (Cond.initialized y.cls).before a' U = true) :
    vx_Back l R p e below s sargs y len W9 (PreOf R mc ms Pc) (PostOf Qc mc ms free) (vx_Post XC mc ms free) := by
  intro m meth c A g ig mk a X hg hsize hdg hW hn hp
  have h1 : (headSpec ws rm).pre.before a A.U = true := atoms_intro fun w hw => hws w hw _ _ X.warmed
  have h2 : (Cond.code y bytes maxL ret).before a A.U = true := hws _ hcode _ _ X.warmed
  have h3 : (Cond.initialized y.cls).before a A.U = true := hinit _ _ X.warmed
  have h4 : A.cells + (headSpec ws rm).room.cells ≤ R.cells := by rw [show (headSpec ws rm).room.cells = mc from hrc]; exact hp.1
  have h5 : A.slots + (headSpec ws rm).room.slots ≤ R.slots := by rw [show (headSpec ws rm).room.slots = ms from hrs]; exact hp.2.1
  have hPc : Pc a (A.U.calling g mk a) := hblind _ _ _ _ hp.2.2
  obtain ⟨U, Ls, c0, s0⟩ := A
  dsimp only [Pt.U, Pt.locs, Pt.cells, Pt.slots] at h1 h2 h3 h4 h5 X hn hPc ⊢
  obtain ⟨methY, cY, hmY, hcY, -, hlY, -, -, -, -⟩ := Cond.code_spec hn h2
  obtain ⟨kY, hkY, -⟩ := className_of_methodNamed hn
  have hinitY : kY.init = .initialized := Cond.initialized_spec (findClass_of_methodNamed hn) hkY h3
  have h : At U g.method c below := by rw [hg]; exact X.here
  have hlocals9 : W9 + (maxL + 11) + (headSpec ws rm).room.locals ≤ R.locals := hlocals
  have happ : (headSpec ws rm).appliesLoose y e.platform (U.calling g mk a) = true :=
    Spec.appliesLoose_calling (g := g) h hdg hn hkY hinitY
      (X.room_calling (g := g) (R' := (headSpec ws rm).room) hsize hmY hcY hframes (by rw [hlY]; omega) h4 h5) h1
  obtain ⟨mid, hmid⟩ := h.above
  have hfr : (U.setTop g).frames = (.java g :: mid) ++ below := by rw [State.frames_setTop' g h.top, hmid]; rfl
  obtain ⟨o, s₂, hsteps, -, hend, hq⟩ := Steps.callFree hM p X.admits X.cas X.clock (acts := []) hfr happ hPc trivial
  have hq' : vx_Q Qc XC mc ms free a (U.calling g mk a) o s₂ := hq
  rw [State.frames_setTop' g h.top] at hend
  obtain ⟨g₀, hg0⟩ := Option.isSome_iff_exists.mp h.top
  obtain ⟨r, hr⟩ := State.topJava?_eq_some.mp hg0
  have hr' : (({ U with heap := s₂.heap, slotsUsed := s₂.slotsUsed } : State).setVm s₂.vm).frames = .java g₀ :: r := hr
  rcases hq' with ⟨hqc, L, hfe, hL⟩ | ⟨q, rfl, E, ce, L, hx, hce, hcv, hcl, hW₂, hsm, hL⟩
  · obtain ⟨⟨v, rfl⟩, hW₂, e2, q2, q3, q4, q5, q6⟩ := id hfe
    have e3 : s₂ = ({ (U.calling g mk a).setFrames s₂.frames with heap := s₂.heap, slotsUsed := s₂.slotsUsed } : State).setVm s₂.vm := by
      have : s₂ = ({ s₂ with vm := (U.calling g mk a).vm } : State).setVm s₂.vm := rfl
      rw [e2] at this
      exact this
    obtain ⟨c₂, i₂, len₂, hc₂, hd₂, hf₂⟩ := hend
    have hW' : U.WarmedH s₂.vm := hW₂
    have hcc : c₂ = c := by
      have h1 : s₂.code? g.method = U.code? g.method := by
        rw [State.code?_eq, State.code?_eq, hW'.alike.method?]
      exact Option.some.inj (hc₂.symm.trans (h1.trans h.code))
    subst hcc
    have hlen : len₂ = len := by rw [hdg] at hd₂; cases hd₂; rfl
    subst hlen
    have hs₂ : s₂ = (({ U with heap := s₂.heap, slotsUsed := s₂.slotsUsed } : State).setVm s₂.vm).setTop { g with pc := g.pc + len₂, stack := v.toList ++ g.stack } := by
      refine e3.trans ?_
      rw [hf₂, State.calling_eq h.top, State.setFrames_setFrames, State.setTop_of_frames _ hr', hr]
      rfl
    have hsame : U.sameButNew ({ U with heap := s₂.heap, slotsUsed := s₂.slotsUsed } : State) L mc ms := by
      refine ⟨?_, q2, q3, q4, q5, q6⟩
      obtain ⟨t, ht, -⟩ := State.frames_cons hr
      show ({ U with heap := s₂.heap, slotsUsed := s₂.slotsUsed } : State) = { U.setFrames U.frames with heap := s₂.heap, slotsUsed := s₂.slotsUsed }
      rw [State.setFrames_self ht]
    subst hg
    refine Or.inl ⟨v, ⟨(({ U with heap := s₂.heap, slotsUsed := s₂.slotsUsed } : State).setVm s₂.vm), Ls ++ L, c0 + mc, s0 + ms⟩,
      ⟨X.admits, X.cas, X.clock, X.frames, X.room, X.hears, X.method, X.code, (X.here.setHeapUsed s₂.heap s₂.slotsUsed).setVm hW'.alike, X.tail, State.WarmedH.trans X.warmed hW', X.limits, X.bytes, X.same.trans (hsame.setVm s.vm)⟩,
      ⟨g, mk, s₂, L, rfl, rfl, hqc, rfl, hL, rfl, rfl⟩, ?_⟩
    show Steps p.tables e below _ ((({ U with heap := s₂.heap, slotsUsed := s₂.slotsUsed } : State).setVm s₂.vm).setTop { g with pc := g.pc + len₂, stack := v.toList ++ g.stack })
    rw [← hs₂]
    exact hsteps
  · obtain ⟨e2, q2, q3, q4, q5, q6⟩ := id hsm
    have e3 : s₂ = ({ (U.calling g mk a).setFrames s₂.frames with heap := s₂.heap, slotsUsed := s₂.slotsUsed } : State).setVm s₂.vm := by
      have : s₂ = ({ s₂ with vm := (U.calling g mk a).vm } : State).setVm s₂.vm := rfl
      rw [e2] at this
      exact this
    have hf₂ : s₂.frames = .throwing q :: .java g :: U.frames.tail := hend
    have hW' : U.WarmedH s₂.vm := hW₂
    have hs₂ : s₂ = ((({ U with heap := s₂.heap, slotsUsed := s₂.slotsUsed } : State).setVm s₂.vm).setTop g).pushFrame (.throwing q) := by
      refine e3.trans ?_
      rw [hf₂, State.calling_eq h.top, State.setFrames_setFrames, State.pushFrame, State.frames_setTop _ hr', State.setTop_of_frames _ hr', State.setFrames_setFrames, hr]
      rfl
    have hsame : U.sameButNew ({ U with heap := s₂.heap, slotsUsed := s₂.slotsUsed } : State) L mc ms := by
      refine ⟨?_, q2, q3, q4, q5, q6⟩
      obtain ⟨t, ht, -⟩ := State.frames_cons hr
      show ({ U with heap := s₂.heap, slotsUsed := s₂.slotsUsed } : State) = { U.setFrames U.frames with heap := s₂.heap, slotsUsed := s₂.slotsUsed }
      rw [State.setFrames_self ht]
    subst hg
    refine Or.inr ⟨q, ⟨(({ U with heap := s₂.heap, slotsUsed := s₂.slotsUsed } : State).setVm s₂.vm), Ls ++ L, c0 + mc, s0 + ms⟩,
      ⟨X.admits, X.cas, X.clock, X.frames, X.room, X.hears, X.method, X.code, (X.here.setHeapUsed s₂.heap s₂.slotsUsed).setVm hW'.alike, X.tail, State.WarmedH.trans X.warmed hW', X.limits, X.bytes, X.same.trans (hsame.setVm s.vm)⟩,
      ⟨g, mk, s₂, L, E, ce, rfl, rfl, hx, hce, hcv, hcl, rfl, hL, rfl, rfl⟩, ?_⟩
    show Steps p.tables e below _ (((({ U with heap := s₂.heap, slotsUsed := s₂.slotsUsed } : State).setVm s₂.vm).setTop g).pushFrame (.throwing q))
    rw [← hs₂]
    exact hsteps
end Payer
section Calls
variable {p : Program} {l : Launch} {e : Env} {R : Room} {s : State} {m : MethodId} {args : Array Value} {below : List Frame} {meth : Method} {c : Code} {T : State} {locs : List Loc} {cells slots : Nat}
theorem vx_callV (X : Stand p l e R s m args below meth c T locs cells slots) (hexec : p.tables.exec = Jvm.exec) {own C : String} {index : Nat} {y : MethodName} {bytes : ByteArray} {maxL : Nat} {ret : Option FieldType}
    (hown : s.vm.findClass own = some m.cls) (hlink : (Cond.methodLink own index y).before args s = true) (hinst : (Cond.instanceMethod y).before args s = true) (hsel : (Cond.selects C y y).before args s = true)
    (hcode : (Cond.code y bytes maxL ret).before args s = true) (hy : y.cls ≠ "java/lang/invoke/MethodHandle" ∧ y.cls ≠ "java/lang/invoke/VarHandle")
    {W9 : Nat} {Pre : Pt → Array Value → Prop} {Post : Pt → Array Value → Option Value → Pt → Prop} {PostX : Pt → Array Value → Addr → Pt → Prop} (hK : vx_Back l R p e below s args y 3 W9 Pre Post PostX)
    {b : Addr} {cellB : Cell} (hcell : T.heap[b]? = some cellB) (hobj : cellB.vm.isStatics = false) (hcls : s.vm.findClass C = some cellB.cls)
    {g : JFrame} (hg : g.method = m) (hsize : g.locals.size = c.maxLocals) {argsL rest : List Value} (hlen : ∀ sig, parseMethodDescriptor y.desc = some sig → argsL.length = sig.parameters.length)
    (hstack : g.stack = argsL.reverse ++ .ref b :: rest) (hW : 2 * g.monitorRoom + (rest.map fun v => v.category).sum ≤ W9) (hdg : decode c.code g.pc = .ok (.invokevirtual index, 3))
    (hpre : ∀ vm₁, s.WarmedH vm₁ → Pre ⟨T.setVm vm₁, locs, cells, slots⟩ (Value.ref b :: argsL).toArray) :
    (∃ (v : Option Value) (vm₁ : Vm) (B : Pt), s.WarmedH vm₁ ∧ Stand p l e R s m args below meth c B.U B.locs B.cells B.slots ∧ Post ⟨T.setVm vm₁, locs, cells, slots⟩ (Value.ref b :: argsL).toArray v B ∧
      ∀ target, Steps p.tables e below (B.U.setTop { g with pc := g.pc + 3, stack := v.toList ++ rest }) target → Steps p.tables e below (T.setTop g) target) ∨
    (∃ (q : Addr) (vm₁ : Vm) (B : Pt), s.WarmedH vm₁ ∧ Stand p l e R s m args below meth c B.U B.locs B.cells B.slots ∧ PostX ⟨T.setVm vm₁, locs, cells, slots⟩ (Value.ref b :: argsL).toArray q B ∧
      Steps p.tables e below (T.setTop g) ((B.U.setTop { g with stack := rest }).pushFrame (.throwing q))) := by
  obtain ⟨mk, methM, hnamed, hmethM, hstM, habM⟩ := Cond.instanceMethod_spec hinst
  obtain ⟨methM', cM, hmethM', -, -, -, -, -, -, hsigM⟩ := Cond.code_spec hnamed hcode
  cases hmethM.symm.trans hmethM'
  obtain ⟨c2, r2, m2, q1, q2, q3, q4, kP, hkP, hkPi⟩ := Cond.selects_spec hsel
  cases hcls.symm.trans q1
  cases (State.methodFound?_of_named hnamed hy).symm.trans q2
  cases hnamed.symm.trans q3
  have hselP : selectMethod e.platform s.vm cellB.cls mk = .method mk := by rw [Launch.admits_selectMethod X.admits]; exact q4
  obtain ⟨vm₁, X₁, hstep₁⟩ := X.invokevirtual hexec hown hlink hnamed hmethM hstM hkP hkPi hy (a := b) (cell := cellB) hcell
    (fun z h => by rw [h] at hobj; cases hobj) hselP hmethM habM hkP hkPi (g := g) hg (argsL := argsL) (rest := rest) (hlen _ hsigM) hstack hdg
  rcases hK m meth c ⟨T.setVm vm₁, locs, cells, slots⟩ { g with stack := rest } (.invokevirtual index) mk (Value.ref b :: argsL).toArray X₁ hg hsize hdg hW (X₁.named hnamed) (hpre vm₁ X₁.warmed) with ⟨v, B, X', hpost, hsteps⟩ | ⟨q, B, X', hpost, hsteps⟩
  · exact Or.inl ⟨v, vm₁, B, X₁.warmed, X', hpost, fun target h => hstep₁ _ fun acts => by rw [doInvoke_state]; exact hsteps.trans h⟩
  · exact Or.inr ⟨q, vm₁, B, X₁.warmed, X', hpost, hstep₁ _ fun acts => by rw [doInvoke_state]; exact hsteps⟩
theorem vx_callS (X : Stand p l e R s m args below meth c T locs cells slots) (hexec : p.tables.exec = Jvm.exec) {own : String} {index : Nat} {y : MethodName} {bytes : ByteArray} {maxL : Nat} {ret : Option FieldType}
    (hown : s.vm.findClass own = some m.cls) (hlink : (Cond.methodLink own index y).before args s = true) (hstat : (Cond.static y).before args s = true) (hinit : (Cond.initialized y.cls).before args s = true)
    (hcode : (Cond.code y bytes maxL ret).before args s = true) (hy : y.cls ≠ "java/lang/invoke/MethodHandle" ∧ y.cls ≠ "java/lang/invoke/VarHandle")
    {W9 : Nat} {Pre : Pt → Array Value → Prop} {Post : Pt → Array Value → Option Value → Pt → Prop} {PostX : Pt → Array Value → Addr → Pt → Prop} (hK : vx_Back l R p e below s args y 3 W9 Pre Post PostX)
    {g : JFrame} (hg : g.method = m) (hsize : g.locals.size = c.maxLocals) {argsL rest : List Value} (hlen : ∀ sig, parseMethodDescriptor y.desc = some sig → argsL.length = sig.parameters.length)
    (hstack : g.stack = argsL.reverse ++ rest) (hW : 2 * g.monitorRoom + (rest.map fun v => v.category).sum ≤ W9) (hdg : decode c.code g.pc = .ok (.invokestatic index, 3))
    (hpre : ∀ vm₁, s.WarmedH vm₁ → Pre ⟨T.setVm vm₁, locs, cells, slots⟩ argsL.toArray) :
    (∃ (v : Option Value) (vm₁ : Vm) (B : Pt), s.WarmedH vm₁ ∧ Stand p l e R s m args below meth c B.U B.locs B.cells B.slots ∧ Post ⟨T.setVm vm₁, locs, cells, slots⟩ argsL.toArray v B ∧
      ∀ target, Steps p.tables e below (B.U.setTop { g with pc := g.pc + 3, stack := v.toList ++ rest }) target → Steps p.tables e below (T.setTop g) target) ∨
    (∃ (q : Addr) (vm₁ : Vm) (B : Pt), s.WarmedH vm₁ ∧ Stand p l e R s m args below meth c B.U B.locs B.cells B.slots ∧ PostX ⟨T.setVm vm₁, locs, cells, slots⟩ argsL.toArray q B ∧
      Steps p.tables e below (T.setTop g) ((B.U.setTop { g with stack := rest }).pushFrame (.throwing q))) := by
  obtain ⟨mk, hnamed⟩ := Cond.code_named hcode
  obtain ⟨methM, cM, hmethM, -, -, -, -, -, -, hsigM⟩ := Cond.code_spec hnamed hcode
  have hstatic : methM.isStatic = true := Cond.static_spec hnamed hmethM hstat
  obtain ⟨kP, hkP, -⟩ := className_of_methodNamed hnamed
  have hinitP : kP.init = .initialized := Cond.initialized_spec (findClass_of_methodNamed hnamed) hkP hinit
  obtain ⟨vm₁, X₁, hstep₁⟩ := X.invokestatic hexec hown hlink hnamed hmethM hstatic hkP hinitP hy (g := g) hg (argsL := argsL) (rest := rest) (hlen _ hsigM) hstack hdg
  rcases hK m meth c ⟨T.setVm vm₁, locs, cells, slots⟩ { g with stack := rest } (.invokestatic index) mk argsL.toArray X₁ hg hsize hdg hW (X₁.named hnamed) (hpre vm₁ X₁.warmed) with ⟨v, B, X', hpost, hsteps⟩ | ⟨q, B, X', hpost, hsteps⟩
  · exact Or.inl ⟨v, vm₁, B, X₁.warmed, X', hpost, fun target h => hstep₁ _ fun acts => by rw [doInvoke_state]; exact hsteps.trans h⟩
  · exact Or.inr ⟨q, vm₁, B, X₁.warmed, X', hpost, hstep₁ _ fun acts => by rw [doInvoke_state]; exact hsteps⟩
end Calls
theorem vx_cls {s : State} {T : State} {vm₁ : Vm} {E : String} {k : ClassId} (hW : s.WarmedH vm₁) (h : (T.setVm vm₁).vm.findClass E = some k) : s.vm.findClass E = some k := by
  have h1 : vm₁.findClass E = some k := h
  rw [hW.alike.findClass] at h1
  exact h1
/-- the method's frame g, with q thrown over it -/
def vx_W (p : Program) (l : Launch) (e : Env) (R : Room) (s : State) (m : MethodId) (args : Array Value) (below : List Frame) (meth : Method) (c : Code) (H : Heap) (locs : List Loc) (cells slots : Nat) (Q : State → Prop) (g : JFrame) (q : Addr) : Prop :=
  ∀ T : State, T.heap = H → Stand p l e R s m args below meth c T locs cells slots → ∃ t, Steps p.tables e below ((T.setTop g).pushFrame (.throwing q)) t ∧ Q t
def vx_Run (p : Program) (l : Launch) (e : Env) (R : Room) (s : State) (m : MethodId) (args : Array Value) (below : List Frame) (meth : Method) (c : Code) (H : Heap) (locs : List Loc) (cells slots mc ms : Nat) (g : JFrame) (rest : List Value) (Qa : State → Outcome → State → Prop) (XC : String → State → State → Prop) (free : Addr → Prop) : Prop :=
  ∀ T : State, T.heap = H → Stand p l e R s m args below meth c T locs cells slots →
    (∃ (v : Option Value) (st₀ t T' : State) (L : List Loc), st₀.heap = H ∧ Stand p l e R s m args below meth c T' (locs ++ L) (cells + mc) (slots + ms) ∧ (∀ q ∈ L, free q.base) ∧ T'.heap = t.heap ∧ T'.vm = t.vm ∧ Qa st₀ (.returned v) t ∧
      Goes p e below T g T' { g with pc := g.pc + 3, stack := v.toList ++ rest }) ∨
    (∃ (q : Addr) (st₀ t T' : State) (L : List Loc) (E : String) (ce : Cell), st₀.heap = H ∧ Stand p l e R s m args below meth c T' (locs ++ L) (cells + mc) (slots + ms) ∧ (∀ z ∈ L, free z.base) ∧ T'.heap = t.heap ∧ T'.vm = t.vm ∧ XC E st₀ t ∧ t.heap[q]? = some ce ∧ ce.vm = .none ∧ s.vm.findClass E = some ce.cls ∧
      Steps p.tables e below (T.setTop g) ((T'.setTop { g with stack := rest }).pushFrame (.throwing q)))
def vx_X {S : Type} (px : S → Prop) (B : String → S → State → Prop) (A : Nat → Prop) : String → State → State → Prop := fun E st t => ∃ u : S, px u ∧ B E u t ∧ va_F A st t
section Runs
variable {p : Program} {l : Launch} {e : Env} {R : Room} {s : State} {m : MethodId} {args : Array Value} {below : List Frame} {meth : Method} {c : Code} {H : Heap} {locs : List Loc} {cells slots : Nat}
variable {y : MethodName} {bytes cc : ByteArray} {maxL nL mc ms n index : Nat} {ret : Option FieldType} {ws : List Cond} {rm : Room} {Pc : Array Value → State → Prop} {Qc : Array Value → State → Outcome → State → Prop} {XC : String → State → State → Prop} {free : Addr → Prop} {Ts : List Cond} {own C : String} {b : Addr} {As rest : List Value} {g : JFrame}
theorem vx_callBack (cb : CallB R s args own index y bytes maxL ret ws rm mc ms n) (hM : vx_Met l y ws rm Pc Qc XC mc ms free) (hbl : FrameBlind Pc) : vx_Back l R p e below s args y 3 8 (PreOf R mc ms Pc) (PostOf Qc mc ms free) (vx_Post XC mc ms free) := by
  obtain ⟨hrc, hrs, hfr, hlo, hws, hcw, -, hini, -⟩ := cb
  exact vx_back (bytes := bytes) (maxL := maxL) (ret := ret) hM hbl hrc hrs hfr hlo hws hcw (fun a' U hW => word_at hW (Or.inl (by first | rfl | simp [Cond.onTables, Cond.keeps, Cond.steady])) hini)
theorem vx_runV (S : CallFix p m c cc nL s args Ts own) (hM : vx_Met l y ws rm Pc Qc XC mc ms free) (cw : CallW R s args own C index y bytes maxL ret ws rm mc ms n) (hp : PreV s H C b Pc As)
    (hg : g.method = m) (hn : As.length = n) (hsize : g.locals.size = nL) (hstack : g.stack = As.reverse ++ .ref b :: rest) (hW : 2 * g.monitorRoom + (rest.map fun v => v.category).sum ≤ 8) (hdg : decode cc g.pc = .ok (.invokevirtual index, 3)) (hf : cells + mc ≤ R.cells ∧ slots + ms ≤ R.slots) :
    vx_Run p l e R s m args below meth c H locs cells slots mc ms g rest (Qc (Value.ref b :: As).toArray) XC free := by
  have hK : vx_Back l R p e below s args y 3 8 (PreOf R mc ms Pc) (PostOf Qc mc ms free) (vx_Post XC mc ms free) := vx_callBack cw.1 hM hp.1
  obtain ⟨⟨-, -, -, -, -, -, hcode, -, hy, hlen, hl⟩, hin, hse⟩ := cw
  obtain ⟨hx, hb, hml, ho, -⟩ := S
  obtain ⟨-, ⟨cellB, hcB, hoB, hclB⟩, hPc⟩ := hp
  intro T hT X
  rcases vx_callV X hx (C := C) (bytes := bytes) (maxL := maxL) (ret := ret) ho hl hin hse hcode hy hK (by rw [hT]; exact hcB) hoB hclB hg (hsize.trans hml.symm) (argsL := As) (rest := rest) (fun sig h => hn.trans (hlen sig h)) hstack hW (by rw [hb]; exact hdg)
    (fun vm₁ hW₁ => ⟨hf.1, hf.2, hPc (T.setVm vm₁) hT hW₁⟩) with ⟨v, vm₁, ⟨U', l2, c2, s2⟩, hW₁, X', ⟨g', mk, t, L, e1, e2, hq, h1, hL, h2, h3⟩, st⟩ | ⟨q, vm₁, ⟨U', l2, c2, s2⟩, hW₁, X', ⟨g', mk, t, L, E, ce, e1, e2, hq, hce, hcv, hcl, h1, hL, h2, h3⟩, st⟩
  · dsimp only [Pt.U, Pt.locs, Pt.cells, Pt.slots] at X' e1 e2 h1 h2 h3 st
    subst h1; subst h2; subst h3
    exact Or.inl ⟨v, (T.setVm vm₁).calling g' mk (Value.ref b :: As).toArray, t, U', L, hT, X', hL, e1, e2, hq, st⟩
  · dsimp only [Pt.U, Pt.locs, Pt.cells, Pt.slots] at X' e1 e2 h1 h2 h3 st hcl
    subst h1; subst h2; subst h3
    exact Or.inr ⟨q, (T.setVm vm₁).calling g' mk (Value.ref b :: As).toArray, t, U', L, E, ce, hT, X', hL, e1, e2, hq, hce, hcv, vx_cls hW₁ hcl, st⟩
theorem vx_runS (S : CallFix p m c cc nL s args Ts own) (hM : vx_Met l y ws rm Pc Qc XC mc ms free) (cw : CallB R s args own index y bytes maxL ret ws rm mc ms n ∧ (Cond.static y).before args s = true) (hp : PreS s H Pc As)
    (hg : g.method = m) (hn : As.length = n) (hsize : g.locals.size = nL) (hstack : g.stack = As.reverse ++ rest) (hW : 2 * g.monitorRoom + (rest.map fun v => v.category).sum ≤ 8) (hdg : decode cc g.pc = .ok (.invokestatic index, 3)) (hf : cells + mc ≤ R.cells ∧ slots + ms ≤ R.slots) :
    vx_Run p l e R s m args below meth c H locs cells slots mc ms g rest (Qc As.toArray) XC free := by
  have hK : vx_Back l R p e below s args y 3 8 (PreOf R mc ms Pc) (PostOf Qc mc ms free) (vx_Post XC mc ms free) := vx_callBack cw.1 hM hp.1
  obtain ⟨⟨-, -, -, -, -, -, hcode, hini, hy, hlen, hl⟩, hstt⟩ := cw
  obtain ⟨hx, hb, hml, ho, -⟩ := S
  intro T hT X
  rcases vx_callS X hx (bytes := bytes) (maxL := maxL) (ret := ret) ho hl hstt hini hcode hy hK hg (hsize.trans hml.symm) (argsL := As) (rest := rest) (fun sig h => hn.trans (hlen sig h)) hstack hW (by rw [hb]; exact hdg)
    (fun vm₁ hW₁ => ⟨hf.1, hf.2, hp.2 (T.setVm vm₁) hT hW₁⟩) with ⟨v, vm₁, ⟨U', l2, c2, s2⟩, hW₁, X', ⟨g', mk, t, L, e1, e2, hq, h1, hL, h2, h3⟩, st⟩ | ⟨q, vm₁, ⟨U', l2, c2, s2⟩, hW₁, X', ⟨g', mk, t, L, E, ce, e1, e2, hq, hce, hcv, hcl, h1, hL, h2, h3⟩, st⟩
  · dsimp only [Pt.U, Pt.locs, Pt.cells, Pt.slots] at X' e1 e2 h1 h2 h3 st
    subst h1; subst h2; subst h3
    exact Or.inl ⟨v, (T.setVm vm₁).calling g' mk As.toArray, t, U', L, hT, X', hL, e1, e2, hq, st⟩
  · dsimp only [Pt.U, Pt.locs, Pt.cells, Pt.slots] at X' e1 e2 h1 h2 h3 st hcl
    subst h1; subst h2; subst h3
    exact Or.inr ⟨q, (T.setVm vm₁).calling g' mk As.toArray, t, U', L, E, ce, hT, X', hL, e1, e2, hq, hce, hcv, vx_cls hW₁ hcl, st⟩
end Runs
section Rows
variable {p : Program} {l : Launch} {e : Env} {R : Room} {s : State} {m : MethodId} {args : Array Value} {below : List Frame} {meth : Method} {c : Code} {H : Heap} {locs : List Loc} {cells slots : Nat} {Q : State → Prop}
variable {mc ms : Nat} {free : Addr → Prop} {A0 A1 : Nat → Prop} {H0 : Heap} {a : Array Value} {pc : Nat} {ls : Array Slot} {st0 rest : List Value}
theorem vx_keep {st₀ t T' : State} {L : List Loc} (h0 : st₀.heap = H) (e1 : T'.heap = t.heap) (hS : va_S A0 H0 H locs) (hA : ∀ q, q < H.size → A1 q → A0 q) (hf : ∀ q, free q → A0 q) (hL : ∀ q ∈ L, free q.base) (hF : va_F A1 st₀ t) :
    H.size ≤ T'.heap.size ∧ (∀ q : Nat, q < H.size → ¬ A1 q → T'.heap[q]? = H[q]?) ∧ va_S A0 H0 T'.heap (locs ++ L) := by
  obtain ⟨hz, hk⟩ := hF
  rw [h0] at hz hk
  exact ⟨by rw [e1]; exact hz, fun q h1 h2 => by rw [e1]; exact hk q h1 h2,
    ⟨Nat.le_trans hS.1 (by rw [e1]; exact hz), fun q h1 h2 => by rw [e1, hk q (Nat.lt_of_lt_of_le h1 hS.1) (fun z => h2 (hA q (Nat.lt_of_lt_of_le h1 hS.1) z))]; exact hS.2.1 q h1 h2, fun q hq => by
      rcases List.mem_append.mp hq with h | h
      · exact hS.2.2 q h
      · exact hf _ (hL q h)⟩⟩
theorem vx_calli {S SX : Type} {post : Int32 → S → Prop} {px : SX → Prop} {B : S → State → Prop} {BX : String → SX → State → Prop} {AX : Nat → Prop} (hr : vx_Run p l e R s m args below meth c H locs cells slots mc ms (F0 m pc ls st0) rest (va_Qi post B A1 a) (vx_X px BX AX) free) (hS : va_S A0 H0 H locs) (hA : ∀ q, q < H.size → A1 q → A0 q) (hf : ∀ q, free q → A0 q) (hAX : ∀ q, q < H.size → AX q → A0 q)
    (kx : ∀ (E : String) (ce : Cell) (q9 : Addr) (u : SX) (t : State) (H1 : Heap) (locs1 : List Loc), t.heap = H1 → s.vm.Alike t.vm → px u → BX E u t → H.size ≤ H1.size → (∀ q : Nat, q < H.size → ¬ AX q → H1[q]? = H[q]?) → va_S A0 H0 H1 locs1 → H1[q9]? = some ce → ce.vm = .none → s.vm.findClass E = some ce.cls → vx_W p l e R s m args below meth c H1 locs1 (cells + mc) (slots + ms) Q (F0 m pc ls rest) q9)
    (kk : ∀ (r : Int32) (u : S) (t : State) (H1 : Heap) (locs1 : List Loc), t.heap = H1 → s.vm.Alike t.vm → post r u → B u t → H.size ≤ H1.size → (∀ q : Nat, q < H.size → ¬ A1 q → H1[q]? = H[q]?) → va_S A0 H0 H1 locs1 → W p l e R s m args below meth c H1 locs1 (cells + mc) (slots + ms) Q (F0 m (pc + 3) ls (.int r :: rest))) : W p l e R s m args below meth c H locs cells slots Q (F0 m pc ls st0) := by
  intro T hT X
  rcases hr T hT X with ⟨v, st₀, t, T', L, h0, X', hL, e1, e2, ⟨⟨r, u, hv, hp, hb⟩, hF⟩, st⟩ | ⟨q, st₀, t, T', L, E, ce, h0, X', hL, e1, e2, ⟨u, hp, hb, hF⟩, hce, hcv, hcl, st⟩
  · cases hv
    obtain ⟨k1, k2, k3⟩ := vx_keep h0 e1 hS hA hf hL hF
    obtain ⟨t2, a1, b1⟩ := kk r u t T'.heap (locs ++ L) e1.symm (by rw [← e2]; exact X'.warmed.alike) hp hb k1 k2 k3 T' rfl X'
    exact ⟨t2, st t2 a1, b1⟩
  · obtain ⟨k1, k2, k3⟩ := vx_keep h0 e1 hS hAX hf hL hF
    obtain ⟨t2, a1, b1⟩ := kx E ce q u t T'.heap (locs ++ L) e1.symm (by rw [← e2]; exact X'.warmed.alike) hp hb k1 k2 k3 (by rw [e1]; exact hce) hcv hcl T' rfl X'
    exact ⟨t2, st.trans a1, b1⟩
theorem vx_calll {S SX : Type} {post : Int64 → S → Prop} {px : SX → Prop} {B : S → State → Prop} {BX : String → SX → State → Prop} {AX : Nat → Prop} (hr : vx_Run p l e R s m args below meth c H locs cells slots mc ms (F0 m pc ls st0) rest (va_Ql post B A1 a) (vx_X px BX AX) free) (hS : va_S A0 H0 H locs) (hA : ∀ q, q < H.size → A1 q → A0 q) (hf : ∀ q, free q → A0 q) (hAX : ∀ q, q < H.size → AX q → A0 q)
    (kx : ∀ (E : String) (ce : Cell) (q9 : Addr) (u : SX) (t : State) (H1 : Heap) (locs1 : List Loc), t.heap = H1 → s.vm.Alike t.vm → px u → BX E u t → H.size ≤ H1.size → (∀ q : Nat, q < H.size → ¬ AX q → H1[q]? = H[q]?) → va_S A0 H0 H1 locs1 → H1[q9]? = some ce → ce.vm = .none → s.vm.findClass E = some ce.cls → vx_W p l e R s m args below meth c H1 locs1 (cells + mc) (slots + ms) Q (F0 m pc ls rest) q9)
    (kk : ∀ (r : Int64) (u : S) (t : State) (H1 : Heap) (locs1 : List Loc), t.heap = H1 → s.vm.Alike t.vm → post r u → B u t → H.size ≤ H1.size → (∀ q : Nat, q < H.size → ¬ A1 q → H1[q]? = H[q]?) → va_S A0 H0 H1 locs1 → W p l e R s m args below meth c H1 locs1 (cells + mc) (slots + ms) Q (F0 m (pc + 3) ls (.long r :: rest))) : W p l e R s m args below meth c H locs cells slots Q (F0 m pc ls st0) := by
  intro T hT X
  rcases hr T hT X with ⟨v, st₀, t, T', L, h0, X', hL, e1, e2, ⟨⟨r, u, hv, hp, hb⟩, hF⟩, st⟩ | ⟨q, st₀, t, T', L, E, ce, h0, X', hL, e1, e2, ⟨u, hp, hb, hF⟩, hce, hcv, hcl, st⟩
  · cases hv
    obtain ⟨k1, k2, k3⟩ := vx_keep h0 e1 hS hA hf hL hF
    obtain ⟨t2, a1, b1⟩ := kk r u t T'.heap (locs ++ L) e1.symm (by rw [← e2]; exact X'.warmed.alike) hp hb k1 k2 k3 T' rfl X'
    exact ⟨t2, st t2 a1, b1⟩
  · obtain ⟨k1, k2, k3⟩ := vx_keep h0 e1 hS hAX hf hL hF
    obtain ⟨t2, a1, b1⟩ := kx E ce q u t T'.heap (locs ++ L) e1.symm (by rw [← e2]; exact X'.warmed.alike) hp hb k1 k2 k3 (by rw [e1]; exact hce) hcv hcl T' rfl X'
    exact ⟨t2, st.trans a1, b1⟩
theorem vx_callf {S SX : Type} {post : UInt32 → S → Prop} {px : SX → Prop} {B : S → State → Prop} {BX : String → SX → State → Prop} {AX : Nat → Prop} (hr : vx_Run p l e R s m args below meth c H locs cells slots mc ms (F0 m pc ls st0) rest (va_Qf post B A1 a) (vx_X px BX AX) free) (hS : va_S A0 H0 H locs) (hA : ∀ q, q < H.size → A1 q → A0 q) (hf : ∀ q, free q → A0 q) (hAX : ∀ q, q < H.size → AX q → A0 q)
    (kx : ∀ (E : String) (ce : Cell) (q9 : Addr) (u : SX) (t : State) (H1 : Heap) (locs1 : List Loc), t.heap = H1 → s.vm.Alike t.vm → px u → BX E u t → H.size ≤ H1.size → (∀ q : Nat, q < H.size → ¬ AX q → H1[q]? = H[q]?) → va_S A0 H0 H1 locs1 → H1[q9]? = some ce → ce.vm = .none → s.vm.findClass E = some ce.cls → vx_W p l e R s m args below meth c H1 locs1 (cells + mc) (slots + ms) Q (F0 m pc ls rest) q9)
    (kk : ∀ (r : UInt32) (u : S) (t : State) (H1 : Heap) (locs1 : List Loc), t.heap = H1 → s.vm.Alike t.vm → post r u → B u t → H.size ≤ H1.size → (∀ q : Nat, q < H.size → ¬ A1 q → H1[q]? = H[q]?) → va_S A0 H0 H1 locs1 → W p l e R s m args below meth c H1 locs1 (cells + mc) (slots + ms) Q (F0 m (pc + 3) ls (.float r :: rest))) : W p l e R s m args below meth c H locs cells slots Q (F0 m pc ls st0) := by
  intro T hT X
  rcases hr T hT X with ⟨v, st₀, t, T', L, h0, X', hL, e1, e2, ⟨⟨r, u, hv, hp, hb⟩, hF⟩, st⟩ | ⟨q, st₀, t, T', L, E, ce, h0, X', hL, e1, e2, ⟨u, hp, hb, hF⟩, hce, hcv, hcl, st⟩
  · cases hv
    obtain ⟨k1, k2, k3⟩ := vx_keep h0 e1 hS hA hf hL hF
    obtain ⟨t2, a1, b1⟩ := kk r u t T'.heap (locs ++ L) e1.symm (by rw [← e2]; exact X'.warmed.alike) hp hb k1 k2 k3 T' rfl X'
    exact ⟨t2, st t2 a1, b1⟩
  · obtain ⟨k1, k2, k3⟩ := vx_keep h0 e1 hS hAX hf hL hF
    obtain ⟨t2, a1, b1⟩ := kx E ce q u t T'.heap (locs ++ L) e1.symm (by rw [← e2]; exact X'.warmed.alike) hp hb k1 k2 k3 (by rw [e1]; exact hce) hcv hcl T' rfl X'
    exact ⟨t2, st.trans a1, b1⟩
theorem vx_calld {S SX : Type} {post : UInt64 → S → Prop} {px : SX → Prop} {B : S → State → Prop} {BX : String → SX → State → Prop} {AX : Nat → Prop} (hr : vx_Run p l e R s m args below meth c H locs cells slots mc ms (F0 m pc ls st0) rest (va_Qd post B A1 a) (vx_X px BX AX) free) (hS : va_S A0 H0 H locs) (hA : ∀ q, q < H.size → A1 q → A0 q) (hf : ∀ q, free q → A0 q) (hAX : ∀ q, q < H.size → AX q → A0 q)
    (kx : ∀ (E : String) (ce : Cell) (q9 : Addr) (u : SX) (t : State) (H1 : Heap) (locs1 : List Loc), t.heap = H1 → s.vm.Alike t.vm → px u → BX E u t → H.size ≤ H1.size → (∀ q : Nat, q < H.size → ¬ AX q → H1[q]? = H[q]?) → va_S A0 H0 H1 locs1 → H1[q9]? = some ce → ce.vm = .none → s.vm.findClass E = some ce.cls → vx_W p l e R s m args below meth c H1 locs1 (cells + mc) (slots + ms) Q (F0 m pc ls rest) q9)
    (kk : ∀ (r : UInt64) (u : S) (t : State) (H1 : Heap) (locs1 : List Loc), t.heap = H1 → s.vm.Alike t.vm → post r u → B u t → H.size ≤ H1.size → (∀ q : Nat, q < H.size → ¬ A1 q → H1[q]? = H[q]?) → va_S A0 H0 H1 locs1 → W p l e R s m args below meth c H1 locs1 (cells + mc) (slots + ms) Q (F0 m (pc + 3) ls (.double r :: rest))) : W p l e R s m args below meth c H locs cells slots Q (F0 m pc ls st0) := by
  intro T hT X
  rcases hr T hT X with ⟨v, st₀, t, T', L, h0, X', hL, e1, e2, ⟨⟨r, u, hv, hp, hb⟩, hF⟩, st⟩ | ⟨q, st₀, t, T', L, E, ce, h0, X', hL, e1, e2, ⟨u, hp, hb, hF⟩, hce, hcv, hcl, st⟩
  · cases hv
    obtain ⟨k1, k2, k3⟩ := vx_keep h0 e1 hS hA hf hL hF
    obtain ⟨t2, a1, b1⟩ := kk r u t T'.heap (locs ++ L) e1.symm (by rw [← e2]; exact X'.warmed.alike) hp hb k1 k2 k3 T' rfl X'
    exact ⟨t2, st t2 a1, b1⟩
  · obtain ⟨k1, k2, k3⟩ := vx_keep h0 e1 hS hAX hf hL hF
    obtain ⟨t2, a1, b1⟩ := kx E ce q u t T'.heap (locs ++ L) e1.symm (by rw [← e2]; exact X'.warmed.alike) hp hb k1 k2 k3 (by rw [e1]; exact hce) hcv hcl T' rfl X'
    exact ⟨t2, st.trans a1, b1⟩
theorem vx_callv {S SX : Type} {post : S → Prop} {px : SX → Prop} {B : S → State → Prop} {BX : String → SX → State → Prop} {AX : Nat → Prop} (hr : vx_Run p l e R s m args below meth c H locs cells slots mc ms (F0 m pc ls st0) rest (va_Qv post B A1 a) (vx_X px BX AX) free) (hS : va_S A0 H0 H locs) (hA : ∀ q, q < H.size → A1 q → A0 q) (hf : ∀ q, free q → A0 q) (hAX : ∀ q, q < H.size → AX q → A0 q)
    (kx : ∀ (E : String) (ce : Cell) (q9 : Addr) (u : SX) (t : State) (H1 : Heap) (locs1 : List Loc), t.heap = H1 → s.vm.Alike t.vm → px u → BX E u t → H.size ≤ H1.size → (∀ q : Nat, q < H.size → ¬ AX q → H1[q]? = H[q]?) → va_S A0 H0 H1 locs1 → H1[q9]? = some ce → ce.vm = .none → s.vm.findClass E = some ce.cls → vx_W p l e R s m args below meth c H1 locs1 (cells + mc) (slots + ms) Q (F0 m pc ls rest) q9)
    (kk : ∀ (u : S) (t : State) (H1 : Heap) (locs1 : List Loc), t.heap = H1 → s.vm.Alike t.vm → post u → B u t → H.size ≤ H1.size → (∀ q : Nat, q < H.size → ¬ A1 q → H1[q]? = H[q]?) → va_S A0 H0 H1 locs1 → W p l e R s m args below meth c H1 locs1 (cells + mc) (slots + ms) Q (F0 m (pc + 3) ls (rest))) : W p l e R s m args below meth c H locs cells slots Q (F0 m pc ls st0) := by
  intro T hT X
  rcases hr T hT X with ⟨v, st₀, t, T', L, h0, X', hL, e1, e2, ⟨⟨u, hv, hp, hb⟩, hF⟩, st⟩ | ⟨q, st₀, t, T', L, E, ce, h0, X', hL, e1, e2, ⟨u, hp, hb, hF⟩, hce, hcv, hcl, st⟩
  · cases hv
    obtain ⟨k1, k2, k3⟩ := vx_keep h0 e1 hS hA hf hL hF
    obtain ⟨t2, a1, b1⟩ := kk u t T'.heap (locs ++ L) e1.symm (by rw [← e2]; exact X'.warmed.alike) hp hb k1 k2 k3 T' rfl X'
    exact ⟨t2, st t2 a1, b1⟩
  · obtain ⟨k1, k2, k3⟩ := vx_keep h0 e1 hS hAX hf hL hF
    obtain ⟨t2, a1, b1⟩ := kx E ce q u t T'.heap (locs ++ L) e1.symm (by rw [← e2]; exact X'.warmed.alike) hp hb k1 k2 k3 (by rw [e1]; exact hce) hcv hcl T' rfl X'
    exact ⟨t2, st.trans a1, b1⟩
/-- caught by the row x of this method's table; the rows ahead don't take it -/
theorem vx_catch {own name : String} {E : String} {ce : Cell} {q : Addr} (hown : s.vm.findClass own = some m.cls) (pre : List ExceptionTableEntry) (x : ExceptionTableEntry) (suf : List ExceptionTableEntry) (hsplit : c.exceptionTable.toList = pre ++ x :: suf)
    (hpass : ∀ z ∈ pre, covers z pc = false ∨ (z.catchType ≠ 0 ∧ ∃ nm : String, (Cond.classLink own z.catchType nm).before args s = true ∧ va_Nc E nm s)) (hx : covers x pc = true) (h0 : x.catchType ≠ 0)
    (hlink : (Cond.classLink own x.catchType name).before args s = true) (hcast : (Cond.castable E name).before args s = true) (hcell : H[q]? = some ce) (hv : ce.vm = .none) (hcl : s.vm.findClass E = some ce.cls)
    (kk : W p l e R s m args below meth c H locs cells slots Q (F0 m x.handlerPc ls [.ref q])) : vx_W p l e R s m args below meth c H locs cells slots Q (F0 m pc ls rest) q := by
  intro T hT X
  have hpl : e.platform.magicAccessors = ({} : Platform).magicAccessors := by rw [X.admits.platform]
  obtain ⟨c3, c4, hc3, hc4, hasg⟩ := Cond.castable_spec hcast
  cases Option.some.inj (hc3.symm.trans hcl)
  obtain ⟨c5, hc5, hcl5⟩ := Cond.classLink_spec hown hlink e.platform hpl
  cases Option.some.inj (hc4.symm.trans hc5)
  obtain ⟨vm', X', st⟩ := X.thenCaughtThrough q (g := F0 m pc ls rest) rfl (Steps.refl _) (by rw [hT]; exact hcell) (by rw [hv]; rfl) (by obtain ⟨k9, h9, -⟩ := Vm.findClass_spec hcl; exact ⟨k9, h9⟩) pre x suf hsplit
    (fun z hz => by
      rcases hpass z hz with h | ⟨hz0, nm, hl1, hn1⟩
      · exact Or.inl h
      · obtain ⟨c6, hc6, hcl6⟩ := Cond.classLink_spec hown hl1 e.platform hpl
        obtain ⟨a8, b8, h1, h2, h3⟩ := hn1
        cases Option.some.inj (h1.symm.trans hcl)
        cases Option.some.inj (h2.symm.trans hc6)
        exact Or.inr ⟨hz0, _, hcl6, h3⟩) hx (Or.inr ⟨h0, c4, hcl5, hasg⟩)
  obtain ⟨t, a1, b1⟩ := kk (T.setVm vm') hT X'
  exact ⟨t, st.trans a1, b1⟩
end Rows
section Ends
variable {p : Program} {l : Launch} {e : Env} {R : Room} {s : State} {m : MethodId} {args : Array Value} {below : List Frame} {meth : Method} {c : Code} {H : Heap} {locs : List Loc} {cells slots : Nat} {Q : State → Prop}
variable {mc ms : Nat} {free : Addr → Prop} {A0 A1 : Nat → Prop} {H0 : Heap} {a : Array Value} {ls : Array Slot} {st0 rest : List Value}
variable {Qc : Array Value → State → Outcome → State → Prop} {XC : String → State → State → Prop}
/-- what a body that may throw owes at its end -/
def vx_MQ (below : List Frame) (Qc : Array Value → State → Outcome → State → Prop) (XC : String → State → State → Prop) (a : Array Value) (s : State) (mc ms : Nat) (free : Addr → Prop) : State → Prop := fun t =>
  ∃ o, t.status = .running ∧ Ended t below o ∧ vx_Q Qc XC mc ms free a s o t
theorem vx_ret {g : JFrame} {mc ms : Nat} (k : W p l e R s m args below meth c H locs cells slots (MQ below Qc args s mc ms free) g) : W p l e R s m args below meth c H locs cells slots (vx_MQ below Qc XC args s mc ms free) g := by
  intro T hT X
  obtain ⟨t, a1, o, b1, b2, b3, b4⟩ := k T hT X
  exact ⟨t, a1, o, b1, b2, Or.inl ⟨b3, b4⟩⟩
/-- not caught here: it goes on to the caller -/
theorem vx_widen {g : JFrame} {q : Addr} {k n : Nat} (h1 : cells ≤ k) (h2 : slots ≤ n) (kk : vx_W p l e R s m args below meth c H locs k n Q g q) : vx_W p l e R s m args below meth c H locs cells slots Q g q := fun T hT X => kk T hT (stand_widen X h1 h2)
theorem vx_out {pc : Nat} {E : String} {ce : Cell} {q : Addr} {mc ms : Nat} (hout : ∀ x ∈ c.exceptionTable.toList, covers x pc = false) (hlocks : meth.locks = false) (hcell : H[q]? = some ce) (hv : ce.vm = .none) (hcl : s.vm.findClass E = some ce.cls)
    (hx : ∀ t : State, t.heap = H → s.vm.Alike t.vm → XC E s t) (hf : ∀ z ∈ locs, free z.base) (hc : cells ≤ mc) (hs : slots ≤ ms) :
    vx_W p l e R s m args below meth c H locs cells slots (vx_MQ below Qc XC args s mc ms free) (F0 m pc ls rest) q := by
  intro T hT X
  obtain ⟨st1, hrun, hend, hW, hsm⟩ := X.leaveThrown q (g := F0 m pc ls rest) rfl rfl rfl hout hlocks
  have hcell9 : (T.setFrames (.throwing q :: below)).heap[q]? = some ce := by
    show T.heap[q]? = some ce
    rw [hT]; exact hcell
  exact ⟨_, st1, .threw q, hrun, hend, Or.inr ⟨q, rfl, E, ce, locs, hx _ hT hW.alike, hcell9, hv, hcl, hW, hsm.mono hc hs, hf⟩⟩
theorem vx_frame {U : State} {k n : Nat} (h : s.sameButNew ({ U with vm := s.vm } : State) locs k n) : s.heap.size ≤ U.heap.size ∧ ∀ q : Nat, q < s.heap.size → (∀ z ∈ locs, z.base ≠ q) → U.heap[q]? = s.heap[q]? := by
  obtain ⟨-, h2, -, -, -, h6⟩ := h
  refine ⟨h2, fun q hq hz => ?_⟩
  obtain ⟨c9, e1, e2, e3, e4⟩ := h6 q _ (Array.getElem?_eq_getElem hq)
  have hs : c9.slots = (s.heap[q]).slots := Array.ext_getElem? fun i => e4 i fun hm => hz _ hm rfl
  have h9 : c9 = s.heap[q] := by
    rw [hs] at e2
    exact e2
  have e5 : U.heap[q]? = some c9 := e1
  rw [e5, h9, Array.getElem?_eq_getElem hq]
/-- the words of a throw but the four that speak of the heap -/
def vx_no (w : Cond) : Bool := decide (w ≠ .isRef (.static Bundle.tN "UNASSIGNED_STACK" Bundle.steD)) && decide (w ≠ .isRef (.static Bundle.tN "SUPPRESSED_SENTINEL" Bundle.listD)) && decide (w ≠ .laysStatic Bundle.tN "UNASSIGNED_STACK" Bundle.steD) && decide (w ≠ .laysStatic Bundle.tN "SUPPRESSED_SENTINEL" Bundle.listD)
def vx_at0 (own : String) (ic : Nat) (X : String) (names : List String) : List Cond := (Bundle.ownAtoms0 own ic X names).filter vx_no
def vx_atS (own : String) (ic : Nat) (X : String) (names : List String) : List Cond := (Bundle.ownAtoms own ic X names).filter vx_no
/-- a word that the tables alone decide, or a good one -/
def vx_ot (w : Cond) : Bool := w.onTables || goodWord w
theorem vx_ot_at {args a' : Array Value} {s U : State} {w : Cond} (hW : s.WarmedH U.vm) (hvm : s.vm = U.vm) (hg : vx_ot w = true) (h : w.before args s = true) : w.before a' U = true := by
  simp only [vx_ot, Bool.or_eq_true] at hg
  rcases hg with hg | hg
  · exact va_tabs hg hvm h
  · exact word_at hW (good_of_word hg) h
/-- a list's words: the good ones out of the method's own list, the others by premises of their own -/
theorem vx_hat {args : Array Value} {s : State} {L B : List Cond} (h1 : ∀ w ∈ L.filter goodWord, w.before args s = true) (h2 : ∀ w ∈ L.filter (fun w => !goodWord w), w ∈ B) (h3 : ∀ w ∈ B, w.before args s = true) : ∀ w ∈ L, w.before args s = true := by
  intro w hw
  by_cases g : goodWord w = true
  · exact h1 w (List.mem_filter.mpr ⟨hw, g⟩)
  · refine h3 w (h2 w (List.mem_filter.mpr ⟨hw, ?_⟩))
    show (!goodWord w) = true
    cases hgw : goodWord w
    · rfl
    · exact absurd hgw g
theorem vx_c {args : Array Value} {s : State} {w : Cond} {B : List Cond} (h : w.before args s = true) (t : ∀ w ∈ B, w.before args s = true) : ∀ w' ∈ w :: B, w'.before args s = true := fun w' h' => (List.mem_cons.mp h').elim (fun e => by rw [e]; exact h) (t w')
theorem vx_n {args : Array Value} {s : State} : ∀ w ∈ ([] : List Cond), w.before args s = true := fun _ h => nomatch h
theorem vx_own {args : Array Value} {s : State} {L : List Cond} (h1 : ∀ w ∈ L.filter vx_no, w.before args s = true)
    (hU : (Cond.isRef (.static Bundle.tN "UNASSIGNED_STACK" Bundle.steD)).before args s = true) (hN : (Cond.isRef (.static Bundle.tN "SUPPRESSED_SENTINEL" Bundle.listD)).before args s = true)
    (lU : (Cond.laysStatic Bundle.tN "UNASSIGNED_STACK" Bundle.steD).before args s = true) (lN : (Cond.laysStatic Bundle.tN "SUPPRESSED_SENTINEL" Bundle.listD).before args s = true) : ∀ w ∈ L, w.before args s = true := by
  intro w hw
  by_cases e1 : w = .isRef (.static Bundle.tN "UNASSIGNED_STACK" Bundle.steD)
  · rw [e1]; exact hU
  · by_cases e2 : w = .isRef (.static Bundle.tN "SUPPRESSED_SENTINEL" Bundle.listD)
    · rw [e2]; exact hN
    · by_cases e3 : w = .laysStatic Bundle.tN "UNASSIGNED_STACK" Bundle.steD
      · rw [e3]; exact lU
      · by_cases e4 : w = .laysStatic Bundle.tN "SUPPRESSED_SENTINEL" Bundle.listD
        · rw [e4]; exact lN
        · exact h1 w (List.mem_filter.mpr ⟨hw, by unfold vx_no; rw [decide_eq_true e1, decide_eq_true e2, decide_eq_true e3, decide_eq_true e4]; rfl⟩)
/-- where a static field lies, its class's statics cell in H -/
def vx_L (C n d : String) (A : Nat → Prop) (U : State) (H : Heap) : Prop := ∃ (c : ClassId) (k : Class) (i : Nat) (f : Field) (a : Nat) (cell : Cell), U.vm.findClass C = some c ∧ U.fieldFound? C n d = some (c, k, i, f) ∧ f.isStatic = true ∧ k.statics = some a ∧ H[a]? = some cell ∧ cell.vm.isStatics = true ∧ cell.cls = c ∧ f.slot < cell.slots.size ∧ k.staticTypes[f.slot]? = some f.type ∧ ¬ A a
theorem vx_L.moved {C n d : String} {A : Nat → Prop} {u U : State} {H : Heap} (hvm : u.vm.Alike U.vm) (h : vx_L C n d A u H) : vx_L C n d A U H := by
  obtain ⟨c, k, i, f, a, cell, h1, h2, h3, h4, h5, h6, h7, h8, h9, h10⟩ := h
  obtain ⟨k', hi', he⟩ := State.fieldFound?_setVm hvm h2
  exact ⟨c, k', i, f, a, cell, by rw [hvm.findClass]; exact h1, hi', h3, by rw [he]; exact h4, h5, h6, h7, h8, by rw [he]; exact h9, h10⟩
theorem vx_L.kept {C n d : String} {A : Nat → Prop} {U : State} {H H1 : Heap} (h : vx_L C n d A U H) (hq : ∀ a : Nat, a < H.size → ¬ A a → H1[a]? = H[a]?) : vx_L C n d A U H1 := by
  obtain ⟨c, k, i, f, a, cell, h1, h2, h3, h4, h5, h6, h7, h8, h9, h10⟩ := h
  exact ⟨c, k, i, f, a, cell, h1, h2, h3, h4, by rw [hq a (Array.getElem?_eq_some_iff.mp h5).1 h10]; exact h5, h6, h7, h8, h9, h10⟩
theorem vx_L.narrow {C n d : String} {A B : Nat → Prop} {U : State} {H : Heap} (h : vx_L C n d A U H) (hAB : ∀ q, B q → A q) : vx_L C n d B U H := by
  obtain ⟨c, k, i, f, a, cell, h1, h2, h3, h4, h5, h6, h7, h8, h9, h10⟩ := h
  exact ⟨c, k, i, f, a, cell, h1, h2, h3, h4, h5, h6, h7, h8, h9, fun z => h10 (hAB _ z)⟩
theorem vx_L.word {C n d : String} {A : Nat → Prop} {s : State} {args : Array Value} (h : vx_L C n d A s s.heap) : (Cond.laysStatic C n d).before args s = true := by
  obtain ⟨c, k, i, f, a, cell, h1, h2, h3, h4, h5, h6, h7, h8, h9, -⟩ := h
  show (Cond.laysStatic C n d).holds args s none s [] = true
  exact Cond.laysStatic_of h1 h2 h3 h4 h5 h6 h7 h8 h9
/-- .. and what it holds: null or some reference -/
def vx_Zq (C n d : String) (A : Nat → Prop) (U : State) (H : Heap) : Prop := va_Zq C n d A U H ∧ vx_L C n d A U H
theorem vx_Zq.moved {C n d : String} {A : Nat → Prop} {u U : State} {H : Heap} (hvm : u.vm.Alike U.vm) (h : vx_Zq C n d A u H) : vx_Zq C n d A U H := ⟨va_Zq.moved hvm h.1, vx_L.moved hvm h.2⟩
theorem vx_Zq.kept {C n d : String} {A : Nat → Prop} {U : State} {H H1 : Heap} (h : vx_Zq C n d A U H) (hq : ∀ a : Nat, a < H.size → ¬ A a → H1[a]? = H[a]?) : vx_Zq C n d A U H1 := ⟨va_Zq.kept h.1 hq, vx_L.kept h.2 hq⟩
theorem vx_Zq.narrow {C n d : String} {A B : Nat → Prop} {U : State} {H : Heap} (h : vx_Zq C n d A U H) (hAB : ∀ q, B q → A q) : vx_Zq C n d B U H := ⟨va_Zq.narrow h.1 hAB, vx_L.narrow h.2 hAB⟩
theorem vx_Zqof {args : Array Value} {s : State} {C n d : String} {A : Nat → Prop} (hl : (Cond.laysStatic C n d).before args s = true) (hini : (Cond.initialized C).before args s = true) (h : (Cond.isRef (.static C n d)).before args s = true) (hA : ∀ a : Nat, a < s.heap.size → ¬ A a) : vx_Zq C n d A s s.heap := by
  refine ⟨va_Zqof hl hini h hA, ?_⟩
  obtain ⟨c, k, i, f, a, cell, h1, h2, h3, h4, h5, h6, h7, h8, h9⟩ := Cond.laysStatic_spec hl
  exact ⟨c, k, i, f, a, cell, h1, h2, h3, h4, h5, h6, h7, h8, h9, hA a (Array.getElem?_eq_some_iff.mp h5).1⟩
theorem vx_isRef {C n d : String} {v : Value} {A : Nat → Prop} {s : State} {args : Array Value} (h : va_Z C n d v A s s.heap) (hv : v.isRef = true) : (Cond.isRef (.static C n d)).before args s = true := by
  obtain ⟨cf, kf, fi, f, a, cell, h1, h2, h3, h4, h5, h6, h7, -⟩ := h
  have he : (Term.static C n d).eval args s none [] s = some v := by
    simp [Term.eval, State.fieldNamed?, h1, h2, h4, h5, h6, h7]
  simp only [Cond.before, Cond.holds, Cond.value, he]
  cases v <;> simp_all [Value.isRef]
theorem vx_isRefq {C n d : String} {A : Nat → Prop} {s : State} {args : Array Value} (h : va_Zq C n d A s s.heap) : (Cond.isRef (.static C n d)).before args s = true := by
  rcases h with h | ⟨t, h⟩
  · exact vx_isRef h rfl
  · exact vx_isRef h rfl
/-- the same frame, seen from here: as if the method were called anew in this heap -/
theorem vx_rebase {T : State} (X : Stand p l e R s m args below meth c T locs cells slots) {R' : Room} (hf : R'.frames ≤ R.frames) (hl : R'.locals ≤ R.locals) (hc : cells + R'.cells ≤ R.cells) (hs : slots + R'.slots ≤ R.slots) :
    Stand p l e R' ((T.setVm s.vm).setFrames (.invoking m args :: below)) m args below meth c T [] 0 0 := by
  have htop : (T.setVm s.vm).topJava?.isSome := X.here.top
  have hF : ((T.setVm s.vm).setFrames (.invoking m args :: below)).frames = .invoking m args :: below := State.frames_setFrames _ (State.cur_lt_of_top htop)
  obtain ⟨g₀, hg0⟩ := Option.isSome_iff_exists.mp htop
  obtain ⟨r, hr⟩ := State.topJava?_eq_some.mp hg0
  have hl9 : e.platform.stackLimits (T.setVm s.vm).me = e.platform.stackLimits s.me := X.limits
  have hb9 : (T.setVm s.vm).me.stackBytes = s.me.stackBytes := X.bytes
  refine ⟨X.admits, X.cas, X.clock, hF, ?_, X.hears, X.method, X.code, X.here, X.tail, X.warmed, ?_, ?_, ?_⟩
  · have h := X.room
    have hU : ((T.setVm s.vm).setFrames (.invoking m args :: below)).localsInUse = s.localsInUse := by
      rw [State.localsInUse_invoking hF (meth := meth) (c := c) X.method X.code, State.localsInUse_invoking X.frames X.method X.code]
    simp only [State.hasRoom, Bool.and_eq_true, decide_eq_true_eq] at h ⊢
    obtain ⟨⟨⟨⟨h1, h2, h3, h4, h5, h6⟩, h7⟩, h8⟩, h9⟩ := h
    rw [X.frames, List.length_cons] at h2 h3
    have q1 := X.heapSize
    have q2 := X.used
    simp only [hF, hU, List.length_cons, State.stackLimits_setFrames, State.stackBytes_setFrames, hl9, hb9]
    refine ⟨⟨⟨⟨by omega, by omega, by omega, by omega, by omega, h6⟩, ?_⟩, ?_⟩, X.book⟩
    · show T.heap.size + R'.cells ≤ e.platform.maxCells
      omega
    · show T.slotsUsed + R'.slots ≤ e.platform.maxSlots
      omega
  · rw [State.stackLimits_setFrames]; rfl
  · rw [State.stackBytes_setFrames]; rfl
  · refine ⟨?_, Nat.le_refl _, Nat.le_refl _, ?_, ?_, fun a c9 h9 => ⟨c9, h9, rfl, rfl, fun _ _ => rfl⟩⟩
    · obtain ⟨t, ht, -⟩ := State.frames_cons hr
      show T.setVm s.vm = { ((T.setVm s.vm).setFrames (.invoking m args :: below)).setFrames (T.setVm s.vm).frames with heap := T.heap, slotsUsed := T.slotsUsed }
      rw [State.setFrames_setFrames, State.setFrames_self ht]
      rfl
    · show T.slotsUsed = T.slotsUsed + ((T.heap.toList.drop T.heap.size).map (·.slots.size)).sum
      rw [List.drop_eq_nil_of_le (Nat.le_of_eq Array.length_toList)]
      rfl
    · show ((T.heap.toList.drop T.heap.size).map (·.slots.size)).sum ≤ 0
      rw [List.drop_eq_nil_of_le (Nat.le_of_eq Array.length_toList)]
      exact Nat.le_refl _
/-- 'throw new E()': new; dup; invokespecial; athrow -/
theorem vx_throw0 {cc : ByteArray} {pc : Nat} (hexec : p.tables.exec = Jvm.exec) (hb : c.code = cc) (hl : l.stackTraces = false) {own cls : String} {names : List String} {ik ic mc ms : Nat} {A : Nat → Prop}
    (hown : s.vm.findClass own = some m.cls) (hcls : Bundle.fit cls = true) (hnames : ∀ n ∈ names, Bundle.fit n = true)
    (hk : (Cond.classLink own ik cls).before args s = true) (hini : (Cond.initialized cls).before args s = true) (hat : ∀ w ∈ vx_at0 own ic cls names, w.before args s = true)
    (hgood : ∀ w ∈ Cond.classLink own ik cls :: Cond.initialized cls :: vx_at0 own ic cls names, vx_ot w = true)
    (hU : vx_Zq Bundle.tN "UNASSIGNED_STACK" Bundle.steD A s s.heap) (hN : vx_Zq Bundle.tN "SUPPRESSED_SENTINEL" Bundle.listD A s s.heap) (hS : va_S A s.heap H locs) (hsize : ls.size = c.maxLocals)
    (d0 : decode cc pc = .ok (.new ik, 3)) (d3 : decode cc (pc + 3) = .ok (.dup, 1)) (d4 : decode cc (pc + 4) = .ok (.invokespecial ic, 3)) (d7 : decode cc (pc + 7) = .ok (.athrow, 1))
    (hout : ∀ x ∈ c.exceptionTable.toList, covers x (pc + 7) = false)
    (hRframes : names.length + 3 < R.frames) (hRlocals : (rest.map fun v => v.category).sum + (13 * (names.length + 1) + 42) ≤ R.locals) (hRcells : cells + 1 ≤ R.cells) (hRslots : slots + 6 ≤ R.slots) (hlocks : meth.locks = false)
    (hx : ∀ t : State, s.vm.Alike t.vm → H.size ≤ t.heap.size → (∀ q : Nat, q < H.size → t.heap[q]? = H[q]?) → XC cls s t)
    (hf : ∀ z ∈ locs, free z.base) (hc : cells + 1 ≤ mc) (hs : slots + 6 ≤ ms) :
    W p l e R s m args below meth c H locs cells slots (vx_MQ below Qc XC args s mc ms free) (F0 m pc ls rest) := by
  intro T hT X
  have htr : e.platform.stackTraces = false := (show e.platform.stackTraces = l.stackTraces by rw [X.admits.platform]).trans hl
  have Y := vx_rebase X (R' := { frames := R.frames, locals := R.locals, cells := 1, slots := 6 }) (Nat.le_refl _) (Nat.le_refl _) hRcells hRslots
  obtain ⟨s', hA⟩ : ∃ z, z = (T.setVm s.vm).setFrames (.invoking m args :: below) := ⟨_, rfl⟩
  rw [← hA] at Y
  have hvm : s'.vm = s.vm := by rw [hA]; rfl
  have hhp : s'.heap = H := by rw [hA]; exact hT
  have hW0 : s.WarmedH s'.vm := by rw [hvm]; exact State.WarmedH.refl s
  have hat' : ∀ w ∈ vx_at0 own ic cls names, w.before args s' = true := fun w hw => vx_ot_at hW0 hvm.symm (hgood w (List.mem_cons_of_mem _ (List.mem_cons_of_mem _ hw))) (hat w hw)
  have hk' : (Cond.classLink own ik cls).before args s' = true := vx_ot_at hW0 hvm.symm (hgood _ List.mem_cons_self) hk
  have hini' : (Cond.initialized cls).before args s' = true := vx_ot_at hW0 hvm.symm (hgood _ (List.mem_cons_of_mem _ List.mem_cons_self)) hini
  have hU' : vx_Zq Bundle.tN "UNASSIGNED_STACK" Bundle.steD A s' s'.heap := by rw [hhp]; exact vx_Zq.moved hW0.alike (hU.kept hS.2.1)
  have hN' : vx_Zq Bundle.tN "SUPPRESSED_SENTINEL" Bundle.listD A s' s'.heap := by rw [hhp]; exact vx_Zq.moved hW0.alike (hN.kept hS.2.1)
  have h : ∀ w ∈ Bundle.ownAtoms0 own ic cls names, w.before args s' = true := vx_own hat' (vx_isRefq hU'.1) (vx_isRefq hN'.1) hU'.2.word hN'.2.word
  have hown' : s'.vm.findClass own = some m.cls := by rw [hvm]; exact hown
  have hins : (Cond.instantiable cls 6).before args s' = true := h _ (by simp [Bundle.ownAtoms0])
  obtain ⟨vm₁, cX, kX, hfX, hkX, -, -, X₁, st1⟩ := Y.newCold hexec (own := own) (C := cls) (index := ik) (n := 6) hown' hk' hins hini'
    (g := F0 m pc ls rest) rfl (by rw [hb]; exact d0) (Nat.le_refl _) (Nat.le_refl _)
  generalize hT1 : (T.setVm vm₁).pushCell { cls := cX, slots := kX.instanceTypes.map defaultValue, vm := .none } = T1 at X₁ st1
  have hcat : (Value.ref T.heap.size).category = 1 := rfl
  have hcellA : T1.heap[T.heap.size]? = some (freshCell cX kX) := by rw [← hT1]; exact State.heap_pushCell_size _ _
  have d3' : decode c.code (pc + 3) = .ok (.dup, 1) := by rw [hb]; exact d3
  obtain ⟨U, hsteps, hrun, hend, hW, hsame, ce, hce, hO⟩ := X₁.ctorThrow0 hexec htr (own := own) (cls := cls) (names := names) (ic := ic) hown' hcls hnames h (fun x hx => nomatch hx) hfX hkX hcellA (by rw [hhp, hT]; exact Nat.le_refl _)
    (g := { method := m, pc := pc + 4, locals := ls, stack := .ref T.heap.size :: .ref T.heap.size :: rest, locked := none }) rfl hsize rfl rfl (rest := rest) rfl
    (by rw [hb]; exact d4) (by rw [hb]; exact d7) hout hRframes (by simp only [List.map_cons, List.sum_cons, hcat]; omega) hlocks
  obtain ⟨f1, f2⟩ := vx_frame hsame
  rw [hhp] at f1 f2
  have hWs : s.WarmedH U.vm := State.WarmedH.trans hW0 hW
  have hcl : s.vm.findClass cls = some ce.cls := by
    have h9 := hO.cls
    rw [hvm] at h9
    exact h9
  have hall : s.sameButNew ({ U with vm := s.vm } : State) locs mc ms := by
    subst hA
    obtain ⟨e1, e2⟩ := hsame
    rw [State.setFrames_setFrames] at e1
    have h2 : (T.setVm s.vm).sameButNew ({ U with vm := s.vm } : State) [] (0 + 1) (0 + 6) := ⟨e1, e2⟩
    have h3 := X.same.trans h2
    rw [List.append_nil] at h3
    exact h3.mono hc hs
  refine ⟨U, ?_, .threw T.heap.size, hrun, hend, Or.inr ⟨T.heap.size, rfl, cls, ce, locs, hx U hWs.alike f1 (fun q hq => f2 q hq (fun z hz => nomatch hz)), hce, hO.vm, hcl, hWs, hall, hf⟩⟩
  refine st1 _ ?_
  show Steps p.tables e below (T1.setTop { method := m, pc := pc + 3, locals := ls, stack := .ref T.heap.size :: rest, locked := none }) _
  jvm_step X₁.here [X₁.here.top, hexec, d3', Value.category]
  exact hsteps
/-- 'throw new E("text")': new; dup; ldc; invokespecial; athrow -/
theorem vx_throwS {cc : ByteArray} {pc : Nat} (hexec : p.tables.exec = Jvm.exec) (hb : c.code = cc) (hl : l.stackTraces = false) {own cls text : String} {names : List String} {ik is ic mc ms sa : Nat} {A : Nat → Prop}
    (hown : s.vm.findClass own = some m.cls) (hcls : Bundle.fit cls = true) (hnames : ∀ n ∈ names, Bundle.fit n = true)
    (hk : (Cond.classLink own ik cls).before args s = true) (hini : (Cond.initialized cls).before args s = true) (hstr : vk_R own is text sa s) (hat : ∀ w ∈ vx_atS own ic cls names, w.before args s = true)
    (hgood : ∀ w ∈ Cond.classLink own ik cls :: Cond.initialized cls :: vx_atS own ic cls names, vx_ot w = true)
    (hU : vx_Zq Bundle.tN "UNASSIGNED_STACK" Bundle.steD A s s.heap) (hN : vx_Zq Bundle.tN "SUPPRESSED_SENTINEL" Bundle.listD A s s.heap) (hS : va_S A s.heap H locs) (hsize : ls.size = c.maxLocals)
    (d0 : decode cc pc = .ok (.new ik, 3)) (d3 : decode cc (pc + 3) = .ok (.dup, 1)) (d4 : decode cc (pc + 4) = .ok (.ldc is, 2)) (d6 : decode cc (pc + 6) = .ok (.invokespecial ic, 3)) (d9 : decode cc (pc + 9) = .ok (.athrow, 1))
    (hout : ∀ x ∈ c.exceptionTable.toList, covers x (pc + 9) = false)
    (hRframes : names.length + 3 < R.frames) (hRlocals : (rest.map fun v => v.category).sum + (13 * (names.length + 1) + 43) ≤ R.locals) (hRcells : cells + 1 ≤ R.cells) (hRslots : slots + 6 ≤ R.slots) (hlocks : meth.locks = false)
    (hx : ∀ t : State, s.vm.Alike t.vm → H.size ≤ t.heap.size → (∀ q : Nat, q < H.size → t.heap[q]? = H[q]?) → XC cls s t)
    (hf : ∀ z ∈ locs, free z.base) (hc : cells + 1 ≤ mc) (hs : slots + 6 ≤ ms) :
    W p l e R s m args below meth c H locs cells slots (vx_MQ below Qc XC args s mc ms free) (F0 m pc ls rest) := by
  intro T hT X
  have htr : e.platform.stackTraces = false := (show e.platform.stackTraces = l.stackTraces by rw [X.admits.platform]).trans hl
  have Y := vx_rebase X (R' := { frames := R.frames, locals := R.locals, cells := 1, slots := 6 }) (Nat.le_refl _) (Nat.le_refl _) hRcells hRslots
  obtain ⟨s', hA⟩ : ∃ z, z = (T.setVm s.vm).setFrames (.invoking m args :: below) := ⟨_, rfl⟩
  rw [← hA] at Y
  have hvm : s'.vm = s.vm := by rw [hA]; rfl
  have hhp : s'.heap = H := by rw [hA]; exact hT
  have hW0 : s.WarmedH s'.vm := by rw [hvm]; exact State.WarmedH.refl s
  have hat' : ∀ w ∈ vx_atS own ic cls names, w.before args s' = true := fun w hw => vx_ot_at hW0 hvm.symm (hgood w (List.mem_cons_of_mem _ (List.mem_cons_of_mem _ hw))) (hat w hw)
  have hk' : (Cond.classLink own ik cls).before args s' = true := vx_ot_at hW0 hvm.symm (hgood _ List.mem_cons_self) hk
  have hini' : (Cond.initialized cls).before args s' = true := vx_ot_at hW0 hvm.symm (hgood _ (List.mem_cons_of_mem _ List.mem_cons_self)) hini
  have hU' : vx_Zq Bundle.tN "UNASSIGNED_STACK" Bundle.steD A s' s'.heap := by rw [hhp]; exact vx_Zq.moved hW0.alike (hU.kept hS.2.1)
  have hN' : vx_Zq Bundle.tN "SUPPRESSED_SENTINEL" Bundle.listD A s' s'.heap := by rw [hhp]; exact vx_Zq.moved hW0.alike (hN.kept hS.2.1)
  have h : ∀ w ∈ Bundle.ownAtoms own ic cls names, w.before args s' = true := vx_own hat' (vx_isRefq hU'.1) (vx_isRefq hN'.1) hU'.2.word hN'.2.word
  have hown' : s'.vm.findClass own = some m.cls := by rw [hvm]; exact hown
  have hins : (Cond.instantiable cls 6).before args s' = true := h _ (by simp [Bundle.ownAtoms])
  obtain ⟨vm₁, cX, kX, hfX, hkX, -, -, X₁, st1⟩ := Y.newCold hexec (own := own) (C := cls) (index := ik) (n := 6) hown' hk' hins hini'
    (g := F0 m pc ls rest) rfl (by rw [hb]; exact d0) (Nat.le_refl _) (Nat.le_refl _)
  generalize hT1 : (T.setVm vm₁).pushCell { cls := cX, slots := kX.instanceTypes.map defaultValue, vm := .none } = T1 at X₁ st1
  have hcat : (Value.ref T.heap.size).category = 1 := rfl
  have hcellA : T1.heap[T.heap.size]? = some (freshCell cX kX) := by rw [← hT1]; exact State.heap_pushCell_size _ _
  have d3' : decode c.code (pc + 3) = .ok (.dup, 1) := by rw [hb]; exact d3
  have d4' : decode c.code (pc + 4) = .ok (.ldc is, 2) := by rw [hb]; exact d4
  have hstr' : vk_R own is text sa s' := vk_R.warm hW0 hstr
  obtain ⟨U, hsteps, hrun, hend, hW, hsame, ce, hce, hO⟩ := X₁.ctorThrowS hexec htr (own := own) (cls := cls) (names := names) (ic := ic) hown' hcls hnames h (fun x hx => nomatch hx) hfX hkX hcellA (by rw [hhp, hT]; exact Nat.le_refl _) (msg := .ref sa) rfl
    (g := { method := m, pc := pc + 6, locals := ls, stack := .ref sa :: .ref T.heap.size :: .ref T.heap.size :: rest, locked := none }) rfl hsize rfl rfl (rest := rest) rfl
    (by rw [hb]; exact d6) (by rw [hb]; exact d9) hout hRframes (by simp only [List.map_cons, List.sum_cons, hcat]; omega) hlocks
  obtain ⟨f1, f2⟩ := vx_frame hsame
  rw [hhp] at f1 f2
  have hWs : s.WarmedH U.vm := State.WarmedH.trans hW0 hW
  have hcl : s.vm.findClass cls = some ce.cls := by
    have h9 := hO.cls
    rw [hvm] at h9
    exact h9
  have hall : s.sameButNew ({ U with vm := s.vm } : State) locs mc ms := by
    subst hA
    obtain ⟨e1, e2⟩ := hsame
    rw [State.setFrames_setFrames] at e1
    have h2 : (T.setVm s.vm).sameButNew ({ U with vm := s.vm } : State) [] (0 + 1) (0 + 6) := ⟨e1, e2⟩
    have h3 := X.same.trans h2
    rw [List.append_nil] at h3
    exact h3.mono hc hs
  refine ⟨U, ?_, .threw T.heap.size, hrun, hend, Or.inr ⟨T.heap.size, rfl, cls, ce, locs, hx U hWs.alike f1 (fun q hq => f2 q hq (fun z hz => nomatch hz)), hce, hO.vm, hcl, hWs, hall, hf⟩⟩
  refine st1 _ ?_
  show Steps p.tables e below (T1.setTop { method := m, pc := pc + 3, locals := ls, stack := .ref T.heap.size :: rest, locked := none }) _
  jvm_step X₁.here [X₁.here.top, hexec, d3', Value.category]
  exact X₁.ldcString hexec (own := own) (text := text) (index := is) (a := sa) hown' hstr'.1 hstr'.2
    (g := { method := m, pc := pc + 4, locals := ls, stack := .ref T.heap.size :: .ref T.heap.size :: rest, locked := none }) rfl d4' _ hsteps
/-- 'throw new E("text")', the text by a wide index -/
theorem vx_throwSW {cc : ByteArray} {pc : Nat} (hexec : p.tables.exec = Jvm.exec) (hb : c.code = cc) (hl : l.stackTraces = false) {own cls text : String} {names : List String} {ik is ic mc ms sa : Nat} {A : Nat → Prop}
    (hown : s.vm.findClass own = some m.cls) (hcls : Bundle.fit cls = true) (hnames : ∀ n ∈ names, Bundle.fit n = true)
    (hk : (Cond.classLink own ik cls).before args s = true) (hini : (Cond.initialized cls).before args s = true) (hstr : vk_R own is text sa s) (hat : ∀ w ∈ vx_atS own ic cls names, w.before args s = true)
    (hgood : ∀ w ∈ Cond.classLink own ik cls :: Cond.initialized cls :: vx_atS own ic cls names, vx_ot w = true)
    (hU : vx_Zq Bundle.tN "UNASSIGNED_STACK" Bundle.steD A s s.heap) (hN : vx_Zq Bundle.tN "SUPPRESSED_SENTINEL" Bundle.listD A s s.heap) (hS : va_S A s.heap H locs) (hsize : ls.size = c.maxLocals)
    (d0 : decode cc pc = .ok (.new ik, 3)) (d3 : decode cc (pc + 3) = .ok (.dup, 1)) (d4 : decode cc (pc + 4) = .ok (.ldc_w is, 3)) (d7 : decode cc (pc + 7) = .ok (.invokespecial ic, 3)) (d10 : decode cc (pc + 10) = .ok (.athrow, 1))
    (hout : ∀ x ∈ c.exceptionTable.toList, covers x (pc + 10) = false)
    (hRframes : names.length + 3 < R.frames) (hRlocals : (rest.map fun v => v.category).sum + (13 * (names.length + 1) + 43) ≤ R.locals) (hRcells : cells + 1 ≤ R.cells) (hRslots : slots + 6 ≤ R.slots) (hlocks : meth.locks = false)
    (hx : ∀ t : State, s.vm.Alike t.vm → H.size ≤ t.heap.size → (∀ q : Nat, q < H.size → t.heap[q]? = H[q]?) → XC cls s t)
    (hf : ∀ z ∈ locs, free z.base) (hc : cells + 1 ≤ mc) (hs : slots + 6 ≤ ms) :
    W p l e R s m args below meth c H locs cells slots (vx_MQ below Qc XC args s mc ms free) (F0 m pc ls rest) := by
  intro T hT X
  have htr : e.platform.stackTraces = false := (show e.platform.stackTraces = l.stackTraces by rw [X.admits.platform]).trans hl
  have Y := vx_rebase X (R' := { frames := R.frames, locals := R.locals, cells := 1, slots := 6 }) (Nat.le_refl _) (Nat.le_refl _) hRcells hRslots
  obtain ⟨s', hA⟩ : ∃ z, z = (T.setVm s.vm).setFrames (.invoking m args :: below) := ⟨_, rfl⟩
  rw [← hA] at Y
  have hvm : s'.vm = s.vm := by rw [hA]; rfl
  have hhp : s'.heap = H := by rw [hA]; exact hT
  have hW0 : s.WarmedH s'.vm := by rw [hvm]; exact State.WarmedH.refl s
  have hat' : ∀ w ∈ vx_atS own ic cls names, w.before args s' = true := fun w hw => vx_ot_at hW0 hvm.symm (hgood w (List.mem_cons_of_mem _ (List.mem_cons_of_mem _ hw))) (hat w hw)
  have hk' : (Cond.classLink own ik cls).before args s' = true := vx_ot_at hW0 hvm.symm (hgood _ List.mem_cons_self) hk
  have hini' : (Cond.initialized cls).before args s' = true := vx_ot_at hW0 hvm.symm (hgood _ (List.mem_cons_of_mem _ List.mem_cons_self)) hini
  have hU' : vx_Zq Bundle.tN "UNASSIGNED_STACK" Bundle.steD A s' s'.heap := by rw [hhp]; exact vx_Zq.moved hW0.alike (hU.kept hS.2.1)
  have hN' : vx_Zq Bundle.tN "SUPPRESSED_SENTINEL" Bundle.listD A s' s'.heap := by rw [hhp]; exact vx_Zq.moved hW0.alike (hN.kept hS.2.1)
  have h : ∀ w ∈ Bundle.ownAtoms own ic cls names, w.before args s' = true := vx_own hat' (vx_isRefq hU'.1) (vx_isRefq hN'.1) hU'.2.word hN'.2.word
  have hown' : s'.vm.findClass own = some m.cls := by rw [hvm]; exact hown
  have hins : (Cond.instantiable cls 6).before args s' = true := h _ (by simp [Bundle.ownAtoms])
  obtain ⟨vm₁, cX, kX, hfX, hkX, -, -, X₁, st1⟩ := Y.newCold hexec (own := own) (C := cls) (index := ik) (n := 6) hown' hk' hins hini'
    (g := F0 m pc ls rest) rfl (by rw [hb]; exact d0) (Nat.le_refl _) (Nat.le_refl _)
  generalize hT1 : (T.setVm vm₁).pushCell { cls := cX, slots := kX.instanceTypes.map defaultValue, vm := .none } = T1 at X₁ st1
  have hcat : (Value.ref T.heap.size).category = 1 := rfl
  have hcellA : T1.heap[T.heap.size]? = some (freshCell cX kX) := by rw [← hT1]; exact State.heap_pushCell_size _ _
  have d3' : decode c.code (pc + 3) = .ok (.dup, 1) := by rw [hb]; exact d3
  have d4' : decode c.code (pc + 4) = .ok (.ldc_w is, 3) := by rw [hb]; exact d4
  have hstr' : vk_R own is text sa s' := vk_R.warm hW0 hstr
  obtain ⟨U, hsteps, hrun, hend, hW, hsame, ce, hce, hO⟩ := X₁.ctorThrowS hexec htr (own := own) (cls := cls) (names := names) (ic := ic) hown' hcls hnames h (fun x hx => nomatch hx) hfX hkX hcellA (by rw [hhp, hT]; exact Nat.le_refl _) (msg := .ref sa) rfl
    (g := { method := m, pc := pc + 7, locals := ls, stack := .ref sa :: .ref T.heap.size :: .ref T.heap.size :: rest, locked := none }) rfl hsize rfl rfl (rest := rest) rfl
    (by rw [hb]; exact d7) (by rw [hb]; exact d10) hout hRframes (by simp only [List.map_cons, List.sum_cons, hcat]; omega) hlocks
  obtain ⟨f1, f2⟩ := vx_frame hsame
  rw [hhp] at f1 f2
  have hWs : s.WarmedH U.vm := State.WarmedH.trans hW0 hW
  have hcl : s.vm.findClass cls = some ce.cls := by
    have h9 := hO.cls
    rw [hvm] at h9
    exact h9
  have hall : s.sameButNew ({ U with vm := s.vm } : State) locs mc ms := by
    subst hA
    obtain ⟨e1, e2⟩ := hsame
    rw [State.setFrames_setFrames] at e1
    have h2 : (T.setVm s.vm).sameButNew ({ U with vm := s.vm } : State) [] (0 + 1) (0 + 6) := ⟨e1, e2⟩
    have h3 := X.same.trans h2
    rw [List.append_nil] at h3
    exact h3.mono hc hs
  refine ⟨U, ?_, .threw T.heap.size, hrun, hend, Or.inr ⟨T.heap.size, rfl, cls, ce, locs, hx U hWs.alike f1 (fun q hq => f2 q hq (fun z hz => nomatch hz)), hce, hO.vm, hcl, hWs, hall, hf⟩⟩
  refine st1 _ ?_
  show Steps p.tables e below (T1.setTop { method := m, pc := pc + 3, locals := ls, stack := .ref T.heap.size :: rest, locked := none }) _
  jvm_step X₁.here [X₁.here.top, hexec, d3', Value.category]
  exact X₁.ldcStringW hexec (own := own) (text := text) (index := is) (a := sa) hown' hstr'.1 hstr'.2
    (g := { method := m, pc := pc + 4, locals := ls, stack := .ref T.heap.size :: .ref T.heap.size :: rest, locked := none }) rfl d4' _ hsteps
end Ends
section Bodies
variable {l : Launch}
theorem vx_ofW {y : MethodName} {ws ws' : List Cond} {rm : Room} {Pc : Array Value → State → Prop} {Qc : Array Value → State → Outcome → State → Prop} {XC : String → State → State → Prop} {mc ms : Nat} {free : Addr → Prop} {cc : ByteArray} {maxL : Nat} {ret : Option FieldType}
    (hy : plainName y.cls = true) (hw : ws = Cond.code y cc maxL ret :: ws')
    (body : ∀ p e s m args below meth c s₁, BodyLoose p l y (headSpec ws rm) cc maxL ret e s m args below meth c s₁ → c.maxLocals = maxL → (∀ x ∈ c.exceptionTable.toList, False) → Pc args s →
      W p l e (headSpec ws rm).room s m args below meth c s.heap [] 0 0 (vx_MQ below Qc XC args s mc ms free) (entryFrame m args maxL)) : vx_Met l y ws rm Pc Qc XC mc ms free := by
  refine MetFree.of_bodyS (code := cc) (maxLocals := maxL) (ret := ret) hy ?_ ?_
  · intro args s m h hn
    obtain ⟨meth, c, h1, h2, h3, h4, h5, h6, -, -⟩ := Cond.code_spec hn (atoms_spec (ws := ws) h _ (by rw [hw]; exact List.mem_cons_self))
    exact ⟨meth, c, h1, h2, h3, h4, h5, h6⟩
  · intro p e s m args below meth c s₁ B hml hP _
    have hh0 : s₁.heap = s.heap := by rw [B.state]; rfl
    have ht : ∀ x ∈ c.exceptionTable.toList, False := by
      obtain ⟨meth9, c9, h1, h2, -, -, -, -, h7, -⟩ := Cond.code_spec B.named (atoms_spec (ws := ws) B.pre _ (by rw [hw]; exact List.mem_cons_self))
      cases Option.some.inj (h1.symm.trans B.method)
      cases Option.some.inj (h2.symm.trans (Stand.of_body B).code)
      intro x hx
      rw [Array.isEmpty_iff.mp h7] at hx
      cases hx
    obtain ⟨t, a1, o, b1, b2, b3⟩ := body p e s m args below meth c s₁ B hml ht hP s₁ hh0 (Stand.of_body B)
    exact ⟨t, o, a1, b1, b2, b3⟩
/-- the table of a body with handlers -/
theorem vx_table {p : Program} {x y : MethodName} {S : Spec} {cc bytes : ByteArray} {maxL maxL' : Nat} {ret ret' : Option FieldType} {e : Env} {s s₁ : State} {m : MethodId} {args : Array Value} {below : List Frame} {meth : Method} {c : Code} {hh : List (Nat × Nat × Nat × Nat)}
    (B : BodyLoose p l y S cc maxL ret e s m args below meth c s₁) (h : (Cond.codeWith y bytes maxL' ret' hh).before args s = true) : c.exceptionTable.toList = tableOf hh := by
  obtain ⟨m9, meth9, c9, hn9, h1, h2, -, -, h6, -⟩ := Cond.codeWith_spec h
  cases Option.some.inj (hn9.symm.trans B.named)
  cases Option.some.inj (h1.symm.trans B.method)
  cases Option.some.inj (h2.symm.trans (Stand.of_body B).code)
  rw [← h6, table_eq]
end Bodies
end VXA
/-! ===== END ===== -/
/-! ===== BEGIN a static call of a method with an exception table ===== -/
section VXS
variable {p : Program} {l : Launch} {e : Env} {R : Room} {s : State} {m : MethodId} {args : Array Value} {below : List Frame} {meth : Method} {c : Code} {T : State} {H : Heap} {locs : List Loc} {cells slots : Nat}
abbrev vx_CSW (R : Room) (s : State) (args : Array Value) (own : String) (index : Nat) (y : MethodName) (bytes : ByteArray) (maxL : Nat) (ret : Option FieldType) (hh : List (Nat × Nat × Nat × Nat)) (ws : List Cond) (rm : Room) (mc ms n : Nat) : Prop :=
  (rm.cells = mc ∧ rm.slots = ms ∧ rm.frames + 1 ≤ R.frames ∧ 8 + (maxL + 11) + rm.locals ≤ R.locals ∧ (∀ w ∈ ws, ∀ (a' : Array Value) (U : State), s.WarmedH U.vm → w.before a' U = true) ∧ Cond.codeWith y bytes maxL ret hh ∈ ws) ∧
  (Cond.codeWith y bytes maxL ret hh).before args s = true ∧ (Cond.initialized y.cls).before args s = true ∧ (y.cls ≠ "java/lang/invoke/MethodHandle" ∧ y.cls ≠ "java/lang/invoke/VarHandle") ∧
  (∀ sig, parseMethodDescriptor y.desc = some sig → n = sig.parameters.length) ∧ (Cond.methodLink own index y).before args s = true ∧ (Cond.static y).before args s = true
theorem vx_cwSW {own : String} {index maxL mc ms : Nat} {y : MethodName} {bytes : ByteArray} {ret : Option FieldType} {hh : List (Nat × Nat × Nat × Nat)} {Ts ws ws' : List Cond} {rm : Room} (n : Nat) (ht : ∀ w ∈ Ts, w.before args s = true) (hT : GoodIn Ts (va_wsS own index y ws)) (hw : ws = Cond.codeWith y bytes maxL ret hh :: ws') (hrc : rm.cells = mc) (hrs : rm.slots = ms)
    (hd : y.cls ≠ "java/lang/invoke/MethodHandle" ∧ y.cls ≠ "java/lang/invoke/VarHandle" ∧ (parseMethodDescriptor y.desc).map (fun d => d.parameters.length) = some n) (hR : rm.frames + 1 ≤ R.frames ∧ 8 + (maxL + 11) + rm.locals ≤ R.locals) :
    vx_CSW R s args own index y bytes maxL ret hh ws rm mc ms n := by
  have ok : ∀ w ∈ va_wsS own index y ws, w.before args s = true := fun w h => ht w (hT w h).1
  have hG : GoodIn Ts ws := fun w h => hT w (by unfold va_wsS; exact List.mem_append_right _ h)
  have hc : Cond.codeWith y bytes maxL ret hh ∈ ws := by rw [hw]; exact List.mem_cons_self
  refine ⟨⟨hrc, hrs, hR.1, hR.2, pay_in ht hG, hc⟩, ht _ (hG _ hc).1, ok _ (by simp [va_wsS]), ⟨hd.1, hd.2.1⟩, fun sig h => ?_, ok _ (by simp [va_wsS]), ok _ (by simp [va_wsS])⟩
  have h2 := hd.2.2
  rw [h] at h2
  exact (Option.some.inj h2).symm
theorem vx_callSW (X : Stand p l e R s m args below meth c T locs cells slots) (hexec : p.tables.exec = Jvm.exec) {own : String} {index : Nat} {y : MethodName} {bytes : ByteArray} {maxL : Nat} {ret : Option FieldType} {hh : List (Nat × Nat × Nat × Nat)}
    (hown : s.vm.findClass own = some m.cls) (hlink : (Cond.methodLink own index y).before args s = true) (hstat : (Cond.static y).before args s = true) (hinit : (Cond.initialized y.cls).before args s = true)
    (hcode : (Cond.codeWith y bytes maxL ret hh).before args s = true) (hy : y.cls ≠ "java/lang/invoke/MethodHandle" ∧ y.cls ≠ "java/lang/invoke/VarHandle")
    {W9 : Nat} {Pre : Pt → Array Value → Prop} {Post : Pt → Array Value → Option Value → Pt → Prop} (hK : Back l R p e below s args y 3 W9 Pre Post)
    {g : JFrame} (hg : g.method = m) (hsize : g.locals.size = c.maxLocals) {argsL rest : List Value} (hlen : ∀ sig, parseMethodDescriptor y.desc = some sig → argsL.length = sig.parameters.length)
    (hstack : g.stack = argsL.reverse ++ rest) (hW : 2 * g.monitorRoom + (rest.map fun v => v.category).sum ≤ W9) (hdg : decode c.code g.pc = .ok (.invokestatic index, 3))
    (hpre : ∀ vm₁, s.WarmedH vm₁ → Pre ⟨T.setVm vm₁, locs, cells, slots⟩ argsL.toArray) :
    ∃ (v : Option Value) (vm₁ : Vm) (B : Pt), s.WarmedH vm₁ ∧ Stand p l e R s m args below meth c B.U B.locs B.cells B.slots ∧ Post ⟨T.setVm vm₁, locs, cells, slots⟩ argsL.toArray v B ∧
      ∀ target, Steps p.tables e below (B.U.setTop { g with pc := g.pc + 3, stack := v.toList ++ rest }) target → Steps p.tables e below (T.setTop g) target := by
  obtain ⟨mk, methM, cM, hnamed, hmethM, -, -, -, -, -, -, hsigM⟩ := Cond.codeWith_spec hcode
  have hstatic : methM.isStatic = true := Cond.static_spec hnamed hmethM hstat
  obtain ⟨kP, hkP, -⟩ := className_of_methodNamed hnamed
  have hinitP : kP.init = .initialized := Cond.initialized_spec (findClass_of_methodNamed hnamed) hkP hinit
  obtain ⟨vm₁, X₁, hstep₁⟩ := X.invokestatic hexec hown hlink hnamed hmethM hstatic hkP hinitP hy (g := g) hg (argsL := argsL) (rest := rest) (hlen _ hsigM) hstack hdg
  obtain ⟨v, B, X', hpost, hsteps⟩ := hK m meth c ⟨T.setVm vm₁, locs, cells, slots⟩ { g with stack := rest } (.invokestatic index) mk argsL.toArray X₁ hg hsize hdg hW (X₁.named hnamed) (hpre vm₁ X₁.warmed)
  exact ⟨v, vm₁, B, X₁.warmed, X', hpost, fun target h => hstep₁ _ fun acts => by rw [doInvoke_state]; exact hsteps.trans h⟩
theorem vx_runSW {y : MethodName} {bytes cc : ByteArray} {maxL nL mc ms n index : Nat} {ret : Option FieldType} {hh : List (Nat × Nat × Nat × Nat)} {ws : List Cond} {rm : Room} {Pc : Array Value → State → Prop} {Qc : Array Value → State → Outcome → State → Prop} {free : Addr → Prop} {Ts : List Cond} {own : String} {As rest : List Value} {g : JFrame}
    (S : CallFix p m c cc nL s args Ts own) (hM : Met l y ws rm Pc Qc mc ms free) (cw : vx_CSW R s args own index y bytes maxL ret hh ws rm mc ms n) (hp : PreS s H Pc As)
    (hg : g.method = m) (hn : As.length = n) (hsize : g.locals.size = nL) (hstack : g.stack = As.reverse ++ rest) (hW : 2 * g.monitorRoom + (rest.map fun v => v.category).sum ≤ 8) (hdg : decode cc g.pc = .ok (.invokestatic index, 3)) (hf : cells + mc ≤ R.cells ∧ slots + ms ≤ R.slots) :
    va_Run p l e R s m args below meth c H locs cells slots mc ms g rest (Qc As.toArray) (free) := by
  obtain ⟨⟨hrc, hrs, hfr, hlo, hws, hcw⟩, hcode, hini, hy, hlen, hl, hstt⟩ := cw
  have hK : Back l R p e below s args y 3 8 (PreOf R mc ms Pc) (PostOf Qc mc ms free) := va_backW (hh := hh) (bytes := bytes) (maxL := maxL) (ret := ret) hM hp.1 hrc hrs hfr hlo hws hcw (fun a' U hW => word_at hW (Or.inl (by first | rfl | simp [Cond.onTables, Cond.keeps, Cond.steady])) hini)
  obtain ⟨hx, hb, hml, ho, -⟩ := S
  intro T hT X
  obtain ⟨v, vm₁, ⟨U', l2, c2, s2⟩, hW₁, X', ⟨g', mk, t, L, e1, e2, hq, h1, hL, h2, h3⟩, st⟩ := vx_callSW X hx (hh := hh) (bytes := bytes) (maxL := maxL) (ret := ret) ho hl hstt hini hcode hy hK hg (hsize.trans hml.symm) (argsL := As) (rest := rest) (fun sig h => hn.trans (hlen sig h)) hstack hW (by rw [hb]; exact hdg)
    (fun vm₁ hW₁ => ⟨hf.1, hf.2, hp.2 (T.setVm vm₁) hT hW₁⟩)
  dsimp only [Pt.U, Pt.locs, Pt.cells, Pt.slots] at X' e1 e2 h1 h2 h3 st
  subst h1; subst h2; subst h3
  exact ⟨v, (T.setVm vm₁).calling g' mk As.toArray, t, U', L, hT, X', hL, e1, e2, hq, st⟩
/-- not caught here, past rows that name other classes: it goes on to the caller -/
theorem vx_outP {p : Program} {l : Launch} {e : Env} {R : Room} {s : State} {m : MethodId} {args : Array Value} {below : List Frame} {meth : Method} {c : Code} {H : Heap} {locs : List Loc} {cells slots : Nat} {free : Addr → Prop} {ls : Array Slot} {rest : List Value} {Qc : Array Value → State → Outcome → State → Prop} {XC : String → State → State → Prop}
    {pc : Nat} {own E : String} {ce : Cell} {q : Addr} {mc ms : Nat} (hown : s.vm.findClass own = some m.cls) (hlocks : meth.locks = false)
    (hpass : ∀ z ∈ c.exceptionTable.toList, covers z pc = false ∨ (z.catchType ≠ 0 ∧ ∃ nm : String, (Cond.classLink own z.catchType nm).before args s = true ∧ va_Nc E nm s)) (hcell : H[q]? = some ce) (hv : ce.vm = .none) (hcl : s.vm.findClass E = some ce.cls)
    (hx : ∀ t : State, t.heap = H → s.vm.Alike t.vm → XC E s t) (hf : ∀ z ∈ locs, free z.base) (hc : cells ≤ mc) (hs : slots ≤ ms) :
    vx_W p l e R s m args below meth c H locs cells slots (vx_MQ below Qc XC args s mc ms free) (F0 m pc ls rest) q := by
  intro T hT X
  have hpl : e.platform.magicAccessors = ({} : Platform).magicAccessors := by rw [X.admits.platform]
  obtain ⟨vm', hW', X', st⟩ := X.outThrough hlocks q (g := F0 m pc ls rest) rfl rfl rfl (cell := ce) (by rw [hT]; exact hcell) (by rw [hv]; rfl)
    (by obtain ⟨k9, h9, -⟩ := Vm.findClass_spec hcl; exact ⟨k9, h9⟩) (fun z hz => by
      rcases hpass z hz with h | ⟨hz0, nm, hl1, hn1⟩
      · exact Or.inl h
      · obtain ⟨c6, hc6, hcl6⟩ := Cond.classLink_spec hown hl1 e.platform hpl
        obtain ⟨a8, b8, h1, h2, h3⟩ := hn1
        cases Option.some.inj (h1.symm.trans hcl)
        cases Option.some.inj (h2.symm.trans hc6)
        exact Or.inr ⟨hz0, _, hcl6, h3⟩)
  obtain ⟨g₀, hfr⟩ := X'.frames_eq
  have hcell9 : ((T.setVm vm').setFrames (.throwing q :: below)).heap[q]? = some ce := by
    show T.heap[q]? = some ce
    rw [hT]; exact hcell
  have hend : Ended ((T.setVm vm').setFrames (.throwing q :: below)) below (.threw q) := State.frames_setFrames _ (State.cur_lt_of_frames hfr)
  refine ⟨(T.setVm vm').setFrames (.throwing q :: below), ?_, .threw q, X'.here.running, hend, Or.inr ⟨q, rfl, E, ce, locs, hx _ hT (X'.ends _).1.alike, hcell9, hv, hcl, (X'.ends _).1, (X'.ends _).2.mono hc hs, hf⟩⟩
  rw [X.pushThrowing_eq]
  exact st
/-- a thing of a world lies in the heap -/
theorem vx_lt {D : va_G} {cl : List vw_C} {ws : va_W} {H1 : Heap} (h : va_P D cl ws H1) {k : Nat} {q : Nat × va_E} (hk : ws[k]? = some q) : q.1 < H1.size := (h k q hk).lt
end VXS
/-! ===== END ===== -/
/-! ===== BEGIN methods with a table of their own: called by a name, returning or throwing ===== -/
section VXH
/-! vx_backW, vx_callVX, vx_callSX, vx_callVW, vx_runVW, vx_runVX, vx_runSX, vx_ofWH follow the same proofs as their sisters above (Free/Laws.lean, Shelf42/LK1.lean); vx_outP calls Shelf42/NT130.lean (outThrough). -/
section
variable {l : Launch} {R : Room} {p : Program} {e : Env} {below : List Frame} {s : State} {sargs : Array Value} {y : MethodName} {len W9 : Nat}
theorem vx_backW {ws : List Cond} {rm : Room} {Pc : Array Value → State → Prop} {Qc : Array Value → State → Outcome → State → Prop} {XC : String → State → State → Prop} {mc ms : Nat} {free : Addr → Prop} {bytes : ByteArray} {maxL : Nat} {ret : Option FieldType} {hh : List (Nat × Nat × Nat × Nat)}
    (hM : vx_Met l y ws rm Pc Qc XC mc ms free) (hblind : FrameBlind Pc) (hrc : rm.cells = mc) (hrs : rm.slots = ms)
    (hframes : rm.frames + 1 ≤ R.frames) (hlocals : W9 + (maxL + 11) + rm.locals ≤ R.locals)
    (hws : ∀ w ∈ ws, ∀ a' U, s.WarmedH U.vm → w.before a' U = true) (hcode : Cond.codeWith y bytes maxL ret hh ∈ ws) (hinit : ∀ a' U, s.WarmedH U.vm → (Cond.initialized y.cls).before a' U = true) :
    vx_Back l R p e below s sargs y len W9 (PreOf R mc ms Pc) (PostOf Qc mc ms free) (vx_Post XC mc ms free) := by
  intro m meth c A g ig mk a X hg hsize hdg hW hn hp
  have h1 : (headSpec ws rm).pre.before a A.U = true := atoms_intro fun w hw => hws w hw _ _ X.warmed
  have h2 : (Cond.codeWith y bytes maxL ret hh).before a A.U = true := hws _ hcode _ _ X.warmed
  have h3 : (Cond.initialized y.cls).before a A.U = true := hinit _ _ X.warmed
  have h4 : A.cells + (headSpec ws rm).room.cells ≤ R.cells := by rw [show (headSpec ws rm).room.cells = mc from hrc]; exact hp.1
  have h5 : A.slots + (headSpec ws rm).room.slots ≤ R.slots := by rw [show (headSpec ws rm).room.slots = ms from hrs]; exact hp.2.1
  have hPc : Pc a (A.U.calling g mk a) := hblind _ _ _ _ hp.2.2
  obtain ⟨U, Ls, c0, s0⟩ := A
  dsimp only [Pt.U, Pt.locs, Pt.cells, Pt.slots] at h1 h2 h3 h4 h5 X hn hPc ⊢
  obtain ⟨m9, methY, cY, hn9, hmY, hcY, -, hlY, -⟩ := Cond.codeWith_spec h2
  cases Option.some.inj (hn9.symm.trans hn)
  obtain ⟨kY, hkY, -⟩ := className_of_methodNamed hn
  have hinitY : kY.init = .initialized := Cond.initialized_spec (findClass_of_methodNamed hn) hkY h3
  have h : At U g.method c below := by rw [hg]; exact X.here
  have hlocals9 : W9 + (maxL + 11) + (headSpec ws rm).room.locals ≤ R.locals := hlocals
  have happ : (headSpec ws rm).appliesLoose y e.platform (U.calling g mk a) = true :=
    Spec.appliesLoose_calling (g := g) h hdg hn hkY hinitY
      (X.room_calling (g := g) (R' := (headSpec ws rm).room) hsize hmY hcY hframes (by rw [hlY]; omega) h4 h5) h1
  obtain ⟨mid, hmid⟩ := h.above
  have hfr : (U.setTop g).frames = (.java g :: mid) ++ below := by rw [State.frames_setTop' g h.top, hmid]; rfl
  obtain ⟨o, s₂, hsteps, -, hend, hq⟩ := Steps.callFree hM p X.admits X.cas X.clock (acts := []) hfr happ hPc trivial
  have hq' : vx_Q Qc XC mc ms free a (U.calling g mk a) o s₂ := hq
  rw [State.frames_setTop' g h.top] at hend
  obtain ⟨g₀, hg0⟩ := Option.isSome_iff_exists.mp h.top
  obtain ⟨r, hr⟩ := State.topJava?_eq_some.mp hg0
  have hr' : (({ U with heap := s₂.heap, slotsUsed := s₂.slotsUsed } : State).setVm s₂.vm).frames = .java g₀ :: r := hr
  rcases hq' with ⟨hqc, L, hfe, hL⟩ | ⟨q, rfl, E, ce, L, hx, hce, hcv, hcl, hW₂, hsm, hL⟩
  · obtain ⟨⟨v, rfl⟩, hW₂, e2, q2, q3, q4, q5, q6⟩ := id hfe
    have e3 : s₂ = ({ (U.calling g mk a).setFrames s₂.frames with heap := s₂.heap, slotsUsed := s₂.slotsUsed } : State).setVm s₂.vm := by
      have : s₂ = ({ s₂ with vm := (U.calling g mk a).vm } : State).setVm s₂.vm := rfl
      rw [e2] at this
      exact this
    obtain ⟨c₂, i₂, len₂, hc₂, hd₂, hf₂⟩ := hend
    have hW' : U.WarmedH s₂.vm := hW₂
    have hcc : c₂ = c := by
      have h1 : s₂.code? g.method = U.code? g.method := by
        rw [State.code?_eq, State.code?_eq, hW'.alike.method?]
      exact Option.some.inj (hc₂.symm.trans (h1.trans h.code))
    subst hcc
    have hlen : len₂ = len := by rw [hdg] at hd₂; cases hd₂; rfl
    subst hlen
    have hs₂ : s₂ = (({ U with heap := s₂.heap, slotsUsed := s₂.slotsUsed } : State).setVm s₂.vm).setTop { g with pc := g.pc + len₂, stack := v.toList ++ g.stack } := by
      refine e3.trans ?_
      rw [hf₂, State.calling_eq h.top, State.setFrames_setFrames, State.setTop_of_frames _ hr', hr]
      rfl
    have hsame : U.sameButNew ({ U with heap := s₂.heap, slotsUsed := s₂.slotsUsed } : State) L mc ms := by
      refine ⟨?_, q2, q3, q4, q5, q6⟩
      obtain ⟨t, ht, -⟩ := State.frames_cons hr
      show ({ U with heap := s₂.heap, slotsUsed := s₂.slotsUsed } : State) = { U.setFrames U.frames with heap := s₂.heap, slotsUsed := s₂.slotsUsed }
      rw [State.setFrames_self ht]
    subst hg
    refine Or.inl ⟨v, ⟨(({ U with heap := s₂.heap, slotsUsed := s₂.slotsUsed } : State).setVm s₂.vm), Ls ++ L, c0 + mc, s0 + ms⟩,
      ⟨X.admits, X.cas, X.clock, X.frames, X.room, X.hears, X.method, X.code, (X.here.setHeapUsed s₂.heap s₂.slotsUsed).setVm hW'.alike, X.tail, State.WarmedH.trans X.warmed hW', X.limits, X.bytes, X.same.trans (hsame.setVm s.vm)⟩,
      ⟨g, mk, s₂, L, rfl, rfl, hqc, rfl, hL, rfl, rfl⟩, ?_⟩
    show Steps p.tables e below _ ((({ U with heap := s₂.heap, slotsUsed := s₂.slotsUsed } : State).setVm s₂.vm).setTop { g with pc := g.pc + len₂, stack := v.toList ++ g.stack })
    rw [← hs₂]
    exact hsteps
  · obtain ⟨e2, q2, q3, q4, q5, q6⟩ := id hsm
    have e3 : s₂ = ({ (U.calling g mk a).setFrames s₂.frames with heap := s₂.heap, slotsUsed := s₂.slotsUsed } : State).setVm s₂.vm := by
      have : s₂ = ({ s₂ with vm := (U.calling g mk a).vm } : State).setVm s₂.vm := rfl
      rw [e2] at this
      exact this
    have hf₂ : s₂.frames = .throwing q :: .java g :: U.frames.tail := hend
    have hW' : U.WarmedH s₂.vm := hW₂
    have hs₂ : s₂ = ((({ U with heap := s₂.heap, slotsUsed := s₂.slotsUsed } : State).setVm s₂.vm).setTop g).pushFrame (.throwing q) := by
      refine e3.trans ?_
      rw [hf₂, State.calling_eq h.top, State.setFrames_setFrames, State.pushFrame, State.frames_setTop _ hr', State.setTop_of_frames _ hr', State.setFrames_setFrames, hr]
      rfl
    have hsame : U.sameButNew ({ U with heap := s₂.heap, slotsUsed := s₂.slotsUsed } : State) L mc ms := by
      refine ⟨?_, q2, q3, q4, q5, q6⟩
      obtain ⟨t, ht, -⟩ := State.frames_cons hr
      show ({ U with heap := s₂.heap, slotsUsed := s₂.slotsUsed } : State) = { U.setFrames U.frames with heap := s₂.heap, slotsUsed := s₂.slotsUsed }
      rw [State.setFrames_self ht]
    subst hg
    refine Or.inr ⟨q, ⟨(({ U with heap := s₂.heap, slotsUsed := s₂.slotsUsed } : State).setVm s₂.vm), Ls ++ L, c0 + mc, s0 + ms⟩,
      ⟨X.admits, X.cas, X.clock, X.frames, X.room, X.hears, X.method, X.code, (X.here.setHeapUsed s₂.heap s₂.slotsUsed).setVm hW'.alike, X.tail, State.WarmedH.trans X.warmed hW', X.limits, X.bytes, X.same.trans (hsame.setVm s.vm)⟩,
      ⟨g, mk, s₂, L, E, ce, rfl, rfl, hx, hce, hcv, hcl, rfl, hL, rfl, rfl⟩, ?_⟩
    show Steps p.tables e below _ (((({ U with heap := s₂.heap, slotsUsed := s₂.slotsUsed } : State).setVm s₂.vm).setTop g).pushFrame (.throwing q))
    rw [← hs₂]
    exact hsteps
end
variable {p : Program} {l : Launch} {e : Env} {R : Room} {s : State} {m : MethodId} {args : Array Value} {below : List Frame} {meth : Method} {c : Code} {T : State} {H : Heap} {locs : List Loc} {cells slots : Nat}
theorem vx_callVX (X : Stand p l e R s m args below meth c T locs cells slots) (hexec : p.tables.exec = Jvm.exec) {own C : String} {index : Nat} {y : MethodName} {bytes : ByteArray} {maxL : Nat} {ret : Option FieldType} {hh : List (Nat × Nat × Nat × Nat)}
    (hown : s.vm.findClass own = some m.cls) (hlink : (Cond.methodLink own index y).before args s = true) (hinst : (Cond.instanceMethod y).before args s = true) (hsel : (Cond.selects C y y).before args s = true)
    (hcode : (Cond.codeWith y bytes maxL ret hh).before args s = true) (hy : y.cls ≠ "java/lang/invoke/MethodHandle" ∧ y.cls ≠ "java/lang/invoke/VarHandle")
    {W9 : Nat} {Pre : Pt → Array Value → Prop} {Post : Pt → Array Value → Option Value → Pt → Prop} {PostX : Pt → Array Value → Addr → Pt → Prop} (hK : vx_Back l R p e below s args y 3 W9 Pre Post PostX)
    {b : Addr} {cellB : Cell} (hcell : T.heap[b]? = some cellB) (hobj : cellB.vm.isStatics = false) (hcls : s.vm.findClass C = some cellB.cls)
    {g : JFrame} (hg : g.method = m) (hsize : g.locals.size = c.maxLocals) {argsL rest : List Value} (hlen : ∀ sig, parseMethodDescriptor y.desc = some sig → argsL.length = sig.parameters.length)
    (hstack : g.stack = argsL.reverse ++ .ref b :: rest) (hW : 2 * g.monitorRoom + (rest.map fun v => v.category).sum ≤ W9) (hdg : decode c.code g.pc = .ok (.invokevirtual index, 3))
    (hpre : ∀ vm₁, s.WarmedH vm₁ → Pre ⟨T.setVm vm₁, locs, cells, slots⟩ (Value.ref b :: argsL).toArray) :
    (∃ (v : Option Value) (vm₁ : Vm) (B : Pt), s.WarmedH vm₁ ∧ Stand p l e R s m args below meth c B.U B.locs B.cells B.slots ∧ Post ⟨T.setVm vm₁, locs, cells, slots⟩ (Value.ref b :: argsL).toArray v B ∧
      ∀ target, Steps p.tables e below (B.U.setTop { g with pc := g.pc + 3, stack := v.toList ++ rest }) target → Steps p.tables e below (T.setTop g) target) ∨
    (∃ (q : Addr) (vm₁ : Vm) (B : Pt), s.WarmedH vm₁ ∧ Stand p l e R s m args below meth c B.U B.locs B.cells B.slots ∧ PostX ⟨T.setVm vm₁, locs, cells, slots⟩ (Value.ref b :: argsL).toArray q B ∧
      Steps p.tables e below (T.setTop g) ((B.U.setTop { g with stack := rest }).pushFrame (.throwing q))) := by
  obtain ⟨mk, methM, hnamed, hmethM, hstM, habM⟩ := Cond.instanceMethod_spec hinst
  obtain ⟨m8, methM', cM, hn8, hmethM', -, -, -, -, -, -, hsigM⟩ := Cond.codeWith_spec hcode
  cases Option.some.inj (hn8.symm.trans hnamed)
  cases hmethM.symm.trans hmethM'
  obtain ⟨c2, r2, m2, q1, q2, q3, q4, kP, hkP, hkPi⟩ := Cond.selects_spec hsel
  cases hcls.symm.trans q1
  cases (State.methodFound?_of_named hnamed hy).symm.trans q2
  cases hnamed.symm.trans q3
  have hselP : selectMethod e.platform s.vm cellB.cls mk = .method mk := by rw [Launch.admits_selectMethod X.admits]; exact q4
  obtain ⟨vm₁, X₁, hstep₁⟩ := X.invokevirtual hexec hown hlink hnamed hmethM hstM hkP hkPi hy (a := b) (cell := cellB) hcell
    (fun z h => by rw [h] at hobj; cases hobj) hselP hmethM habM hkP hkPi (g := g) hg (argsL := argsL) (rest := rest) (hlen _ hsigM) hstack hdg
  rcases hK m meth c ⟨T.setVm vm₁, locs, cells, slots⟩ { g with stack := rest } (.invokevirtual index) mk (Value.ref b :: argsL).toArray X₁ hg hsize hdg hW (X₁.named hnamed) (hpre vm₁ X₁.warmed) with ⟨v, B, X', hpost, hsteps⟩ | ⟨q, B, X', hpost, hsteps⟩
  · exact Or.inl ⟨v, vm₁, B, X₁.warmed, X', hpost, fun target h => hstep₁ _ fun acts => by rw [doInvoke_state]; exact hsteps.trans h⟩
  · exact Or.inr ⟨q, vm₁, B, X₁.warmed, X', hpost, hstep₁ _ fun acts => by rw [doInvoke_state]; exact hsteps⟩
theorem vx_callSX (X : Stand p l e R s m args below meth c T locs cells slots) (hexec : p.tables.exec = Jvm.exec) {own : String} {index : Nat} {y : MethodName} {bytes : ByteArray} {maxL : Nat} {ret : Option FieldType} {hh : List (Nat × Nat × Nat × Nat)}
    (hown : s.vm.findClass own = some m.cls) (hlink : (Cond.methodLink own index y).before args s = true) (hstat : (Cond.static y).before args s = true) (hinit : (Cond.initialized y.cls).before args s = true)
    (hcode : (Cond.codeWith y bytes maxL ret hh).before args s = true) (hy : y.cls ≠ "java/lang/invoke/MethodHandle" ∧ y.cls ≠ "java/lang/invoke/VarHandle")
    {W9 : Nat} {Pre : Pt → Array Value → Prop} {Post : Pt → Array Value → Option Value → Pt → Prop} {PostX : Pt → Array Value → Addr → Pt → Prop} (hK : vx_Back l R p e below s args y 3 W9 Pre Post PostX)
    {g : JFrame} (hg : g.method = m) (hsize : g.locals.size = c.maxLocals) {argsL rest : List Value} (hlen : ∀ sig, parseMethodDescriptor y.desc = some sig → argsL.length = sig.parameters.length)
    (hstack : g.stack = argsL.reverse ++ rest) (hW : 2 * g.monitorRoom + (rest.map fun v => v.category).sum ≤ W9) (hdg : decode c.code g.pc = .ok (.invokestatic index, 3))
    (hpre : ∀ vm₁, s.WarmedH vm₁ → Pre ⟨T.setVm vm₁, locs, cells, slots⟩ argsL.toArray) :
    (∃ (v : Option Value) (vm₁ : Vm) (B : Pt), s.WarmedH vm₁ ∧ Stand p l e R s m args below meth c B.U B.locs B.cells B.slots ∧ Post ⟨T.setVm vm₁, locs, cells, slots⟩ argsL.toArray v B ∧
      ∀ target, Steps p.tables e below (B.U.setTop { g with pc := g.pc + 3, stack := v.toList ++ rest }) target → Steps p.tables e below (T.setTop g) target) ∨
    (∃ (q : Addr) (vm₁ : Vm) (B : Pt), s.WarmedH vm₁ ∧ Stand p l e R s m args below meth c B.U B.locs B.cells B.slots ∧ PostX ⟨T.setVm vm₁, locs, cells, slots⟩ argsL.toArray q B ∧
      Steps p.tables e below (T.setTop g) ((B.U.setTop { g with stack := rest }).pushFrame (.throwing q))) := by
  obtain ⟨mk, methM, cM, hnamed, hmethM, -, -, -, -, -, -, hsigM⟩ := Cond.codeWith_spec hcode
  have hstatic : methM.isStatic = true := Cond.static_spec hnamed hmethM hstat
  obtain ⟨kP, hkP, -⟩ := className_of_methodNamed hnamed
  have hinitP : kP.init = .initialized := Cond.initialized_spec (findClass_of_methodNamed hnamed) hkP hinit
  obtain ⟨vm₁, X₁, hstep₁⟩ := X.invokestatic hexec hown hlink hnamed hmethM hstatic hkP hinitP hy (g := g) hg (argsL := argsL) (rest := rest) (hlen _ hsigM) hstack hdg
  rcases hK m meth c ⟨T.setVm vm₁, locs, cells, slots⟩ { g with stack := rest } (.invokestatic index) mk argsL.toArray X₁ hg hsize hdg hW (X₁.named hnamed) (hpre vm₁ X₁.warmed) with ⟨v, B, X', hpost, hsteps⟩ | ⟨q, B, X', hpost, hsteps⟩
  · exact Or.inl ⟨v, vm₁, B, X₁.warmed, X', hpost, fun target h => hstep₁ _ fun acts => by rw [doInvoke_state]; exact hsteps.trans h⟩
  · exact Or.inr ⟨q, vm₁, B, X₁.warmed, X', hpost, hstep₁ _ fun acts => by rw [doInvoke_state]; exact hsteps⟩
theorem vx_callVW (X : Stand p l e R s m args below meth c T locs cells slots) (hexec : p.tables.exec = Jvm.exec) {own C : String} {index : Nat} {y : MethodName} {bytes : ByteArray} {maxL : Nat} {ret : Option FieldType} {hh : List (Nat × Nat × Nat × Nat)}
    (hown : s.vm.findClass own = some m.cls) (hlink : (Cond.methodLink own index y).before args s = true) (hinst : (Cond.instanceMethod y).before args s = true) (hsel : (Cond.selects C y y).before args s = true)
    (hcode : (Cond.codeWith y bytes maxL ret hh).before args s = true) (hy : y.cls ≠ "java/lang/invoke/MethodHandle" ∧ y.cls ≠ "java/lang/invoke/VarHandle")
    {W9 : Nat} {Pre : Pt → Array Value → Prop} {Post : Pt → Array Value → Option Value → Pt → Prop} (hK : Back l R p e below s args y 3 W9 Pre Post)
    {b : Addr} {cellB : Cell} (hcell : T.heap[b]? = some cellB) (hobj : cellB.vm.isStatics = false) (hcls : s.vm.findClass C = some cellB.cls)
    {g : JFrame} (hg : g.method = m) (hsize : g.locals.size = c.maxLocals) {argsL rest : List Value} (hlen : ∀ sig, parseMethodDescriptor y.desc = some sig → argsL.length = sig.parameters.length)
    (hstack : g.stack = argsL.reverse ++ .ref b :: rest) (hW : 2 * g.monitorRoom + (rest.map fun v => v.category).sum ≤ W9) (hdg : decode c.code g.pc = .ok (.invokevirtual index, 3))
    (hpre : ∀ vm₁, s.WarmedH vm₁ → Pre ⟨T.setVm vm₁, locs, cells, slots⟩ (Value.ref b :: argsL).toArray) :
    ∃ (v : Option Value) (vm₁ : Vm) (B : Pt), s.WarmedH vm₁ ∧ Stand p l e R s m args below meth c B.U B.locs B.cells B.slots ∧ Post ⟨T.setVm vm₁, locs, cells, slots⟩ (Value.ref b :: argsL).toArray v B ∧
      ∀ target, Steps p.tables e below (B.U.setTop { g with pc := g.pc + 3, stack := v.toList ++ rest }) target → Steps p.tables e below (T.setTop g) target := by
  obtain ⟨mk, methM, hnamed, hmethM, hstM, habM⟩ := Cond.instanceMethod_spec hinst
  obtain ⟨m8, methM', cM, hn8, hmethM', -, -, -, -, -, -, hsigM⟩ := Cond.codeWith_spec hcode
  cases Option.some.inj (hn8.symm.trans hnamed)
  cases hmethM.symm.trans hmethM'
  obtain ⟨c2, r2, m2, q1, q2, q3, q4, kP, hkP, hkPi⟩ := Cond.selects_spec hsel
  cases hcls.symm.trans q1
  cases (State.methodFound?_of_named hnamed hy).symm.trans q2
  cases hnamed.symm.trans q3
  have hselP : selectMethod e.platform s.vm cellB.cls mk = .method mk := by rw [Launch.admits_selectMethod X.admits]; exact q4
  obtain ⟨vm₁, X₁, hstep₁⟩ := X.invokevirtual hexec hown hlink hnamed hmethM hstM hkP hkPi hy (a := b) (cell := cellB) hcell
    (fun z h => by rw [h] at hobj; cases hobj) hselP hmethM habM hkP hkPi (g := g) hg (argsL := argsL) (rest := rest) (hlen _ hsigM) hstack hdg
  obtain ⟨v, B, X', hpost, hsteps⟩ := hK m meth c ⟨T.setVm vm₁, locs, cells, slots⟩ { g with stack := rest } (.invokevirtual index) mk (Value.ref b :: argsL).toArray X₁ hg hsize hdg hW (X₁.named hnamed) (hpre vm₁ X₁.warmed)
  exact ⟨v, vm₁, B, X₁.warmed, X', hpost, fun target h => hstep₁ _ fun acts => by rw [doInvoke_state]; exact hsteps.trans h⟩
abbrev vx_CVW (R : Room) (s : State) (args : Array Value) (own C : String) (index : Nat) (y : MethodName) (bytes : ByteArray) (maxL : Nat) (ret : Option FieldType) (hh : List (Nat × Nat × Nat × Nat)) (ws : List Cond) (rm : Room) (mc ms n : Nat) : Prop :=
  (rm.cells = mc ∧ rm.slots = ms ∧ rm.frames + 1 ≤ R.frames ∧ 8 + (maxL + 11) + rm.locals ≤ R.locals ∧ (∀ w ∈ ws, ∀ (a' : Array Value) (U : State), s.WarmedH U.vm → w.before a' U = true) ∧ Cond.codeWith y bytes maxL ret hh ∈ ws) ∧
  (Cond.codeWith y bytes maxL ret hh).before args s = true ∧ (Cond.initialized y.cls).before args s = true ∧ (y.cls ≠ "java/lang/invoke/MethodHandle" ∧ y.cls ≠ "java/lang/invoke/VarHandle") ∧
  (∀ sig, parseMethodDescriptor y.desc = some sig → n = sig.parameters.length) ∧ (Cond.methodLink own index y).before args s = true ∧ (Cond.instanceMethod y).before args s = true ∧ (Cond.selects C y y).before args s = true
theorem vx_cwVW {own C : String} {index maxL mc ms : Nat} {y : MethodName} {bytes : ByteArray} {ret : Option FieldType} {hh : List (Nat × Nat × Nat × Nat)} {Ts ws ws' : List Cond} {rm : Room} (n : Nat) (ht : ∀ w ∈ Ts, w.before args s = true) (hT : GoodIn Ts (wsV own index C y ws)) (hw : ws = Cond.codeWith y bytes maxL ret hh :: ws') (hrc : rm.cells = mc) (hrs : rm.slots = ms)
    (hd : y.cls = C ∧ y.cls ≠ "java/lang/invoke/MethodHandle" ∧ y.cls ≠ "java/lang/invoke/VarHandle" ∧ (parseMethodDescriptor y.desc).map (fun d => d.parameters.length) = some n) (hR : rm.frames + 1 ≤ R.frames ∧ 8 + (maxL + 11) + rm.locals ≤ R.locals) :
    vx_CVW R s args own C index y bytes maxL ret hh ws rm mc ms n := by
  obtain ⟨hC, hd⟩ := hd
  subst hC
  have ok : ∀ w ∈ wsV own index y.cls y ws, w.before args s = true := fun w h => ht w (hT w h).1
  have hG : GoodIn Ts ws := fun w h => hT w (by unfold wsV; exact List.mem_append_right _ h)
  have hc : Cond.codeWith y bytes maxL ret hh ∈ ws := by rw [hw]; exact List.mem_cons_self
  refine ⟨⟨hrc, hrs, hR.1, hR.2, pay_in ht hG, hc⟩, ht _ (hG _ hc).1, ok _ (by simp [wsV]), ⟨hd.1, hd.2.1⟩, fun sig h => ?_, ok _ (by simp [wsV]), ok _ (by simp [wsV]), ok _ (by simp [wsV])⟩
  have h2 := hd.2.2
  rw [h] at h2
  exact (Option.some.inj h2).symm
theorem vx_runVW {y : MethodName} {bytes cc : ByteArray} {maxL nL mc ms n index : Nat} {ret : Option FieldType} {hh : List (Nat × Nat × Nat × Nat)} {ws : List Cond} {rm : Room} {Pc : Array Value → State → Prop} {Qc : Array Value → State → Outcome → State → Prop} {free : Addr → Prop} {Ts : List Cond} {own C : String} {b : Addr} {As rest : List Value} {g : JFrame}
    (S : CallFix p m c cc nL s args Ts own) (hM : Met l y ws rm Pc Qc mc ms free) (cw : vx_CVW R s args own C index y bytes maxL ret hh ws rm mc ms n) (hp : PreV s H C b Pc As)
    (hg : g.method = m) (hn : As.length = n) (hsize : g.locals.size = nL) (hstack : g.stack = As.reverse ++ .ref b :: rest) (hW : 2 * g.monitorRoom + (rest.map fun v => v.category).sum ≤ 8) (hdg : decode cc g.pc = .ok (.invokevirtual index, 3)) (hf : cells + mc ≤ R.cells ∧ slots + ms ≤ R.slots) :
    va_Run p l e R s m args below meth c H locs cells slots mc ms g rest (Qc (Value.ref b :: As).toArray) free := by
  obtain ⟨⟨hrc, hrs, hfr, hlo, hws, hcw⟩, hcode, hini, hy, hlen, hl, hin, hse⟩ := cw
  have hK : Back l R p e below s args y 3 8 (PreOf R mc ms Pc) (PostOf Qc mc ms free) := va_backW (hh := hh) (bytes := bytes) (maxL := maxL) (ret := ret) hM hp.1 hrc hrs hfr hlo hws hcw (fun a' U hW => word_at hW (Or.inl (by first | rfl | simp [Cond.onTables, Cond.keeps, Cond.steady])) hini)
  obtain ⟨hx, hb, hml, ho, -⟩ := S
  obtain ⟨-, ⟨cellB, hcB, hoB, hclB⟩, hPc⟩ := hp
  intro T hT X
  obtain ⟨v, vm₁, ⟨U', l2, c2, s2⟩, hW₁, X', ⟨g', mk, t, L, e1, e2, hq, h1, hL, h2, h3⟩, st⟩ := vx_callVW X hx (C := C) (hh := hh) (bytes := bytes) (maxL := maxL) (ret := ret) ho hl hin hse hcode hy hK (by rw [hT]; exact hcB) hoB hclB hg (hsize.trans hml.symm) (argsL := As) (rest := rest) (fun sig h => hn.trans (hlen sig h)) hstack hW (by rw [hb]; exact hdg)
    (fun vm₁ hW₁ => ⟨hf.1, hf.2, hPc (T.setVm vm₁) hT hW₁⟩)
  dsimp only [Pt.U, Pt.locs, Pt.cells, Pt.slots] at X' e1 e2 h1 h2 h3 st
  subst h1; subst h2; subst h3
  exact ⟨v, (T.setVm vm₁).calling g' mk (Value.ref b :: As).toArray, t, U', L, hT, X', hL, e1, e2, hq, st⟩
section
variable {y : MethodName} {bytes cc : ByteArray} {maxL nL mc ms n index : Nat} {ret : Option FieldType} {ws : List Cond} {rm : Room} {Pc : Array Value → State → Prop} {Qc : Array Value → State → Outcome → State → Prop} {XC : String → State → State → Prop} {free : Addr → Prop} {Ts : List Cond} {own C : String} {b : Addr} {As rest : List Value} {g : JFrame}
theorem vx_runVX {hh : List (Nat × Nat × Nat × Nat)} (S : CallFix p m c cc nL s args Ts own) (hM : vx_Met l y ws rm Pc Qc XC mc ms free) (cw : vx_CVW R s args own C index y bytes maxL ret hh ws rm mc ms n) (hp : PreV s H C b Pc As)
    (hg : g.method = m) (hn : As.length = n) (hsize : g.locals.size = nL) (hstack : g.stack = As.reverse ++ .ref b :: rest) (hW : 2 * g.monitorRoom + (rest.map fun v => v.category).sum ≤ 8) (hdg : decode cc g.pc = .ok (.invokevirtual index, 3)) (hf : cells + mc ≤ R.cells ∧ slots + ms ≤ R.slots) :
    vx_Run p l e R s m args below meth c H locs cells slots mc ms g rest (Qc (Value.ref b :: As).toArray) XC free := by
  obtain ⟨⟨hrc, hrs, hfr, hlo, hws, hcw⟩, hcode, hini, hy, hlen, hl, hin, hse⟩ := cw
  have hK : vx_Back l R p e below s args y 3 8 (PreOf R mc ms Pc) (PostOf Qc mc ms free) (vx_Post XC mc ms free) := vx_backW (hh := hh) (bytes := bytes) (maxL := maxL) (ret := ret) hM hp.1 hrc hrs hfr hlo hws hcw (fun a' U hW => word_at hW (Or.inl (by first | rfl | simp [Cond.onTables, Cond.keeps, Cond.steady])) hini)
  obtain ⟨hx, hb, hml, ho, -⟩ := S
  obtain ⟨-, ⟨cellB, hcB, hoB, hclB⟩, hPc⟩ := hp
  intro T hT X
  rcases vx_callVX X hx (C := C) (hh := hh) (bytes := bytes) (maxL := maxL) (ret := ret) ho hl hin hse hcode hy hK (by rw [hT]; exact hcB) hoB hclB hg (hsize.trans hml.symm) (argsL := As) (rest := rest) (fun sig h => hn.trans (hlen sig h)) hstack hW (by rw [hb]; exact hdg)
    (fun vm₁ hW₁ => ⟨hf.1, hf.2, hPc (T.setVm vm₁) hT hW₁⟩) with ⟨v, vm₁, ⟨U', l2, c2, s2⟩, hW₁, X', ⟨g', mk, t, L, e1, e2, hq, h1, hL, h2, h3⟩, st⟩ | ⟨q, vm₁, ⟨U', l2, c2, s2⟩, hW₁, X', ⟨g', mk, t, L, E, ce, e1, e2, hq, hce, hcv, hcl, h1, hL, h2, h3⟩, st⟩
  · dsimp only [Pt.U, Pt.locs, Pt.cells, Pt.slots] at X' e1 e2 h1 h2 h3 st
    subst h1; subst h2; subst h3
    exact Or.inl ⟨v, (T.setVm vm₁).calling g' mk (Value.ref b :: As).toArray, t, U', L, hT, X', hL, e1, e2, hq, st⟩
  · dsimp only [Pt.U, Pt.locs, Pt.cells, Pt.slots] at X' e1 e2 h1 h2 h3 st hcl
    subst h1; subst h2; subst h3
    exact Or.inr ⟨q, (T.setVm vm₁).calling g' mk (Value.ref b :: As).toArray, t, U', L, E, ce, hT, X', hL, e1, e2, hq, hce, hcv, vx_cls hW₁ hcl, st⟩
theorem vx_runSX {hh : List (Nat × Nat × Nat × Nat)} (S : CallFix p m c cc nL s args Ts own) (hM : vx_Met l y ws rm Pc Qc XC mc ms free) (cw : vx_CSW R s args own index y bytes maxL ret hh ws rm mc ms n) (hp : PreS s H Pc As)
    (hg : g.method = m) (hn : As.length = n) (hsize : g.locals.size = nL) (hstack : g.stack = As.reverse ++ rest) (hW : 2 * g.monitorRoom + (rest.map fun v => v.category).sum ≤ 8) (hdg : decode cc g.pc = .ok (.invokestatic index, 3)) (hf : cells + mc ≤ R.cells ∧ slots + ms ≤ R.slots) :
    vx_Run p l e R s m args below meth c H locs cells slots mc ms g rest (Qc As.toArray) XC free := by
  obtain ⟨⟨hrc, hrs, hfr, hlo, hws, hcw⟩, hcode, hini, hy, hlen, hl, hstt⟩ := cw
  have hK : vx_Back l R p e below s args y 3 8 (PreOf R mc ms Pc) (PostOf Qc mc ms free) (vx_Post XC mc ms free) := vx_backW (hh := hh) (bytes := bytes) (maxL := maxL) (ret := ret) hM hp.1 hrc hrs hfr hlo hws hcw (fun a' U hW => word_at hW (Or.inl (by first | rfl | simp [Cond.onTables, Cond.keeps, Cond.steady])) hini)
  obtain ⟨hx, hb, hml, ho, -⟩ := S
  intro T hT X
  rcases vx_callSX X hx (hh := hh) (bytes := bytes) (maxL := maxL) (ret := ret) ho hl hstt hini hcode hy hK hg (hsize.trans hml.symm) (argsL := As) (rest := rest) (fun sig h => hn.trans (hlen sig h)) hstack hW (by rw [hb]; exact hdg)
    (fun vm₁ hW₁ => ⟨hf.1, hf.2, hp.2 (T.setVm vm₁) hT hW₁⟩) with ⟨v, vm₁, ⟨U', l2, c2, s2⟩, hW₁, X', ⟨g', mk, t, L, e1, e2, hq, h1, hL, h2, h3⟩, st⟩ | ⟨q, vm₁, ⟨U', l2, c2, s2⟩, hW₁, X', ⟨g', mk, t, L, E, ce, e1, e2, hq, hce, hcv, hcl, h1, hL, h2, h3⟩, st⟩
  · dsimp only [Pt.U, Pt.locs, Pt.cells, Pt.slots] at X' e1 e2 h1 h2 h3 st
    subst h1; subst h2; subst h3
    exact Or.inl ⟨v, (T.setVm vm₁).calling g' mk As.toArray, t, U', L, hT, X', hL, e1, e2, hq, st⟩
  · dsimp only [Pt.U, Pt.locs, Pt.cells, Pt.slots] at X' e1 e2 h1 h2 h3 st hcl
    subst h1; subst h2; subst h3
    exact Or.inr ⟨q, (T.setVm vm₁).calling g' mk As.toArray, t, U', L, E, ce, hT, X', hL, e1, e2, hq, hce, hcv, vx_cls hW₁ hcl, st⟩
end
end VXH
theorem vx_ofWH {l : Launch} {y : MethodName} {ws ws' : List Cond} {rm : Room} {Pc : Array Value → State → Prop} {Qc : Array Value → State → Outcome → State → Prop} {XC : String → State → State → Prop} {mc ms : Nat} {free : Addr → Prop} {cc : ByteArray} {maxL : Nat} {ret : Option FieldType} {hh : List (Nat × Nat × Nat × Nat)}
    (hy : plainName y.cls = true) (hw : ws = Cond.codeWith y cc maxL ret hh :: ws')
    (body : ∀ p e s m args below meth c s₁, BodyLoose p l y (headSpec ws rm) cc maxL ret e s m args below meth c s₁ → c.maxLocals = maxL → Pc args s →
      W p l e (headSpec ws rm).room s m args below meth c s.heap [] 0 0 (vx_MQ below Qc XC args s mc ms free) (entryFrame m args maxL)) : vx_Met l y ws rm Pc Qc XC mc ms free := by
  refine MetFree.of_bodyS (code := cc) (maxLocals := maxL) (ret := ret) hy ?_ ?_
  · intro args s m h hn
    obtain ⟨m9, meth, c, hn9, h1, h2, h3, h4, -, h5, h6, -⟩ := Cond.codeWith_spec (atoms_spec (ws := ws) h _ (by rw [hw]; exact List.mem_cons_self))
    cases hn.symm.trans hn9
    exact ⟨meth, c, h1, h2, h3, h4, h5, h6⟩
  · intro p e s m args below meth c s₁ B hml hP _
    have hh0 : s₁.heap = s.heap := by rw [B.state]; rfl
    obtain ⟨t, a1, o, b1, b2, b3⟩ := body p e s m args below meth c s₁ B hml hP s₁ hh0 (Stand.of_body B)
    exact ⟨t, o, a1, b1, b2, b3⟩
/-! ===== END ===== -/
end
section
/-! The mathematics of the document, apart from any machine: lines, signs, truth that depends on signs alone, and why finitely many fractions are enough. -/
/-- two numbers have one sign -/
def qm_ss (r t : Rat) : Prop := (r < 0 ↔ t < 0) ∧ (r = 0 ↔ t = 0)
theorem qm_ss_rf (r : Rat) : qm_ss r r := ⟨Iff.rfl, Iff.rfl⟩
theorem qm_ss_sy {r t : Rat} (h : qm_ss r t) : qm_ss t r := ⟨h.1.symm, h.2.symm⟩
theorem qm_ss_tr {r t u : Rat} (h : qm_ss r t) (k : qm_ss t u) : qm_ss r u := ⟨h.1.trans k.1, h.2.trans k.2⟩
theorem qm_tri (r : Rat) : r < 0 ∨ r = 0 ∨ 0 < r := by grind
theorem qm_ss_pos {r t : Rat} (h : qm_ss r t) : 0 < r ↔ 0 < t := by
  obtain ⟨h1, h2⟩ := h
  rcases qm_tri r with a | a | a <;> rcases qm_tri t with b | b | b <;> grind
theorem qm_ss_le {r t : Rat} (h : qm_ss r t) : r ≤ 0 ↔ t ≤ 0 := by
  have h3 := qm_ss_pos h
  rcases qm_tri r with a | a | a <;> rcases qm_tri t with b | b | b <;> grind
theorem qm_ss_neg2 {r t : Rat} (h1 : r < 0) (h2 : t < 0) : qm_ss r t := ⟨⟨fun _ => h2, fun _ => h1⟩, ⟨fun h => by grind, fun h => by grind⟩⟩
theorem qm_ss_pos2 {r t : Rat} (h1 : 0 < r) (h2 : 0 < t) : qm_ss r t := ⟨⟨fun h => by grind, fun h => by grind⟩, ⟨fun h => by grind, fun h => by grind⟩⟩
theorem qm_ss_zero2 {r t : Rat} (h1 : r = 0) (h2 : t = 0) : qm_ss r t := by rw [h1, h2]; exact qm_ss_rf 0
theorem qm_mul_neg_neg {k r : Rat} (hk : k < 0) : k * r < 0 ↔ 0 < r := by
  have h : 0 < -k := by grind
  have h2 := Rat.mul_pos_iff_of_pos_left (b := r) h
  rw [Rat.neg_mul] at h2
  constructor
  · intro q
    exact h2.mp (by grind)
  · intro q
    have := h2.mpr q
    grind
theorem qm_ss_mul {k r t : Rat} (hk : k ≠ 0) (h : qm_ss r t) : qm_ss (k * r) (k * t) := by
  refine ⟨?_, ?_⟩
  · rcases qm_tri k with q | q | q
    · rw [qm_mul_neg_neg q, qm_mul_neg_neg q]
      exact qm_ss_pos h
    · exact absurd q hk
    · rw [Rat.mul_neg_iff_of_pos_left q, Rat.mul_neg_iff_of_pos_left q]
      exact h.1
  · rw [Rat.mul_eq_zero, Rat.mul_eq_zero]
    exact or_congr Iff.rfl h.2
theorem qm_ss_of_mul {k r t : Rat} (hk : k ≠ 0) (h : qm_ss (k * r) (k * t)) : qm_ss r t := by
  have h2 : k⁻¹ ≠ 0 := fun q => hk (by rw [← Rat.inv_inv k, q, Rat.inv_zero])
  have h3 := qm_ss_mul h2 h
  rw [← Rat.mul_assoc, ← Rat.mul_assoc, Rat.inv_mul_cancel k hk, Rat.one_mul, Rat.one_mul] at h3
  exact h3
/-- a line: a x + b y + c -/
def qm_at (L : Int × Int × Int) (x y : Rat) : Rat := (L.1 : Rat) * x + (L.2.1 : Rat) * y + (L.2.2 : Rat)
/-- the line with x and y exchanged -/
def qm_sw (L : Int × Int × Int) : Int × Int × Int := (L.2.1, L.1, L.2.2)
theorem qm_at_sw (L : Int × Int × Int) (x y : Rat) : qm_at (qm_sw L) y x = qm_at L x y := by
  unfold qm_at qm_sw
  dsimp only
  grind
/-- two points have the same signs on all lines; and so to any depth of quantifiers -/
def qm_E0 (Ls : List (Int × Int × Int)) (x y x' y' : Rat) : Prop := ∀ L ∈ Ls, qm_ss (qm_at L x y) (qm_at L x' y')
def qm_E (Ls : List (Int × Int × Int)) : Nat → Rat → Rat → Rat → Rat → Prop
  | 0, x, y, x', y' => qm_E0 Ls x y x' y'
  | n + 1, x, y, x', y' => qm_E0 Ls x y x' y' ∧ (∀ u, ∃ u', qm_E Ls n u y u' y') ∧ (∀ u', ∃ u, qm_E Ls n u y u' y') ∧ (∀ v, ∃ v', qm_E Ls n x v x' v') ∧ (∀ v', ∃ v, qm_E Ls n x v x' v')
theorem qm_E_dn {Ls : List (Int × Int × Int)} : ∀ (n : Nat) (x y x' y' : Rat), qm_E Ls (n + 1) x y x' y' → qm_E Ls n x y x' y'
  | 0, _, _, _, _, h => h.1
  | n + 1, _, _, _, _, h => ⟨h.1, fun u => (h.2.1 u).imp fun _ q => qm_E_dn n _ _ _ _ q, fun u => (h.2.2.1 u).imp fun _ q => qm_E_dn n _ _ _ _ q, fun u => (h.2.2.2.1 u).imp fun _ q => qm_E_dn n _ _ _ _ q, fun u => (h.2.2.2.2 u).imp fun _ q => qm_E_dn n _ _ _ _ q⟩
theorem qm_E_le {Ls : List (Int × Int × Int)} {n m : Nat} {x y x' y' : Rat} (h : n ≤ m) (k : qm_E Ls m x y x' y') : qm_E Ls n x y x' y' := by
  induction m with
  | zero => rw [Nat.le_zero.mp h]; exact k
  | succ m ih =>
    rcases Nat.lt_or_ge m n with q | q
    · have : n = m + 1 := by omega
      rw [this]; exact k
    · exact ih q (qm_E_dn m _ _ _ _ k)
theorem qm_E_sub {Ls Ms : List (Int × Int × Int)} (hs : ∀ L ∈ Ms, L ∈ Ls) : ∀ (n : Nat) (x y x' y' : Rat), qm_E Ls n x y x' y' → qm_E Ms n x y x' y'
  | 0, _, _, _, _, h => fun L hL => h L (hs L hL)
  | n + 1, _, _, _, _, h => ⟨fun L hL => h.1 L (hs L hL), fun u => (h.2.1 u).imp fun _ q => qm_E_sub hs n _ _ _ _ q, fun u => (h.2.2.1 u).imp fun _ q => qm_E_sub hs n _ _ _ _ q, fun u => (h.2.2.2.1 u).imp fun _ q => qm_E_sub hs n _ _ _ _ q, fun u => (h.2.2.2.2 u).imp fun _ q => qm_E_sub hs n _ _ _ _ q⟩
theorem qm_E_rf {Ls : List (Int × Int × Int)} : ∀ (n : Nat) (x y : Rat), qm_E Ls n x y x y
  | 0, _, _ => fun _ _ => qm_ss_rf _
  | n + 1, _, _ => ⟨fun _ _ => qm_ss_rf _, fun u => ⟨u, qm_E_rf n _ _⟩, fun u => ⟨u, qm_E_rf n _ _⟩, fun u => ⟨u, qm_E_rf n _ _⟩, fun u => ⟨u, qm_E_rf n _ _⟩⟩
theorem qm_E0_sw {Ls : List (Int × Int × Int)} {x y x' y' : Rat} (h : qm_E0 (Ls.map qm_sw) y x y' x') : qm_E0 Ls x y x' y' := by
  intro L hL
  have := h (qm_sw L) (List.mem_map_of_mem hL)
  rwa [qm_at_sw, qm_at_sw] at this
theorem qm_E_sw {Ls : List (Int × Int × Int)} : ∀ (n : Nat) (x y x' y' : Rat), qm_E (Ls.map qm_sw) n y x y' x' → qm_E Ls n x y x' y'
  | 0, _, _, _, _, h => qm_E0_sw h
  | n + 1, _, _, _, _, h => ⟨qm_E0_sw h.1, fun u => (h.2.2.2.1 u).imp fun _ q => qm_E_sw n _ _ _ _ q, fun u => (h.2.2.2.2 u).imp fun _ q => qm_E_sw n _ _ _ _ q, fun u => (h.2.1 u).imp fun _ q => qm_E_sw n _ _ _ _ q, fun u => (h.2.2.1 u).imp fun _ q => qm_E_sw n _ _ _ _ q⟩
/-- a truth that depends on the signs alone, to depth d -/
def qm_inv (Ls : List (Int × Int × Int)) (d : Nat) (P : Rat → Rat → Prop) : Prop := ∀ x y x' y', qm_E Ls d x y x' y' → (P x y ↔ P x' y')
theorem qm_inv_and {Ls Ms : List (Int × Int × Int)} {d e : Nat} {P Q : Rat → Rat → Prop} (h1 : qm_inv Ls d P) (h2 : qm_inv Ms e Q) : qm_inv (Ls ++ Ms) (max d e) (fun x y => P x y ∧ Q x y) := fun _ _ _ _ h =>
  and_congr (h1 _ _ _ _ (qm_E_le (Nat.le_max_left d e) (qm_E_sub (fun _ hL => List.mem_append_left _ hL) _ _ _ _ _ h))) (h2 _ _ _ _ (qm_E_le (Nat.le_max_right d e) (qm_E_sub (fun _ hL => List.mem_append_right _ hL) _ _ _ _ _ h)))
theorem qm_inv_or {Ls Ms : List (Int × Int × Int)} {d e : Nat} {P Q : Rat → Rat → Prop} (h1 : qm_inv Ls d P) (h2 : qm_inv Ms e Q) : qm_inv (Ls ++ Ms) (max d e) (fun x y => P x y ∨ Q x y) := fun _ _ _ _ h =>
  or_congr (h1 _ _ _ _ (qm_E_le (Nat.le_max_left d e) (qm_E_sub (fun _ hL => List.mem_append_left _ hL) _ _ _ _ _ h))) (h2 _ _ _ _ (qm_E_le (Nat.le_max_right d e) (qm_E_sub (fun _ hL => List.mem_append_right _ hL) _ _ _ _ _ h)))
theorem qm_inv_not {Ls : List (Int × Int × Int)} {d : Nat} {P : Rat → Rat → Prop} (h : qm_inv Ls d P) : qm_inv Ls d (fun x y => ¬ P x y) := fun _ _ _ _ k => not_congr (h _ _ _ _ k)
theorem qm_inv_sx {Ls : List (Int × Int × Int)} {d : Nat} {P : Rat → Rat → Prop} (h : qm_inv Ls d P) : qm_inv Ls (d + 1) (fun _ y => ∃ u, P u y) := fun _ _ _ _ k =>
  ⟨fun ⟨u, hu⟩ => (k.2.1 u).imp fun _ q => (h _ _ _ _ q).mp hu, fun ⟨u, hu⟩ => (k.2.2.1 u).imp fun _ q => (h _ _ _ _ q).mpr hu⟩
theorem qm_inv_sy {Ls : List (Int × Int × Int)} {d : Nat} {P : Rat → Rat → Prop} (h : qm_inv Ls d P) : qm_inv Ls (d + 1) (fun x _ => ∃ v, P x v) := fun _ _ _ _ k =>
  ⟨fun ⟨u, hu⟩ => (k.2.2.2.1 u).imp fun _ q => (h _ _ _ _ q).mp hu, fun ⟨u, hu⟩ => (k.2.2.2.2 u).imp fun _ q => (h _ _ _ _ q).mpr hu⟩
theorem qm_inv_ex {Ls : List (Int × Int × Int)} {d : Nat} {P : Rat → Rat → Prop} (h : qm_inv Ls d P) : qm_inv Ls (d + 1) (fun _ y => ∀ u, P u y) := fun _ _ _ _ k =>
  ⟨fun hu u => let ⟨w, q⟩ := k.2.2.1 u; (h _ _ _ _ q).mp (hu w), fun hu u => let ⟨w, q⟩ := k.2.1 u; (h _ _ _ _ q).mpr (hu w)⟩
theorem qm_inv_ey {Ls : List (Int × Int × Int)} {d : Nat} {P : Rat → Rat → Prop} (h : qm_inv Ls d P) : qm_inv Ls (d + 1) (fun x _ => ∀ v, P x v) := fun _ _ _ _ k =>
  ⟨fun hu u => let ⟨w, q⟩ := k.2.2.2.2 u; (h _ _ _ _ q).mp (hu w), fun hu u => let ⟨w, q⟩ := k.2.2.2.1 u; (h _ _ _ _ q).mpr (hu w)⟩
theorem qm_inv_sw {Ls : List (Int × Int × Int)} {d : Nat} {P : Rat → Rat → Prop} (h : qm_inv Ls d P) : qm_inv (Ls.map qm_sw) d (fun y x => P x y) := fun y x y' x' k => h x y x' y' (qm_E_sw d _ _ _ _ k)
/-- an atom's truth -/
def qm_atom (L : Int × Int × Int) (op : Nat) (x y : Rat) : Prop := if op = 0 then qm_at L x y = 0 else if op = 1 then qm_at L x y < 0 else qm_at L x y ≤ 0
theorem qm_inv_atom (L : Int × Int × Int) (op : Nat) : qm_inv [L] 0 (qm_atom L op) := by
  intro x y x' y' h
  have h1 : qm_ss (qm_at L x y) (qm_at L x' y') := h L (List.mem_singleton.mpr rfl)
  unfold qm_atom
  split
  · exact h1.2
  · split
    · exact h1.1
    · exact qm_ss_le h1
/-- something lies between all of lo and all of up -/
theorem qm_max : ∀ (l : List Rat), l = [] ∨ ∃ m ∈ l, ∀ a ∈ l, a ≤ m
  | [] => Or.inl rfl
  | b :: l => by
    refine Or.inr ?_
    rcases qm_max l with h | ⟨m, hm, h⟩
    · subst h
      exact ⟨b, List.mem_cons_self, fun a ha => by rw [List.mem_singleton.mp ha]; exact Rat.le_refl⟩
    · rcases Rat.le_total (a := b) (b := m) with q | q
      · refine ⟨m, List.mem_cons_of_mem _ hm, fun a ha => ?_⟩
        rcases List.mem_cons.mp ha with e | e
        · rw [e]; exact q
        · exact h a e
      · refine ⟨b, List.mem_cons_self, fun a ha => ?_⟩
        rcases List.mem_cons.mp ha with e | e
        · rw [e]; exact Rat.le_refl
        · exact Rat.le_trans (h a e) q
theorem qm_min : ∀ (l : List Rat), l = [] ∨ ∃ m ∈ l, ∀ a ∈ l, m ≤ a
  | [] => Or.inl rfl
  | b :: l => by
    refine Or.inr ?_
    rcases qm_min l with h | ⟨m, hm, h⟩
    · subst h
      exact ⟨b, List.mem_cons_self, fun a ha => by rw [List.mem_singleton.mp ha]; exact Rat.le_refl⟩
    · rcases Rat.le_total (a := m) (b := b) with q | q
      · refine ⟨m, List.mem_cons_of_mem _ hm, fun a ha => ?_⟩
        rcases List.mem_cons.mp ha with e | e
        · rw [e]; exact q
        · exact h a e
      · refine ⟨b, List.mem_cons_self, fun a ha => ?_⟩
        rcases List.mem_cons.mp ha with e | e
        · rw [e]; exact Rat.le_refl
        · exact Rat.le_trans q (h a e)
theorem qm_mid {a b : Rat} (h : a < b) : ∃ c, a < c ∧ c < b := by
  have h1 : (0 : Rat) < 2 := by decide
  refine ⟨(a + b) / 2, ?_, ?_⟩
  · rw [Rat.lt_div_iff h1]
    grind
  · rw [Rat.div_lt_iff h1]
    grind
theorem qm_between (lo up : List Rat) (h : ∀ a ∈ lo, ∀ b ∈ up, a < b) : ∃ v, (∀ a ∈ lo, a < v) ∧ ∀ b ∈ up, v < b := by
  rcases qm_max lo with e1 | ⟨m, hm, h1⟩
  · subst e1
    rcases qm_min up with e2 | ⟨n, hn, h2⟩
    · subst e2
      exact ⟨0, fun a ha => (by cases ha), fun a ha => (by cases ha)⟩
    · exact ⟨n - 1, fun a ha => (by cases ha), fun b hb => (by have := h2 b hb; grind)⟩
  · rcases qm_min up with e2 | ⟨n, hn, h2⟩
    · subst e2
      exact ⟨m + 1, fun a ha => (by have := h1 a ha; grind), fun a ha => (by cases ha)⟩
    · obtain ⟨v, v1, v2⟩ := qm_mid (h m hm n hn)
      exact ⟨v, fun a ha => (by have := h1 a ha; grind), fun b hb => (by have := h2 b hb; grind)⟩
/-- what is left of a line at x when y is away -/
def qm_A (L : Int × Int × Int) (x : Rat) : Rat := (L.1 : Rat) * x + (L.2.2 : Rat)
/-- above 0, 0, below 0 as two lines lie at x: where they meet it is 0 -/
def qm_D (L M : Int × Int × Int) (x : Rat) : Rat := (M.2.1 : Rat) * qm_A L x - (L.2.1 : Rat) * qm_A M x
theorem qm_at_A (L : Int × Int × Int) (x y : Rat) : qm_at L x y = (L.2.1 : Rat) * y + qm_A L x := by unfold qm_at qm_A; grind
/-- where the order of the lines over x and over x' is one, each point over x has its like over x' -/
theorem qm_forth {Ls : List (Int × Int × Int)} {x x' : Rat} (hD : ∀ L ∈ Ls, ∀ M ∈ Ls, qm_ss (qm_D L M x) (qm_D L M x')) (hV : ∀ L ∈ Ls, L.2.1 = 0 → qm_ss (qm_A L x) (qm_A L x')) (y : Rat) : ∃ y', qm_E0 Ls x y x' y' := by
  by_cases hz : ∃ L ∈ Ls, L.2.1 ≠ 0 ∧ qm_at L x y = 0
  · obtain ⟨L, hL, hb, h0⟩ := hz
    have hb' : (L.2.1 : Rat) ≠ 0 := fun q => hb (Rat.intCast_eq_zero_iff.mp q)
    refine ⟨-(qm_A L x') / (L.2.1 : Rat), fun M hM => ?_⟩
    have e0 : (L.2.1 : Rat) * y = - qm_A L x := by rw [qm_at_A] at h0; grind
    have e1 : (L.2.1 : Rat) * (-(qm_A L x') / (L.2.1 : Rat)) = - qm_A L x' := by rw [Rat.mul_comm]; exact Rat.div_mul_cancel hb'
    have k0 : (L.2.1 : Rat) * qm_at M x y = (-1) * qm_D L M x := by
      rw [qm_at_A]; unfold qm_D
      have : (L.2.1 : Rat) * ((M.2.1 : Rat) * y + qm_A M x) = (M.2.1 : Rat) * ((L.2.1 : Rat) * y) + (L.2.1 : Rat) * qm_A M x := by grind
      rw [this, e0]; grind
    have k1 : (L.2.1 : Rat) * qm_at M x' (-(qm_A L x') / (L.2.1 : Rat)) = (-1) * qm_D L M x' := by
      rw [qm_at_A]; unfold qm_D
      have : (L.2.1 : Rat) * ((M.2.1 : Rat) * (-(qm_A L x') / (L.2.1 : Rat)) + qm_A M x') = (M.2.1 : Rat) * ((L.2.1 : Rat) * (-(qm_A L x') / (L.2.1 : Rat))) + (L.2.1 : Rat) * qm_A M x' := by grind
      rw [this, e1]; grind
    refine qm_ss_of_mul hb' ?_
    rw [k0, k1]
    exact qm_ss_mul (by decide) (hD L hL M hM)
  · have hn : ∀ L ∈ Ls, L.2.1 ≠ 0 → qm_at L x y ≠ 0 := fun L hL hb h0 => hz ⟨L, hL, hb, h0⟩
    have hgap : ∀ L ∈ Ls, L.2.1 ≠ 0 → ∀ z : Rat, (L.2.1 : Rat) * (y - -(qm_A L x) / (L.2.1 : Rat)) = qm_at L x y ∧ (L.2.1 : Rat) * (z - -(qm_A L x') / (L.2.1 : Rat)) = qm_at L x' z := by
      intro L hL hb z
      have hb' : (L.2.1 : Rat) ≠ 0 := fun q => hb (Rat.intCast_eq_zero_iff.mp q)
      have e1 : ∀ w : Rat, (L.2.1 : Rat) * (-w / (L.2.1 : Rat)) = - w := fun w => by rw [Rat.mul_comm]; exact Rat.div_mul_cancel hb'
      rw [qm_at_A, qm_at_A]
      have a1 := e1 (qm_A L x)
      have a2 := e1 (qm_A L x')
      constructor <;> grind
    obtain ⟨v, hv1, hv2⟩ := qm_between ((Ls.filter (fun L => decide (L.2.1 ≠ 0 ∧ -(qm_A L x) / (L.2.1 : Rat) < y))).map (fun L => -(qm_A L x') / (L.2.1 : Rat))) ((Ls.filter (fun L => decide (L.2.1 ≠ 0 ∧ y < -(qm_A L x) / (L.2.1 : Rat)))).map (fun L => -(qm_A L x') / (L.2.1 : Rat))) (by
      intro a ha b hb
      obtain ⟨L, hL, rfl⟩ := List.mem_map.mp ha
      obtain ⟨M, hM, rfl⟩ := List.mem_map.mp hb
      obtain ⟨hL, hL2⟩ := List.mem_filter.mp hL
      obtain ⟨hM, hM2⟩ := List.mem_filter.mp hM
      obtain ⟨bL, yL⟩ := of_decide_eq_true hL2
      obtain ⟨bM, yM⟩ := of_decide_eq_true hM2
      have bL' : (L.2.1 : Rat) ≠ 0 := fun q => bL (Rat.intCast_eq_zero_iff.mp q)
      have bM' : (M.2.1 : Rat) ≠ 0 := fun q => bM (Rat.intCast_eq_zero_iff.mp q)
      have hk : ((L.2.1 : Rat) * (M.2.1 : Rat)) ≠ 0 := fun q => (Rat.mul_eq_zero.mp q).elim bL' bM'
      have key : ∀ w : Rat, ((L.2.1 : Rat) * (M.2.1 : Rat)) * (-(qm_A M w) / (M.2.1 : Rat) - -(qm_A L w) / (L.2.1 : Rat)) = qm_D L M w := by
        intro w
        have f1 : (L.2.1 : Rat) * (-(qm_A L w) / (L.2.1 : Rat)) = - qm_A L w := by rw [Rat.mul_comm]; exact Rat.div_mul_cancel bL'
        have f2 : (M.2.1 : Rat) * (-(qm_A M w) / (M.2.1 : Rat)) = - qm_A M w := by rw [Rat.mul_comm]; exact Rat.div_mul_cancel bM'
        unfold qm_D
        have : ((L.2.1 : Rat) * (M.2.1 : Rat)) * (-(qm_A M w) / (M.2.1 : Rat) - -(qm_A L w) / (L.2.1 : Rat)) = (L.2.1 : Rat) * ((M.2.1 : Rat) * (-(qm_A M w) / (M.2.1 : Rat))) - (M.2.1 : Rat) * ((L.2.1 : Rat) * (-(qm_A L w) / (L.2.1 : Rat))) := by grind
        rw [this, f1, f2]; grind
      have h1 : qm_ss (-(qm_A M x) / (M.2.1 : Rat) - -(qm_A L x) / (L.2.1 : Rat)) (-(qm_A M x') / (M.2.1 : Rat) - -(qm_A L x') / (L.2.1 : Rat)) := by
        refine qm_ss_of_mul hk ?_
        rw [key, key]
        exact hD L hL M hM
      have h2 := (qm_ss_pos h1).mp (by grind)
      grind)
    refine ⟨v, fun L hL => ?_⟩
    by_cases hb : L.2.1 = 0
    · have h1 := hV L hL hb
      rw [qm_at_A, qm_at_A, hb]
      have e1 : ∀ w z : Rat, ((0 : Int) : Rat) * w + z = z := fun w z => by rw [Rat.intCast_zero]; grind
      rw [e1, e1]
      exact h1
    · have hb' : (L.2.1 : Rat) ≠ 0 := fun q => hb (Rat.intCast_eq_zero_iff.mp q)
      obtain ⟨g1, g2⟩ := hgap L hL hb v
      have g3 := hn L hL hb
      rw [← g1, ← g2]
      refine qm_ss_mul hb' ?_
      have hne : y - -(qm_A L x) / (L.2.1 : Rat) ≠ 0 := fun q => g3 (by rw [← g1, q, Rat.mul_zero])
      rcases qm_tri (y - -(qm_A L x) / (L.2.1 : Rat)) with c | c | c
      · have := hv2 (-(qm_A L x') / (L.2.1 : Rat)) (List.mem_map.mpr ⟨L, List.mem_filter.mpr ⟨hL, decide_eq_true ⟨hb, by grind⟩⟩, rfl⟩)
        exact qm_ss_neg2 c (by grind)
      · exact absurd c hne
      · have := hv1 (-(qm_A L x') / (L.2.1 : Rat)) (List.mem_map.mpr ⟨L, List.mem_filter.mpr ⟨hL, decide_eq_true ⟨hb, by grind⟩⟩, rfl⟩)
        exact qm_ss_pos2 c (by grind)
/-- a linear function keeps its sign where no mark lies between, if its root is a mark -/
theorem qm_lin {p q x x' : Rat} (h : p ≠ 0 → ∃ m : Rat, p * m + q = 0 ∧ qm_ss (x - m) (x' - m)) : qm_ss (p * x + q) (p * x' + q) := by
  by_cases hp : p = 0
  · rw [hp, Rat.zero_mul, Rat.zero_mul]
    exact qm_ss_rf _
  · obtain ⟨m, hm, hs⟩ := h hp
    have e1 : ∀ w : Rat, p * w + q = p * (w - m) := fun w => by grind
    rw [e1, e1]
    exact qm_ss_mul hp hs
/-- the marks mk hold every place where, with y given, a line is 0 -/
def qm_cov0 (Ls : List (Int × Int × Int)) (y : Rat) (mk : Rat → Prop) : Prop := ∀ L ∈ Ls, L.1 ≠ 0 → ∃ m, mk m ∧ qm_at L m y = 0
/-- .. and every place where two lines meet -/
def qm_cov1 (Ls : List (Int × Int × Int)) (mk : Rat → Prop) : Prop := ∀ L ∈ Ls, ∀ M ∈ Ls, M.2.1 * L.1 - L.2.1 * M.1 ≠ 0 → ∃ m, mk m ∧ qm_D L M m = 0
theorem qm_cell0 {Ls : List (Int × Int × Int)} {y x x' : Rat} {mk : Rat → Prop} (h0 : qm_cov0 Ls y mk) (hc : ∀ m, mk m → qm_ss (x - m) (x' - m)) : qm_E0 Ls x y x' y := by
  intro L hL
  have e : ∀ w, qm_at L w y = (L.1 : Rat) * w + ((L.2.1 : Rat) * y + (L.2.2 : Rat)) := fun w => by unfold qm_at; grind
  rw [e, e]
  refine qm_lin fun hp => ?_
  obtain ⟨m, hm, h⟩ := h0 L hL (fun q => hp (by rw [q]; rfl))
  exact ⟨m, by rw [← e]; exact h, hc m hm⟩
theorem qm_cell1 {Ls : List (Int × Int × Int)} {y x x' : Rat} {mk : Rat → Prop} (h0 : qm_cov0 Ls y mk) (h1 : qm_cov1 Ls mk) (hc : ∀ m, mk m → qm_ss (x - m) (x' - m)) : qm_E Ls 1 x y x' y := by
  have hE := qm_cell0 h0 hc
  have hD : ∀ L ∈ Ls, ∀ M ∈ Ls, qm_ss (qm_D L M x) (qm_D L M x') := by
    intro L hL M hM
    have e : ∀ w, qm_D L M w = ((M.2.1 * L.1 - L.2.1 * M.1 : Int) : Rat) * w + ((M.2.1 * L.2.2 - L.2.1 * M.2.2 : Int) : Rat) := fun w => by
      unfold qm_D qm_A
      rw [Rat.intCast_sub, Rat.intCast_sub, Rat.intCast_mul, Rat.intCast_mul, Rat.intCast_mul, Rat.intCast_mul]
      grind
    rw [e, e]
    refine qm_lin fun hp => ?_
    obtain ⟨m, hm, h⟩ := h1 L hL M hM (fun q => hp (by rw [q]; rfl))
    exact ⟨m, by rw [← e]; exact h, hc m hm⟩
  have hV : ∀ L ∈ Ls, L.2.1 = 0 → qm_ss (qm_A L x) (qm_A L x') := by
    intro L hL hb
    have h := hE L hL
    rw [qm_at_A, qm_at_A, hb] at h
    have e1 : ∀ w z : Rat, ((0 : Int) : Rat) * w + z = z := fun w z => by rw [Rat.intCast_zero]; grind
    rw [e1, e1] at h
    exact h
  exact ⟨hE, fun u => ⟨u, fun _ _ => qm_ss_rf _⟩, fun u => ⟨u, fun _ _ => qm_ss_rf _⟩, fun v => qm_forth hD hV v, fun v => (qm_forth (fun L hL M hM => qm_ss_sy (hD L hL M hM)) (fun L hL hb => qm_ss_sy (hV L hL hb)) v).imp fun _ q L hL => qm_ss_sy (q L hL)⟩
theorem qm_same {Ls : List (Int × Int × Int)} {d : Nat} {P : Rat → Rat → Prop} {y x x' : Rat} {mk : Rat → Prop} (hi : qm_inv Ls d P) (hd : d ≤ 1) (h0 : qm_cov0 Ls y mk) (h1 : d = 1 → qm_cov1 Ls mk) (hc : ∀ m, mk m → qm_ss (x - m) (x' - m)) : P x y ↔ P x' y := by
  rcases (show d = 0 ∨ d = 1 by omega) with e | e
  · subst e
    exact hi _ _ _ _ (qm_cell0 h0 hc)
  · subst e
    exact hi _ _ _ _ (qm_cell1 h0 (h1 rfl) hc)
/-- rising marks M 0 .. M (n - 1); the stops: each mark, and one fraction ahead of, between and behind them -/
def qm_inc (M : Nat → Rat) (n : Nat) : Prop := ∀ i j, i < j → j < n → M i < M j
def qm_stops (M : Nat → Rat) (n : Nat) (st : Nat → Rat) : Prop := ∀ k, k ≤ n → (k < n → st (2 * k + 1) = M k) ∧ (∀ j, j < k → M j < st (2 * k)) ∧ (∀ j, k ≤ j → j < n → st (2 * k) < M j)
theorem qm_place (M : Nat → Rat) (x : Rat) : ∀ n, qm_inc M n → ∃ k, k ≤ n ∧ (∀ j, j < k → M j < x) ∧ (∀ j, k ≤ j → j < n → x ≤ M j)
  | 0, _ => ⟨0, Nat.le_refl 0, fun j h => absurd h (Nat.not_lt_zero j), fun j _ h => absurd h (Nat.not_lt_zero j)⟩
  | n + 1, hi => by
    obtain ⟨k, hk, h1, h2⟩ := qm_place M x n (fun i j h h' => hi i j h (by omega))
    rcases Nat.lt_or_ge k n with q | q
    · refine ⟨k, by omega, h1, fun j a b => ?_⟩
      rcases Nat.lt_or_ge j n with c | c
      · exact h2 j a c
      · have e : j = n := by omega
        subst e
        exact Rat.le_trans (h2 k (Nat.le_refl k) q) (Rat.le_of_lt (hi k j q (by omega)))
    · have e : k = n := by omega
      subst e
      rcases Rat.le_total (a := x) (b := M k) with c | c
      · refine ⟨k, by omega, h1, fun j a b => ?_⟩
        have e : j = k := by omega
        subst e
        exact c
      · by_cases e : x = M k
        · refine ⟨k, by omega, h1, fun j a b => ?_⟩
          have e2 : j = k := by omega
          subst e2
          rw [e]; exact Rat.le_refl
        · refine ⟨k + 1, by omega, fun j a => ?_, fun j a b => by omega⟩
          rcases Nat.lt_or_ge j k with d | d
          · exact h1 j d
          · have e2 : j = k := by omega
            subst e2
            exact Rat.lt_of_le_of_ne c (fun q => e q.symm)
theorem qm_stop {M : Nat → Rat} {n : Nat} {st : Nat → Rat} (hi : qm_inc M n) (hs : qm_stops M n st) (x : Rat) : ∃ s, s < 2 * n + 1 ∧ ∀ j, j < n → qm_ss (x - M j) (st s - M j) := by
  obtain ⟨k, hk, h1, h2⟩ := qm_place M x n hi
  by_cases h : k < n ∧ x = M k
  · refine ⟨2 * k + 1, by omega, fun j _ => ?_⟩
    rw [((hs k hk).1 h.1), h.2]
    exact qm_ss_rf _
  · refine ⟨2 * k, by omega, fun j hj => ?_⟩
    obtain ⟨-, s1, s2⟩ := hs k hk
    rcases Nat.lt_or_ge j k with c | c
    · have a := h1 j c
      have b := s1 j c
      exact qm_ss_pos2 (by grind) (by grind)
    · have b := s2 j c hj
      have a : x < M j := by
        have hkn : k < n := by omega
        have hne : x ≠ M k := fun q => h ⟨hkn, q⟩
        have a0 : x < M k := Rat.lt_of_le_of_ne (h2 k (Nat.le_refl k) hkn) hne
        rcases Nat.lt_or_ge k j with d | d
        · have := hi k j d hj
          grind
        · have e : j = k := by omega
          rw [e]; exact a0
      exact qm_ss_neg2 (by grind) (by grind)
theorem qm_some {Ls : List (Int × Int × Int)} {d : Nat} {P : Rat → Rat → Prop} {y : Rat} {M st : Nat → Rat} {n : Nat} (hi : qm_inv Ls d P) (hd : d ≤ 1) (hM : qm_inc M n) (hs : qm_stops M n st) (h0 : qm_cov0 Ls y (fun m => ∃ j, j < n ∧ m = M j)) (h1 : d = 1 → qm_cov1 Ls (fun m => ∃ j, j < n ∧ m = M j)) : (∃ u, P u y) ↔ ∃ s, s < 2 * n + 1 ∧ P (st s) y := by
  constructor
  · intro ⟨u, hu⟩
    obtain ⟨s, a, b⟩ := qm_stop hM hs u
    exact ⟨s, a, (qm_same hi hd h0 h1 (fun m ⟨j, hj, e⟩ => by rw [e]; exact b j hj)).mp hu⟩
  · intro ⟨s, _, h⟩
    exact ⟨_, h⟩
theorem qm_every {Ls : List (Int × Int × Int)} {d : Nat} {P : Rat → Rat → Prop} {y : Rat} {M st : Nat → Rat} {n : Nat} (hi : qm_inv Ls d P) (hd : d ≤ 1) (hM : qm_inc M n) (hs : qm_stops M n st) (h0 : qm_cov0 Ls y (fun m => ∃ j, j < n ∧ m = M j)) (h1 : d = 1 → qm_cov1 Ls (fun m => ∃ j, j < n ∧ m = M j)) : (∀ u, P u y) ↔ ∀ s, s < 2 * n + 1 → P (st s) y := by
  constructor
  · intro h s _
    exact h _
  · intro h u
    obtain ⟨s, a, b⟩ := qm_stop hM hs u
    exact (qm_same hi hd h0 h1 (fun m ⟨j, hj, e⟩ => by rw [e]; exact b j hj)).mpr (h s a)
/-- a fraction out of two whole numbers -/
def qm_fr (u d : Int) : Rat := (u : Rat) / (d : Rat)
theorem qm_fr_mul {u d : Int} (hd : 0 < d) : (d : Rat) * qm_fr u d = (u : Rat) := by
  have h : (d : Rat) ≠ 0 := fun q => by have := Rat.intCast_eq_zero_iff.mp q; omega
  unfold qm_fr
  rw [Rat.mul_comm]
  exact Rat.div_mul_cancel h
theorem qm_fr_pos {d : Int} (hd : 0 < d) : (0 : Rat) < (d : Rat) := Rat.intCast_pos.mpr hd
theorem qm_fr_lt {u d v e : Int} (hd : 0 < d) (he : 0 < e) : qm_fr u d < qm_fr v e ↔ u * e < v * d := by
  have h1 := qm_fr_mul (u := u) hd
  have h2 := qm_fr_mul (u := v) he
  have p1 := qm_fr_pos hd
  have p2 := qm_fr_pos he
  have p : (0 : Rat) < (d : Rat) * (e : Rat) := Rat.mul_pos p1 p2
  rw [← Rat.intCast_lt_intCast, Rat.intCast_mul, Rat.intCast_mul, ← Rat.mul_lt_mul_left p]
  have a1 : (d : Rat) * (e : Rat) * qm_fr u d = (u : Rat) * (e : Rat) := by rw [← h1]; grind
  have a2 : (d : Rat) * (e : Rat) * qm_fr v e = (v : Rat) * (d : Rat) := by rw [← h2]; grind
  rw [a1, a2]
theorem qm_fr_eq {u d v e : Int} (hd : 0 < d) (he : 0 < e) : qm_fr u d = qm_fr v e ↔ u * e = v * d := by
  have h1 := qm_fr_lt (u := u) (v := v) hd he
  have h2 := qm_fr_lt (u := v) (v := u) he hd
  constructor
  · intro h
    have a : ¬ u * e < v * d := fun q => by have := h1.mpr q; grind
    have b : ¬ v * d < u * e := fun q => by have := h2.mpr q; grind
    omega
  · intro h
    have a : ¬ qm_fr u d < qm_fr v e := fun q => by have := h1.mp q; omega
    have b : ¬ qm_fr v e < qm_fr u d := fun q => by have := h2.mp q; omega
    grind
theorem qm_fr_int (u : Int) : qm_fr u 1 = (u : Rat) := by
  have h := qm_fr_mul (u := u) (d := 1) (by decide)
  rw [Rat.intCast_one, Rat.one_mul] at h
  exact h
/-- the sum whose sign an atom asks for -/
theorem qm_at_fr (L : Int × Int × Int) {u d v e : Int} (hd : 0 < d) (he : 0 < e) : ((d * e : Int) : Rat) * qm_at L (qm_fr u d) (qm_fr v e) = ((L.1 * u * e + L.2.1 * v * d + L.2.2 * d * e : Int) : Rat) := by
  have h1 := qm_fr_mul (u := u) hd
  have h2 := qm_fr_mul (u := v) he
  unfold qm_at
  simp only [Rat.intCast_add, Rat.intCast_mul]
  rw [← h1, ← h2]
  grind
theorem qm_at_ss (L : Int × Int × Int) {u d v e : Int} (hd : 0 < d) (he : 0 < e) : qm_ss (qm_at L (qm_fr u d) (qm_fr v e)) ((L.1 * u * e + L.2.1 * v * d + L.2.2 * d * e : Int) : Rat) := by
  have h := qm_at_fr L hd he (u := u) (v := v)
  have p : 0 < d * e := Int.mul_pos hd he
  have hp : (0 : Rat) < ((d * e : Int) : Rat) := qm_fr_pos p
  rw [← h]
  refine ⟨(Rat.mul_neg_iff_of_pos_left hp).symm, ?_⟩
  rw [Rat.mul_eq_zero]
  constructor
  · exact Or.inr
  · intro q
    rcases q with q | q
    · rw [q] at hp; exact absurd hp Rat.lt_irrefl
    · exact q
end
section
/-! A set of fractions as a row of pieces: an end is nothing, or a fraction that belongs to the piece or doesn't. The row is determined by the set. -/
def qp_lo (l : Option (Rat × Bool)) (x : Rat) : Prop := ∀ v b, l = some (v, b) → v < x ∨ (b = true ∧ x = v)
def qp_hi (r : Option (Rat × Bool)) (x : Rat) : Prop := ∀ v b, r = some (v, b) → x < v ∨ (b = true ∧ x = v)
def qp_in (l r : Option (Rat × Bool)) (x : Rat) : Prop := qp_lo l x ∧ qp_hi r x
/-- the n pieces from L k to R k, left to right, are S; none is empty; something that isn't in S lies between two -/
def qp_sys (S : Rat → Prop) (n : Nat) (L R : Nat → Option (Rat × Bool)) : Prop :=
  (∀ x, S x ↔ ∃ k, k < n ∧ qp_in (L k) (R k) x) ∧ (∀ k, k < n → ∃ x, qp_in (L k) (R k) x) ∧
  ∀ j k, j < k → k < n → ∀ x y, qp_in (L j) (R j) x → qp_in (L k) (R k) y → x < y ∧ ∃ z, x < z ∧ z < y ∧ ¬ S z
theorem qp_lo_up {l : Option (Rat × Bool)} {x y : Rat} (h : qp_lo l x) (hy : x < y) : qp_lo l y := by
  intro v b e
  rcases h v b e with q | ⟨-, q⟩
  · exact Or.inl (by grind)
  · exact Or.inl (by grind)
theorem qp_hi_dn {r : Option (Rat × Bool)} {x y : Rat} (h : qp_hi r x) (hy : y < x) : qp_hi r y := by
  intro v b e
  rcases h v b e with q | ⟨-, q⟩
  · exact Or.inl (by grind)
  · exact Or.inl (by grind)
theorem qp_conv {l r : Option (Rat × Bool)} {x y z : Rat} (hx : qp_in l r x) (hy : qp_in l r y) (h1 : x < z) (h2 : z < y) : qp_in l r z := ⟨qp_lo_up hx.1 h1, qp_hi_dn hy.2 h2⟩
theorem qp_uniq1 {S : Rat → Prop} {n n' : Nat} {L R L' R' : Nat → Option (Rat × Bool)} (h : qp_sys S n L R) (h' : qp_sys S n' L' R') (k : Nat) (hk : k < n)
    (ih : ∀ i, i < k → i < n' ∧ ∀ x, qp_in (L i) (R i) x ↔ qp_in (L' i) (R' i) x) (ihn : ∀ i, i < k → i < n) (hk' : k < n') (x : Rat) (hx : qp_in (L k) (R k) x) : qp_in (L' k) (R' k) x := by
  obtain ⟨h1, h2, h3⟩ := h
  obtain ⟨h1', h2', h3'⟩ := h'
  obtain ⟨j, hj, hjx⟩ := (h1' x).mp ((h1 x).mpr ⟨k, hk, hx⟩)
  rcases Nat.lt_or_ge j k with c | c
  · have hjj := ((ih j c).2 x).mpr hjx
    have := (h3 j k c hk x x hjj hx).1
    exact absurd this Rat.lt_irrefl
  · rcases Nat.lt_or_ge k j with d | d
    · obtain ⟨x', hx'⟩ := h2' k hk'
      obtain ⟨i, hi, hix⟩ := (h1 x').mp ((h1' x').mpr ⟨k, hk', hx'⟩)
      obtain ⟨lt, z, z1, z2, z3⟩ := h3' k j d hj x' x hx' hjx
      rcases Nat.lt_or_ge i k with e | e
      · have hii := ((ih i e).2 x').mp hix
        have := (h3' i k e hk' x' x' hii hx').1
        exact absurd this Rat.lt_irrefl
      · rcases Nat.lt_or_ge k i with f | f
        · have := (h3 k i f hi x x' hx hix).1
          exact absurd (show x' < x' by grind) Rat.lt_irrefl
        · have e2 : i = k := by omega
          subst e2
          exact absurd ((h1 z).mpr ⟨i, hk, qp_conv hix hx z1 z2⟩) z3
    · have e2 : j = k := by omega
      subst e2
      exact hjx
theorem qp_uniq {S : Rat → Prop} {n n' : Nat} {L R L' R' : Nat → Option (Rat × Bool)} (h : qp_sys S n L R) (h' : qp_sys S n' L' R') : ∀ k, k < n → k < n' ∧ ∀ x, qp_in (L k) (R k) x ↔ qp_in (L' k) (R' k) x := by
  intro k
  induction k using Nat.strongRecOn with
  | ind k ih =>
    intro hk
    have ih1 : ∀ i, i < k → i < n' ∧ ∀ x, qp_in (L i) (R i) x ↔ qp_in (L' i) (R' i) x := fun i hi => ih i hi (by omega)
    have hk' : k < n' := by
      obtain ⟨x, hx⟩ := h.2.1 k hk
      obtain ⟨j, hj, hjx⟩ := (h'.1 x).mp ((h.1 x).mpr ⟨k, hk, hx⟩)
      rcases Nat.lt_or_ge j k with c | c
      · have hjj := ((ih1 j c).2 x).mpr hjx
        have := (h.2.2 j k c hk x x hjj hx).1
        exact absurd this Rat.lt_irrefl
      · omega
    refine ⟨hk', fun x => ⟨fun hx => qp_uniq1 h h' k hk ih1 (fun i hi => by omega) hk' x hx, fun hx => qp_uniq1 h' h k hk' (fun i hi => ⟨by omega, fun x => ((ih1 i hi).2 x).symm⟩) (fun i hi => (ih1 i hi).1) hk x hx⟩⟩
theorem qp_same_n {S : Rat → Prop} {n n' : Nat} {L R L' R' : Nat → Option (Rat × Bool)} (h : qp_sys S n L R) (h' : qp_sys S n' L' R') : n = n' := by
  rcases Nat.lt_or_ge n n' with c | c
  · have := (qp_uniq h' h n c).1
    omega
  · rcases Nat.lt_or_ge n' n with d | d
    · have := (qp_uniq h h' n' d).1
      omega
    · omega
theorem qp_lo_ex (l : Option (Rat × Bool)) (r : Option (Rat × Bool)) (l' r' : Option (Rat × Bool)) (hs : ∀ x, qp_in l r x ↔ qp_in l' r' x) {w : Rat} (hw : qp_in l r w) (v : Rat) (b : Bool) (hl : l' = some (v, b)) : ∃ c, l = some (v, c) ∧ (c = true → b = true) := by
  have hw' := (hs w).mp hw
  have hvw : v ≤ w := by
    rcases hw'.1 v b hl with q | ⟨-, q⟩
    · exact Rat.le_of_lt q
    · rw [q]; exact Rat.le_refl
  have hnot : ∀ z, z < v → ¬ qp_in l r z := fun z hz hi => by
    rcases ((hs z).mp hi).1 v b hl with q | ⟨-, q⟩ <;> grind
  have hbel : ∀ z, z < w → qp_lo l z → qp_in l r z := fun z hz h => ⟨h, qp_hi_dn hw.2 hz⟩
  cases l with
  | none =>
    exact absurd (hbel (v - 1) (by grind) (fun _ _ e => (by cases e))) (hnot (v - 1) (by grind))
  | some p =>
    obtain ⟨u, c⟩ := p
    have huv : u = v := by
      rcases Rat.le_total (a := u) (b := v) with q | q
      · by_cases e : u = v
        · exact e
        · have hlt : u < v := Rat.lt_of_le_of_ne q e
          obtain ⟨z, z1, z2⟩ := qm_mid hlt
          exact absurd (hbel z (by grind) (fun v' b' e' => by cases e'; exact Or.inl z1)) (hnot z z2)
      · by_cases e : u = v
        · exact e
        · have hlt : v < u := Rat.lt_of_le_of_ne q (fun q => e q.symm)
          obtain ⟨z, z1, z2⟩ := qm_mid hlt
          have huw : u ≤ w := by
            rcases hw.1 u c rfl with q | ⟨-, q⟩
            · exact Rat.le_of_lt q
            · rw [q]; exact Rat.le_refl
          have hz : qp_in l' r' z := ⟨fun v' b' e' => by rw [hl] at e'; cases e'; exact Or.inl z1, qp_hi_dn hw'.2 (by grind)⟩
          have := ((hs z).mpr hz).1 u c rfl
          rcases this with q | ⟨-, q⟩ <;> grind
    subst huv
    refine ⟨c, rfl, fun hc => ?_⟩
    have hin : qp_in (some (u, c)) r u := by
      refine ⟨fun v' b' e' => by cases e'; exact Or.inr ⟨hc, rfl⟩, ?_⟩
      by_cases e : u = w
      · rw [e]; exact hw.2
      · exact qp_hi_dn hw.2 (Rat.lt_of_le_of_ne hvw e)
    rcases ((hs u).mp hin).1 u b hl with q | ⟨q, -⟩
    · exact absurd q Rat.lt_irrefl
    · exact q
theorem qp_lo_eq {l r l' r' : Option (Rat × Bool)} (hs : ∀ x, qp_in l r x ↔ qp_in l' r' x) {w : Rat} (hw : qp_in l r w) : l = l' := by
  cases hl' : l' with
  | none =>
    cases hl : l with
    | none => rfl
    | some p =>
      obtain ⟨u, c⟩ := p
      obtain ⟨c', h, -⟩ := qp_lo_ex l' r' l r (fun x => (hs x).symm) ((hs w).mp hw) u c hl
      rw [hl'] at h; cases h
  | some p =>
    obtain ⟨v, b⟩ := p
    obtain ⟨c, h, hc⟩ := qp_lo_ex l r l' r' hs hw v b hl'
    obtain ⟨c', h', hc'⟩ := qp_lo_ex l' r' l r (fun x => (hs x).symm) ((hs w).mp hw) v c h
    rw [hl'] at h'
    cases h'
    rw [h]
    cases b <;> cases c <;> simp_all
def qp_ng (r : Option (Rat × Bool)) : Option (Rat × Bool) := r.map (fun p => (-p.1, p.2))
theorem qp_ng_hi {r : Option (Rat × Bool)} {x : Rat} : qp_lo (qp_ng r) (-x) ↔ qp_hi r x := by
  cases r with
  | none => exact ⟨fun _ _ _ e => (by cases e), fun _ _ _ e => (by cases e)⟩
  | some p =>
    obtain ⟨u, c⟩ := p
    constructor
    · intro h v b e
      cases e
      rcases h (-u) c rfl with q | ⟨q1, q⟩
      · exact Or.inl (by grind)
      · exact Or.inr ⟨q1, by grind⟩
    · intro h v b e
      cases e
      rcases h u c rfl with q | ⟨q1, q⟩
      · exact Or.inl (by grind)
      · exact Or.inr ⟨q1, by grind⟩
theorem qp_ng_lo {l : Option (Rat × Bool)} {x : Rat} : qp_hi (qp_ng l) (-x) ↔ qp_lo l x := by
  cases l with
  | none => exact ⟨fun _ _ _ e => (by cases e), fun _ _ _ e => (by cases e)⟩
  | some p =>
    obtain ⟨u, c⟩ := p
    constructor
    · intro h v b e
      cases e
      rcases h (-u) c rfl with q | ⟨q1, q⟩
      · exact Or.inl (by grind)
      · exact Or.inr ⟨q1, by grind⟩
    · intro h v b e
      cases e
      rcases h u c rfl with q | ⟨q1, q⟩
      · exact Or.inl (by grind)
      · exact Or.inr ⟨q1, by grind⟩
theorem qp_ng_inj {r r' : Option (Rat × Bool)} (h : qp_ng r = qp_ng r') : r = r' := by
  cases r with
  | none => cases r' with
    | none => rfl
    | some p => cases h
  | some p => cases r' with
    | none => cases h
    | some p' =>
      obtain ⟨u, c⟩ := p
      obtain ⟨u', c'⟩ := p'
      have h1 : (-u, c) = (-u', c') := Option.some.inj h
      have h2 : -u = -u' := congrArg Prod.fst h1
      have h3 : c = c' := congrArg Prod.snd h1
      rw [h3, show u = u' by grind]
theorem qp_hi_eq {l r l' r' : Option (Rat × Bool)} (hs : ∀ x, qp_in l r x ↔ qp_in l' r' x) {w : Rat} (hw : qp_in l r w) : r = r' := by
  refine qp_ng_inj (qp_lo_eq (r := qp_ng l) (r' := qp_ng l') (fun x => ?_) (w := -w) ⟨qp_ng_hi.mpr hw.2, qp_ng_lo.mpr hw.1⟩)
  have e : x = - -x := by grind
  rw [e]
  constructor
  · intro h
    have := (hs (-x)).mp ⟨qp_ng_lo.mp h.2, qp_ng_hi.mp h.1⟩
    exact ⟨qp_ng_hi.mpr this.2, qp_ng_lo.mpr this.1⟩
  · intro h
    have := (hs (-x)).mpr ⟨qp_ng_lo.mp h.2, qp_ng_hi.mp h.1⟩
    exact ⟨qp_ng_hi.mpr this.2, qp_ng_lo.mpr this.1⟩
/-- two rows of pieces of one set are one row -/
theorem qp_one {S : Rat → Prop} {n n' : Nat} {L R L' R' : Nat → Option (Rat × Bool)} (h : qp_sys S n L R) (h' : qp_sys S n' L' R') : n = n' ∧ ∀ k, k < n → L k = L' k ∧ R k = R' k := by
  refine ⟨qp_same_n h h', fun k hk => ?_⟩
  obtain ⟨-, hs⟩ := qp_uniq h h' k hk
  obtain ⟨w, hw⟩ := h.2.1 k hk
  exact ⟨qp_lo_eq hs hw, qp_hi_eq hs hw⟩
end
section
/-! Where a fraction lies among rising marks: at mark i (2 i + 1), ahead of it (2 i), behind the last (2 n). Runs of such places are pieces. -/
def qi_at (M : Nat → Rat) (n s : Nat) (x : Rat) : Prop := (∃ i, i < n ∧ s = 2 * i + 1 ∧ x = M i) ∨ ∃ i, i ≤ n ∧ s = 2 * i ∧ (∀ j, j < i → M j < x) ∧ ∀ j, i ≤ j → j < n → x < M j
theorem qi_ex {M : Nat → Rat} {n : Nat} (hi : qm_inc M n) (x : Rat) : ∃ s, s < 2 * n + 1 ∧ qi_at M n s x := by
  obtain ⟨k, hk, h1, h2⟩ := qm_place M x n hi
  by_cases h : k < n ∧ x = M k
  · exact ⟨2 * k + 1, by omega, Or.inl ⟨k, h.1, rfl, h.2⟩⟩
  · refine ⟨2 * k, by omega, Or.inr ⟨k, hk, rfl, h1, fun j c hj => ?_⟩⟩
    have hkn : k < n := by omega
    have a0 : x < M k := Rat.lt_of_le_of_ne (h2 k (Nat.le_refl k) hkn) (fun q => h ⟨hkn, q⟩)
    rcases Nat.lt_or_ge k j with d | d
    · have := hi k j d hj
      grind
    · have e : j = k := by omega
      rw [e]; exact a0
theorem qi_st {M : Nat → Rat} {n : Nat} {st : Nat → Rat} (hs : qm_stops M n st) {s : Nat} (h : s < 2 * n + 1) : qi_at M n s (st s) := by
  rcases Nat.mod_two_eq_zero_or_one s with e | e
  · have e2 : s = 2 * (s / 2) := by omega
    obtain ⟨-, a, b⟩ := hs (s / 2) (by omega)
    refine Or.inr ⟨s / 2, by omega, e2, ?_, ?_⟩
    · intro j hj
      have := a j hj
      rwa [← e2] at this
    · intro j h1 h2
      have := b j h1 h2
      rwa [← e2] at this
  · have e2 : s = 2 * (s / 2) + 1 := by omega
    obtain ⟨a, -, -⟩ := hs (s / 2) (by omega)
    have a1 := a (by omega)
    rw [← e2] at a1
    exact Or.inl ⟨s / 2, by omega, e2, a1⟩
theorem qi_mk {M : Nat → Rat} {n i : Nat} (h : i < n) : qi_at M n (2 * i + 1) (M i) := Or.inl ⟨i, h, rfl, rfl⟩
theorem qi_lt {M : Nat → Rat} {n s s' : Nat} {x y : Rat} (hi : qm_inc M n) (hx : qi_at M n s x) (hy : qi_at M n s' y) (h : s < s') : x < y := by
  rcases hx with ⟨i, i1, i2, i3⟩ | ⟨i, i1, i2, i3, i4⟩ <;> rcases hy with ⟨j, j1, j2, j3⟩ | ⟨j, j1, j2, j3, j4⟩
  · rw [i3, j3]; exact hi i j (by omega) j1
  · rw [i3]; exact j3 i (by omega)
  · rw [j3]; exact i4 j (by omega) j1
  · have a := i4 i (Nat.le_refl i) (by omega)
    have b := j3 i (by omega)
    grind
theorem qi_un {M : Nat → Rat} {n s s' : Nat} {x : Rat} (hi : qm_inc M n) (hx : qi_at M n s x) (hy : qi_at M n s' x) : s = s' := by
  rcases Nat.lt_or_ge s s' with c | c
  · exact absurd (qi_lt hi hx hy c) Rat.lt_irrefl
  · rcases Nat.lt_or_ge s' s with d | d
    · exact absurd (qi_lt hi hy hx d) Rat.lt_irrefl
    · omega
theorem qi_mono {M : Nat → Rat} {n s s' : Nat} {x y : Rat} (hi : qm_inc M n) (hx : qi_at M n s x) (hy : qi_at M n s' y) (h : x < y) : s ≤ s' := by
  rcases Nat.lt_or_ge s' s with c | c
  · have := qi_lt hi hy hx c
    exact absurd (show x < x by grind) Rat.lt_irrefl
  · exact c
theorem qi_ss {M : Nat → Rat} {n s : Nat} {x y : Rat} (hx : qi_at M n s x) (hy : qi_at M n s y) (j : Nat) (hj : j < n) : qm_ss (x - M j) (y - M j) := by
  rcases hx with ⟨i, i1, i2, i3⟩ | ⟨i, i1, i2, i3, i4⟩ <;> rcases hy with ⟨k, k1, k2, k3⟩ | ⟨k, k1, k2, k3, k4⟩
  · have e : i = k := by omega
    rw [i3, k3, e]; exact qm_ss_rf _
  · omega
  · omega
  · have e : i = k := by omega
    subst e
    rcases Nat.lt_or_ge j i with c | c
    · have a := i3 j c
      have b := k3 j c
      exact qm_ss_pos2 (by grind) (by grind)
    · have a := i4 j c hj
      have b := k4 j c hj
      exact qm_ss_neg2 (by grind) (by grind)
def qi_L (M : Nat → Rat) (f : Nat) : Option (Rat × Bool) := if f = 0 then none else if f % 2 = 1 then some (M (f / 2), true) else some (M (f / 2 - 1), false)
def qi_R (M : Nat → Rat) (n l : Nat) : Option (Rat × Bool) := if l = 2 * n then none else if l % 2 = 1 then some (M (l / 2), true) else some (M (l / 2), false)
theorem qi_lo {M : Nat → Rat} {n s f : Nat} {x : Rat} (hi : qm_inc M n) (hx : qi_at M n s x) (hf : f < 2 * n + 1) : qp_lo (qi_L M f) x ↔ f ≤ s := by
  unfold qi_L
  by_cases e0 : f = 0
  · rw [if_pos e0]
    exact ⟨fun _ => by omega, fun _ _ _ e => (by cases e)⟩
  · rw [if_neg e0]
    by_cases e1 : f % 2 = 1
    · rw [if_pos e1]
      have hm := qi_mk (M := M) (n := n) (i := f / 2) (by omega)
      have ef : 2 * (f / 2) + 1 = f := by omega
      rw [ef] at hm
      constructor
      · intro h
        rcases h _ _ rfl with q | ⟨-, q⟩
        · exact qi_mono hi hm hx q
        · rw [q] at hx
          exact Nat.le_of_eq (qi_un hi hm hx)
      · intro h v b e
        cases e
        rcases Nat.lt_or_ge f s with c | c
        · exact Or.inl (qi_lt hi hm hx c)
        · have : f = s := by omega
          subst this
          rcases hx with ⟨i, i1, i2, i3⟩ | ⟨i, i1, i2, i3, i4⟩
          · have : i = f / 2 := by omega
            subst this
            exact Or.inr ⟨rfl, i3⟩
          · omega
    · rw [if_neg e1]
      have hm := qi_mk (M := M) (n := n) (i := f / 2 - 1) (by omega)
      have ef : 2 * (f / 2 - 1) + 1 = f - 1 := by omega
      rw [ef] at hm
      constructor
      · intro h
        rcases h _ _ rfl with q | ⟨q, -⟩
        · have a := qi_mono hi hm hx q
          have b : s ≠ f - 1 := fun e => by
            subst e
            rcases hx with ⟨i, i1, i2, i3⟩ | ⟨i, i1, i2, i3, i4⟩
            · have : i = f / 2 - 1 := by omega
              subst this
              rw [i3] at q
              exact absurd q Rat.lt_irrefl
            · omega
          omega
        · cases q
      · intro h v b e
        cases e
        exact Or.inl (qi_lt hi hm hx (by omega))
theorem qi_hi {M : Nat → Rat} {n s l : Nat} {x : Rat} (hi : qm_inc M n) (hx : qi_at M n s x) (hs : s < 2 * n + 1) (hl : l < 2 * n + 1) : qp_hi (qi_R M n l) x ↔ s ≤ l := by
  unfold qi_R
  by_cases e0 : l = 2 * n
  · rw [if_pos e0]
    exact ⟨fun _ => by omega, fun _ _ _ e => (by cases e)⟩
  · rw [if_neg e0]
    have hm := qi_mk (M := M) (n := n) (i := l / 2) (by omega)
    by_cases e1 : l % 2 = 1
    · rw [if_pos e1]
      have ef : 2 * (l / 2) + 1 = l := by omega
      rw [ef] at hm
      constructor
      · intro h
        rcases h _ _ rfl with q | ⟨-, q⟩
        · exact qi_mono hi hx hm q
        · rw [q] at hx
          exact Nat.le_of_eq (qi_un hi hx hm)
      · intro h v b e
        cases e
        rcases Nat.lt_or_ge s l with c | c
        · exact Or.inl (qi_lt hi hx hm c)
        · have : s = l := by omega
          subst this
          rcases hx with ⟨i, i1, i2, i3⟩ | ⟨i, i1, i2, i3, i4⟩
          · have : i = s / 2 := by omega
            subst this
            exact Or.inr ⟨rfl, i3⟩
          · omega
    · rw [if_neg e1]
      have ef : 2 * (l / 2) + 1 = l + 1 := by omega
      rw [ef] at hm
      constructor
      · intro h
        rcases h _ _ rfl with q | ⟨q, -⟩
        · have a := qi_mono hi hx hm q
          have b : s ≠ l + 1 := fun e => by
            subst e
            rcases hx with ⟨i, i1, i2, i3⟩ | ⟨i, i1, i2, i3, i4⟩
            · have : i = l / 2 := by omega
              subst this
              rw [i3] at q
              exact absurd q Rat.lt_irrefl
            · omega
          omega
        · cases q
      · intro h v b e
        cases e
        exact Or.inl (qi_lt hi hx hm (by omega))
/-- m runs of true places among the first s, each as long as can be -/
def qi_runs (t : Nat → Prop) (m : Nat) (fs ls : Nat → Nat) (s : Nat) : Prop := (∀ k, k < m → fs k ≤ ls k ∧ ls k < s ∧ ∀ j, fs k ≤ j → j ≤ ls k → t j) ∧ (∀ j, j < s → t j → ∃ k, k < m ∧ fs k ≤ j ∧ j ≤ ls k) ∧ ∀ i k, i < k → k < m → ls i + 1 < fs k ∧ ¬ t (ls i + 1)
theorem qi_sys {S : Rat → Prop} {M st : Nat → Rat} {n m : Nat} {t : Nat → Prop} {fs ls : Nat → Nat} (hi : qm_inc M n) (hst : qm_stops M n st) (hr : qi_runs t m fs ls (2 * n + 1)) (hS : ∀ s, s < 2 * n + 1 → ∀ x, qi_at M n s x → (S x ↔ t s)) : qp_sys S m (fun k => qi_L M (fs k)) (fun k => qi_R M n (ls k)) := by
  obtain ⟨r1, r2, r3⟩ := hr
  have hin : ∀ (k s : Nat) (x : Rat), k < m → s < 2 * n + 1 → qi_at M n s x → (qp_in (qi_L M (fs k)) (qi_R M n (ls k)) x ↔ fs k ≤ s ∧ s ≤ ls k) := fun k s x hk hs hx => by
    obtain ⟨a, b, -⟩ := r1 k hk
    exact and_congr (qi_lo hi hx (by omega)) (qi_hi hi hx hs b)
  refine ⟨fun x => ?_, fun k hk => ?_, fun j k hjk hk x y hx hy => ?_⟩
  · obtain ⟨s, hs, hx⟩ := qi_ex hi x
    rw [hS s hs x hx]
    constructor
    · intro h
      obtain ⟨k, hk, a, b⟩ := r2 s hs h
      exact ⟨k, hk, (hin k s x hk hs hx).mpr ⟨a, b⟩⟩
    · intro ⟨k, hk, h⟩
      obtain ⟨a, b⟩ := (hin k s x hk hs hx).mp h
      exact (r1 k hk).2.2 s a b
  · obtain ⟨a, b, -⟩ := r1 k hk
    exact ⟨st (fs k), (hin k (fs k) _ hk (by omega) (qi_st hst (by omega))).mpr ⟨Nat.le_refl _, a⟩⟩
  · obtain ⟨s, hs, hxs⟩ := qi_ex hi x
    obtain ⟨s', hs', hys⟩ := qi_ex hi y
    have h1 := (hin j s x (by omega) hs hxs).mp hx
    have h2 := (hin k s' y hk hs' hys).mp hy
    obtain ⟨h3, h4⟩ := r3 j k hjk hk
    have hz := qi_st hst (s := ls j + 1) (by omega)
    refine ⟨qi_lt hi hxs hys (by omega), st (ls j + 1), qi_lt hi hxs hz (by omega), qi_lt hi hz hys (by omega), fun h => h4 ((hS _ (by omega) _ hz).mp h)⟩
end
section
/-! Numbers of the machine as whole numbers, where nothing wraps. -/
theorem nm_b64 {z : Int} (h1 : z.natAbs ≤ 9000000000000000000) : z.bmod (2 ^ 64) = z := by
  apply Int.bmod_eq_of_le <;> omega
theorem nm_b32 {z : Int} (h1 : z.natAbs ≤ 2000000000) : z.bmod (2 ^ 32) = z := by
  apply Int.bmod_eq_of_le <;> omega
theorem nm_mulb {x y : Int} {B C : Nat} (h1 : x.natAbs ≤ B) (h2 : y.natAbs ≤ C) : (x * y).natAbs ≤ B * C := by
  rw [Int.natAbs_mul]
  exact Nat.mul_le_mul h1 h2
theorem nm_addb {x y : Int} {B C : Nat} (h1 : x.natAbs ≤ B) (h2 : y.natAbs ≤ C) : (x + y).natAbs ≤ B + C := by omega
theorem nm_subb {x y : Int} {B C : Nat} (h1 : x.natAbs ≤ B) (h2 : y.natAbs ≤ C) : (x - y).natAbs ≤ B + C := by omega
theorem nm_lmul {x y : Int64} (h : (x.toInt * y.toInt).natAbs ≤ 9000000000000000000) : (x * y).toInt = x.toInt * y.toInt := by
  rw [Int64.toInt_mul, nm_b64 h]
theorem nm_ladd {x y : Int64} (h : (x.toInt + y.toInt).natAbs ≤ 9000000000000000000) : (x + y).toInt = x.toInt + y.toInt := by
  rw [Int64.toInt_add, nm_b64 h]
theorem nm_lsub {x y : Int64} (h : (x.toInt - y.toInt).natAbs ≤ 9000000000000000000) : (x - y).toInt = x.toInt - y.toInt := by
  rw [Int64.toInt_sub, nm_b64 h]
theorem nm_lneg {x : Int64} (h : x.toInt.natAbs ≤ 9000000000000000000) : (-x).toInt = -x.toInt := by
  rw [Int64.toInt_neg, nm_b64 (by omega)]
theorem nm_imul {x y : Int32} (h : (x.toInt * y.toInt).natAbs ≤ 2000000000) : (x * y).toInt = x.toInt * y.toInt := by
  rw [Int32.toInt_mul, nm_b32 h]
theorem nm_iadd {x y : Int32} (h : (x.toInt + y.toInt).natAbs ≤ 2000000000) : (x + y).toInt = x.toInt + y.toInt := by
  rw [Int32.toInt_add, nm_b32 h]
theorem nm_isub {x y : Int32} (h : (x.toInt - y.toInt).natAbs ≤ 2000000000) : (x - y).toInt = x.toInt - y.toInt := by
  rw [Int32.toInt_sub, nm_b32 h]
theorem nm_ineg {x : Int32} (h : x.toInt.natAbs ≤ 2000000000) : (-x).toInt = -x.toInt := by
  rw [Int32.toInt_neg, nm_b32 (by omega)]
theorem nm_i2l (x : Int32) : x.toInt64.toInt = x.toInt := Int32.toInt_toInt64 x
theorem nm_llt {x y : Int64} : x < y ↔ x.toInt < y.toInt := Int64.lt_iff_toInt_lt
theorem nm_lle {x y : Int64} : x ≤ y ↔ x.toInt ≤ y.toInt := Int64.le_iff_toInt_le
theorem nm_leq {x y : Int64} : x = y ↔ x.toInt = y.toInt := Int64.toInt_inj.symm
theorem nm_ilt {x y : Int32} : x < y ↔ x.toInt < y.toInt := Int32.lt_iff_toInt_lt
theorem nm_ile {x y : Int32} : x ≤ y ↔ x.toInt ≤ y.toInt := Int32.le_iff_toInt_le
theorem nm_ieq {x y : Int32} : x = y ↔ x.toInt = y.toInt := Int32.toInt_inj.symm
end
section
/-! THE WORLD BY ADDRESSES: a map from addresses to cells. A method's contract takes the caller's whole map and gives back the new one: no cutting out, no joining. -/
/-- the cell that a list has at an address -/
def hw_lk (ws : va_W) (a : Nat) : Option va_E := (ws.find? (fun x => x.1 == a)).map (fun x => x.2)
theorem hw_lk_ix {ws : va_W} {a : Nat} {e : va_E} (h : hw_lk ws a = some e) : ∃ k : Nat, ws[k]? = some (a, e) := by
  unfold hw_lk at h
  cases hf : ws.find? (fun x => x.1 == a) with
  | none => rw [hf] at h; cases h
  | some x =>
    rw [hf] at h
    have h1 : x.1 = a := by simpa using List.find?_some hf
    have h2 : x.2 = e := Option.some.inj h
    obtain ⟨k, hk⟩ := List.getElem?_of_mem (List.mem_of_find?_eq_some hf)
    exact ⟨k, by rw [hk, ← h1, ← h2]⟩
theorem hw_lk_of {A : Nat → Prop} {ws : va_W} (hD : va_D A ws) {k a : Nat} {e : va_E} (h : ws[k]? = some (a, e)) : hw_lk ws a = some e := by
  unfold hw_lk
  cases hf : ws.find? (fun x => x.1 == a) with
  | none =>
    have := List.find?_eq_none.mp hf (a, e) (List.mem_of_getElem? h)
    simp at this
  | some x =>
    have h1 : x.1 = a := by simpa using List.find?_some hf
    obtain ⟨j, hj⟩ := List.getElem?_of_mem (List.mem_of_find?_eq_some hf)
    have h2 := hD.1 j k x (a, e) hj h h1
    subst h2
    rw [hj] at h
    cases h
    rfl
theorem hw_lk_none {ws : va_W} {a : Nat} (h : ∀ (k : Nat) (e : va_E), ws[k]? ≠ some (a, e)) : hw_lk ws a = none := by
  cases hq : hw_lk ws a with
  | none => rfl
  | some e =>
    obtain ⟨k, hk⟩ := hw_lk_ix hq
    exact absurd hk (h k e)
theorem hw_lk_set {A : Nat → Prop} {ws : va_W} (hD : va_D A ws) {k a : Nat} {e0 e : va_E} (h : ws[k]? = some (a, e0)) : hw_lk (ws.set k (a, e)) = va_up (hw_lk ws) a (some e) := by
  have hD1 : va_D A (ws.set k (a, e)) := hD.set h
  have hl : k < ws.length := (List.getElem?_eq_some_iff.mp h).1
  funext b
  by_cases hb : b = a
  · subst hb
    rw [va_up_self]
    exact hw_lk_of hD1 (k := k) (by rw [List.getElem?_set_self hl])
  · rw [va_up_ne _ _ hb]
    cases hq : hw_lk ws b with
    | none =>
      refine hw_lk_none fun j e1 hj => ?_
      by_cases hjk : j = k
      · subst hjk
        rw [List.getElem?_set_self hl] at hj
        cases hj
        exact hb rfl
      · rw [List.getElem?_set_ne (fun q => hjk q.symm)] at hj
        rw [hw_lk_of hD hj] at hq
        cases hq
    | some e1 =>
      obtain ⟨j, hj⟩ := hw_lk_ix hq
      have hjk : j ≠ k := fun q => by
        subst q
        rw [hj] at h
        cases h
        exact hb rfl
      exact hw_lk_of hD1 (k := j) (by rw [List.getElem?_set_ne (fun q => hjk q.symm)]; exact hj)
theorem hw_lk_push {A : Nat → Prop} {ws : va_W} {q : Nat} {e : va_E} (hD1 : va_D A (ws ++ [(q, e)])) : hw_lk (ws ++ [(q, e)]) = va_up (hw_lk ws) q (some e) ∧ hw_lk ws q = none := by
  have hq : (ws ++ [(q, e)])[ws.length]? = some (q, e) := by rw [List.getElem?_append_right (Nat.le_refl _), Nat.sub_self]; rfl
  have hold : ∀ (j : Nat) (x : Nat × va_E), ws[j]? = some x → (ws ++ [(q, e)])[j]? = some x := fun j x hj => by rw [List.getElem?_append_left (List.getElem?_eq_some_iff.mp hj).1]; exact hj
  have hn : hw_lk ws q = none := hw_lk_none fun k e1 hk => by
    have h1 := hD1.1 k ws.length _ _ (hold k _ hk) hq rfl
    have h2 := (List.getElem?_eq_some_iff.mp hk).1
    omega
  refine ⟨?_, hn⟩
  funext b
  by_cases hb : b = q
  · subst hb
    rw [va_up_self]
    exact hw_lk_of hD1 hq
  · rw [va_up_ne _ _ hb]
    cases hx : hw_lk ws b with
    | none =>
      refine hw_lk_none fun j e1 hj => ?_
      rcases Nat.lt_or_ge j ws.length with c | c
      · rw [List.getElem?_append_left c] at hj
        obtain ⟨i, hi⟩ := List.getElem?_of_mem (List.mem_of_getElem? hj)
        have : hw_lk ws b ≠ none := fun z => by
          unfold hw_lk at z
          have z2 := List.find?_eq_none.mp (Option.map_eq_none_iff.mp z) (b, e1) (List.mem_of_getElem? hj)
          simp at z2
        exact this hx
      · rw [List.getElem?_append_right c] at hj
        have : j - ws.length = 0 := by
          have := (List.getElem?_eq_some_iff.mp hj).1
          simp at this
          omega
        rw [this] at hj
        cases hj
        exact hb rfl
    | some e1 =>
      obtain ⟨j, hj⟩ := hw_lk_ix hx
      exact hw_lk_of hD1 (hold j _ hj)
/-- the heap holds the map M, whose addresses are of the kind A -/
def hw_W (D : va_G) (cl : List vw_C) (tys : List (ClassId × FieldType)) (A : Nat → Prop) (M : Nat → Option va_E) (s : State) (H : Heap) : Prop := ∃ ws : va_W, hw_lk ws = M ∧ va_P D cl ws H ∧ va_D A ws ∧ va_K D cl tys s
/-- what a method over M may change -/
def hw_A (M : Nat → Option va_E) (sz : Nat) : Nat → Prop := fun q => M q ≠ none ∨ sz ≤ q
theorem hw_W.K {D : va_G} {cl : List vw_C} {tys : List (ClassId × FieldType)} {A : Nat → Prop} {M : Nat → Option va_E} {s : State} {H : Heap} (h : hw_W D cl tys A M s H) : va_K D cl tys s := by
  obtain ⟨ws, -, -, -, hK⟩ := h
  exact hK
theorem hw_W.at {D : va_G} {cl : List vw_C} {tys : List (ClassId × FieldType)} {A : Nat → Prop} {M : Nat → Option va_E} {s : State} {H : Heap} (h : hw_W D cl tys A M s H) {a : Nat} {e : va_E} (ha : M a = some e) : va_at D cl (a, e) H ∧ A a := by
  obtain ⟨ws, rfl, hP, hD, -⟩ := h
  obtain ⟨k, hk⟩ := hw_lk_ix ha
  exact ⟨hP k _ hk, hD.2 k _ hk⟩
theorem hw_W.lt {D : va_G} {cl : List vw_C} {tys : List (ClassId × FieldType)} {A : Nat → Prop} {M : Nat → Option va_E} {s : State} {H : Heap} (h : hw_W D cl tys A M s H) {a : Nat} {e : va_E} (ha : M a = some e) : a < H.size := (h.at ha).1.lt
theorem hw_W.moved {D : va_G} {cl : List vw_C} {tys : List (ClassId × FieldType)} {A : Nat → Prop} {M : Nat → Option va_E} {s u : State} {H : Heap} (hvm : s.vm.Alike u.vm) (h : hw_W D cl tys A M s H) : hw_W D cl tys A M u H := by
  obtain ⟨ws, e, hP, hD, hK⟩ := h
  exact ⟨ws, e, hP, hD, va_K.moved hvm hK⟩
theorem hw_W.weaken {D : va_G} {cl : List vw_C} {tys : List (ClassId × FieldType)} {A B : Nat → Prop} {M : Nat → Option va_E} {s : State} {H : Heap} (h : hw_W D cl tys A M s H) (hAB : ∀ q, A q → B q) : hw_W D cl tys B M s H := by
  obtain ⟨ws, e, hP, hD, hK⟩ := h
  exact ⟨ws, e, hP, hD.weaken (fun _ q _ h => hAB q.1 h), hK⟩
theorem hw_W.self {D : va_G} {cl : List vw_C} {tys : List (ClassId × FieldType)} {A : Nat → Prop} {M : Nat → Option va_E} {s : State} {H : Heap} {sz : Nat} (h : hw_W D cl tys A M s H) : hw_W D cl tys (hw_A M sz) M s H := by
  obtain ⟨ws, rfl, hP, hD, hK⟩ := h
  refine ⟨ws, rfl, hP, ⟨hD.1, fun k q hk => Or.inl ?_⟩, hK⟩
  rw [hw_lk_of hD (show ws[k]? = some (q.1, q.2) from hk)]
  exact Option.some_ne_none _
theorem hw_W.free {D : va_G} {cl : List vw_C} {tys : List (ClassId × FieldType)} {A : Nat → Prop} {M : Nat → Option va_E} {s : State} {H0 H : Heap} {locs : List Loc} (h : hw_W D cl tys A M s H) (hS : va_S A H0 H locs) (hA : ∀ q, H0.size ≤ q → A q) : ∀ q, hw_A M H.size q → A q := by
  intro q hq
  rcases hq with hq | hq
  · cases hm : M q with
    | none => exact absurd hm hq
    | some e => exact (h.at hm).2
  · exact hA q (Nat.le_trans hS.1 hq)
/-- words that ride with no call by themselves, but stay true -/
def hw_xw : List Cond := [.declares ⟨"QuantifierOut$Node", "isTrueAt", "(LQuantifierOut$Values;)Z"⟩, .fieldLinkNest "QuantifierOut" 110 "QuantifierOut$Pieces" "size" "I" "QuantifierOut",
  .castable "QuantifierOut$Atom" "QuantifierOut$Node", .castable "QuantifierOut$Negation" "QuantifierOut$Node", .castable "QuantifierOut$Pair" "QuantifierOut$Node", .castable "QuantifierOut$Quantified" "QuantifierOut$Node",
  .castable "java/lang/IllegalStateException" "java/lang/IllegalStateException", .castable "java/lang/IllegalArgumentException" "java/lang/IllegalArgumentException", .castable "java/lang/IndexOutOfBoundsException" "java/lang/IndexOutOfBoundsException",
  .declares ⟨"java/lang/RuntimeException", "<init>", "()V"⟩, .declares ⟨"java/lang/RuntimeException", "<init>", "(Ljava/lang/String;)V"⟩, .declares ⟨"java/lang/Exception", "<init>", "()V"⟩, .declares ⟨"java/lang/Exception", "<init>", "(Ljava/lang/String;)V"⟩, .declares ⟨"java/lang/Throwable", "<init>", "()V"⟩, .declares ⟨"java/lang/Throwable", "<init>", "(Ljava/lang/String;)V"⟩]
def hw_X (U : State) : Prop := (∀ w ∈ hw_xw, va_Nw w U) ∧ va_AO "QuantifierOut$Node" U
theorem hw_xw_ot : ∀ w ∈ hw_xw, w.onTables = true := by decide
theorem hw_X.same {u U : State} (hv : u.vm = U.vm) (h : hw_X u) : hw_X U := ⟨fun w hw => va_Nw.same (hw_xw_ot w hw) hv (h.1 w hw), va_AO.moved (by rw [hv]; exact Vm.Alike.refl U.vm) h.2⟩
theorem hw_xw_warm {s U : State} (hW : s.WarmedH U.vm) : ∀ w ∈ hw_xw, va_Nw w s → va_Nw w U := by
  unfold hw_xw
  refine List.forall_mem_cons.mpr ⟨va_Nw.warmD hW, List.forall_mem_cons.mpr ⟨va_Nw.warmF hW, ?_⟩⟩
  refine List.forall_mem_cons.mpr ⟨va_Nw.warmC hW, List.forall_mem_cons.mpr ⟨va_Nw.warmC hW, List.forall_mem_cons.mpr ⟨va_Nw.warmC hW, List.forall_mem_cons.mpr ⟨va_Nw.warmC hW, List.forall_mem_cons.mpr ⟨va_Nw.warmC hW, List.forall_mem_cons.mpr ⟨va_Nw.warmC hW, List.forall_mem_cons.mpr ⟨va_Nw.warmC hW, ?_⟩⟩⟩⟩⟩⟩⟩
  exact List.forall_mem_cons.mpr ⟨va_Nw.warmD hW, List.forall_mem_cons.mpr ⟨va_Nw.warmD hW, List.forall_mem_cons.mpr ⟨va_Nw.warmD hW, List.forall_mem_cons.mpr ⟨va_Nw.warmD hW, List.forall_mem_cons.mpr ⟨va_Nw.warmD hW, List.forall_mem_cons.mpr ⟨va_Nw.warmD hW, fun _ h => absurd h List.not_mem_nil⟩⟩⟩⟩⟩⟩
theorem hw_X.warm {s U : State} (hW : s.WarmedH U.vm) (h : hw_X s) : hw_X U := ⟨fun w hw => hw_xw_warm hW w hw (h.1 w hw), va_AO.moved hW.alike h.2⟩
/-- a contract's start and the world behind it -/
def hw_Pc (D : va_G) (cl : List vw_C) (tys : List (ClassId × FieldType)) (av : List Value) (M : Nat → Option va_E) (sz : Nat) : Array Value → State → Prop := va_Pc av (fun U => U.heap.size = sz ∧ hw_W D cl tys (fun _ => True) M U U.heap ∧ hw_X U)
def hw_B (D : va_G) (cl : List vw_C) (tys : List (ClassId × FieldType)) (M : Nat → Option va_E) (sz : Nat) : (Nat → Option va_E) → State → Prop := fun M1 t => hw_W D cl tys (hw_A M sz) M1 t t.heap
theorem hw_Pc.blind {D : va_G} {cl : List vw_C} {tys : List (ClassId × FieldType)} {av : List Value} {M : Nat → Option va_E} {sz : Nat} : FrameBlind (hw_Pc D cl tys av M sz) := by
  intro a U g mk h
  obtain ⟨h1, h2, h3, h4⟩ := h
  exact ⟨h1, h2, h3.moved (u := U.calling g mk a) (Vm.Alike.refl U.vm), hw_X.same (u := U) (U := U.calling g mk a) rfl h4⟩
section HWS
variable {p : Program} {l : Launch} {e : Env} {R : Room} {s : State} {m : MethodId} {args : Array Value} {below : List Frame} {meth : Method} {c : Code} {H : Heap} {locs : List Loc} {cells slots : Nat} {Q : State → Prop}
variable {cc : ByteArray} {pc : Nat} {ls : Array Slot} {rest : List Value} {D : va_G} {cl : List vw_C} {A : Nat → Prop} {a : Nat} {tys : List (ClassId × FieldType)} {M : Nat → Option va_E} {H0 : Heap}
theorem hw_preS {A1 : Nat → Prop} (hX : hw_X s) (hW : hw_W D cl tys A1 M s H) {As : List Value} : PreS s H (hw_Pc D cl tys As M H.size) As :=
  ⟨hw_Pc.blind, fun U hU hw => ⟨rfl, by rw [hU], by rw [hU]; exact (hW.moved hw.alike).weaken (fun _ _ => trivial), hX.warm hw⟩⟩
theorem hw_preV {A1 : Nat → Prop} (hX : hw_X s) (hW : hw_W D cl tys A1 M s H) {b ci : Nat} {fs : List Value} (hb : M b = some (.inr (ci, fs))) {q : vw_C} (hc : cl[ci]? = some q) {As : List Value} : PreV s H q.1 b (hw_Pc D cl tys (.ref b :: As) M H.size) As := by
  refine ⟨hw_Pc.blind, ?_, (hw_preS hX hW).2⟩
  obtain ⟨ws, rfl, hP, hD, hK⟩ := hW
  obtain ⟨k, hk⟩ := hw_lk_ix hb
  exact va_recv hK hP hc hk
theorem hw_get (hexec : p.tables.exec = Jvm.exec) (hb : c.code = cc) {own ref C : String} {T : u_T} {N ci index : Nat} {Ts : List Cond} (hts : ∀ w ∈ Ts, w.before args s = true) (hin : ∀ w ∈ u_ws C T N, w ∈ Ts) (hown : s.vm.findClass own = some m.cls) (hW : hw_W D cl tys A M s H) {fs : List Value} (he : M a = some (.inr (ci, fs))) (hc : cl[ci]? = some (C, T, N)) (k : Nat) (hk : k < N) (hlink : (Cond.fieldLink own index ref (T k).2.1 (T k).2.2.1).before args s = true) (hsame : ∀ x, s.fieldFound? (T k).1 (T k).2.1 (T k).2.2.1 = some x → s.fieldFound? ref (T k).2.1 (T k).2.2.1 = some x) {v : Value} (hv : fs[k]? = some v) (hdg : decode cc pc = .ok (.getfield index, 3))
    (kk : W p l e R s m args below meth c H locs cells slots Q (F0 m (pc + 3) ls (v :: rest))) : W p l e R s m args below meth c H locs cells slots Q (F0 m pc ls (.ref a :: rest)) := by
  obtain ⟨ws, rfl, hP, hD, hK⟩ := hW
  obtain ⟨q0, hq⟩ := hw_lk_ix he
  exact va_get hexec hb hts hin hown hK hP q0 hq hc k hk hlink hsame hv hdg kk
theorem hw_getN (hexec : p.tables.exec = Jvm.exec) (hb : c.code = cc) {own ref C host : String} {T : u_T} {N ci index : Nat} {Ts : List Cond} (hts : ∀ w ∈ Ts, w.before args s = true) (hin : ∀ w ∈ u_ws C T N, w ∈ Ts) (hown : s.vm.findClass own = some m.cls) (hW : hw_W D cl tys A M s H) {fs : List Value} (he : M a = some (.inr (ci, fs))) (hc : cl[ci]? = some (C, T, N)) (k : Nat) (hk : k < N) (hlink : (Cond.fieldLinkNest own index ref (T k).2.1 (T k).2.2.1 host).before args s = true) (hsame : ∀ x, s.fieldFound? (T k).1 (T k).2.1 (T k).2.2.1 = some x → s.fieldFound? ref (T k).2.1 (T k).2.2.1 = some x) {v : Value} (hv : fs[k]? = some v) (hdg : decode cc pc = .ok (.getfield index, 3))
    (kk : W p l e R s m args below meth c H locs cells slots Q (F0 m (pc + 3) ls (v :: rest))) : W p l e R s m args below meth c H locs cells slots Q (F0 m pc ls (.ref a :: rest)) := by
  obtain ⟨ws, rfl, hP, hD, hK⟩ := hW
  obtain ⟨q0, hq⟩ := hw_lk_ix he
  exact va_getN hexec hb hts hin hown hK hP q0 hq hc k hk hlink hsame hv hdg kk
theorem hw_put (hexec : p.tables.exec = Jvm.exec) (hb : c.code = cc) {own ref C : String} {T : u_T} {N ci index : Nat} {Ts : List Cond} (hts : ∀ w ∈ Ts, w.before args s = true) (hin : ∀ w ∈ u_ws C T N, w ∈ Ts) (ty0 : Nat → FieldType) (hty : ∀ k, k < N → parseFieldDescriptor (T k).2.2.1 = some (ty0 k)) (hnm : ∀ a, a < N → ∀ b, b < N → a ≠ b → (T a).2.1 ≠ (T b).2.1) (hown : s.vm.findClass own = some m.cls) (hW : hw_W D cl tys A M s H) (hS0 : va_S A H0 H locs) {fs : List Value} (he : M a = some (.inr (ci, fs))) (hc : cl[ci]? = some (C, T, N)) (k : Nat) (hk : k < N) (hlink : (Cond.fieldLink own index ref (T k).2.1 (T k).2.2.1).before args s = true) (hsame : ∀ x, s.fieldFound? (T k).1 (T k).2.1 (T k).2.2.1 = some x → s.fieldFound? ref (T k).2.1 (T k).2.2.1 = some x) (hfin : (T k).2.2.2 = false) {ty : FieldType} {v : Value} (hd : parseFieldDescriptor (T k).2.2.1 = some ty) (hn : narrow ty v = v) (hfit : fits ty v = true) (hl : k < fs.length)
    (hdg : decode cc pc = .ok (.putfield index, 3)) (kk : ∀ (H1 : Heap) (locs1 : List Loc), hw_W D cl tys A (va_up M a (some (.inr (ci, fs.set k v)))) s H1 → va_S A H0 H1 locs1 → W p l e R s m args below meth c H1 locs1 cells slots Q (F0 m (pc + 3) ls rest)) : W p l e R s m args below meth c H locs cells slots Q (F0 m pc ls (v :: .ref a :: rest)) := by
  obtain ⟨ws, rfl, hP, hD, hK⟩ := hW
  obtain ⟨q0, hq⟩ := hw_lk_ix he
  exact va_put hexec hb hts hin ty0 hty hnm hown hK hP hD hS0 q0 hq hc k hk hlink hsame hfin hd hn hfit hl hdg (fun H1 locs1 h1 h2 h3 => kk H1 locs1 ⟨_, hw_lk_set hD hq, h1, h2, hK⟩ h3)
theorem hw_putN (hexec : p.tables.exec = Jvm.exec) (hb : c.code = cc) {own ref C host : String} {T : u_T} {N ci index : Nat} {Ts : List Cond} (hts : ∀ w ∈ Ts, w.before args s = true) (hin : ∀ w ∈ u_ws C T N, w ∈ Ts) (ty0 : Nat → FieldType) (hty : ∀ k, k < N → parseFieldDescriptor (T k).2.2.1 = some (ty0 k)) (hnm : ∀ a, a < N → ∀ b, b < N → a ≠ b → (T a).2.1 ≠ (T b).2.1) (hown : s.vm.findClass own = some m.cls) (hW : hw_W D cl tys A M s H) (hS0 : va_S A H0 H locs) {fs : List Value} (he : M a = some (.inr (ci, fs))) (hc : cl[ci]? = some (C, T, N)) (k : Nat) (hk : k < N) (hlink : (Cond.fieldLinkNest own index ref (T k).2.1 (T k).2.2.1 host).before args s = true) (hsame : ∀ x, s.fieldFound? (T k).1 (T k).2.1 (T k).2.2.1 = some x → s.fieldFound? ref (T k).2.1 (T k).2.2.1 = some x) (hfin : (T k).2.2.2 = false) {ty : FieldType} {v : Value} (hd : parseFieldDescriptor (T k).2.2.1 = some ty) (hn : narrow ty v = v) (hfit : fits ty v = true) (hl : k < fs.length)
    (hdg : decode cc pc = .ok (.putfield index, 3)) (kk : ∀ (H1 : Heap) (locs1 : List Loc), hw_W D cl tys A (va_up M a (some (.inr (ci, fs.set k v)))) s H1 → va_S A H0 H1 locs1 → W p l e R s m args below meth c H1 locs1 cells slots Q (F0 m (pc + 3) ls rest)) : W p l e R s m args below meth c H locs cells slots Q (F0 m pc ls (v :: .ref a :: rest)) := by
  obtain ⟨ws, rfl, hP, hD, hK⟩ := hW
  obtain ⟨q0, hq⟩ := hw_lk_ix he
  exact va_putN hexec hb hts hin ty0 hty hnm hown hK hP hD hS0 q0 hq hc k hk hlink hsame hfin hd hn hfit hl hdg (fun H1 locs1 h1 h2 h3 => kk H1 locs1 ⟨_, hw_lk_set hD hq, h1, h2, hK⟩ h3)
theorem hw_putF (hexec : p.tables.exec = Jvm.exec) (hb : c.code = cc) {own ref C : String} {T : u_T} {N ci index : Nat} {Ts : List Cond} (hts : ∀ w ∈ Ts, w.before args s = true) (hin : ∀ w ∈ u_ws C T N, w ∈ Ts) (ty0 : Nat → FieldType) (hty : ∀ k, k < N → parseFieldDescriptor (T k).2.2.1 = some (ty0 k)) (hnm : ∀ a, a < N → ∀ b, b < N → a ≠ b → (T a).2.1 ≠ (T b).2.1) (hown : s.vm.findClass own = some m.cls) (hW : hw_W D cl tys A M s H) (hS0 : va_S A H0 H locs) {fs : List Value} (he : M a = some (.inr (ci, fs))) (hc : cl[ci]? = some (C, T, N)) (k : Nat) (hk : k < N) (hlink : (Cond.fieldLink own index ref (T k).2.1 (T k).2.2.1).before args s = true) (hsame : ∀ x, s.fieldFound? (T k).1 (T k).2.1 (T k).2.2.1 = some x → s.fieldFound? ref (T k).2.1 (T k).2.2.1 = some x) (hfin : (T k).2.2.2 = true) (hin2 : meth.name = "<init>") (hdecl : (T k).1 = own) {ty : FieldType} {v : Value} (hd : parseFieldDescriptor (T k).2.2.1 = some ty) (hn : narrow ty v = v) (hfit : fits ty v = true) (hl : k < fs.length)
    (hdg : decode cc pc = .ok (.putfield index, 3)) (kk : ∀ (H1 : Heap) (locs1 : List Loc), hw_W D cl tys A (va_up M a (some (.inr (ci, fs.set k v)))) s H1 → va_S A H0 H1 locs1 → W p l e R s m args below meth c H1 locs1 cells slots Q (F0 m (pc + 3) ls rest)) : W p l e R s m args below meth c H locs cells slots Q (F0 m pc ls (v :: .ref a :: rest)) := by
  obtain ⟨ws, rfl, hP, hD, hK⟩ := hW
  obtain ⟨q0, hq⟩ := hw_lk_ix he
  exact va_putF hexec hb hts hin ty0 hty hnm hown hK hP hD hS0 q0 hq hc k hk hlink hsame hfin hin2 hdecl hd hn hfit hl hdg (fun H1 locs1 h1 h2 h3 => kk H1 locs1 ⟨_, hw_lk_set hD hq, h1, h2, hK⟩ h3)
theorem hw_iald (hexec : p.tables.exec = Jvm.exec) (hb : c.code = cc) (hW : hw_W D cl tys A M s H) (t0 : Nat) {cA : ClassId} {n : Nat} {f : Nat → Int32} (ha : M a = some (.inl (cA, n, .inl f))) (ht : tys[t0]? = some (cA, .int)) {i : Int32} (hin : vp_in i n) (hdg : decode cc pc = .ok (.iaload, 1))
    (kk : W p l e R s m args below meth c H locs cells slots Q (F0 m (pc + 1) ls (.int (f i.toNatClampNeg) :: rest))) : W p l e R s m args below meth c H locs cells slots Q (F0 m pc ls (.int i :: .ref a :: rest)) := by
  obtain ⟨ws, rfl, hP, hD, hK⟩ := hW
  obtain ⟨q0, hq⟩ := hw_lk_ix ha
  exact va_iald hexec hb hK hP q0 t0 hq ht hin hdg kk
theorem hw_lald (hexec : p.tables.exec = Jvm.exec) (hb : c.code = cc) (hW : hw_W D cl tys A M s H) (t0 : Nat) {cA : ClassId} {n : Nat} {f : Nat → Int64} (ha : M a = some (.inl (cA, n, .inr (.inl f)))) (ht : tys[t0]? = some (cA, .long)) {i : Int32} (hin : vp_in i n) (hdg : decode cc pc = .ok (.laload, 1))
    (kk : W p l e R s m args below meth c H locs cells slots Q (F0 m (pc + 1) ls (.long (f i.toNatClampNeg) :: rest))) : W p l e R s m args below meth c H locs cells slots Q (F0 m pc ls (.int i :: .ref a :: rest)) := by
  obtain ⟨ws, rfl, hP, hD, hK⟩ := hW
  obtain ⟨q0, hq⟩ := hw_lk_ix ha
  exact va_lald hexec hb hK hP q0 t0 hq ht hin hdg kk
theorem hw_aald (hexec : p.tables.exec = Jvm.exec) (hb : c.code = cc) (hW : hw_W D cl tys A M s H) (t0 : Nat) {cA : ClassId} {C : String} {n : Nat} {f : Nat → Option Nat} (ha : M a = some (.inl (cA, n, .inr (.inr (.inr (.inr f)))))) (ht : tys[t0]? = some (cA, .object C)) {i : Int32} (hin : vp_in i n) (hdg : decode cc pc = .ok (.aaload, 1))
    (kk : W p l e R s m args below meth c H locs cells slots Q (F0 m (pc + 1) ls (va_rf (f i.toNatClampNeg) :: rest))) : W p l e R s m args below meth c H locs cells slots Q (F0 m pc ls (.int i :: .ref a :: rest)) := by
  obtain ⟨ws, rfl, hP, hD, hK⟩ := hW
  obtain ⟨q0, hq⟩ := hw_lk_ix ha
  exact va_aldq hexec hb hK hP q0 t0 hq ht hin hdg kk
theorem hw_iast (hexec : p.tables.exec = Jvm.exec) (hb : c.code = cc) (hW : hw_W D cl tys A M s H) (hS : va_S A H0 H locs) (t0 : Nat) {cA : ClassId} {n : Nat} {f : Nat → Int32} (ha : M a = some (.inl (cA, n, .inl f))) (ht : tys[t0]? = some (cA, .int)) {i : Int32} {x : Int32} (hin : vp_in i n) (hdg : decode cc pc = .ok (.iastore, 1))
    (kk : ∀ (H1 : Heap) (locs1 : List Loc), hw_W D cl tys A (va_up M a (some (.inl (cA, n, .inl (upd f i.toNatClampNeg x))))) s H1 → va_S A H0 H1 locs1 → W p l e R s m args below meth c H1 locs1 cells slots Q (F0 m (pc + 1) ls rest)) : W p l e R s m args below meth c H locs cells slots Q (F0 m pc ls (.int x :: .int i :: .ref a :: rest)) := by
  obtain ⟨ws, rfl, hP, hD, hK⟩ := hW
  obtain ⟨q0, hq⟩ := hw_lk_ix ha
  exact va_iast hexec hb hK hP hD hS q0 t0 hq ht hin hdg (fun H1 locs1 h1 h2 h3 => kk H1 locs1 ⟨_, hw_lk_set hD hq, h1, h2, hK⟩ h3)
theorem hw_last (hexec : p.tables.exec = Jvm.exec) (hb : c.code = cc) (hW : hw_W D cl tys A M s H) (hS : va_S A H0 H locs) (t0 : Nat) {cA : ClassId} {n : Nat} {f : Nat → Int64} (ha : M a = some (.inl (cA, n, .inr (.inl f)))) (ht : tys[t0]? = some (cA, .long)) {i : Int32} {x : Int64} (hin : vp_in i n) (hdg : decode cc pc = .ok (.lastore, 1))
    (kk : ∀ (H1 : Heap) (locs1 : List Loc), hw_W D cl tys A (va_up M a (some (.inl (cA, n, .inr (.inl (vp_updL f i.toNatClampNeg x)))))) s H1 → va_S A H0 H1 locs1 → W p l e R s m args below meth c H1 locs1 cells slots Q (F0 m (pc + 1) ls rest)) : W p l e R s m args below meth c H locs cells slots Q (F0 m pc ls (.long x :: .int i :: .ref a :: rest)) := by
  obtain ⟨ws, rfl, hP, hD, hK⟩ := hW
  obtain ⟨q0, hq⟩ := hw_lk_ix ha
  exact va_last hexec hb hK hP hD hS q0 t0 hq ht hin hdg (fun H1 locs1 h1 h2 h3 => kk H1 locs1 ⟨_, hw_lk_set hD hq, h1, h2, hK⟩ h3)
theorem hw_alen (hexec : p.tables.exec = Jvm.exec) (hb : c.code = cc) (hW : hw_W D cl tys A M s H) (t0 : Nat) {cA : ClassId} {x : vp_A} (ha : M a = some (.inl (cA, x))) {ty : FieldType} (ht : tys[t0]? = some (cA, ty)) {v : Int32} (hv : Int32.ofNat x.1 = v) (hdg : decode cc pc = .ok (.arraylength, 1))
    (kk : W p l e R s m args below meth c H locs cells slots Q (F0 m (pc + 1) ls (.int v :: rest))) : W p l e R s m args below meth c H locs cells slots Q (F0 m pc ls (.ref a :: rest)) := by
  obtain ⟨ws, rfl, hP, hD, hK⟩ := hW
  obtain ⟨q0, hq⟩ := hw_lk_ix ha
  exact va_alen hexec hb hK hP q0 t0 hq ht hv hdg kk
theorem hw_new (hexec : p.tables.exec = Jvm.exec) (hb : c.code = cc) {own C : String} {T : u_T} {N ci index : Nat} {Ts : List Cond} (hts : ∀ w ∈ Ts, w.before args s = true) (hin : ∀ w ∈ u_ws C T N, w ∈ Ts) (ty : Nat → FieldType) (hty : ∀ k, k < N → parseFieldDescriptor (T k).2.2.1 = some (ty k)) (hown : s.vm.findClass own = some m.cls) (hcl : (Cond.classLink own index C).before args s = true) (hinst : (Cond.instantiable C N).before args s = true) (hini : (Cond.initialized C).before args s = true)
    (hW : hw_W D cl tys A M s H) (hS : va_S A H0 H locs) (hA : ∀ q, H0.size ≤ q → A q) (hc : cl[ci]? = some (C, T, N)) {fs : List Value} (hfs : ∀ j, j < N → defaultValue (ty j) = vp_V fs j) (hcells : cells + 1 ≤ R.cells) (hslots : slots + N ≤ R.slots) (hdg : decode cc pc = .ok (.new index, 3))
    (kk : ∀ (q : Nat) (H1 : Heap), M q = none → hw_W D cl tys A (va_up M q (some (.inr (ci, fs)))) s H1 → va_S A H0 H1 locs →
      W p l e R s m args below meth c H1 locs (cells + 1) (slots + N) Q (F0 m (pc + 3) ls (.ref q :: rest))) : W p l e R s m args below meth c H locs cells slots Q (F0 m pc ls rest) := by
  obtain ⟨ws, rfl, hP, hD, hK⟩ := hW
  exact va_new hexec hb hts hin ty hty hown hcl hinst hini hK hP hD hS hA hc hfs hcells hslots hdg (fun q H1 h1 h2 h3 => kk q H1 (hw_lk_push h2).2 ⟨_, (hw_lk_push h2).1, h1, h2, hK⟩ h3)
/-- the class of the arrays of a type is one -/
theorem hw_tyU {U : State} {cA cB : ClassId} {ty : FieldType} (h1 : va_RA U cA ty) (h2 : va_RA U cB ty) : cA = cB := by
  cases ty with
  | object C =>
    obtain ⟨_, _, _, _, _, a4⟩ := h1
    obtain ⟨_, _, _, _, _, b4⟩ := h2
    exact Option.some.inj (a4.symm.trans b4)
  | _ => exact Option.some.inj (Eq.trans (Eq.symm h1) h2)
theorem hw_tyK {U : State} {cA cB : ClassId} {ty : FieldType} {t0 : Nat} (hK : va_K D cl (tys ++ [(cA, ty)]) U) (ht : tys[t0]? = some (cB, ty)) : cA = cB := by
  have h1 := (hK.2 tys.length (cA, ty) (by rw [List.getElem?_append_right (Nat.le_refl _), Nat.sub_self]; rfl)).2
  have h2 := (hK.2 t0 (cB, ty) (by rw [List.getElem?_append_left (List.getElem?_eq_some_iff.mp ht).1]; exact ht)).2
  exact hw_tyU h1 h2
theorem hw_newi (hexec : p.tables.exec = Jvm.exec) (hb : c.code = cc) (harr : (Cond.arrayClass .int).before args s = true) (hW : hw_W D cl tys A M s H) (hS : va_S A H0 H locs) (hA : ∀ q, H0.size ≤ q → A q) (t0 : Nat) {cA : ClassId} (ht : tys[t0]? = some (cA, .int))
    {n : Int32} {N' : Nat} (hn : ¬ n < 0) (hN : n.toNatClampNeg = N') (hbytes : N' * 4 ≤ 536870912) (hcells : cells + 1 ≤ R.cells) (hslots : slots + N' ≤ R.slots) (hdg : decode cc pc = .ok (.newarray .int, 2))
    (kk : ∀ (q : Nat) (H1 : Heap), M q = none → hw_W D cl tys A (va_up M q (some (.inl (cA, N', .inl (fun _ => 0))))) s H1 → va_S A H0 H1 locs →
      W p l e R s m args below meth c H1 locs (cells + 1) (slots + N') Q (F0 m (pc + 2) ls (.ref q :: rest))) : W p l e R s m args below meth c H locs cells slots Q (F0 m pc ls (.int n :: rest)) := by
  obtain ⟨ws, rfl, hP, hD, hK⟩ := hW
  refine va_newa (atype := .int) (ty := .int) (a0 := (N', .inl (fun _ => 0))) hexec hb harr rfl hK hP hD hS hA (fun _ => rfl) hn hN hbytes hcells hslots hdg (fun q cB H1 h0 h1 h2 h3 => ?_)
  have e1 := hw_tyK h0 ht
  subst e1
  exact kk q H1 (hw_lk_push h2).2 ⟨_, (hw_lk_push h2).1, h1, h2, hK⟩ h3
theorem hw_newl (hexec : p.tables.exec = Jvm.exec) (hb : c.code = cc) (harr : (Cond.arrayClass .long).before args s = true) (hW : hw_W D cl tys A M s H) (hS : va_S A H0 H locs) (hA : ∀ q, H0.size ≤ q → A q) (t0 : Nat) {cA : ClassId} (ht : tys[t0]? = some (cA, .long))
    {n : Int32} {N' : Nat} (hn : ¬ n < 0) (hN : n.toNatClampNeg = N') (hbytes : N' * 8 ≤ 536870912) (hcells : cells + 1 ≤ R.cells) (hslots : slots + N' ≤ R.slots) (hdg : decode cc pc = .ok (.newarray .long, 2))
    (kk : ∀ (q : Nat) (H1 : Heap), M q = none → hw_W D cl tys A (va_up M q (some (.inl (cA, N', .inr (.inl (fun _ => 0)))))) s H1 → va_S A H0 H1 locs →
      W p l e R s m args below meth c H1 locs (cells + 1) (slots + N') Q (F0 m (pc + 2) ls (.ref q :: rest))) : W p l e R s m args below meth c H locs cells slots Q (F0 m pc ls (.int n :: rest)) := by
  obtain ⟨ws, rfl, hP, hD, hK⟩ := hW
  refine va_newa (atype := .long) (ty := .long) (a0 := (N', .inr (.inl (fun _ => 0)))) hexec hb harr rfl hK hP hD hS hA (fun _ => rfl) hn hN hbytes hcells hslots hdg (fun q cB H1 h0 h1 h2 h3 => ?_)
  have e1 := hw_tyK h0 ht
  subst e1
  exact kk q H1 (hw_lk_push h2).2 ⟨_, (hw_lk_push h2).1, h1, h2, hK⟩ h3
theorem hw_newq (hexec : p.tables.exec = Jvm.exec) (hb : c.code = cc) {own C : String} {index : Nat} (hown : s.vm.findClass own = some m.cls) (hclink : (Cond.classLink own index C).before args s = true) (hover : va_AO C s) (hW : hw_W D cl tys A M s H) (hS : va_S A H0 H locs) (hA : ∀ q, H0.size ≤ q → A q) (t0 : Nat) {cA : ClassId} (ht : tys[t0]? = some (cA, .object C))
    {n : Int32} {N' : Nat} (hn : ¬ n < 0) (hN : n.toNatClampNeg = N') (hbytes : N' * 4 ≤ 536870912) (hcells : cells + 1 ≤ R.cells) (hslots : slots + N' ≤ R.slots) (hdg : decode cc pc = .ok (.anewarray index, 3))
    (kk : ∀ (q : Nat) (H1 : Heap), M q = none → hw_W D cl tys A (va_up M q (some (.inl (cA, N', .inr (.inr (.inr (.inr (fun _ => none)))))))) s H1 → va_S A H0 H1 locs →
      W p l e R s m args below meth c H1 locs (cells + 1) (slots + N') Q (F0 m (pc + 3) ls (.ref q :: rest))) : W p l e R s m args below meth c H locs cells slots Q (F0 m pc ls (.int n :: rest)) := by
  obtain ⟨ws, rfl, hP, hD, hK⟩ := hW
  refine va_newq hexec hb hown hclink hover hK hP hD hS hA hn hN hbytes hcells hslots hdg (fun q cB H1 h0 h1 h2 h3 => ?_)
  have e1 := hw_tyK h0 ht
  subst e1
  exact kk q H1 (hw_lk_push h2).2 ⟨_, (hw_lk_push h2).1, h1, h2, hK⟩ h3
theorem hw_back {A1 : Nat → Prop} {M1 : Nat → Option va_E} {t : State} {H1 : Heap} (hW : hw_W D cl tys A M s H) (hS : va_S A H0 H locs) (hA : ∀ q, H0.size ≤ q → A q) (ht : t.heap = H1) (hvm : s.vm.Alike t.vm) (hB : hw_B D cl tys M H.size M1 t) : hw_W D cl tys A M1 s H1 := by
  have h1 : hw_W D cl tys (hw_A M H.size) M1 t t.heap := hB
  rw [ht] at h1
  exact (h1.moved hvm.symm).weaken (hW.free hS hA)
theorem hw_calli {st0 : List Value} {a9 : Array Value} {mc ms : Nat} {post : Int32 → (Nat → Option va_E) → Prop} (hr : va_Run p l e R s m args below meth c H locs cells slots mc ms (F0 m pc ls st0) rest (va_Qi post (hw_B D cl tys M H.size) (hw_A M H.size) a9) (hw_A M H.size)) (hW : hw_W D cl tys A M s H) (hS : va_S A H0 H locs) (hA : ∀ q, H0.size ≤ q → A q)
    (kk : ∀ (r : Int32) (M1 : Nat → Option va_E) (H1 : Heap) (locs1 : List Loc), post r M1 → H.size ≤ H1.size → hw_W D cl tys A M1 s H1 → va_S A H0 H1 locs1 → W p l e R s m args below meth c H1 locs1 (cells + mc) (slots + ms) Q (F0 m (pc + 3) ls (.int r :: rest))) : W p l e R s m args below meth c H locs cells slots Q (F0 m pc ls st0) :=
  va_calli hr hS (fun q _ h => hW.free hS hA q h) (fun q h => hW.free hS hA q h) (fun r M1 _ H1 locs1 ht hvm hp hB hz _ hS1 => kk r M1 H1 locs1 hp hz (hw_back (A1 := A) hW hS hA ht hvm hB) hS1)
theorem hw_calll {st0 : List Value} {a9 : Array Value} {mc ms : Nat} {post : Int64 → (Nat → Option va_E) → Prop} (hr : va_Run p l e R s m args below meth c H locs cells slots mc ms (F0 m pc ls st0) rest (va_Ql post (hw_B D cl tys M H.size) (hw_A M H.size) a9) (hw_A M H.size)) (hW : hw_W D cl tys A M s H) (hS : va_S A H0 H locs) (hA : ∀ q, H0.size ≤ q → A q)
    (kk : ∀ (r : Int64) (M1 : Nat → Option va_E) (H1 : Heap) (locs1 : List Loc), post r M1 → H.size ≤ H1.size → hw_W D cl tys A M1 s H1 → va_S A H0 H1 locs1 → W p l e R s m args below meth c H1 locs1 (cells + mc) (slots + ms) Q (F0 m (pc + 3) ls (.long r :: rest))) : W p l e R s m args below meth c H locs cells slots Q (F0 m pc ls st0) :=
  va_calll hr hS (fun q _ h => hW.free hS hA q h) (fun q h => hW.free hS hA q h) (fun r M1 _ H1 locs1 ht hvm hp hB hz _ hS1 => kk r M1 H1 locs1 hp hz (hw_back (A1 := A) hW hS hA ht hvm hB) hS1)
theorem hw_callv {st0 : List Value} {a9 : Array Value} {mc ms : Nat} {post : (Nat → Option va_E) → Prop} (hr : va_Run p l e R s m args below meth c H locs cells slots mc ms (F0 m pc ls st0) rest (va_Qv post (hw_B D cl tys M H.size) (hw_A M H.size) a9) (hw_A M H.size)) (hW : hw_W D cl tys A M s H) (hS : va_S A H0 H locs) (hA : ∀ q, H0.size ≤ q → A q)
    (kk : ∀ (M1 : Nat → Option va_E) (H1 : Heap) (locs1 : List Loc), post M1 → H.size ≤ H1.size → hw_W D cl tys A M1 s H1 → va_S A H0 H1 locs1 → W p l e R s m args below meth c H1 locs1 (cells + mc) (slots + ms) Q (F0 m (pc + 3) ls (rest))) : W p l e R s m args below meth c H locs cells slots Q (F0 m pc ls st0) :=
  va_callv hr hS (fun q _ h => hW.free hS hA q h) (fun q h => hW.free hS hA q h) (fun M1 _ H1 locs1 ht hvm hp hB hz _ hS1 => kk M1 H1 locs1 hp hz (hw_back (A1 := A) hW hS hA ht hvm hB) hS1)
theorem hw_callq {st0 : List Value} {a9 : Array Value} {mc ms : Nat} {post : Option Nat → (Nat → Option va_E) → Prop} (hr : va_Run p l e R s m args below meth c H locs cells slots mc ms (F0 m pc ls st0) rest (va_Qq post (hw_B D cl tys M H.size) (hw_A M H.size) a9) (hw_A M H.size)) (hW : hw_W D cl tys A M s H) (hS : va_S A H0 H locs) (hA : ∀ q, H0.size ≤ q → A q)
    (kk : ∀ (r : Option Nat) (M1 : Nat → Option va_E) (H1 : Heap) (locs1 : List Loc), post r M1 → H.size ≤ H1.size → hw_W D cl tys A M1 s H1 → va_S A H0 H1 locs1 → W p l e R s m args below meth c H1 locs1 (cells + mc) (slots + ms) Q (F0 m (pc + 3) ls (va_rf r :: rest))) : W p l e R s m args below meth c H locs cells slots Q (F0 m pc ls st0) :=
  va_callq hr hS (fun q _ h => hW.free hS hA q h) (fun q h => hW.free hS hA q h) (fun r M1 _ H1 locs1 ht hvm hp hB hz _ hS1 => kk r M1 H1 locs1 hp hz (hw_back (A1 := A) hW hS hA ht hvm hB) hS1)
theorem hw_reti {M0 : Nat → Option va_E} {post : Int32 → (Nat → Option va_E) → Prop} {v : Int32} (hexec : p.tables.exec = Jvm.exec) (hb : c.code = cc) (hr : meth.sig.returnType = some .int) (hlocks : meth.locks = false) (hW : hw_W D cl tys (hw_A M0 s.heap.size) M s H) (hS : va_S (hw_A M0 s.heap.size) s.heap H locs) (hp : post v M) (hdg : decode cc pc = .ok (.ireturn, 1)) : W p l e R s m args below meth c H locs cells slots (MQ below (va_Qi post (hw_B D cl tys M0 s.heap.size) (hw_A M0 s.heap.size)) args s cells slots (hw_A M0 s.heap.size)) (F0 m pc ls [.int v]) :=
  W.iret (v := v) hexec hb hr (fun t ht hw => ⟨⟨v, M, rfl, hp, by rw [hw_B, ht]; exact hW.moved hw.alike⟩, hS.F ht⟩) hS.2.2 hdg hlocks
theorem hw_retz {M0 : Nat → Option va_E} {post : Int32 → (Nat → Option va_E) → Prop} {v : Int32} (hexec : p.tables.exec = Jvm.exec) (hb : c.code = cc) (hr : meth.sig.returnType = some .boolean) (hn : narrow .boolean (.int v) = .int v) (hlocks : meth.locks = false) (hW : hw_W D cl tys (hw_A M0 s.heap.size) M s H) (hS : va_S (hw_A M0 s.heap.size) s.heap H locs) (hp : post v M) (hdg : decode cc pc = .ok (.ireturn, 1)) : W p l e R s m args below meth c H locs cells slots (MQ below (va_Qi post (hw_B D cl tys M0 s.heap.size) (hw_A M0 s.heap.size)) args s cells slots (hw_A M0 s.heap.size)) (F0 m pc ls [.int v]) :=
  W.zret (v := v) hexec hb hr hn (fun t ht hw => ⟨⟨v, M, rfl, hp, by rw [hw_B, ht]; exact hW.moved hw.alike⟩, hS.F ht⟩) hS.2.2 hdg hlocks
theorem hw_retl {M0 : Nat → Option va_E} {post : Int64 → (Nat → Option va_E) → Prop} {v : Int64} (hexec : p.tables.exec = Jvm.exec) (hb : c.code = cc) (hr : meth.sig.returnType = some .long) (hlocks : meth.locks = false) (hW : hw_W D cl tys (hw_A M0 s.heap.size) M s H) (hS : va_S (hw_A M0 s.heap.size) s.heap H locs) (hp : post v M) (hdg : decode cc pc = .ok (.lreturn, 1)) : W p l e R s m args below meth c H locs cells slots (MQ below (va_Ql post (hw_B D cl tys M0 s.heap.size) (hw_A M0 s.heap.size)) args s cells slots (hw_A M0 s.heap.size)) (F0 m pc ls [.long v]) :=
  W.lret (v := v) hexec hb hr (fun t ht hw => ⟨⟨v, M, rfl, hp, by rw [hw_B, ht]; exact hW.moved hw.alike⟩, hS.F ht⟩) hS.2.2 hdg hlocks
theorem hw_retv {M0 : Nat → Option va_E} {post : (Nat → Option va_E) → Prop} (hexec : p.tables.exec = Jvm.exec) (hb : c.code = cc) (hr : meth.sig.returnType = none) (hlocks : meth.locks = false) (hW : hw_W D cl tys (hw_A M0 s.heap.size) M s H) (hS : va_S (hw_A M0 s.heap.size) s.heap H locs) (hp : post M) (hdg : decode cc pc = .ok (.return_, 1)) : W p l e R s m args below meth c H locs cells slots (MQ below (va_Qv post (hw_B D cl tys M0 s.heap.size) (hw_A M0 s.heap.size)) args s cells slots (hw_A M0 s.heap.size)) (F0 m pc ls []) :=
  W.vret hexec hb hr (fun t ht hw => ⟨⟨M, rfl, hp, by rw [hw_B, ht]; exact hW.moved hw.alike⟩, hS.F ht⟩) hS.2.2 hdg hlocks
theorem hw_reta {M0 : Nat → Option va_E} {post : Option Nat → (Nat → Option va_E) → Prop} {v : Nat} {rt : FieldType} (hexec : p.tables.exec = Jvm.exec) (hb : c.code = cc) (hr : meth.sig.returnType = some rt) (hrt : (∃ n, rt = .object n) ∨ ∃ t, rt = .array t) (hlocks : meth.locks = false) (hW : hw_W D cl tys (hw_A M0 s.heap.size) M s H) (hS : va_S (hw_A M0 s.heap.size) s.heap H locs) (hp : post (some v) M) (hdg : decode cc pc = .ok (.areturn, 1)) : W p l e R s m args below meth c H locs cells slots (MQ below (va_Qq post (hw_B D cl tys M0 s.heap.size) (hw_A M0 s.heap.size)) args s cells slots (hw_A M0 s.heap.size)) (F0 m pc ls [.ref v]) :=
  W.aret hexec hb hr hrt (Or.inr ⟨v, rfl⟩) (fun t ht hw => ⟨⟨some v, M, rfl, hp, by rw [hw_B, ht]; exact hW.moved hw.alike⟩, hS.F ht⟩) hS.2.2 hdg hlocks
end HWS
end
section
/-! names, by program (wip/gen/names.py) -/
def F_Qo : u_T := fun k => match k with
  | 0 => ("QuantifierOut", "nodes", "[LQuantifierOut$Node;", true)
  | 1 => ("QuantifierOut", "values", "LQuantifierOut$Values;", true)
  | 2 => ("QuantifierOut", "row", "LQuantifierOut$Pieces;", true)
  | _ => ("QuantifierOut", "made", "I", false)
def ft_Qo : Nat → FieldType := fun k => match k with
  | 0 => .array (.object "QuantifierOut$Node")
  | 1 => .object "QuantifierOut$Values"
  | 2 => .object "QuantifierOut$Pieces"
  | _ => .int
theorem n_Qo : ∀ a, a < 4 → ∀ b, b < 4 → a ≠ b → (F_Qo a).2.1 ≠ (F_Qo b).2.1 := by decide +kernel
theorem tk_Qo : ∀ k, k < 4 → parseFieldDescriptor (F_Qo k).2.2.1 = some (ft_Qo k) := by decide +kernel
def F_At : u_T := fun k => match k with
  | 0 => ("QuantifierOut$Node", "free", "I", true)
  | 1 => ("QuantifierOut$Node", "depth", "I", true)
  | 2 => ("QuantifierOut$Node", "lines", "[I", true)
  | 3 => ("QuantifierOut$Node", "grid", "I", false)
  | 4 => ("QuantifierOut$Atom", "a", "I", true)
  | 5 => ("QuantifierOut$Atom", "b", "I", true)
  | 6 => ("QuantifierOut$Atom", "c", "I", true)
  | _ => ("QuantifierOut$Atom", "op", "I", true)
def ft_At : Nat → FieldType := fun k => match k with
  | 0 => .int
  | 1 => .int
  | 2 => .array .int
  | 3 => .int
  | 4 => .int
  | 5 => .int
  | 6 => .int
  | _ => .int
theorem n_At : ∀ a, a < 8 → ∀ b, b < 8 → a ≠ b → (F_At a).2.1 ≠ (F_At b).2.1 := by decide +kernel
theorem tk_At : ∀ k, k < 8 → parseFieldDescriptor (F_At k).2.2.1 = some (ft_At k) := by decide +kernel
def F_Mk : u_T := fun k => match k with
  | 0 => ("QuantifierOut$Marks", "above", "[J", true)
  | 1 => ("QuantifierOut$Marks", "below", "[J", true)
  | _ => ("QuantifierOut$Marks", "size", "I", false)
def ft_Mk : Nat → FieldType := fun k => match k with
  | 0 => .array .long
  | 1 => .array .long
  | _ => .int
theorem n_Mk : ∀ a, a < 3 → ∀ b, b < 3 → a ≠ b → (F_Mk a).2.1 ≠ (F_Mk b).2.1 := by decide +kernel
theorem tk_Mk : ∀ k, k < 3 → parseFieldDescriptor (F_Mk k).2.2.1 = some (ft_Mk k) := by decide +kernel
def F_Ng : u_T := fun k => match k with
  | 0 => ("QuantifierOut$Node", "free", "I", true)
  | 1 => ("QuantifierOut$Node", "depth", "I", true)
  | 2 => ("QuantifierOut$Node", "lines", "[I", true)
  | 3 => ("QuantifierOut$Node", "grid", "I", false)
  | _ => ("QuantifierOut$Negation", "body", "LQuantifierOut$Node;", true)
def ft_Ng : Nat → FieldType := fun k => match k with
  | 0 => .int
  | 1 => .int
  | 2 => .array .int
  | 3 => .int
  | _ => .object "QuantifierOut$Node"
theorem n_Ng : ∀ a, a < 5 → ∀ b, b < 5 → a ≠ b → (F_Ng a).2.1 ≠ (F_Ng b).2.1 := by decide +kernel
theorem tk_Ng : ∀ k, k < 5 → parseFieldDescriptor (F_Ng k).2.2.1 = some (ft_Ng k) := by decide +kernel
def F_Pr : u_T := fun k => match k with
  | 0 => ("QuantifierOut$Node", "free", "I", true)
  | 1 => ("QuantifierOut$Node", "depth", "I", true)
  | 2 => ("QuantifierOut$Node", "lines", "[I", true)
  | 3 => ("QuantifierOut$Node", "grid", "I", false)
  | 4 => ("QuantifierOut$Pair", "first", "LQuantifierOut$Node;", true)
  | 5 => ("QuantifierOut$Pair", "second", "LQuantifierOut$Node;", true)
  | _ => ("QuantifierOut$Pair", "needsBoth", "Z", true)
def ft_Pr : Nat → FieldType := fun k => match k with
  | 0 => .int
  | 1 => .int
  | 2 => .array .int
  | 3 => .int
  | 4 => .object "QuantifierOut$Node"
  | 5 => .object "QuantifierOut$Node"
  | _ => .boolean
theorem n_Pr : ∀ a, a < 7 → ∀ b, b < 7 → a ≠ b → (F_Pr a).2.1 ≠ (F_Pr b).2.1 := by decide +kernel
theorem tk_Pr : ∀ k, k < 7 → parseFieldDescriptor (F_Pr k).2.2.1 = some (ft_Pr k) := by decide +kernel
def F_Pc : u_T := fun k => match k with
  | 0 => ("QuantifierOut$Pieces", "marks", "LQuantifierOut$Marks;", true)
  | 1 => ("QuantifierOut$Pieces", "firstStop", "[I", true)
  | 2 => ("QuantifierOut$Pieces", "lastStop", "[I", true)
  | 3 => ("QuantifierOut$Pieces", "size", "I", false)
  | _ => ("QuantifierOut$Pieces", "owner", "LQuantifierOut$Node;", false)
def ft_Pc : Nat → FieldType := fun k => match k with
  | 0 => .object "QuantifierOut$Marks"
  | 1 => .array .int
  | 2 => .array .int
  | 3 => .int
  | _ => .object "QuantifierOut$Node"
theorem n_Pc : ∀ a, a < 5 → ∀ b, b < 5 → a ≠ b → (F_Pc a).2.1 ≠ (F_Pc b).2.1 := by decide +kernel
theorem tk_Pc : ∀ k, k < 5 → parseFieldDescriptor (F_Pc k).2.2.1 = some (ft_Pc k) := by decide +kernel
def F_Qf : u_T := fun k => match k with
  | 0 => ("QuantifierOut$Node", "free", "I", true)
  | 1 => ("QuantifierOut$Node", "depth", "I", true)
  | 2 => ("QuantifierOut$Node", "lines", "[I", true)
  | 3 => ("QuantifierOut$Node", "grid", "I", false)
  | 4 => ("QuantifierOut$Quantified", "letter", "I", true)
  | 5 => ("QuantifierOut$Quantified", "body", "LQuantifierOut$Node;", true)
  | _ => ("QuantifierOut$Quantified", "wantsAll", "Z", true)
def ft_Qf : Nat → FieldType := fun k => match k with
  | 0 => .int
  | 1 => .int
  | 2 => .array .int
  | 3 => .int
  | 4 => .int
  | 5 => .object "QuantifierOut$Node"
  | _ => .boolean
theorem n_Qf : ∀ a, a < 7 → ∀ b, b < 7 → a ≠ b → (F_Qf a).2.1 ≠ (F_Qf b).2.1 := by decide +kernel
theorem tk_Qf : ∀ k, k < 7 → parseFieldDescriptor (F_Qf k).2.2.1 = some (ft_Qf k) := by decide +kernel
def F_Vs : u_T := fun k => match k with
  | 0 => ("QuantifierOut$Values", "above", "[J", true)
  | 1 => ("QuantifierOut$Values", "below", "[J", true)
  | 2 => ("QuantifierOut$Values", "outerMarks", "LQuantifierOut$Marks;", true)
  | _ => ("QuantifierOut$Values", "innerMarks", "LQuantifierOut$Marks;", true)
def ft_Vs : Nat → FieldType := fun k => match k with
  | 0 => .array .long
  | 1 => .array .long
  | 2 => .object "QuantifierOut$Marks"
  | _ => .object "QuantifierOut$Marks"
theorem n_Vs : ∀ a, a < 4 → ∀ b, b < 4 → a ≠ b → (F_Vs a).2.1 ≠ (F_Vs b).2.1 := by decide +kernel
theorem tk_Vs : ∀ k, k < 4 → parseFieldDescriptor (F_Vs k).2.2.1 = some (ft_Vs k) := by decide +kernel
def F_Md : u_T := fun k => match k with
  | 0 => ("QuantifierOutModel", "code", "I", false)
  | 1 => ("QuantifierOutModel", "nodes", "I", false)
  | 2 => ("QuantifierOutModel", "kind", "[I", true)
  | 3 => ("QuantifierOutModel", "one", "[I", true)
  | 4 => ("QuantifierOutModel", "two", "[I", true)
  | 5 => ("QuantifierOutModel", "numbers", "[I", true)
  | 6 => ("QuantifierOutModel", "letter", "[I", true)
  | 7 => ("QuantifierOutModel", "freeX", "[Z", true)
  | 8 => ("QuantifierOutModel", "freeY", "[Z", true)
  | 9 => ("QuantifierOutModel", "size", "[I", true)
  | 10 => ("QuantifierOutModel", "depth", "[I", true)
  | 11 => ("QuantifierOutModel", "needed", "[Z", true)
  | 12 => ("QuantifierOutModel", "isTrue", "[Z", true)
  | 13 => ("QuantifierOutModel", "point", "[J", true)
  | 14 => ("QuantifierOutModel", "many", "[I", true)
  | 15 => ("QuantifierOutModel", "above", "[J", true)
  | 16 => ("QuantifierOutModel", "below", "[J", true)
  | 17 => ("QuantifierOutModel", "up", "J", false)
  | 18 => ("QuantifierOutModel", "down", "J", false)
  | 19 => ("QuantifierOutModel", "line", "[Z", true)
  | 20 => ("QuantifierOutModel", "pieces", "I", false)
  | 21 => ("QuantifierOutModel", "from", "[I", true)
  | _ => ("QuantifierOutModel", "to", "[I", true)
def ft_Md : Nat → FieldType := fun k => match k with
  | 0 => .int
  | 1 => .int
  | 2 => .array .int
  | 3 => .array .int
  | 4 => .array .int
  | 5 => .array .int
  | 6 => .array .int
  | 7 => .array .boolean
  | 8 => .array .boolean
  | 9 => .array .int
  | 10 => .array .int
  | 11 => .array .boolean
  | 12 => .array .boolean
  | 13 => .array .long
  | 14 => .array .int
  | 15 => .array .long
  | 16 => .array .long
  | 17 => .long
  | 18 => .long
  | 19 => .array .boolean
  | 20 => .int
  | 21 => .array .int
  | _ => .array .int
theorem n_Md : ∀ a, a < 23 → ∀ b, b < 23 → a ≠ b → (F_Md a).2.1 ≠ (F_Md b).2.1 := by decide +kernel
theorem tk_Md : ∀ k, k < 23 → parseFieldDescriptor (F_Md k).2.2.1 = some (ft_Md k) := by decide +kernel
/-- the classes whose objects the worlds hold -/
abbrev qcl : List vw_C := [("QuantifierOut", F_Qo, 4), ("QuantifierOut$Atom", F_At, 8), ("QuantifierOut$Marks", F_Mk, 3), ("QuantifierOut$Negation", F_Ng, 5), ("QuantifierOut$Pair", F_Pr, 7), ("QuantifierOut$Pieces", F_Pc, 5), ("QuantifierOut$Quantified", F_Qf, 7), ("QuantifierOut$Values", F_Vs, 4), ("QuantifierOutModel", F_Md, 23)]
abbrev b_Qo_init : ByteArray := prog_1_method_1_code
def y_Qo_init : MethodName := ⟨"QuantifierOut", "<init>", "()V"⟩
abbrev b_Vs_init : ByteArray := prog_9_method_1_code
def y_Vs_init : MethodName := ⟨"QuantifierOut$Values", "<init>", "()V"⟩
abbrev b_Mk_init : ByteArray := prog_3_method_1_code
def y_Mk_init : MethodName := ⟨"QuantifierOut$Marks", "<init>", "()V"⟩
abbrev b_Pc_init : ByteArray := prog_7_method_1_code
def y_Pc_init : MethodName := ⟨"QuantifierOut$Pieces", "<init>", "()V"⟩
abbrev b_Qo_count : ByteArray := prog_1_method_14_code
def y_Qo_count : MethodName := ⟨"QuantifierOut", "count", "()I"⟩
abbrev b_Lw_atom : ByteArray := method_3_code
def y_Lw_atom : MethodName := ⟨"QuantifierOutLaw", "atom", "(LQuantifierOut;IIII[J)I"⟩
abbrev b_Qo_atom : ByteArray := prog_1_method_2_code
def y_Qo_atom : MethodName := ⟨"QuantifierOut", "atom", "(IIII)I"⟩
abbrev b_Qo_checkRoom : ByteArray := prog_1_method_18_code
def y_Qo_checkRoom : MethodName := ⟨"QuantifierOut", "checkRoom", "()V"⟩
abbrev b_Qo_isFactor : ByteArray := prog_1_method_15_code
def y_Qo_isFactor : MethodName := ⟨"QuantifierOut", "isFactor", "(I)Z"⟩
abbrev b_At_init : ByteArray := prog_2_method_1_code
def y_At_init : MethodName := ⟨"QuantifierOut$Atom", "<init>", "(IIII)V"⟩
abbrev b_Nd_init : ByteArray := prog_5_method_1_code
def y_Nd_init : MethodName := ⟨"QuantifierOut$Node", "<init>", "(II[I)V"⟩
abbrev b_Qo_add : ByteArray := prog_1_method_19_code
def y_Qo_add : MethodName := ⟨"QuantifierOut", "add", "(LQuantifierOut$Node;)I"⟩
abbrev b_Lw_both : ByteArray := method_4_code
def y_Lw_both : MethodName := ⟨"QuantifierOutLaw", "both", "(LQuantifierOut;II[J)I"⟩
abbrev b_Qo_both : ByteArray := prog_1_method_3_code
def y_Qo_both : MethodName := ⟨"QuantifierOut", "both", "(II)I"⟩
abbrev b_Qo_addPair : ByteArray := prog_1_method_20_code
def y_Qo_addPair : MethodName := ⟨"QuantifierOut", "addPair", "(IIZ)I"⟩
abbrev b_Qo_nodeAt : ByteArray := prog_1_method_17_code
def y_Qo_nodeAt : MethodName := ⟨"QuantifierOut", "nodeAt", "(I)LQuantifierOut$Node;"⟩
abbrev b_Nd_size : ByteArray := prog_5_method_4_code
def y_Nd_size : MethodName := ⟨"QuantifierOut$Node", "size", "()I"⟩
abbrev b_Pr_init : ByteArray := prog_6_method_1_code
def y_Pr_init : MethodName := ⟨"QuantifierOut$Pair", "<init>", "(LQuantifierOut$Node;LQuantifierOut$Node;Z)V"⟩
abbrev b_Pr_join : ByteArray := prog_6_method_2_code
def y_Pr_join : MethodName := ⟨"QuantifierOut$Pair", "join", "([I[I)[I"⟩
abbrev b_Lw_either : ByteArray := method_5_code
def y_Lw_either : MethodName := ⟨"QuantifierOutLaw", "either", "(LQuantifierOut;II[J)I"⟩
abbrev b_Qo_either : ByteArray := prog_1_method_4_code
def y_Qo_either : MethodName := ⟨"QuantifierOut", "either", "(II)I"⟩
abbrev b_Lw_not : ByteArray := method_6_code
def y_Lw_not : MethodName := ⟨"QuantifierOutLaw", "not", "(LQuantifierOut;I[J)I"⟩
abbrev b_Qo_not : ByteArray := prog_1_method_5_code
def y_Qo_not : MethodName := ⟨"QuantifierOut", "not", "(I)I"⟩
abbrev b_Ng_opposite : ByteArray := prog_4_method_2_code
def y_Ng_opposite : MethodName := ⟨"QuantifierOut$Negation", "opposite", "()LQuantifierOut$Node;"⟩
abbrev b_Nd_opposite : ByteArray := prog_5_method_3_code
def y_Nd_opposite : MethodName := ⟨"QuantifierOut$Node", "opposite", "()LQuantifierOut$Node;"⟩
abbrev b_Ng_init : ByteArray := prog_4_method_1_code
def y_Ng_init : MethodName := ⟨"QuantifierOut$Negation", "<init>", "(LQuantifierOut$Node;)V"⟩
abbrev b_Lw_some : ByteArray := method_7_code
def y_Lw_some : MethodName := ⟨"QuantifierOutLaw", "some", "(LQuantifierOut;II[J)I"⟩
abbrev b_Qo_some : ByteArray := prog_1_method_6_code
def y_Qo_some : MethodName := ⟨"QuantifierOut", "some", "(II)I"⟩
abbrev b_Qo_addQuantified : ByteArray := prog_1_method_21_code
def y_Qo_addQuantified : MethodName := ⟨"QuantifierOut", "addQuantified", "(IIZ)I"⟩
abbrev b_Qf_init : ByteArray := prog_8_method_1_code
def y_Qf_init : MethodName := ⟨"QuantifierOut$Quantified", "<init>", "(ILQuantifierOut$Node;Z)V"⟩
abbrev b_Lw_every : ByteArray := method_8_code
def y_Lw_every : MethodName := ⟨"QuantifierOutLaw", "every", "(LQuantifierOut;II[J)I"⟩
abbrev b_Qo_every : ByteArray := prog_1_method_7_code
def y_Qo_every : MethodName := ⟨"QuantifierOut", "every", "(II)I"⟩
abbrev b_Lw_known : ByteArray := method_9_code
def y_Lw_known : MethodName := ⟨"QuantifierOutLaw", "known", "(LQuantifierOut;II[J)I"⟩
abbrev b_Qo_known : ByteArray := prog_1_method_8_code
def y_Qo_known : MethodName := ⟨"QuantifierOut", "known", "(II)I"⟩
abbrev b_Nd_isFree : ByteArray := prog_5_method_5_code
def y_Nd_isFree : MethodName := ⟨"QuantifierOut$Node", "isFree", "(I)Z"⟩
abbrev b_Lw_holds : ByteArray := method_10_code
def y_Lw_holds : MethodName := ⟨"QuantifierOutLaw", "holds", "(LQuantifierOut;III[J)I"⟩
abbrev b_Qo_holds : ByteArray := prog_1_method_9_code
def y_Qo_holds : MethodName := ⟨"QuantifierOut", "holds", "(III)Z"⟩
abbrev b_Qo_isValue : ByteArray := prog_1_method_16_code
def y_Qo_isValue : MethodName := ⟨"QuantifierOut", "isValue", "(I)Z"⟩
abbrev b_Vs_putWhole : ByteArray := prog_9_method_3_code
def y_Vs_putWhole : MethodName := ⟨"QuantifierOut$Values", "putWhole", "(II)V"⟩
abbrev b_Vs_put : ByteArray := prog_9_method_2_code
def y_Vs_put : MethodName := ⟨"QuantifierOut$Values", "put", "(IJJ)V"⟩
abbrev b_At_isTrueAt : ByteArray := prog_2_method_2_code
def y_At_isTrueAt : MethodName := ⟨"QuantifierOut$Atom", "isTrueAt", "(LQuantifierOut$Values;)Z"⟩
abbrev b_Ng_isTrueAt : ByteArray := prog_4_method_3_code
def y_Ng_isTrueAt : MethodName := ⟨"QuantifierOut$Negation", "isTrueAt", "(LQuantifierOut$Values;)Z"⟩
abbrev b_Pr_isTrueAt : ByteArray := prog_6_method_3_code
def y_Pr_isTrueAt : MethodName := ⟨"QuantifierOut$Pair", "isTrueAt", "(LQuantifierOut$Values;)Z"⟩
abbrev b_Qf_isTrueAt : ByteArray := prog_8_method_2_code
def y_Qf_isTrueAt : MethodName := ⟨"QuantifierOut$Quantified", "isTrueAt", "(LQuantifierOut$Values;)Z"⟩
abbrev b_Vs_marksFor : ByteArray := prog_9_method_4_code
def y_Vs_marksFor : MethodName := ⟨"QuantifierOut$Values", "marksFor", "(I)LQuantifierOut$Marks;"⟩
abbrev b_Mk_gather : ByteArray := prog_3_method_3_code
def y_Mk_gather : MethodName := ⟨"QuantifierOut$Marks", "gather", "(LQuantifierOut$Node;ILQuantifierOut$Values;)V"⟩
abbrev b_Mk_markValue : ByteArray := prog_3_method_4_code
def y_Mk_markValue : MethodName := ⟨"QuantifierOut$Marks", "markValue", "([IIILQuantifierOut$Values;)V"⟩
abbrev b_Mk_insert : ByteArray := prog_3_method_6_code
def y_Mk_insert : MethodName := ⟨"QuantifierOut$Marks", "insert", "(JJ)V"⟩
abbrev b_Mk_markCrossing : ByteArray := prog_3_method_5_code
def y_Mk_markCrossing : MethodName := ⟨"QuantifierOut$Marks", "markCrossing", "([IIII)V"⟩
abbrev b_Mk_stops : ByteArray := prog_3_method_2_code
def y_Mk_stops : MethodName := ⟨"QuantifierOut$Marks", "stops", "()I"⟩
abbrev b_Mk_moveTo : ByteArray := prog_3_method_7_code
def y_Mk_moveTo : MethodName := ⟨"QuantifierOut$Marks", "moveTo", "(IILQuantifierOut$Values;)V"⟩
abbrev b_Lw_decide : ByteArray := method_11_code
def y_Lw_decide : MethodName := ⟨"QuantifierOutLaw", "decide", "(LQuantifierOut;I[J)I"⟩
abbrev b_Qo_decide : ByteArray := prog_1_method_10_code
def y_Qo_decide : MethodName := ⟨"QuantifierOut", "decide", "(I)Z"⟩
abbrev b_Lw_pieces : ByteArray := method_12_code
def y_Lw_pieces : MethodName := ⟨"QuantifierOutLaw", "pieces", "(LQuantifierOut;I[J)I"⟩
abbrev b_Qo_pieces : ByteArray := prog_1_method_11_code
def y_Qo_pieces : MethodName := ⟨"QuantifierOut", "pieces", "(I)I"⟩
abbrev b_Qo_findPieces : ByteArray := prog_1_method_22_code
def y_Qo_findPieces : MethodName := ⟨"QuantifierOut", "findPieces", "(I)V"⟩
abbrev b_Pc_find : ByteArray := prog_7_method_2_code
def y_Pc_find : MethodName := ⟨"QuantifierOut$Pieces", "find", "(LQuantifierOut$Node;LQuantifierOut$Values;)V"⟩
abbrev b_Lw_end : ByteArray := method_13_code
def y_Lw_end : MethodName := ⟨"QuantifierOutLaw", "end", "(LQuantifierOut;IIII[J)I"⟩
abbrev b_Qo_end : ByteArray := prog_1_method_12_code
def y_Qo_end : MethodName := ⟨"QuantifierOut", "end", "(IIII)J"⟩
abbrev b_Pc_partOfEnd : ByteArray := prog_7_method_3_code
def y_Pc_partOfEnd : MethodName := ⟨"QuantifierOut$Pieces", "partOfEnd", "(III)J"⟩
abbrev b_Mk_lowestAbove : ByteArray := prog_3_method_8_code
def y_Mk_lowestAbove : MethodName := ⟨"QuantifierOut$Marks", "lowestAbove", "(I)J"⟩
abbrev b_Mk_divisorOf : ByteArray := prog_3_method_10_code
def y_Mk_divisorOf : MethodName := ⟨"QuantifierOut$Marks", "divisorOf", "(I)J"⟩
abbrev b_Mk_lowestBelow : ByteArray := prog_3_method_9_code
def y_Mk_lowestBelow : MethodName := ⟨"QuantifierOut$Marks", "lowestBelow", "(I)J"⟩
abbrev b_Lw_alike : ByteArray := method_14_code
def y_Lw_alike : MethodName := ⟨"QuantifierOutLaw", "alike", "(LQuantifierOut;II[J)I"⟩
abbrev b_Qo_alike : ByteArray := prog_1_method_13_code
def y_Qo_alike : MethodName := ⟨"QuantifierOut", "alike", "(II)Z"⟩
abbrev b_Nd_grid : ByteArray := prog_5_method_6_code
def y_Nd_grid : MethodName := ⟨"QuantifierOut$Node", "grid", "(LQuantifierOut$Values;)I"⟩
abbrev b_Ng_findGrid : ByteArray := prog_4_method_4_code
def y_Ng_findGrid : MethodName := ⟨"QuantifierOut$Negation", "findGrid", "(LQuantifierOut$Values;)I"⟩
abbrev b_Pr_findGrid : ByteArray := prog_6_method_4_code
def y_Pr_findGrid : MethodName := ⟨"QuantifierOut$Pair", "findGrid", "(LQuantifierOut$Values;)I"⟩
abbrev b_Nd_findGrid : ByteArray := prog_5_method_7_code
def y_Nd_findGrid : MethodName := ⟨"QuantifierOut$Node", "findGrid", "(LQuantifierOut$Values;)I"⟩
abbrev b_Md_init : ByteArray := prog_11_method_1_code
def y_Md_init : MethodName := ⟨"QuantifierOutModel", "<init>", "()V"⟩
abbrev b_Md_thrown : ByteArray := prog_11_method_2_code
def y_Md_thrown : MethodName := ⟨"QuantifierOutModel", "thrown", "()I"⟩
abbrev b_Md_atom : ByteArray := prog_11_method_7_code
def y_Md_atom : MethodName := ⟨"QuantifierOutModel", "atom", "(IIII)I"⟩
abbrev b_Md_in : ByteArray := prog_11_method_3_code
def y_Md_in : MethodName := ⟨"QuantifierOutModel", "in", "(JJJ)Z"⟩
abbrev b_Md_add : ByteArray := prog_11_method_6_code
def y_Md_add : MethodName := ⟨"QuantifierOutModel", "add", "(III)I"⟩
abbrev b_Md_both : ByteArray := prog_11_method_9_code
def y_Md_both : MethodName := ⟨"QuantifierOutModel", "both", "(II)I"⟩
abbrev b_Md_pair : ByteArray := prog_11_method_8_code
def y_Md_pair : MethodName := ⟨"QuantifierOutModel", "pair", "(III)I"⟩
abbrev b_Md_isNode : ByteArray := prog_11_method_5_code
def y_Md_isNode : MethodName := ⟨"QuantifierOutModel", "isNode", "(I)Z"⟩
abbrev b_Md_either : ByteArray := prog_11_method_10_code
def y_Md_either : MethodName := ⟨"QuantifierOutModel", "either", "(II)I"⟩
abbrev b_Md_not : ByteArray := prog_11_method_11_code
def y_Md_not : MethodName := ⟨"QuantifierOutModel", "not", "(I)I"⟩
abbrev b_Md_some : ByteArray := prog_11_method_13_code
def y_Md_some : MethodName := ⟨"QuantifierOutModel", "some", "(II)I"⟩
abbrev b_Md_quantified : ByteArray := prog_11_method_12_code
def y_Md_quantified : MethodName := ⟨"QuantifierOutModel", "quantified", "(III)I"⟩
abbrev b_Md_every : ByteArray := prog_11_method_14_code
def y_Md_every : MethodName := ⟨"QuantifierOutModel", "every", "(II)I"⟩
abbrev b_Md_known : ByteArray := prog_11_method_15_code
def y_Md_known : MethodName := ⟨"QuantifierOutModel", "known", "(II)I"⟩
abbrev b_Md_count : ByteArray := prog_11_method_16_code
def y_Md_count : MethodName := ⟨"QuantifierOutModel", "count", "()I"⟩
abbrev b_Md_holds : ByteArray := prog_11_method_33_code
def y_Md_holds : MethodName := ⟨"QuantifierOutModel", "holds", "(III)Z"⟩
abbrev b_Md_at : ByteArray := prog_11_method_32_code
def y_Md_at : MethodName := ⟨"QuantifierOutModel", "at", "(IJJ)Z"⟩
abbrev b_Md_truth2 : ByteArray := prog_11_method_30_code
def y_Md_truth2 : MethodName := ⟨"QuantifierOutModel", "truth2", "(I)Z"⟩
abbrev b_Md_mark : ByteArray := prog_11_method_20_code
def y_Md_mark : MethodName := ⟨"QuantifierOutModel", "mark", "(II)V"⟩
abbrev b_Md_plain : ByteArray := prog_11_method_25_code
def y_Md_plain : MethodName := ⟨"QuantifierOutModel", "plain", "(II)Z"⟩
abbrev b_Md_atomAt : ByteArray := prog_11_method_24_code
def y_Md_atomAt : MethodName := ⟨"QuantifierOutModel", "atomAt", "(II)Z"⟩
abbrev b_Md_of : ByteArray := prog_11_method_19_code
def y_Md_of : MethodName := ⟨"QuantifierOutModel", "of", "(II)I"⟩
abbrev b_Md_tries2 : ByteArray := prog_11_method_31_code
def y_Md_tries2 : MethodName := ⟨"QuantifierOutModel", "tries2", "(I)Z"⟩
abbrev b_Md_gather : ByteArray := prog_11_method_21_code
def y_Md_gather : MethodName := ⟨"QuantifierOutModel", "gather", "(IIIJJ)V"⟩
abbrev b_Md_lowest : ByteArray := prog_11_method_17_code
def y_Md_lowest : MethodName := ⟨"QuantifierOutModel", "lowest", "(JJ)V"⟩
abbrev b_Md_keep : ByteArray := prog_11_method_18_code
def y_Md_keep : MethodName := ⟨"QuantifierOutModel", "keep", "(I)V"⟩
abbrev b_Md_meet : ByteArray := prog_11_method_22_code
def y_Md_meet : MethodName := ⟨"QuantifierOutModel", "meet", "(IIII)V"⟩
abbrev b_Md_trial : ByteArray := prog_11_method_23_code
def y_Md_trial : MethodName := ⟨"QuantifierOutModel", "trial", "(II)V"⟩
abbrev b_Md_step : ByteArray := prog_11_method_26_code
def y_Md_step : MethodName := ⟨"QuantifierOutModel", "step", "(II)V"⟩
abbrev b_Md_truth1 : ByteArray := prog_11_method_28_code
def y_Md_truth1 : MethodName := ⟨"QuantifierOutModel", "truth1", "(I)Z"⟩
abbrev b_Md_tries1 : ByteArray := prog_11_method_29_code
def y_Md_tries1 : MethodName := ⟨"QuantifierOutModel", "tries1", "(I)Z"⟩
abbrev b_Md_truth0 : ByteArray := prog_11_method_27_code
def y_Md_truth0 : MethodName := ⟨"QuantifierOutModel", "truth0", "(I)Z"⟩
abbrev b_Md_decide : ByteArray := prog_11_method_34_code
def y_Md_decide : MethodName := ⟨"QuantifierOutModel", "decide", "(I)Z"⟩
abbrev b_Md_alike : ByteArray := prog_11_method_35_code
def y_Md_alike : MethodName := ⟨"QuantifierOutModel", "alike", "(II)Z"⟩
abbrev b_Md_pieces : ByteArray := prog_11_method_37_code
def y_Md_pieces : MethodName := ⟨"QuantifierOutModel", "pieces", "(I)I"⟩
abbrev b_Md_find : ByteArray := prog_11_method_36_code
def y_Md_find : MethodName := ⟨"QuantifierOutModel", "find", "(I)Z"⟩
abbrev b_Md_end : ByteArray := prog_11_method_38_code
def y_Md_end : MethodName := ⟨"QuantifierOutModel", "end", "(IIII)J"⟩
abbrev b_Md_raise : ByteArray := prog_11_method_4_code
def y_Md_raise : MethodName := ⟨"QuantifierOutModel", "raise", "(I)I"⟩
abbrev b_Lw_law : ByteArray := code
def y_Lw_law : MethodName := ⟨"QuantifierOutLaw", "law", "([I)Z"⟩
theorem tw_0 : Cond.initialized "QuantifierOutLaw" ∈ ww := ww_in1 0 rfl rfl
theorem tw_1 : Cond.initialized "QuantifierOut" ∈ ww := ww_in1 1 rfl rfl
theorem tw_2 : Cond.initialized "QuantifierOut$Values" ∈ ww := ww_in1 2 rfl rfl
theorem tw_3 : Cond.initialized "QuantifierOut$Marks" ∈ ww := ww_in1 3 rfl rfl
theorem tw_4 : Cond.initialized "QuantifierOut$Pieces" ∈ ww := ww_in1 4 rfl rfl
theorem tw_5 : Cond.initialized "QuantifierOutModel" ∈ ww := ww_in1 5 rfl rfl
theorem tw_6 : Cond.initialized "java/lang/Throwable" ∈ ww := ww_in1 6 rfl rfl
theorem tw_7 : Cond.initialized "java/lang/Exception" ∈ ww := ww_in1 7 rfl rfl
theorem tw_8 : Cond.initialized "java/lang/RuntimeException" ∈ ww := ww_in1 8 rfl rfl
theorem tw_9 : Cond.initialized "java/lang/IllegalStateException" ∈ ww := ww_in1 9 rfl rfl
theorem tw_10 : Cond.initialized "java/lang/IllegalArgumentException" ∈ ww := ww_in1 10 rfl rfl
theorem tw_11 : Cond.initialized "QuantifierOut$Node" ∈ ww := ww_in1 11 rfl rfl
theorem tw_12 : Cond.initialized "QuantifierOut$Atom" ∈ ww := ww_in1 12 rfl rfl
theorem tw_13 : Cond.initialized "java/lang/IndexOutOfBoundsException" ∈ ww := ww_in1 13 rfl rfl
theorem tw_14 : Cond.initialized "QuantifierOut$Pair" ∈ ww := ww_in1 14 rfl rfl
theorem tw_15 : Cond.initialized "java/lang/Math" ∈ ww := ww_in1 15 rfl rfl
theorem tw_16 : Cond.initialized "java/lang/System" ∈ ww := ww_in1 16 rfl rfl
theorem tw_17 : Cond.initialized "QuantifierOut$Negation" ∈ ww := ww_in1 17 rfl rfl
theorem tw_18 : Cond.initialized "QuantifierOut$Quantified" ∈ ww := ww_in1 18 rfl rfl
theorem tw_19 : Cond.classLink "QuantifierOutLaw" 8 "QuantifierOut" ∈ ww := ww_in1 19 rfl rfl
theorem tw_20 : Cond.instantiable "QuantifierOut" 4 ∈ ww := ww_in1 20 rfl rfl
theorem tw_21 : Cond.methodLink "QuantifierOutLaw" 58 y_Qo_init ∈ ww := ww_in1 21 rfl rfl
theorem tw_22 : Cond.instanceMethod y_Qo_init ∈ ww := ww_in1 22 rfl rfl
theorem tw_23 : Cond.code y_Qo_init prog_1_method_1_code 1 none ∈ ww := ww_in1 23 rfl rfl
theorem tw_24 : Cond.methodLink "QuantifierOut" 3 ⟨"java/lang/Object", "<init>", "()V"⟩ ∈ ww := ww_in1 24 rfl rfl
theorem tw_25 : Cond.instanceMethod ⟨"java/lang/Object", "<init>", "()V"⟩ ∈ ww := ww_in1 25 rfl rfl
theorem tw_26 : Cond.code ⟨"java/lang/Object", "<init>", "()V"⟩ object_method_1_code 1 none ∈ ww := ww_in1 26 rfl rfl
theorem tw_27 : Cond.classLink "QuantifierOut" 9 "QuantifierOut$Node" ∈ ww := ww_in1 27 rfl rfl
theorem tq_28 : Cond.arrayOver (.object "QuantifierOut$Node") ∈ lw_tbl := lw_in1 28 rfl
theorem tw_29 : Cond.classLink "QuantifierOut" 15 "QuantifierOut$Values" ∈ ww := ww_in1 29 rfl rfl
theorem tw_30 : Cond.instantiable "QuantifierOut$Values" 4 ∈ ww := ww_in1 30 rfl rfl
theorem tw_31 : Cond.methodLink "QuantifierOut" 17 y_Vs_init ∈ ww := ww_in1 31 rfl rfl
theorem tw_32 : Cond.instanceMethod y_Vs_init ∈ ww := ww_in1 32 rfl rfl
theorem tw_33 : Cond.code y_Vs_init prog_9_method_1_code 1 none ∈ ww := ww_in1 33 rfl rfl
theorem tw_34 : Cond.methodLink "QuantifierOut$Values" 3 ⟨"java/lang/Object", "<init>", "()V"⟩ ∈ ww := ww_in1 34 rfl rfl
theorem tw_35 : Cond.classLink "QuantifierOut$Values" 18 "QuantifierOut$Marks" ∈ ww := ww_in1 35 rfl rfl
theorem tw_36 : Cond.instantiable "QuantifierOut$Marks" 3 ∈ ww := ww_in1 36 rfl rfl
theorem tw_37 : Cond.methodLink "QuantifierOut$Values" 20 y_Mk_init ∈ ww := ww_in1 37 rfl rfl
theorem tw_38 : Cond.instanceMethod y_Mk_init ∈ ww := ww_in1 38 rfl rfl
theorem tw_39 : Cond.code y_Mk_init prog_3_method_1_code 1 none ∈ ww := ww_in1 39 rfl rfl
theorem tw_40 : Cond.methodLink "QuantifierOut$Marks" 1 ⟨"java/lang/Object", "<init>", "()V"⟩ ∈ ww := ww_in1 40 rfl rfl
theorem tw_41 : Cond.fieldLink "QuantifierOut$Marks" 9 "QuantifierOut$Marks" "above" "[J" ∈ ww := ww_in1 41 rfl rfl
theorem tw_42 : Cond.fieldLink "QuantifierOut$Marks" 13 "QuantifierOut$Marks" "below" "[J" ∈ ww := ww_in1 42 rfl rfl
theorem tw_43 : Cond.fieldLink "QuantifierOut$Marks" 16 "QuantifierOut$Marks" "size" "I" ∈ ww := ww_in1 43 rfl rfl
theorem tw_44 : Cond.laysFinal "QuantifierOut$Marks" "QuantifierOut$Marks" "above" "[J" ∈ ww := ww_in1 44 rfl rfl
theorem tw_45 : Cond.soleField "QuantifierOut$Marks" "above" ∈ ww := ww_in1 45 rfl rfl
theorem tw_46 : Cond.laysFinal "QuantifierOut$Marks" "QuantifierOut$Marks" "below" "[J" ∈ ww := ww_in1 46 rfl rfl
theorem tw_47 : Cond.soleField "QuantifierOut$Marks" "below" ∈ ww := ww_in1 47 rfl rfl
theorem tw_48 : Cond.lays "QuantifierOut$Marks" "QuantifierOut$Marks" "size" "I" ∈ ww := ww_in1 48 rfl rfl
theorem tw_49 : Cond.soleField "QuantifierOut$Marks" "size" ∈ ww := ww_in1 49 rfl rfl
theorem tw_50 : Cond.superclass "QuantifierOut$Marks" "java/lang/Object" ∈ ww := ww_in1 50 rfl rfl
theorem tw_51 : Cond.arrayClass .long ∈ ww := ww_in1 51 rfl rfl
theorem tw_52 : Cond.fieldLink "QuantifierOut$Values" 9 "QuantifierOut$Values" "above" "[J" ∈ ww := ww_in1 52 rfl rfl
theorem tw_53 : Cond.fieldLink "QuantifierOut$Quantified" 31 "QuantifierOut$Values" "above" "[J" ∈ ww := ww_in1 53 rfl rfl
theorem tw_54 : Cond.fieldLink "QuantifierOut$Atom" 30 "QuantifierOut$Values" "above" "[J" ∈ ww := ww_in1 54 rfl rfl
theorem tw_55 : Cond.fieldLink "QuantifierOut$Marks" 44 "QuantifierOut$Values" "above" "[J" ∈ ww := ww_in1 55 rfl rfl
theorem tw_56 : Cond.fieldLink "QuantifierOut$Values" 15 "QuantifierOut$Values" "below" "[J" ∈ ww := ww_in1 56 rfl rfl
theorem tw_57 : Cond.fieldLink "QuantifierOut$Atom" 24 "QuantifierOut$Values" "below" "[J" ∈ ww := ww_in1 57 rfl rfl
theorem tw_58 : Cond.fieldLink "QuantifierOut$Quantified" 37 "QuantifierOut$Values" "below" "[J" ∈ ww := ww_in1 58 rfl rfl
theorem tw_59 : Cond.fieldLink "QuantifierOut$Marks" 41 "QuantifierOut$Values" "below" "[J" ∈ ww := ww_in1 59 rfl rfl
theorem tw_60 : Cond.fieldLink "QuantifierOut$Values" 21 "QuantifierOut$Values" "outerMarks" "LQuantifierOut$Marks;" ∈ ww := ww_in1 60 rfl rfl
theorem tw_61 : Cond.fieldLink "QuantifierOut$Values" 25 "QuantifierOut$Values" "innerMarks" "LQuantifierOut$Marks;" ∈ ww := ww_in1 61 rfl rfl
theorem tw_62 : Cond.laysFinal "QuantifierOut$Values" "QuantifierOut$Values" "above" "[J" ∈ ww := ww_in1 62 rfl rfl
theorem tw_63 : Cond.soleField "QuantifierOut$Values" "above" ∈ ww := ww_in1 63 rfl rfl
theorem tw_64 : Cond.laysFinal "QuantifierOut$Values" "QuantifierOut$Values" "below" "[J" ∈ ww := ww_in1 64 rfl rfl
theorem tw_65 : Cond.soleField "QuantifierOut$Values" "below" ∈ ww := ww_in1 65 rfl rfl
theorem tw_66 : Cond.laysFinal "QuantifierOut$Values" "QuantifierOut$Values" "outerMarks" "LQuantifierOut$Marks;" ∈ ww := ww_in1 66 rfl rfl
theorem tw_67 : Cond.soleField "QuantifierOut$Values" "outerMarks" ∈ ww := ww_in1 67 rfl rfl
theorem tw_68 : Cond.laysFinal "QuantifierOut$Values" "QuantifierOut$Values" "innerMarks" "LQuantifierOut$Marks;" ∈ ww := ww_in1 68 rfl rfl
theorem tw_69 : Cond.soleField "QuantifierOut$Values" "innerMarks" ∈ ww := ww_in1 69 rfl rfl
theorem tw_70 : Cond.superclass "QuantifierOut$Values" "java/lang/Object" ∈ ww := ww_in1 70 rfl rfl
theorem tw_71 : Cond.classLink "QuantifierOut" 22 "QuantifierOut$Pieces" ∈ ww := ww_in1 71 rfl rfl
theorem tw_72 : Cond.instantiable "QuantifierOut$Pieces" 5 ∈ ww := ww_in1 72 rfl rfl
theorem tw_73 : Cond.methodLink "QuantifierOut" 24 y_Pc_init ∈ ww := ww_in1 73 rfl rfl
theorem tw_74 : Cond.instanceMethod y_Pc_init ∈ ww := ww_in1 74 rfl rfl
theorem tw_75 : Cond.code y_Pc_init prog_7_method_1_code 1 none ∈ ww := ww_in1 75 rfl rfl
theorem tw_76 : Cond.methodLink "QuantifierOut$Pieces" 5 ⟨"java/lang/Object", "<init>", "()V"⟩ ∈ ww := ww_in1 76 rfl rfl
theorem tw_77 : Cond.classLink "QuantifierOut$Pieces" 1 "QuantifierOut$Marks" ∈ ww := ww_in1 77 rfl rfl
theorem tw_78 : Cond.methodLink "QuantifierOut$Pieces" 11 y_Mk_init ∈ ww := ww_in1 78 rfl rfl
theorem tw_79 : Cond.fieldLink "QuantifierOut$Pieces" 12 "QuantifierOut$Pieces" "marks" "LQuantifierOut$Marks;" ∈ ww := ww_in1 79 rfl rfl
theorem tw_80 : Cond.fieldLink "QuantifierOut$Pieces" 18 "QuantifierOut$Pieces" "firstStop" "[I" ∈ ww := ww_in1 80 rfl rfl
theorem tw_81 : Cond.fieldLink "QuantifierOut$Pieces" 22 "QuantifierOut$Pieces" "lastStop" "[I" ∈ ww := ww_in1 81 rfl rfl
theorem tw_82 : Cond.fieldLink "QuantifierOut$Pieces" 25 "QuantifierOut$Pieces" "size" "I" ∈ ww := ww_in1 82 rfl rfl
theorem tq_83 : Cond.fieldLinkNest "QuantifierOut" 110 "QuantifierOut$Pieces" "size" "I" "QuantifierOut" ∈ lw_tbl := lw_in1 83 rfl
theorem tw_84 : Cond.fieldLink "QuantifierOut$Pieces" 29 "QuantifierOut$Pieces" "owner" "LQuantifierOut$Node;" ∈ ww := ww_in1 84 rfl rfl
theorem tw_85 : Cond.laysFinal "QuantifierOut$Pieces" "QuantifierOut$Pieces" "marks" "LQuantifierOut$Marks;" ∈ ww := ww_in1 85 rfl rfl
theorem tw_86 : Cond.soleField "QuantifierOut$Pieces" "marks" ∈ ww := ww_in1 86 rfl rfl
theorem tw_87 : Cond.laysFinal "QuantifierOut$Pieces" "QuantifierOut$Pieces" "firstStop" "[I" ∈ ww := ww_in1 87 rfl rfl
theorem tw_88 : Cond.soleField "QuantifierOut$Pieces" "firstStop" ∈ ww := ww_in1 88 rfl rfl
theorem tw_89 : Cond.laysFinal "QuantifierOut$Pieces" "QuantifierOut$Pieces" "lastStop" "[I" ∈ ww := ww_in1 89 rfl rfl
theorem tw_90 : Cond.soleField "QuantifierOut$Pieces" "lastStop" ∈ ww := ww_in1 90 rfl rfl
theorem tw_91 : Cond.lays "QuantifierOut$Pieces" "QuantifierOut$Pieces" "size" "I" ∈ ww := ww_in1 91 rfl rfl
theorem tw_92 : Cond.soleField "QuantifierOut$Pieces" "size" ∈ ww := ww_in1 92 rfl rfl
theorem tw_93 : Cond.lays "QuantifierOut$Pieces" "QuantifierOut$Pieces" "owner" "LQuantifierOut$Node;" ∈ ww := ww_in1 93 rfl rfl
theorem tw_94 : Cond.soleField "QuantifierOut$Pieces" "owner" ∈ ww := ww_in1 94 rfl rfl
theorem tw_95 : Cond.superclass "QuantifierOut$Pieces" "java/lang/Object" ∈ ww := ww_in1 95 rfl rfl
theorem tw_96 : Cond.arrayClass .int ∈ ww := ww_in1 96 rfl rfl
theorem tw_97 : Cond.fieldLink "QuantifierOut" 11 "QuantifierOut" "nodes" "[LQuantifierOut$Node;" ∈ ww := ww_in1 97 rfl rfl
theorem tw_98 : Cond.fieldLink "QuantifierOut" 18 "QuantifierOut" "values" "LQuantifierOut$Values;" ∈ ww := ww_in1 98 rfl rfl
theorem tw_99 : Cond.fieldLink "QuantifierOut" 25 "QuantifierOut" "row" "LQuantifierOut$Pieces;" ∈ ww := ww_in1 99 rfl rfl
theorem tw_100 : Cond.fieldLink "QuantifierOut" 29 "QuantifierOut" "made" "I" ∈ ww := ww_in1 100 rfl rfl
theorem tw_101 : Cond.laysFinal "QuantifierOut" "QuantifierOut" "nodes" "[LQuantifierOut$Node;" ∈ ww := ww_in1 101 rfl rfl
theorem tw_102 : Cond.soleField "QuantifierOut" "nodes" ∈ ww := ww_in1 102 rfl rfl
theorem tw_103 : Cond.laysFinal "QuantifierOut" "QuantifierOut" "values" "LQuantifierOut$Values;" ∈ ww := ww_in1 103 rfl rfl
theorem tw_104 : Cond.soleField "QuantifierOut" "values" ∈ ww := ww_in1 104 rfl rfl
theorem tw_105 : Cond.laysFinal "QuantifierOut" "QuantifierOut" "row" "LQuantifierOut$Pieces;" ∈ ww := ww_in1 105 rfl rfl
theorem tw_106 : Cond.soleField "QuantifierOut" "row" ∈ ww := ww_in1 106 rfl rfl
theorem tw_107 : Cond.lays "QuantifierOut" "QuantifierOut" "made" "I" ∈ ww := ww_in1 107 rfl rfl
theorem tw_108 : Cond.soleField "QuantifierOut" "made" ∈ ww := ww_in1 108 rfl rfl
theorem tw_109 : Cond.superclass "QuantifierOut" "java/lang/Object" ∈ ww := ww_in1 109 rfl rfl
theorem tw_110 : Cond.methodLink "QuantifierOutLaw" 108 y_Qo_count ∈ ww := ww_in1 110 rfl rfl
theorem tw_111 : Cond.instanceMethod y_Qo_count ∈ ww := ww_in1 111 rfl rfl
theorem tw_112 : Cond.selects "QuantifierOut" y_Qo_count y_Qo_count ∈ ww := ww_in1 112 rfl rfl
theorem tw_113 : Cond.code y_Qo_count prog_1_method_14_code 1 (some .int) ∈ ww := ww_in1 113 rfl rfl
theorem tw_114 : Cond.methodLink "QuantifierOutLaw" 62 y_Lw_atom ∈ ww := ww_in1 114 rfl rfl
theorem tw_115 : Cond.static y_Lw_atom ∈ ww := ww_in1 115 rfl rfl
theorem tq_116 : Cond.codeWith y_Lw_atom method_3_code 7 (some .int) [(0, 14, 17, 13), (0, 14, 21, 15)] ∈ lw_tbl := lw_in1 116 rfl
theorem tw_117 : Cond.classLink "QuantifierOutLaw" 13 "java/lang/IllegalStateException" ∈ ww := ww_in1 117 rfl rfl
theorem tw_118 : Cond.classLink "QuantifierOutLaw" 15 "java/lang/IllegalArgumentException" ∈ ww := ww_in1 118 rfl rfl
theorem tw_119 : Cond.methodLink "QuantifierOutLaw" 7 y_Qo_atom ∈ ww := ww_in1 119 rfl rfl
theorem tw_120 : Cond.instanceMethod y_Qo_atom ∈ ww := ww_in1 120 rfl rfl
theorem tw_121 : Cond.selects "QuantifierOut" y_Qo_atom y_Qo_atom ∈ ww := ww_in1 121 rfl rfl
theorem tw_122 : Cond.code y_Qo_atom prog_1_method_2_code 5 (some .int) ∈ ww := ww_in1 122 rfl rfl
theorem tw_123 : Cond.methodLink "QuantifierOut" 33 y_Qo_checkRoom ∈ ww := ww_in1 123 rfl rfl
theorem tq_124 : Cond.privateMethod y_Qo_checkRoom ∈ lw_tbl := lw_in1 124 rfl
theorem tw_125 : Cond.instanceMethod y_Qo_checkRoom ∈ ww := ww_in1 125 rfl rfl
theorem tw_126 : Cond.code y_Qo_checkRoom prog_1_method_18_code 1 none ∈ ww := ww_in1 126 rfl rfl
theorem tw_127 : Cond.classLink "QuantifierOut" 101 "java/lang/IllegalStateException" ∈ ww := ww_in1 127 rfl rfl
theorem tw_128 : Cond.instantiable "java/lang/IllegalStateException" 6 ∈ ww := ww_in1 128 rfl rfl
theorem tq_129 : Cond.castable "java/lang/IllegalStateException" "java/lang/IllegalStateException" ∈ lw_tbl := lw_in1 129 rfl
theorem tq_130 : Cond.declares ⟨"java/lang/RuntimeException", "<init>", "()V"⟩ ∈ lw_tbl := lw_in1 130 rfl
theorem tq_131 : Cond.declares ⟨"java/lang/RuntimeException", "<init>", "(Ljava/lang/String;)V"⟩ ∈ lw_tbl := lw_in1 131 rfl
theorem tq_132 : Cond.declares ⟨"java/lang/Exception", "<init>", "()V"⟩ ∈ lw_tbl := lw_in1 132 rfl
theorem tq_133 : Cond.declares ⟨"java/lang/Exception", "<init>", "(Ljava/lang/String;)V"⟩ ∈ lw_tbl := lw_in1 133 rfl
theorem tq_134 : Cond.declares ⟨"java/lang/Throwable", "<init>", "()V"⟩ ∈ lw_tbl := lw_in1 134 rfl
theorem tq_135 : Cond.declares ⟨"java/lang/Throwable", "<init>", "(Ljava/lang/String;)V"⟩ ∈ lw_tbl := lw_in1 135 rfl
theorem tw_136 : Cond.selects "java/lang/IllegalStateException" ⟨"java/lang/Throwable", "fillInStackTrace", "(I)Ljava/lang/Throwable;"⟩ ⟨"java/lang/Throwable", "fillInStackTrace", "(I)Ljava/lang/Throwable;"⟩ ∈ ww := ww_in1 136 rfl rfl
theorem tw_137 : Cond.selects "java/lang/IllegalStateException" ⟨"java/lang/Throwable", "fillInStackTrace", "()Ljava/lang/Throwable;"⟩ ⟨"java/lang/Throwable", "fillInStackTrace", "()Ljava/lang/Throwable;"⟩ ∈ ww := ww_in1 137 rfl rfl
theorem tw_138 : Cond.lays "java/lang/IllegalStateException" "java/lang/Throwable" "cause" "Ljava/lang/Throwable;" ∈ ww := ww_in1 138 rfl rfl
theorem tw_139 : Cond.lays "java/lang/Throwable" "java/lang/Throwable" "cause" "Ljava/lang/Throwable;" ∈ ww := ww_in1 139 rfl rfl
theorem tw_140 : Cond.lays "java/lang/IllegalStateException" "java/lang/Throwable" "stackTrace" "[Ljava/lang/StackTraceElement;" ∈ ww := ww_in1 140 rfl rfl
theorem tw_141 : Cond.lays "java/lang/Throwable" "java/lang/Throwable" "stackTrace" "[Ljava/lang/StackTraceElement;" ∈ ww := ww_in1 141 rfl rfl
theorem tw_142 : Cond.lays "java/lang/IllegalStateException" "java/lang/Throwable" "suppressedExceptions" "Ljava/util/List;" ∈ ww := ww_in1 142 rfl rfl
theorem tw_143 : Cond.lays "java/lang/Throwable" "java/lang/Throwable" "suppressedExceptions" "Ljava/util/List;" ∈ ww := ww_in1 143 rfl rfl
theorem tw_144 : Cond.lays "java/lang/IllegalStateException" "java/lang/Throwable" "detailMessage" "Ljava/lang/String;" ∈ ww := ww_in1 144 rfl rfl
theorem tw_145 : Cond.lays "java/lang/Throwable" "java/lang/Throwable" "detailMessage" "Ljava/lang/String;" ∈ ww := ww_in1 145 rfl rfl
theorem tw_146 : Cond.lays "java/lang/IllegalStateException" "java/lang/Throwable" "backtrace" "Ljava/lang/Object;" ∈ ww := ww_in1 146 rfl rfl
theorem tw_147 : Cond.lays "java/lang/Throwable" "java/lang/Throwable" "backtrace" "Ljava/lang/Object;" ∈ ww := ww_in1 147 rfl rfl
theorem tw_148 : Cond.fieldLink "java/lang/Throwable" 198 "java/lang/Throwable" "backtrace" "Ljava/lang/Object;" ∈ ww := ww_in1 148 rfl rfl
theorem tw_149 : Cond.superclass "java/lang/Throwable" "java/lang/Object" ∈ ww := ww_in1 149 rfl rfl
theorem tw_150 : Cond.instanceMethod ⟨"java/lang/Throwable", "<init>", "()V"⟩ ∈ ww := ww_in1 150 rfl rfl
theorem tw_151 : Cond.code ⟨"java/lang/Throwable", "<init>", "()V"⟩ prog_20_method_1_code 1 none ∈ ww := ww_in1 151 rfl rfl
theorem tw_152 : Cond.methodLink "java/lang/Throwable" 1 ⟨"java/lang/Object", "<init>", "()V"⟩ ∈ ww := ww_in1 152 rfl rfl
theorem tw_153 : Cond.fieldLink "java/lang/Throwable" 13 "java/lang/Throwable" "UNASSIGNED_STACK" "[Ljava/lang/StackTraceElement;" ∈ ww := ww_in1 153 rfl rfl
theorem tq_154 : Cond.laysStatic "java/lang/Throwable" "UNASSIGNED_STACK" "[Ljava/lang/StackTraceElement;" ∈ lw_tbl := lw_in1 154 rfl
theorem tw_155 : Cond.fieldLink "java/lang/Throwable" 20 "java/lang/Throwable" "SUPPRESSED_SENTINEL" "Ljava/util/List;" ∈ ww := ww_in1 155 rfl rfl
theorem tq_156 : Cond.laysStatic "java/lang/Throwable" "SUPPRESSED_SENTINEL" "Ljava/util/List;" ∈ lw_tbl := lw_in1 156 rfl
theorem tw_157 : Cond.methodLink "java/lang/Throwable" 27 ⟨"java/lang/Throwable", "fillInStackTrace", "()Ljava/lang/Throwable;"⟩ ∈ ww := ww_in1 157 rfl rfl
theorem tw_158 : Cond.instanceMethod ⟨"java/lang/Throwable", "fillInStackTrace", "()Ljava/lang/Throwable;"⟩ ∈ ww := ww_in1 158 rfl rfl
theorem tw_159 : Cond.sameMethod "java/lang/Throwable" "java/lang/Throwable" "fillInStackTrace" "()Ljava/lang/Throwable;" ∈ ww := ww_in1 159 rfl rfl
theorem tw_160 : Cond.selects "java/lang/IllegalArgumentException" ⟨"java/lang/Throwable", "fillInStackTrace", "()Ljava/lang/Throwable;"⟩ ⟨"java/lang/Throwable", "fillInStackTrace", "()Ljava/lang/Throwable;"⟩ ∈ ww := ww_in1 160 rfl rfl
theorem tw_161 : Cond.selects "java/lang/IndexOutOfBoundsException" ⟨"java/lang/Throwable", "fillInStackTrace", "()Ljava/lang/Throwable;"⟩ ⟨"java/lang/Throwable", "fillInStackTrace", "()Ljava/lang/Throwable;"⟩ ∈ ww := ww_in1 161 rfl rfl
theorem tq_162 : Cond.codeSync ⟨"java/lang/Throwable", "fillInStackTrace", "()Ljava/lang/Throwable;"⟩ prog_20_method_18_code 1 (some (.object "java/lang/Throwable")) ∈ lw_tbl := lw_in1 162 rfl
theorem tw_163 : Cond.methodLink "java/lang/Throwable" 202 ⟨"java/lang/Throwable", "fillInStackTrace", "(I)Ljava/lang/Throwable;"⟩ ∈ ww := ww_in1 163 rfl rfl
theorem tq_164 : Cond.privateMethod ⟨"java/lang/Throwable", "fillInStackTrace", "(I)Ljava/lang/Throwable;"⟩ ∈ lw_tbl := lw_in1 164 rfl
theorem tw_165 : Cond.instanceMethod ⟨"java/lang/Throwable", "fillInStackTrace", "(I)Ljava/lang/Throwable;"⟩ ∈ ww := ww_in1 165 rfl rfl
theorem tw_166 : Cond.instantiable "java/lang/Throwable" 6 ∈ ww := ww_in1 166 rfl rfl
theorem tw_167 : Cond.native ⟨"java/lang/Throwable", "fillInStackTrace", "(I)Ljava/lang/Throwable;"⟩ ∈ ww := ww_in1 167 rfl rfl
theorem tq_168 : Cond.stringRef "QuantifierOut" 131 "60 nodes are there" ∈ lw_tbl := lw_in1 168 rfl
theorem tw_169 : Cond.methodLink "QuantifierOut" 105 ⟨"java/lang/IllegalStateException", "<init>", "(Ljava/lang/String;)V"⟩ ∈ ww := ww_in1 169 rfl rfl
theorem tw_170 : Cond.instanceMethod ⟨"java/lang/IllegalStateException", "<init>", "(Ljava/lang/String;)V"⟩ ∈ ww := ww_in1 170 rfl rfl
theorem tw_171 : Cond.code ⟨"java/lang/IllegalStateException", "<init>", "(Ljava/lang/String;)V"⟩ prog_14_method_2_code 2 none ∈ ww := ww_in1 171 rfl rfl
theorem tw_172 : Cond.methodLink "java/lang/IllegalStateException" 7 ⟨"java/lang/RuntimeException", "<init>", "(Ljava/lang/String;)V"⟩ ∈ ww := ww_in1 172 rfl rfl
theorem tw_173 : Cond.instanceMethod ⟨"java/lang/RuntimeException", "<init>", "(Ljava/lang/String;)V"⟩ ∈ ww := ww_in1 173 rfl rfl
theorem tw_174 : Cond.code ⟨"java/lang/RuntimeException", "<init>", "(Ljava/lang/String;)V"⟩ prog_17_method_2_code 2 none ∈ ww := ww_in1 174 rfl rfl
theorem tw_175 : Cond.methodLink "java/lang/RuntimeException" 7 ⟨"java/lang/Exception", "<init>", "(Ljava/lang/String;)V"⟩ ∈ ww := ww_in1 175 rfl rfl
theorem tw_176 : Cond.instanceMethod ⟨"java/lang/Exception", "<init>", "(Ljava/lang/String;)V"⟩ ∈ ww := ww_in1 176 rfl rfl
theorem tw_177 : Cond.code ⟨"java/lang/Exception", "<init>", "(Ljava/lang/String;)V"⟩ prog_12_method_2_code 2 none ∈ ww := ww_in1 177 rfl rfl
theorem tw_178 : Cond.methodLink "java/lang/Exception" 7 ⟨"java/lang/Throwable", "<init>", "(Ljava/lang/String;)V"⟩ ∈ ww := ww_in1 178 rfl rfl
theorem tw_179 : Cond.instanceMethod ⟨"java/lang/Throwable", "<init>", "(Ljava/lang/String;)V"⟩ ∈ ww := ww_in1 179 rfl rfl
theorem tw_180 : Cond.code ⟨"java/lang/Throwable", "<init>", "(Ljava/lang/String;)V"⟩ prog_20_method_2_code 2 none ∈ ww := ww_in1 180 rfl rfl
theorem tw_181 : Cond.fieldLink "java/lang/Throwable" 198 "java/lang/Throwable" "backtrace" "Ljava/lang/Object;" ∈ ww := ww_in1 181 rfl rfl
theorem tw_182 : Cond.fieldLink "java/lang/Throwable" 31 "java/lang/Throwable" "detailMessage" "Ljava/lang/String;" ∈ ww := ww_in1 182 rfl rfl
theorem tw_183 : Cond.fieldLink "java/lang/Throwable" 7 "java/lang/Throwable" "cause" "Ljava/lang/Throwable;" ∈ ww := ww_in1 183 rfl rfl
theorem tw_184 : Cond.fieldLink "java/lang/Throwable" 17 "java/lang/Throwable" "stackTrace" "[Ljava/lang/StackTraceElement;" ∈ ww := ww_in1 184 rfl rfl
theorem tw_185 : Cond.fieldLink "java/lang/Throwable" 24 "java/lang/Throwable" "suppressedExceptions" "Ljava/util/List;" ∈ ww := ww_in1 185 rfl rfl
theorem tw_186 : Cond.soleField "java/lang/Throwable" "backtrace" ∈ ww := ww_in1 186 rfl rfl
theorem tw_187 : Cond.soleField "java/lang/Throwable" "detailMessage" ∈ ww := ww_in1 187 rfl rfl
theorem tw_188 : Cond.soleField "java/lang/Throwable" "cause" ∈ ww := ww_in1 188 rfl rfl
theorem tw_189 : Cond.soleField "java/lang/Throwable" "stackTrace" ∈ ww := ww_in1 189 rfl rfl
theorem tw_190 : Cond.lays "java/lang/IllegalStateException" "java/lang/Throwable" "depth" "I" ∈ ww := ww_in1 190 rfl rfl
theorem tw_191 : Cond.soleField "java/lang/Throwable" "depth" ∈ ww := ww_in1 191 rfl rfl
theorem tw_192 : Cond.soleField "java/lang/Throwable" "suppressedExceptions" ∈ ww := ww_in1 192 rfl rfl
theorem tw_193 : Cond.superclass "java/lang/IllegalStateException" "java/lang/RuntimeException" ∈ ww := ww_in1 193 rfl rfl
theorem tw_194 : Cond.arrayClass .byte ∈ ww := ww_in1 194 rfl rfl
theorem tw_195 : Cond.methodLink "QuantifierOut" 36 y_Qo_isFactor ∈ ww := ww_in1 195 rfl rfl
theorem tw_196 : Cond.static y_Qo_isFactor ∈ ww := ww_in1 196 rfl rfl
theorem tw_197 : Cond.code y_Qo_isFactor prog_1_method_15_code 1 (some .boolean) ∈ ww := ww_in1 197 rfl rfl
theorem tw_198 : Cond.classLink "QuantifierOut" 40 "java/lang/IllegalArgumentException" ∈ ww := ww_in1 198 rfl rfl
theorem tw_199 : Cond.instantiable "java/lang/IllegalArgumentException" 6 ∈ ww := ww_in1 199 rfl rfl
theorem tq_200 : Cond.castable "java/lang/IllegalArgumentException" "java/lang/IllegalArgumentException" ∈ lw_tbl := lw_in1 200 rfl
theorem tw_201 : Cond.selects "java/lang/IllegalArgumentException" ⟨"java/lang/Throwable", "fillInStackTrace", "(I)Ljava/lang/Throwable;"⟩ ⟨"java/lang/Throwable", "fillInStackTrace", "(I)Ljava/lang/Throwable;"⟩ ∈ ww := ww_in1 201 rfl rfl
theorem tw_202 : Cond.lays "java/lang/IllegalArgumentException" "java/lang/Throwable" "cause" "Ljava/lang/Throwable;" ∈ ww := ww_in1 202 rfl rfl
theorem tw_203 : Cond.lays "java/lang/IllegalArgumentException" "java/lang/Throwable" "stackTrace" "[Ljava/lang/StackTraceElement;" ∈ ww := ww_in1 203 rfl rfl
theorem tw_204 : Cond.lays "java/lang/IllegalArgumentException" "java/lang/Throwable" "suppressedExceptions" "Ljava/util/List;" ∈ ww := ww_in1 204 rfl rfl
theorem tw_205 : Cond.lays "java/lang/IllegalArgumentException" "java/lang/Throwable" "detailMessage" "Ljava/lang/String;" ∈ ww := ww_in1 205 rfl rfl
theorem tw_206 : Cond.lays "java/lang/IllegalArgumentException" "java/lang/Throwable" "backtrace" "Ljava/lang/Object;" ∈ ww := ww_in1 206 rfl rfl
theorem tq_207 : Cond.stringRef "QuantifierOut" 42 "a, b and c are -5 .. 5" ∈ lw_tbl := lw_in1 207 rfl
theorem tw_208 : Cond.methodLink "QuantifierOut" 44 ⟨"java/lang/IllegalArgumentException", "<init>", "(Ljava/lang/String;)V"⟩ ∈ ww := ww_in1 208 rfl rfl
theorem tw_209 : Cond.instanceMethod ⟨"java/lang/IllegalArgumentException", "<init>", "(Ljava/lang/String;)V"⟩ ∈ ww := ww_in1 209 rfl rfl
theorem tw_210 : Cond.code ⟨"java/lang/IllegalArgumentException", "<init>", "(Ljava/lang/String;)V"⟩ prog_13_method_2_code 2 none ∈ ww := ww_in1 210 rfl rfl
theorem tw_211 : Cond.methodLink "java/lang/IllegalArgumentException" 7 ⟨"java/lang/RuntimeException", "<init>", "(Ljava/lang/String;)V"⟩ ∈ ww := ww_in1 211 rfl rfl
theorem tw_212 : Cond.lays "java/lang/IllegalArgumentException" "java/lang/Throwable" "depth" "I" ∈ ww := ww_in1 212 rfl rfl
theorem tw_213 : Cond.superclass "java/lang/IllegalArgumentException" "java/lang/RuntimeException" ∈ ww := ww_in1 213 rfl rfl
theorem tq_214 : Cond.stringRef "QuantifierOut" 47 "op is 0, 1 or 2" ∈ lw_tbl := lw_in1 214 rfl
theorem tw_215 : Cond.classLink "QuantifierOut" 49 "QuantifierOut$Atom" ∈ ww := ww_in1 215 rfl rfl
theorem tw_216 : Cond.instantiable "QuantifierOut$Atom" 8 ∈ ww := ww_in1 216 rfl rfl
theorem tw_217 : Cond.methodLink "QuantifierOut" 51 y_At_init ∈ ww := ww_in1 217 rfl rfl
theorem tw_218 : Cond.instanceMethod y_At_init ∈ ww := ww_in1 218 rfl rfl
theorem tw_219 : Cond.code y_At_init prog_2_method_1_code 5 none ∈ ww := ww_in1 219 rfl rfl
theorem tw_220 : Cond.methodLink "QuantifierOut$Atom" 3 y_Nd_init ∈ ww := ww_in1 220 rfl rfl
theorem tw_221 : Cond.instanceMethod y_Nd_init ∈ ww := ww_in1 221 rfl rfl
theorem tw_222 : Cond.code y_Nd_init prog_5_method_1_code 4 none ∈ ww := ww_in1 222 rfl rfl
theorem tw_223 : Cond.methodLink "QuantifierOut$Node" 5 ⟨"java/lang/Object", "<init>", "()V"⟩ ∈ ww := ww_in1 223 rfl rfl
theorem tw_224 : Cond.fieldLink "QuantifierOut$Atom" 9 "QuantifierOut$Atom" "a" "I" ∈ ww := ww_in1 224 rfl rfl
theorem tw_225 : Cond.fieldLink "QuantifierOut$Atom" 15 "QuantifierOut$Atom" "b" "I" ∈ ww := ww_in1 225 rfl rfl
theorem tw_226 : Cond.fieldLink "QuantifierOut$Atom" 18 "QuantifierOut$Atom" "c" "I" ∈ ww := ww_in1 226 rfl rfl
theorem tw_227 : Cond.fieldLink "QuantifierOut$Atom" 21 "QuantifierOut$Atom" "op" "I" ∈ ww := ww_in1 227 rfl rfl
theorem tw_228 : Cond.fieldLink "QuantifierOut$Pair" 1 "QuantifierOut$Node" "free" "I" ∈ ww := ww_in1 228 rfl rfl
theorem tw_229 : Cond.fieldLink "QuantifierOut$Negation" 1 "QuantifierOut$Node" "free" "I" ∈ ww := ww_in1 229 rfl rfl
theorem tw_230 : Cond.fieldLink "QuantifierOut$Quantified" 1 "QuantifierOut$Node" "free" "I" ∈ ww := ww_in1 230 rfl rfl
theorem tw_231 : Cond.fieldLink "QuantifierOut$Node" 11 "QuantifierOut$Node" "free" "I" ∈ ww := ww_in1 231 rfl rfl
theorem tw_232 : Cond.fieldLink "QuantifierOut" 98 "QuantifierOut$Node" "free" "I" ∈ ww := ww_in1 232 rfl rfl
theorem tw_233 : Cond.fieldLink "QuantifierOut$Negation" 7 "QuantifierOut$Node" "depth" "I" ∈ ww := ww_in1 233 rfl rfl
theorem tw_234 : Cond.fieldLink "QuantifierOut$Node" 15 "QuantifierOut$Node" "depth" "I" ∈ ww := ww_in1 234 rfl rfl
theorem tw_235 : Cond.fieldLink "QuantifierOut$Pair" 7 "QuantifierOut$Node" "depth" "I" ∈ ww := ww_in1 235 rfl rfl
theorem tw_236 : Cond.fieldLink "QuantifierOut$Quantified" 7 "QuantifierOut$Node" "depth" "I" ∈ ww := ww_in1 236 rfl rfl
theorem tw_237 : Cond.fieldLink "QuantifierOut$Quantified" 40 "QuantifierOut$Quantified" "depth" "I" ∈ ww := ww_in1 237 rfl rfl
theorem tw_238 : Cond.sameField "QuantifierOut$Quantified" "QuantifierOut$Node" "depth" "I" ∈ ww := ww_in1 238 rfl rfl
theorem tw_239 : Cond.fieldLink "QuantifierOut$Marks" 34 "QuantifierOut$Node" "depth" "I" ∈ ww := ww_in1 239 rfl rfl
theorem tw_240 : Cond.fieldLink "QuantifierOut" 80 "QuantifierOut$Node" "depth" "I" ∈ ww := ww_in2 0 rfl rfl
theorem tw_241 : Cond.fieldLink "QuantifierOut$Negation" 10 "QuantifierOut$Node" "lines" "[I" ∈ ww := ww_in2 1 rfl rfl
theorem tw_242 : Cond.fieldLink "QuantifierOut$Node" 18 "QuantifierOut$Node" "lines" "[I" ∈ ww := ww_in2 2 rfl rfl
theorem tw_243 : Cond.fieldLink "QuantifierOut$Quantified" 10 "QuantifierOut$Node" "lines" "[I" ∈ ww := ww_in2 3 rfl rfl
theorem tw_244 : Cond.fieldLink "QuantifierOut$Pair" 16 "QuantifierOut$Node" "lines" "[I" ∈ ww := ww_in2 4 rfl rfl
theorem tw_245 : Cond.fieldLink "QuantifierOut$Marks" 26 "QuantifierOut$Node" "lines" "[I" ∈ ww := ww_in2 5 rfl rfl
theorem tw_246 : Cond.fieldLink "QuantifierOut$Node" 22 "QuantifierOut$Node" "grid" "I" ∈ ww := ww_in2 6 rfl rfl
theorem tw_247 : Cond.laysFinal "QuantifierOut$Atom" "QuantifierOut$Atom" "a" "I" ∈ ww := ww_in2 7 rfl rfl
theorem tw_248 : Cond.soleField "QuantifierOut$Atom" "a" ∈ ww := ww_in2 8 rfl rfl
theorem tw_249 : Cond.laysFinal "QuantifierOut$Atom" "QuantifierOut$Atom" "b" "I" ∈ ww := ww_in2 9 rfl rfl
theorem tw_250 : Cond.soleField "QuantifierOut$Atom" "b" ∈ ww := ww_in2 10 rfl rfl
theorem tw_251 : Cond.laysFinal "QuantifierOut$Atom" "QuantifierOut$Atom" "c" "I" ∈ ww := ww_in2 11 rfl rfl
theorem tw_252 : Cond.soleField "QuantifierOut$Atom" "c" ∈ ww := ww_in2 12 rfl rfl
theorem tw_253 : Cond.laysFinal "QuantifierOut$Atom" "QuantifierOut$Atom" "op" "I" ∈ ww := ww_in2 13 rfl rfl
theorem tw_254 : Cond.soleField "QuantifierOut$Atom" "op" ∈ ww := ww_in2 14 rfl rfl
theorem tw_255 : Cond.laysFinal "QuantifierOut$Atom" "QuantifierOut$Node" "free" "I" ∈ ww := ww_in2 15 rfl rfl
theorem tw_256 : Cond.soleField "QuantifierOut$Node" "free" ∈ ww := ww_in2 16 rfl rfl
theorem tw_257 : Cond.laysFinal "QuantifierOut$Atom" "QuantifierOut$Node" "depth" "I" ∈ ww := ww_in2 17 rfl rfl
theorem tw_258 : Cond.soleField "QuantifierOut$Node" "depth" ∈ ww := ww_in2 18 rfl rfl
theorem tw_259 : Cond.laysFinal "QuantifierOut$Atom" "QuantifierOut$Node" "lines" "[I" ∈ ww := ww_in2 19 rfl rfl
theorem tw_260 : Cond.soleField "QuantifierOut$Node" "lines" ∈ ww := ww_in2 20 rfl rfl
theorem tw_261 : Cond.lays "QuantifierOut$Atom" "QuantifierOut$Node" "grid" "I" ∈ ww := ww_in2 21 rfl rfl
theorem tw_262 : Cond.soleField "QuantifierOut$Node" "grid" ∈ ww := ww_in2 22 rfl rfl
theorem tw_263 : Cond.superclass "QuantifierOut$Atom" "QuantifierOut$Node" ∈ ww := ww_in2 23 rfl rfl
theorem tw_264 : Cond.methodLink "QuantifierOut" 54 y_Qo_add ∈ ww := ww_in2 24 rfl rfl
theorem tq_265 : Cond.privateMethod y_Qo_add ∈ lw_tbl := lw_in2 25 rfl
theorem tw_266 : Cond.instanceMethod y_Qo_add ∈ ww := ww_in2 26 rfl rfl
theorem tw_267 : Cond.code y_Qo_add prog_1_method_19_code 3 (some .int) ∈ ww := ww_in2 27 rfl rfl
theorem tw_268 : Cond.methodLink "QuantifierOutLaw" 72 y_Lw_both ∈ ww := ww_in2 28 rfl rfl
theorem tw_269 : Cond.static y_Lw_both ∈ ww := ww_in2 29 rfl rfl
theorem tq_270 : Cond.codeWith y_Lw_both method_4_code 5 (some .int) [(0, 10, 13, 21), (0, 10, 17, 13), (0, 10, 21, 15)] ∈ lw_tbl := lw_in2 30 rfl
theorem tw_271 : Cond.classLink "QuantifierOutLaw" 21 "java/lang/IndexOutOfBoundsException" ∈ ww := ww_in2 31 rfl rfl
theorem tw_272 : Cond.methodLink "QuantifierOutLaw" 17 y_Qo_both ∈ ww := ww_in2 32 rfl rfl
theorem tw_273 : Cond.instanceMethod y_Qo_both ∈ ww := ww_in2 33 rfl rfl
theorem tw_274 : Cond.selects "QuantifierOut" y_Qo_both y_Qo_both ∈ ww := ww_in2 34 rfl rfl
theorem tw_275 : Cond.code y_Qo_both prog_1_method_3_code 3 (some .int) ∈ ww := ww_in2 35 rfl rfl
theorem tw_276 : Cond.methodLink "QuantifierOut" 58 y_Qo_addPair ∈ ww := ww_in2 36 rfl rfl
theorem tq_277 : Cond.privateMethod y_Qo_addPair ∈ lw_tbl := lw_in2 37 rfl
theorem tw_278 : Cond.instanceMethod y_Qo_addPair ∈ ww := ww_in2 38 rfl rfl
theorem tw_279 : Cond.code y_Qo_addPair prog_1_method_20_code 6 (some .int) ∈ ww := ww_in2 39 rfl rfl
theorem tw_280 : Cond.methodLink "QuantifierOut" 62 y_Qo_nodeAt ∈ ww := ww_in2 40 rfl rfl
theorem tq_281 : Cond.privateMethod y_Qo_nodeAt ∈ lw_tbl := lw_in2 41 rfl
theorem tw_282 : Cond.instanceMethod y_Qo_nodeAt ∈ ww := ww_in2 42 rfl rfl
theorem tw_283 : Cond.code y_Qo_nodeAt prog_1_method_17_code 2 (some (.object "QuantifierOut$Node")) ∈ ww := ww_in2 43 rfl rfl
theorem tw_284 : Cond.classLink "QuantifierOut" 112 "java/lang/IndexOutOfBoundsException" ∈ ww := ww_in2 44 rfl rfl
theorem tw_285 : Cond.instantiable "java/lang/IndexOutOfBoundsException" 6 ∈ ww := ww_in2 45 rfl rfl
theorem tq_286 : Cond.castable "java/lang/IndexOutOfBoundsException" "java/lang/IndexOutOfBoundsException" ∈ lw_tbl := lw_in2 46 rfl
theorem tw_287 : Cond.selects "java/lang/IndexOutOfBoundsException" ⟨"java/lang/Throwable", "fillInStackTrace", "(I)Ljava/lang/Throwable;"⟩ ⟨"java/lang/Throwable", "fillInStackTrace", "(I)Ljava/lang/Throwable;"⟩ ∈ ww := ww_in2 47 rfl rfl
theorem tw_288 : Cond.lays "java/lang/IndexOutOfBoundsException" "java/lang/Throwable" "cause" "Ljava/lang/Throwable;" ∈ ww := ww_in2 48 rfl rfl
theorem tw_289 : Cond.lays "java/lang/IndexOutOfBoundsException" "java/lang/Throwable" "stackTrace" "[Ljava/lang/StackTraceElement;" ∈ ww := ww_in2 49 rfl rfl
theorem tw_290 : Cond.lays "java/lang/IndexOutOfBoundsException" "java/lang/Throwable" "suppressedExceptions" "Ljava/util/List;" ∈ ww := ww_in2 50 rfl rfl
theorem tw_291 : Cond.lays "java/lang/IndexOutOfBoundsException" "java/lang/Throwable" "detailMessage" "Ljava/lang/String;" ∈ ww := ww_in2 51 rfl rfl
theorem tw_292 : Cond.lays "java/lang/IndexOutOfBoundsException" "java/lang/Throwable" "backtrace" "Ljava/lang/Object;" ∈ ww := ww_in2 52 rfl rfl
theorem tq_293 : Cond.stringRef "QuantifierOut" 129 "no such node" ∈ lw_tbl := lw_in2 53 rfl
theorem tw_294 : Cond.methodLink "QuantifierOut" 116 ⟨"java/lang/IndexOutOfBoundsException", "<init>", "(Ljava/lang/String;)V"⟩ ∈ ww := ww_in2 54 rfl rfl
theorem tw_295 : Cond.instanceMethod ⟨"java/lang/IndexOutOfBoundsException", "<init>", "(Ljava/lang/String;)V"⟩ ∈ ww := ww_in2 55 rfl rfl
theorem tw_296 : Cond.code ⟨"java/lang/IndexOutOfBoundsException", "<init>", "(Ljava/lang/String;)V"⟩ prog_15_method_2_code 2 none ∈ ww := ww_in2 56 rfl rfl
theorem tw_297 : Cond.methodLink "java/lang/IndexOutOfBoundsException" 7 ⟨"java/lang/RuntimeException", "<init>", "(Ljava/lang/String;)V"⟩ ∈ ww := ww_in2 57 rfl rfl
theorem tw_298 : Cond.lays "java/lang/IndexOutOfBoundsException" "java/lang/Throwable" "depth" "I" ∈ ww := ww_in2 58 rfl rfl
theorem tw_299 : Cond.superclass "java/lang/IndexOutOfBoundsException" "java/lang/RuntimeException" ∈ ww := ww_in2 59 rfl rfl
theorem tw_300 : Cond.methodLink "QuantifierOut" 76 y_Nd_size ∈ ww := ww_in2 60 rfl rfl
theorem tw_301 : Cond.instanceMethod y_Nd_size ∈ ww := ww_in2 61 rfl rfl
theorem tw_302 : Cond.sameMethod "QuantifierOut$Node" "QuantifierOut$Node" "size" "()I" ∈ ww := ww_in2 62 rfl rfl
theorem tw_303 : Cond.selects "QuantifierOut$Atom" y_Nd_size y_Nd_size ∈ ww := ww_in2 63 rfl rfl
theorem tw_304 : Cond.selects "QuantifierOut$Negation" y_Nd_size y_Nd_size ∈ ww := ww_in2 64 rfl rfl
theorem tw_305 : Cond.selects "QuantifierOut$Pair" y_Nd_size y_Nd_size ∈ ww := ww_in2 65 rfl rfl
theorem tw_306 : Cond.selects "QuantifierOut$Quantified" y_Nd_size y_Nd_size ∈ ww := ww_in2 66 rfl rfl
theorem tw_307 : Cond.code y_Nd_size prog_5_method_4_code 1 (some .int) ∈ ww := ww_in2 67 rfl rfl
theorem tq_308 : Cond.stringRef "QuantifierOut" 133 "the size would be above 6" ∈ lw_tbl := lw_in2 68 rfl
theorem tw_309 : Cond.classLink "QuantifierOut" 135 "QuantifierOut$Pair" ∈ ww := ww_in2 69 rfl rfl
theorem tw_310 : Cond.instantiable "QuantifierOut$Pair" 7 ∈ ww := ww_in2 70 rfl rfl
theorem tw_311 : Cond.methodLink "QuantifierOut" 137 y_Pr_init ∈ ww := ww_in2 71 rfl rfl
theorem tw_312 : Cond.instanceMethod y_Pr_init ∈ ww := ww_in2 72 rfl rfl
theorem tw_313 : Cond.code y_Pr_init prog_6_method_1_code 4 none ∈ ww := ww_in2 73 rfl rfl
theorem tw_314 : Cond.methodLink "QuantifierOut$Pair" 10 ⟨"java/lang/Math", "max", "(II)I"⟩ ∈ ww := ww_in2 74 rfl rfl
theorem tw_315 : Cond.static ⟨"java/lang/Math", "max", "(II)I"⟩ ∈ ww := ww_in2 75 rfl rfl
theorem tw_316 : Cond.code ⟨"java/lang/Math", "max", "(II)I"⟩ prog_16_method_65_code 2 (some .int) ∈ ww := ww_in2 76 rfl rfl
theorem tw_317 : Cond.methodLink "QuantifierOut$Pair" 20 y_Pr_join ∈ ww := ww_in2 77 rfl rfl
theorem tw_318 : Cond.static y_Pr_join ∈ ww := ww_in2 78 rfl rfl
theorem tw_319 : Cond.code y_Pr_join prog_6_method_2_code 3 (some (.array .int)) ∈ ww := ww_in2 79 rfl rfl
theorem tw_320 : Cond.methodLink "QuantifierOut$Pair" 41 ⟨"java/lang/System", "arraycopy", "(Ljava/lang/Object;ILjava/lang/Object;II)V"⟩ ∈ ww := ww_in2 80 rfl rfl
theorem tw_321 : Cond.static ⟨"java/lang/System", "arraycopy", "(Ljava/lang/Object;ILjava/lang/Object;II)V"⟩ ∈ ww := ww_in2 81 rfl rfl
theorem tw_322 : Cond.native ⟨"java/lang/System", "arraycopy", "(Ljava/lang/Object;ILjava/lang/Object;II)V"⟩ ∈ ww := ww_in2 82 rfl rfl
theorem tw_323 : Cond.methodLink "QuantifierOut$Pair" 26 y_Nd_init ∈ ww := ww_in2 83 rfl rfl
theorem tw_324 : Cond.fieldLink "QuantifierOut$Pair" 30 "QuantifierOut$Pair" "first" "LQuantifierOut$Node;" ∈ ww := ww_in2 84 rfl rfl
theorem tw_325 : Cond.fieldLink "QuantifierOut$Pair" 34 "QuantifierOut$Pair" "second" "LQuantifierOut$Node;" ∈ ww := ww_in2 85 rfl rfl
theorem tw_326 : Cond.fieldLink "QuantifierOut$Pair" 37 "QuantifierOut$Pair" "needsBoth" "Z" ∈ ww := ww_in2 86 rfl rfl
theorem tw_327 : Cond.laysFinal "QuantifierOut$Pair" "QuantifierOut$Pair" "first" "LQuantifierOut$Node;" ∈ ww := ww_in2 87 rfl rfl
theorem tw_328 : Cond.soleField "QuantifierOut$Pair" "first" ∈ ww := ww_in2 88 rfl rfl
theorem tw_329 : Cond.laysFinal "QuantifierOut$Pair" "QuantifierOut$Pair" "second" "LQuantifierOut$Node;" ∈ ww := ww_in2 89 rfl rfl
theorem tw_330 : Cond.soleField "QuantifierOut$Pair" "second" ∈ ww := ww_in2 90 rfl rfl
theorem tw_331 : Cond.laysFinal "QuantifierOut$Pair" "QuantifierOut$Pair" "needsBoth" "Z" ∈ ww := ww_in2 91 rfl rfl
theorem tw_332 : Cond.soleField "QuantifierOut$Pair" "needsBoth" ∈ ww := ww_in2 92 rfl rfl
theorem tw_333 : Cond.laysFinal "QuantifierOut$Pair" "QuantifierOut$Node" "free" "I" ∈ ww := ww_in2 93 rfl rfl
theorem tw_334 : Cond.laysFinal "QuantifierOut$Pair" "QuantifierOut$Node" "depth" "I" ∈ ww := ww_in2 94 rfl rfl
theorem tw_335 : Cond.laysFinal "QuantifierOut$Pair" "QuantifierOut$Node" "lines" "[I" ∈ ww := ww_in2 95 rfl rfl
theorem tw_336 : Cond.lays "QuantifierOut$Pair" "QuantifierOut$Node" "grid" "I" ∈ ww := ww_in2 96 rfl rfl
theorem tw_337 : Cond.superclass "QuantifierOut$Pair" "QuantifierOut$Node" ∈ ww := ww_in2 97 rfl rfl
theorem tw_338 : Cond.methodLink "QuantifierOutLaw" 76 y_Lw_either ∈ ww := ww_in2 98 rfl rfl
theorem tw_339 : Cond.static y_Lw_either ∈ ww := ww_in2 99 rfl rfl
theorem tq_340 : Cond.codeWith y_Lw_either method_5_code 5 (some .int) [(0, 10, 13, 21), (0, 10, 17, 13), (0, 10, 21, 15)] ∈ lw_tbl := lw_in2 100 rfl
theorem tw_341 : Cond.methodLink "QuantifierOutLaw" 23 y_Qo_either ∈ ww := ww_in2 101 rfl rfl
theorem tw_342 : Cond.instanceMethod y_Qo_either ∈ ww := ww_in2 102 rfl rfl
theorem tw_343 : Cond.selects "QuantifierOut" y_Qo_either y_Qo_either ∈ ww := ww_in2 103 rfl rfl
theorem tw_344 : Cond.code y_Qo_either prog_1_method_4_code 3 (some .int) ∈ ww := ww_in2 104 rfl rfl
theorem tw_345 : Cond.methodLink "QuantifierOutLaw" 79 y_Lw_not ∈ ww := ww_in2 105 rfl rfl
theorem tw_346 : Cond.static y_Lw_not ∈ ww := ww_in2 106 rfl rfl
theorem tq_347 : Cond.codeWith y_Lw_not method_6_code 4 (some .int) [(0, 9, 12, 21), (0, 9, 15, 13)] ∈ lw_tbl := lw_in2 107 rfl
theorem tw_348 : Cond.methodLink "QuantifierOutLaw" 26 y_Qo_not ∈ ww := ww_in2 108 rfl rfl
theorem tw_349 : Cond.instanceMethod y_Qo_not ∈ ww := ww_in2 109 rfl rfl
theorem tw_350 : Cond.selects "QuantifierOut" y_Qo_not y_Qo_not ∈ ww := ww_in2 110 rfl rfl
theorem tw_351 : Cond.code y_Qo_not prog_1_method_5_code 3 (some .int) ∈ ww := ww_in2 111 rfl rfl
theorem tw_352 : Cond.methodLink "QuantifierOut" 66 y_Nd_opposite ∈ ww := ww_in2 112 rfl rfl
theorem tw_353 : Cond.instanceMethod y_Nd_opposite ∈ ww := ww_in2 113 rfl rfl
theorem tw_354 : Cond.sameMethod "QuantifierOut$Node" "QuantifierOut$Node" "opposite" "()LQuantifierOut$Node;" ∈ ww := ww_in2 114 rfl rfl
theorem tw_355 : Cond.selects "QuantifierOut$Atom" y_Nd_opposite y_Nd_opposite ∈ ww := ww_in2 115 rfl rfl
theorem tw_356 : Cond.selects "QuantifierOut$Negation" y_Nd_opposite y_Ng_opposite ∈ ww := ww_in2 116 rfl rfl
theorem tw_357 : Cond.instanceMethod y_Ng_opposite ∈ ww := ww_in2 117 rfl rfl
theorem tw_358 : Cond.code y_Ng_opposite prog_4_method_2_code 1 (some (.object "QuantifierOut$Node")) ∈ ww := ww_in2 118 rfl rfl
theorem tw_359 : Cond.selects "QuantifierOut$Pair" y_Nd_opposite y_Nd_opposite ∈ ww := ww_in2 119 rfl rfl
theorem tw_360 : Cond.selects "QuantifierOut$Quantified" y_Nd_opposite y_Nd_opposite ∈ ww := ww_in2 120 rfl rfl
theorem tw_361 : Cond.code y_Nd_opposite prog_5_method_3_code 1 (some (.object "QuantifierOut$Node")) ∈ ww := ww_in2 121 rfl rfl
theorem tw_362 : Cond.classLink "QuantifierOut$Node" 25 "QuantifierOut$Negation" ∈ ww := ww_in2 122 rfl rfl
theorem tw_363 : Cond.instantiable "QuantifierOut$Negation" 5 ∈ ww := ww_in2 123 rfl rfl
theorem tw_364 : Cond.methodLink "QuantifierOut$Node" 27 y_Ng_init ∈ ww := ww_in2 124 rfl rfl
theorem tw_365 : Cond.instanceMethod y_Ng_init ∈ ww := ww_in2 125 rfl rfl
theorem tw_366 : Cond.code y_Ng_init prog_4_method_1_code 2 none ∈ ww := ww_in2 126 rfl rfl
theorem tw_367 : Cond.methodLink "QuantifierOut$Negation" 14 y_Nd_init ∈ ww := ww_in2 127 rfl rfl
theorem tw_368 : Cond.fieldLink "QuantifierOut$Negation" 18 "QuantifierOut$Negation" "body" "LQuantifierOut$Node;" ∈ ww := ww_in2 128 rfl rfl
theorem tw_369 : Cond.laysFinal "QuantifierOut$Negation" "QuantifierOut$Negation" "body" "LQuantifierOut$Node;" ∈ ww := ww_in2 129 rfl rfl
theorem tw_370 : Cond.soleField "QuantifierOut$Negation" "body" ∈ ww := ww_in2 130 rfl rfl
theorem tw_371 : Cond.laysFinal "QuantifierOut$Negation" "QuantifierOut$Node" "free" "I" ∈ ww := ww_in2 131 rfl rfl
theorem tw_372 : Cond.laysFinal "QuantifierOut$Negation" "QuantifierOut$Node" "depth" "I" ∈ ww := ww_in2 132 rfl rfl
theorem tw_373 : Cond.laysFinal "QuantifierOut$Negation" "QuantifierOut$Node" "lines" "[I" ∈ ww := ww_in2 133 rfl rfl
theorem tw_374 : Cond.lays "QuantifierOut$Negation" "QuantifierOut$Node" "grid" "I" ∈ ww := ww_in2 134 rfl rfl
theorem tw_375 : Cond.superclass "QuantifierOut$Negation" "QuantifierOut$Node" ∈ ww := ww_in2 135 rfl rfl
theorem tw_376 : Cond.methodLink "QuantifierOutLaw" 83 y_Lw_some ∈ ww := ww_in2 136 rfl rfl
theorem tw_377 : Cond.static y_Lw_some ∈ ww := ww_in2 137 rfl rfl
theorem tq_378 : Cond.codeWith y_Lw_some method_7_code 5 (some .int) [(0, 10, 13, 21), (0, 10, 17, 13), (0, 10, 21, 15)] ∈ lw_tbl := lw_in2 138 rfl
theorem tw_379 : Cond.methodLink "QuantifierOutLaw" 30 y_Qo_some ∈ ww := ww_in2 139 rfl rfl
theorem tw_380 : Cond.instanceMethod y_Qo_some ∈ ww := ww_in2 140 rfl rfl
theorem tw_381 : Cond.selects "QuantifierOut" y_Qo_some y_Qo_some ∈ ww := ww_in2 141 rfl rfl
theorem tw_382 : Cond.code y_Qo_some prog_1_method_6_code 3 (some .int) ∈ ww := ww_in2 142 rfl rfl
theorem tw_383 : Cond.methodLink "QuantifierOut" 70 y_Qo_addQuantified ∈ ww := ww_in2 143 rfl rfl
theorem tq_384 : Cond.privateMethod y_Qo_addQuantified ∈ lw_tbl := lw_in2 144 rfl
theorem tw_385 : Cond.instanceMethod y_Qo_addQuantified ∈ ww := ww_in2 145 rfl rfl
theorem tw_386 : Cond.code y_Qo_addQuantified prog_1_method_21_code 5 (some .int) ∈ ww := ww_in2 146 rfl rfl
theorem tq_387 : Cond.stringRef "QuantifierOut" 140 "letter is 0 or 1" ∈ lw_tbl := lw_in2 147 rfl
theorem tq_388 : Cond.stringRef "QuantifierOut" 142 "the depth would be above 2" ∈ lw_tbl := lw_in2 148 rfl
theorem tw_389 : Cond.classLink "QuantifierOut" 144 "QuantifierOut$Quantified" ∈ ww := ww_in2 149 rfl rfl
theorem tw_390 : Cond.instantiable "QuantifierOut$Quantified" 7 ∈ ww := ww_in2 150 rfl rfl
theorem tw_391 : Cond.methodLink "QuantifierOut" 146 y_Qf_init ∈ ww := ww_in2 151 rfl rfl
theorem tw_392 : Cond.instanceMethod y_Qf_init ∈ ww := ww_in2 152 rfl rfl
theorem tw_393 : Cond.code y_Qf_init prog_8_method_1_code 4 none ∈ ww := ww_in2 153 rfl rfl
theorem tw_394 : Cond.methodLink "QuantifierOut$Quantified" 14 y_Nd_init ∈ ww := ww_in2 154 rfl rfl
theorem tw_395 : Cond.fieldLink "QuantifierOut$Quantified" 18 "QuantifierOut$Quantified" "letter" "I" ∈ ww := ww_in2 155 rfl rfl
theorem tw_396 : Cond.fieldLink "QuantifierOut$Quantified" 23 "QuantifierOut$Quantified" "body" "LQuantifierOut$Node;" ∈ ww := ww_in2 156 rfl rfl
theorem tw_397 : Cond.fieldLink "QuantifierOut$Quantified" 27 "QuantifierOut$Quantified" "wantsAll" "Z" ∈ ww := ww_in2 157 rfl rfl
theorem tw_398 : Cond.laysFinal "QuantifierOut$Quantified" "QuantifierOut$Quantified" "letter" "I" ∈ ww := ww_in2 158 rfl rfl
theorem tw_399 : Cond.soleField "QuantifierOut$Quantified" "letter" ∈ ww := ww_in2 159 rfl rfl
theorem tw_400 : Cond.laysFinal "QuantifierOut$Quantified" "QuantifierOut$Quantified" "body" "LQuantifierOut$Node;" ∈ ww := ww_in2 160 rfl rfl
theorem tw_401 : Cond.soleField "QuantifierOut$Quantified" "body" ∈ ww := ww_in2 161 rfl rfl
theorem tw_402 : Cond.laysFinal "QuantifierOut$Quantified" "QuantifierOut$Quantified" "wantsAll" "Z" ∈ ww := ww_in2 162 rfl rfl
theorem tw_403 : Cond.soleField "QuantifierOut$Quantified" "wantsAll" ∈ ww := ww_in2 163 rfl rfl
theorem tw_404 : Cond.laysFinal "QuantifierOut$Quantified" "QuantifierOut$Node" "free" "I" ∈ ww := ww_in2 164 rfl rfl
theorem tw_405 : Cond.laysFinal "QuantifierOut$Quantified" "QuantifierOut$Node" "depth" "I" ∈ ww := ww_in2 165 rfl rfl
theorem tw_406 : Cond.laysFinal "QuantifierOut$Quantified" "QuantifierOut$Node" "lines" "[I" ∈ ww := ww_in2 166 rfl rfl
theorem tw_407 : Cond.lays "QuantifierOut$Quantified" "QuantifierOut$Node" "grid" "I" ∈ ww := ww_in2 167 rfl rfl
theorem tw_408 : Cond.superclass "QuantifierOut$Quantified" "QuantifierOut$Node" ∈ ww := ww_in2 168 rfl rfl
theorem tw_409 : Cond.methodLink "QuantifierOutLaw" 86 y_Lw_every ∈ ww := ww_in2 169 rfl rfl
theorem tw_410 : Cond.static y_Lw_every ∈ ww := ww_in2 170 rfl rfl
theorem tq_411 : Cond.codeWith y_Lw_every method_8_code 5 (some .int) [(0, 10, 13, 21), (0, 10, 17, 13), (0, 10, 21, 15)] ∈ lw_tbl := lw_in2 171 rfl
theorem tw_412 : Cond.methodLink "QuantifierOutLaw" 33 y_Qo_every ∈ ww := ww_in2 172 rfl rfl
theorem tw_413 : Cond.instanceMethod y_Qo_every ∈ ww := ww_in2 173 rfl rfl
theorem tw_414 : Cond.selects "QuantifierOut" y_Qo_every y_Qo_every ∈ ww := ww_in2 174 rfl rfl
theorem tw_415 : Cond.code y_Qo_every prog_1_method_7_code 3 (some .int) ∈ ww := ww_in2 175 rfl rfl
theorem tw_416 : Cond.methodLink "QuantifierOutLaw" 89 y_Lw_known ∈ ww := ww_in2 176 rfl rfl
theorem tw_417 : Cond.static y_Lw_known ∈ ww := ww_in2 177 rfl rfl
theorem tq_418 : Cond.codeWith y_Lw_known method_9_code 5 (some .int) [(0, 10, 13, 21), (0, 10, 17, 15)] ∈ lw_tbl := lw_in2 178 rfl
theorem tw_419 : Cond.methodLink "QuantifierOutLaw" 36 y_Qo_known ∈ ww := ww_in2 179 rfl rfl
theorem tw_420 : Cond.instanceMethod y_Qo_known ∈ ww := ww_in2 180 rfl rfl
theorem tw_421 : Cond.selects "QuantifierOut" y_Qo_known y_Qo_known ∈ ww := ww_in2 181 rfl rfl
theorem tw_422 : Cond.code y_Qo_known prog_1_method_8_code 4 (some .int) ∈ ww := ww_in2 182 rfl rfl
theorem tw_423 : Cond.methodLink "QuantifierOut" 73 y_Nd_isFree ∈ ww := ww_in2 183 rfl rfl
theorem tw_424 : Cond.instanceMethod y_Nd_isFree ∈ ww := ww_in2 184 rfl rfl
theorem tw_425 : Cond.sameMethod "QuantifierOut$Node" "QuantifierOut$Node" "isFree" "(I)Z" ∈ ww := ww_in2 185 rfl rfl
theorem tw_426 : Cond.selects "QuantifierOut$Atom" y_Nd_isFree y_Nd_isFree ∈ ww := ww_in2 186 rfl rfl
theorem tw_427 : Cond.selects "QuantifierOut$Negation" y_Nd_isFree y_Nd_isFree ∈ ww := ww_in2 187 rfl rfl
theorem tw_428 : Cond.selects "QuantifierOut$Pair" y_Nd_isFree y_Nd_isFree ∈ ww := ww_in2 188 rfl rfl
theorem tw_429 : Cond.selects "QuantifierOut$Quantified" y_Nd_isFree y_Nd_isFree ∈ ww := ww_in2 189 rfl rfl
theorem tw_430 : Cond.code y_Nd_isFree prog_5_method_5_code 2 (some .boolean) ∈ ww := ww_in2 190 rfl rfl
theorem tq_431 : Cond.stringRef "QuantifierOut" 83 "what is 0 .. 3" ∈ lw_tbl := lw_in2 191 rfl
theorem tw_432 : Cond.methodLink "QuantifierOutLaw" 92 y_Lw_holds ∈ ww := ww_in2 192 rfl rfl
theorem tw_433 : Cond.static y_Lw_holds ∈ ww := ww_in2 193 rfl rfl
theorem tq_434 : Cond.codeWith y_Lw_holds method_10_code 6 (some .int) [(0, 19, 22, 21), (0, 19, 26, 15)] ∈ lw_tbl := lw_in2 194 rfl
theorem tw_435 : Cond.methodLink "QuantifierOutLaw" 39 y_Qo_holds ∈ ww := ww_in2 195 rfl rfl
theorem tw_436 : Cond.instanceMethod y_Qo_holds ∈ ww := ww_in2 196 rfl rfl
theorem tw_437 : Cond.selects "QuantifierOut" y_Qo_holds y_Qo_holds ∈ ww := ww_in2 197 rfl rfl
theorem tw_438 : Cond.code y_Qo_holds prog_1_method_9_code 5 (some .boolean) ∈ ww := ww_in2 198 rfl rfl
theorem tw_439 : Cond.methodLink "QuantifierOut" 85 y_Qo_isValue ∈ ww := ww_in2 199 rfl rfl
theorem tw_440 : Cond.static y_Qo_isValue ∈ ww := ww_in2 200 rfl rfl
theorem tw_441 : Cond.code y_Qo_isValue prog_1_method_16_code 1 (some .boolean) ∈ ww := ww_in2 201 rfl rfl
theorem tq_442 : Cond.stringRef "QuantifierOut" 88 "x and y are -50 .. 50" ∈ lw_tbl := lw_in2 202 rfl
theorem tw_443 : Cond.methodLink "QuantifierOut" 90 y_Vs_putWhole ∈ ww := ww_in2 203 rfl rfl
theorem tw_444 : Cond.instanceMethod y_Vs_putWhole ∈ ww := ww_in2 204 rfl rfl
theorem tw_445 : Cond.selects "QuantifierOut$Values" y_Vs_putWhole y_Vs_putWhole ∈ ww := ww_in2 205 rfl rfl
theorem tw_446 : Cond.code y_Vs_putWhole prog_9_method_3_code 3 none ∈ ww := ww_in2 206 rfl rfl
theorem tw_447 : Cond.methodLink "QuantifierOut$Values" 28 y_Vs_put ∈ ww := ww_in2 207 rfl rfl
theorem tw_448 : Cond.instanceMethod y_Vs_put ∈ ww := ww_in2 208 rfl rfl
theorem tw_449 : Cond.selects "QuantifierOut$Values" y_Vs_put y_Vs_put ∈ ww := ww_in2 209 rfl rfl
theorem tw_450 : Cond.code y_Vs_put prog_9_method_2_code 6 none ∈ ww := ww_in2 210 rfl rfl
theorem tw_451 : Cond.methodLink "QuantifierOut" 94 ⟨"QuantifierOut$Node", "isTrueAt", "(LQuantifierOut$Values;)Z"⟩ ∈ ww := ww_in2 211 rfl rfl
theorem tq_452 : Cond.declares ⟨"QuantifierOut$Node", "isTrueAt", "(LQuantifierOut$Values;)Z"⟩ ∈ lw_tbl := lw_in2 212 rfl
theorem tw_453 : Cond.sameMethod "QuantifierOut$Node" "QuantifierOut$Node" "isTrueAt" "(LQuantifierOut$Values;)Z" ∈ ww := ww_in2 213 rfl rfl
theorem tw_454 : Cond.selects "QuantifierOut$Atom" ⟨"QuantifierOut$Node", "isTrueAt", "(LQuantifierOut$Values;)Z"⟩ y_At_isTrueAt ∈ ww := ww_in2 214 rfl rfl
theorem tw_455 : Cond.instanceMethod y_At_isTrueAt ∈ ww := ww_in2 215 rfl rfl
theorem tw_456 : Cond.code y_At_isTrueAt prog_2_method_2_code 8 (some .boolean) ∈ ww := ww_in2 216 rfl rfl
theorem tw_457 : Cond.selects "QuantifierOut$Negation" ⟨"QuantifierOut$Node", "isTrueAt", "(LQuantifierOut$Values;)Z"⟩ y_Ng_isTrueAt ∈ ww := ww_in2 217 rfl rfl
theorem tw_458 : Cond.instanceMethod y_Ng_isTrueAt ∈ ww := ww_in2 218 rfl rfl
theorem tw_459 : Cond.code y_Ng_isTrueAt prog_4_method_3_code 2 (some .boolean) ∈ ww := ww_in2 219 rfl rfl
theorem tw_460 : Cond.methodLink "QuantifierOut$Negation" 24 ⟨"QuantifierOut$Node", "isTrueAt", "(LQuantifierOut$Values;)Z"⟩ ∈ ww := ww_in2 220 rfl rfl
theorem tw_461 : Cond.instanceMethod y_Pr_isTrueAt ∈ ww := ww_in2 221 rfl rfl
theorem tw_462 : Cond.code y_Pr_isTrueAt prog_6_method_3_code 2 (some .boolean) ∈ ww := ww_in2 222 rfl rfl
theorem tw_463 : Cond.methodLink "QuantifierOut$Pair" 47 ⟨"QuantifierOut$Node", "isTrueAt", "(LQuantifierOut$Values;)Z"⟩ ∈ ww := ww_in2 223 rfl rfl
theorem tw_464 : Cond.instanceMethod y_Qf_isTrueAt ∈ ww := ww_in2 224 rfl rfl
theorem tw_465 : Cond.code y_Qf_isTrueAt prog_8_method_2_code 9 (some .boolean) ∈ ww := ww_in2 225 rfl rfl
theorem tw_466 : Cond.methodLink "QuantifierOut$Quantified" 41 y_Vs_marksFor ∈ ww := ww_in2 226 rfl rfl
theorem tw_467 : Cond.instanceMethod y_Vs_marksFor ∈ ww := ww_in2 227 rfl rfl
theorem tw_468 : Cond.selects "QuantifierOut$Values" y_Vs_marksFor y_Vs_marksFor ∈ ww := ww_in2 228 rfl rfl
theorem tw_469 : Cond.code y_Vs_marksFor prog_9_method_4_code 2 (some (.object "QuantifierOut$Marks")) ∈ ww := ww_in2 229 rfl rfl
theorem tw_470 : Cond.methodLink "QuantifierOut$Quantified" 45 y_Mk_gather ∈ ww := ww_in2 230 rfl rfl
theorem tw_471 : Cond.instanceMethod y_Mk_gather ∈ ww := ww_in2 231 rfl rfl
theorem tw_472 : Cond.selects "QuantifierOut$Marks" y_Mk_gather y_Mk_gather ∈ ww := ww_in2 232 rfl rfl
theorem tw_473 : Cond.code y_Mk_gather prog_3_method_3_code 7 none ∈ ww := ww_in2 233 rfl rfl
theorem tw_474 : Cond.methodLink "QuantifierOut$Marks" 20 y_Nd_isFree ∈ ww := ww_in2 234 rfl rfl
theorem tw_475 : Cond.methodLink "QuantifierOut$Marks" 30 y_Mk_markValue ∈ ww := ww_in2 235 rfl rfl
theorem tq_476 : Cond.privateMethod y_Mk_markValue ∈ lw_tbl := lw_in2 236 rfl
theorem tw_477 : Cond.instanceMethod y_Mk_markValue ∈ ww := ww_in2 237 rfl rfl
theorem tw_478 : Cond.code y_Mk_markValue prog_3_method_4_code 10 none ∈ ww := ww_in2 238 rfl rfl
theorem tw_479 : Cond.methodLink "QuantifierOut$Marks" 45 y_Mk_insert ∈ ww := ww_in2 239 rfl rfl
theorem tq_480 : Cond.privateMethod y_Mk_insert ∈ lw_tbl := lw_in3 0 rfl
theorem tw_481 : Cond.instanceMethod y_Mk_insert ∈ ww := ww_in3 1 rfl rfl
theorem tw_482 : Cond.code y_Mk_insert prog_3_method_6_code 10 none ∈ ww := ww_in3 2 rfl rfl
theorem tw_483 : Cond.methodLink "QuantifierOut$Marks" 49 ⟨"java/lang/System", "arraycopy", "(Ljava/lang/Object;ILjava/lang/Object;II)V"⟩ ∈ ww := ww_in3 3 rfl rfl
theorem tw_484 : Cond.methodLink "QuantifierOut$Marks" 37 y_Mk_markCrossing ∈ ww := ww_in3 4 rfl rfl
theorem tq_485 : Cond.privateMethod y_Mk_markCrossing ∈ lw_tbl := lw_in3 5 rfl
theorem tw_486 : Cond.instanceMethod y_Mk_markCrossing ∈ ww := ww_in3 6 rfl rfl
theorem tw_487 : Cond.code y_Mk_markCrossing prog_3_method_5_code 8 none ∈ ww := ww_in3 7 rfl rfl
theorem tw_488 : Cond.methodLink "QuantifierOut$Quantified" 51 y_Mk_stops ∈ ww := ww_in3 8 rfl rfl
theorem tw_489 : Cond.instanceMethod y_Mk_stops ∈ ww := ww_in3 9 rfl rfl
theorem tw_490 : Cond.selects "QuantifierOut$Marks" y_Mk_stops y_Mk_stops ∈ ww := ww_in3 10 rfl rfl
theorem tw_491 : Cond.code y_Mk_stops prog_3_method_2_code 1 (some .int) ∈ ww := ww_in3 11 rfl rfl
theorem tw_492 : Cond.methodLink "QuantifierOut$Quantified" 55 y_Mk_moveTo ∈ ww := ww_in3 12 rfl rfl
theorem tw_493 : Cond.instanceMethod y_Mk_moveTo ∈ ww := ww_in3 13 rfl rfl
theorem tw_494 : Cond.selects "QuantifierOut$Marks" y_Mk_moveTo y_Mk_moveTo ∈ ww := ww_in3 14 rfl rfl
theorem tw_495 : Cond.code y_Mk_moveTo prog_3_method_7_code 5 none ∈ ww := ww_in3 15 rfl rfl
theorem tw_496 : Cond.methodLink "QuantifierOut$Marks" 55 y_Vs_put ∈ ww := ww_in3 16 rfl rfl
theorem tw_497 : Cond.methodLink "QuantifierOut$Quantified" 59 ⟨"QuantifierOut$Node", "isTrueAt", "(LQuantifierOut$Values;)Z"⟩ ∈ ww := ww_in3 17 rfl rfl
theorem tw_498 : Cond.methodLink "QuantifierOut$Quantified" 63 y_Vs_put ∈ ww := ww_in3 18 rfl rfl
theorem tw_499 : Cond.selects "QuantifierOut$Pair" ⟨"QuantifierOut$Node", "isTrueAt", "(LQuantifierOut$Values;)Z"⟩ y_Pr_isTrueAt ∈ ww := ww_in3 19 rfl rfl
theorem tw_500 : Cond.selects "QuantifierOut$Quantified" ⟨"QuantifierOut$Node", "isTrueAt", "(LQuantifierOut$Values;)Z"⟩ y_Qf_isTrueAt ∈ ww := ww_in3 20 rfl rfl
theorem tw_501 : Cond.methodLink "QuantifierOutLaw" 96 y_Lw_decide ∈ ww := ww_in3 21 rfl rfl
theorem tw_502 : Cond.static y_Lw_decide ∈ ww := ww_in3 22 rfl rfl
theorem tq_503 : Cond.codeWith y_Lw_decide method_11_code 4 (some .int) [(0, 16, 19, 21), (0, 16, 22, 13)] ∈ lw_tbl := lw_in3 23 rfl
theorem tw_504 : Cond.methodLink "QuantifierOutLaw" 43 y_Qo_decide ∈ ww := ww_in3 24 rfl rfl
theorem tw_505 : Cond.instanceMethod y_Qo_decide ∈ ww := ww_in3 25 rfl rfl
theorem tw_506 : Cond.selects "QuantifierOut" y_Qo_decide y_Qo_decide ∈ ww := ww_in3 26 rfl rfl
theorem tw_507 : Cond.code y_Qo_decide prog_1_method_10_code 3 (some .boolean) ∈ ww := ww_in3 27 rfl rfl
theorem tq_508 : Cond.stringRef "QuantifierOut" 103 "x or y is free" ∈ lw_tbl := lw_in3 28 rfl
theorem tw_509 : Cond.methodLink "QuantifierOutLaw" 99 y_Lw_pieces ∈ ww := ww_in3 29 rfl rfl
theorem tw_510 : Cond.static y_Lw_pieces ∈ ww := ww_in3 30 rfl rfl
theorem tq_511 : Cond.codeWith y_Lw_pieces method_12_code 4 (some .int) [(0, 9, 12, 21), (0, 9, 15, 13)] ∈ lw_tbl := lw_in3 31 rfl
theorem tw_512 : Cond.methodLink "QuantifierOutLaw" 47 y_Qo_pieces ∈ ww := ww_in3 32 rfl rfl
theorem tw_513 : Cond.instanceMethod y_Qo_pieces ∈ ww := ww_in3 33 rfl rfl
theorem tw_514 : Cond.selects "QuantifierOut" y_Qo_pieces y_Qo_pieces ∈ ww := ww_in3 34 rfl rfl
theorem tw_515 : Cond.code y_Qo_pieces prog_1_method_11_code 2 (some .int) ∈ ww := ww_in3 35 rfl rfl
theorem tw_516 : Cond.methodLink "QuantifierOut" 106 y_Qo_findPieces ∈ ww := ww_in3 36 rfl rfl
theorem tq_517 : Cond.privateMethod y_Qo_findPieces ∈ lw_tbl := lw_in3 37 rfl
theorem tw_518 : Cond.instanceMethod y_Qo_findPieces ∈ ww := ww_in3 38 rfl rfl
theorem tw_519 : Cond.code y_Qo_findPieces prog_1_method_22_code 4 none ∈ ww := ww_in3 39 rfl rfl
theorem tq_520 : Cond.stringRef "QuantifierOut" 149 "it has no set" ∈ lw_tbl := lw_in3 40 rfl
theorem tw_521 : Cond.methodLink "QuantifierOut" 151 y_Pc_find ∈ ww := ww_in3 41 rfl rfl
theorem tw_522 : Cond.instanceMethod y_Pc_find ∈ ww := ww_in3 42 rfl rfl
theorem tw_523 : Cond.selects "QuantifierOut$Pieces" y_Pc_find y_Pc_find ∈ ww := ww_in3 43 rfl rfl
theorem tw_524 : Cond.code y_Pc_find prog_7_method_2_code 7 none ∈ ww := ww_in3 44 rfl rfl
theorem tw_525 : Cond.methodLink "QuantifierOut$Pieces" 33 y_Nd_isFree ∈ ww := ww_in3 45 rfl rfl
theorem tw_526 : Cond.methodLink "QuantifierOut$Pieces" 39 y_Vs_putWhole ∈ ww := ww_in3 46 rfl rfl
theorem tw_527 : Cond.methodLink "QuantifierOut$Pieces" 45 y_Mk_gather ∈ ww := ww_in3 47 rfl rfl
theorem tw_528 : Cond.methodLink "QuantifierOut$Pieces" 49 y_Mk_stops ∈ ww := ww_in3 48 rfl rfl
theorem tw_529 : Cond.methodLink "QuantifierOut$Pieces" 53 y_Mk_moveTo ∈ ww := ww_in3 49 rfl rfl
theorem tw_530 : Cond.methodLink "QuantifierOut$Pieces" 57 ⟨"QuantifierOut$Node", "isTrueAt", "(LQuantifierOut$Values;)Z"⟩ ∈ ww := ww_in3 50 rfl rfl
theorem tw_531 : Cond.methodLink "QuantifierOutLaw" 102 y_Lw_end ∈ ww := ww_in3 51 rfl rfl
theorem tw_532 : Cond.static y_Lw_end ∈ ww := ww_in3 52 rfl rfl
theorem tq_533 : Cond.codeWith y_Lw_end method_13_code 7 (some .int) [(0, 13, 16, 21), (0, 13, 20, 13), (0, 13, 24, 15)] ∈ lw_tbl := lw_in3 53 rfl
theorem tw_534 : Cond.methodLink "QuantifierOutLaw" 50 y_Qo_end ∈ ww := ww_in3 54 rfl rfl
theorem tw_535 : Cond.instanceMethod y_Qo_end ∈ ww := ww_in3 55 rfl rfl
theorem tw_536 : Cond.selects "QuantifierOut" y_Qo_end y_Qo_end ∈ ww := ww_in3 56 rfl rfl
theorem tw_537 : Cond.code y_Qo_end prog_1_method_12_code 5 (some .long) ∈ ww := ww_in3 57 rfl rfl
theorem tq_538 : Cond.stringRef "QuantifierOut" 114 "no such piece" ∈ lw_tbl := lw_in3 58 rfl
theorem tq_539 : Cond.stringRef "QuantifierOut" 117 "side is 0 or 1" ∈ lw_tbl := lw_in3 59 rfl
theorem tq_540 : Cond.stringRef "QuantifierOut" 119 "part is 0, 1 or 2" ∈ lw_tbl := lw_in3 60 rfl
theorem tw_541 : Cond.methodLink "QuantifierOut" 121 y_Pc_partOfEnd ∈ ww := ww_in3 61 rfl rfl
theorem tw_542 : Cond.instanceMethod y_Pc_partOfEnd ∈ ww := ww_in3 62 rfl rfl
theorem tw_543 : Cond.selects "QuantifierOut$Pieces" y_Pc_partOfEnd y_Pc_partOfEnd ∈ ww := ww_in3 63 rfl rfl
theorem tw_544 : Cond.code y_Pc_partOfEnd prog_7_method_3_code 8 (some .long) ∈ ww := ww_in3 64 rfl rfl
theorem tw_545 : Cond.constantLong "QuantifierOut$Pieces" 61 2 ∈ ww := ww_in3 65 rfl rfl
theorem tw_546 : Cond.methodLink "QuantifierOut$Pieces" 63 y_Mk_lowestAbove ∈ ww := ww_in3 66 rfl rfl
theorem tw_547 : Cond.instanceMethod y_Mk_lowestAbove ∈ ww := ww_in3 67 rfl rfl
theorem tw_548 : Cond.selects "QuantifierOut$Marks" y_Mk_lowestAbove y_Mk_lowestAbove ∈ ww := ww_in3 68 rfl rfl
theorem tw_549 : Cond.code y_Mk_lowestAbove prog_3_method_8_code 2 (some .long) ∈ ww := ww_in3 69 rfl rfl
theorem tw_550 : Cond.methodLink "QuantifierOut$Marks" 59 y_Mk_divisorOf ∈ ww := ww_in3 70 rfl rfl
theorem tq_551 : Cond.privateMethod y_Mk_divisorOf ∈ lw_tbl := lw_in3 71 rfl
theorem tw_552 : Cond.instanceMethod y_Mk_divisorOf ∈ ww := ww_in3 72 rfl rfl
theorem tw_553 : Cond.code y_Mk_divisorOf prog_3_method_10_code 9 (some .long) ∈ ww := ww_in3 73 rfl rfl
theorem tw_554 : Cond.methodLink "QuantifierOut$Marks" 63 ⟨"java/lang/Math", "abs", "(J)J"⟩ ∈ ww := ww_in3 74 rfl rfl
theorem tw_555 : Cond.static ⟨"java/lang/Math", "abs", "(J)J"⟩ ∈ ww := ww_in3 75 rfl rfl
theorem tw_556 : Cond.code ⟨"java/lang/Math", "abs", "(J)J"⟩ prog_16_method_61_code 2 (some .long) ∈ ww := ww_in3 76 rfl rfl
theorem tw_557 : Cond.methodLink "QuantifierOut$Marks" 69 ⟨"java/lang/Math", "max", "(JJ)J"⟩ ∈ ww := ww_in3 77 rfl rfl
theorem tw_558 : Cond.static ⟨"java/lang/Math", "max", "(JJ)J"⟩ ∈ ww := ww_in3 78 rfl rfl
theorem tw_559 : Cond.code ⟨"java/lang/Math", "max", "(JJ)J"⟩ prog_16_method_66_code 4 (some .long) ∈ ww := ww_in3 79 rfl rfl
theorem tw_560 : Cond.methodLink "QuantifierOut$Pieces" 67 y_Mk_lowestBelow ∈ ww := ww_in3 80 rfl rfl
theorem tw_561 : Cond.instanceMethod y_Mk_lowestBelow ∈ ww := ww_in3 81 rfl rfl
theorem tw_562 : Cond.selects "QuantifierOut$Marks" y_Mk_lowestBelow y_Mk_lowestBelow ∈ ww := ww_in3 82 rfl rfl
theorem tw_563 : Cond.code y_Mk_lowestBelow prog_3_method_9_code 2 (some .long) ∈ ww := ww_in3 83 rfl rfl
theorem tw_564 : Cond.methodLink "QuantifierOutLaw" 105 y_Lw_alike ∈ ww := ww_in3 84 rfl rfl
theorem tw_565 : Cond.static y_Lw_alike ∈ ww := ww_in3 85 rfl rfl
theorem tq_566 : Cond.codeWith y_Lw_alike method_14_code 5 (some .int) [(0, 17, 20, 21)] ∈ lw_tbl := lw_in3 86 rfl
theorem tw_567 : Cond.methodLink "QuantifierOutLaw" 54 y_Qo_alike ∈ ww := ww_in3 87 rfl rfl
theorem tw_568 : Cond.instanceMethod y_Qo_alike ∈ ww := ww_in3 88 rfl rfl
theorem tw_569 : Cond.selects "QuantifierOut" y_Qo_alike y_Qo_alike ∈ ww := ww_in3 89 rfl rfl
theorem tw_570 : Cond.code y_Qo_alike prog_1_method_13_code 5 (some .boolean) ∈ ww := ww_in3 90 rfl rfl
theorem tw_571 : Cond.methodLink "QuantifierOut" 125 y_Nd_grid ∈ ww := ww_in3 91 rfl rfl
theorem tw_572 : Cond.instanceMethod y_Nd_grid ∈ ww := ww_in3 92 rfl rfl
theorem tw_573 : Cond.sameMethod "QuantifierOut$Node" "QuantifierOut$Node" "grid" "(LQuantifierOut$Values;)I" ∈ ww := ww_in3 93 rfl rfl
theorem tw_574 : Cond.selects "QuantifierOut$Atom" y_Nd_grid y_Nd_grid ∈ ww := ww_in3 94 rfl rfl
theorem tw_575 : Cond.selects "QuantifierOut$Negation" y_Nd_grid y_Nd_grid ∈ ww := ww_in3 95 rfl rfl
theorem tw_576 : Cond.selects "QuantifierOut$Pair" y_Nd_grid y_Nd_grid ∈ ww := ww_in3 96 rfl rfl
theorem tw_577 : Cond.selects "QuantifierOut$Quantified" y_Nd_grid y_Nd_grid ∈ ww := ww_in3 97 rfl rfl
theorem tw_578 : Cond.code y_Nd_grid prog_5_method_6_code 2 (some .int) ∈ ww := ww_in3 98 rfl rfl
theorem tw_579 : Cond.methodLink "QuantifierOut$Node" 30 y_Nd_findGrid ∈ ww := ww_in3 99 rfl rfl
theorem tw_580 : Cond.instanceMethod y_Nd_findGrid ∈ ww := ww_in3 100 rfl rfl
theorem tw_581 : Cond.sameMethod "QuantifierOut$Node" "QuantifierOut$Node" "findGrid" "(LQuantifierOut$Values;)I" ∈ ww := ww_in3 101 rfl rfl
theorem tw_582 : Cond.selects "QuantifierOut$Atom" y_Nd_findGrid y_Nd_findGrid ∈ ww := ww_in3 102 rfl rfl
theorem tw_583 : Cond.selects "QuantifierOut$Negation" y_Nd_findGrid y_Ng_findGrid ∈ ww := ww_in3 103 rfl rfl
theorem tw_584 : Cond.instanceMethod y_Ng_findGrid ∈ ww := ww_in3 104 rfl rfl
theorem tw_585 : Cond.code y_Ng_findGrid prog_4_method_4_code 2 (some .int) ∈ ww := ww_in3 105 rfl rfl
theorem tw_586 : Cond.constant "QuantifierOut$Negation" 28 33554431 ∈ ww := ww_in3 106 rfl rfl
theorem tw_587 : Cond.methodLink "QuantifierOut$Negation" 29 y_Nd_grid ∈ ww := ww_in3 107 rfl rfl
theorem tw_588 : Cond.selects "QuantifierOut$Pair" y_Nd_findGrid y_Pr_findGrid ∈ ww := ww_in3 108 rfl rfl
theorem tw_589 : Cond.instanceMethod y_Pr_findGrid ∈ ww := ww_in3 109 rfl rfl
theorem tw_590 : Cond.code y_Pr_findGrid prog_6_method_4_code 4 (some .int) ∈ ww := ww_in3 110 rfl rfl
theorem tw_591 : Cond.methodLink "QuantifierOut$Pair" 51 y_Nd_grid ∈ ww := ww_in3 111 rfl rfl
theorem tw_592 : Cond.selects "QuantifierOut$Quantified" y_Nd_findGrid y_Nd_findGrid ∈ ww := ww_in3 112 rfl rfl
theorem tw_593 : Cond.code y_Nd_findGrid prog_5_method_7_code 8 (some .int) ∈ ww := ww_in3 113 rfl rfl
theorem tw_594 : Cond.methodLink "QuantifierOut$Node" 34 y_Nd_isFree ∈ ww := ww_in3 114 rfl rfl
theorem tw_595 : Cond.methodLink "QuantifierOut$Node" 38 y_Vs_putWhole ∈ ww := ww_in3 115 rfl rfl
theorem tw_596 : Cond.methodLink "QuantifierOut$Node" 44 ⟨"QuantifierOut$Node", "isTrueAt", "(LQuantifierOut$Values;)Z"⟩ ∈ ww := ww_in3 116 rfl rfl
theorem tw_597 : Cond.classLink "QuantifierOutLaw" 59 "QuantifierOutModel" ∈ ww := ww_in3 117 rfl rfl
theorem tw_598 : Cond.instantiable "QuantifierOutModel" 23 ∈ ww := ww_in3 118 rfl rfl
theorem tw_599 : Cond.methodLink "QuantifierOutLaw" 61 y_Md_init ∈ ww := ww_in3 119 rfl rfl
theorem tw_600 : Cond.instanceMethod y_Md_init ∈ ww := ww_in3 120 rfl rfl
theorem tw_601 : Cond.code y_Md_init prog_11_method_1_code 1 none ∈ ww := ww_in3 121 rfl rfl
theorem tw_602 : Cond.methodLink "QuantifierOutModel" 1 ⟨"java/lang/Object", "<init>", "()V"⟩ ∈ ww := ww_in3 122 rfl rfl
theorem tw_603 : Cond.fieldLink "QuantifierOutModel" 66 "QuantifierOutModel" "code" "I" ∈ ww := ww_in3 123 rfl rfl
theorem tw_604 : Cond.fieldLink "QuantifierOutModel" 70 "QuantifierOutModel" "nodes" "I" ∈ ww := ww_in3 124 rfl rfl
theorem tw_605 : Cond.fieldLink "QuantifierOutModel" 7 "QuantifierOutModel" "kind" "[I" ∈ ww := ww_in3 125 rfl rfl
theorem tw_606 : Cond.fieldLink "QuantifierOutModel" 13 "QuantifierOutModel" "one" "[I" ∈ ww := ww_in3 126 rfl rfl
theorem tw_607 : Cond.fieldLink "QuantifierOutModel" 16 "QuantifierOutModel" "two" "[I" ∈ ww := ww_in3 127 rfl rfl
theorem tw_608 : Cond.fieldLink "QuantifierOutModel" 19 "QuantifierOutModel" "numbers" "[I" ∈ ww := ww_in3 128 rfl rfl
theorem tw_609 : Cond.fieldLink "QuantifierOutModel" 22 "QuantifierOutModel" "letter" "[I" ∈ ww := ww_in3 129 rfl rfl
theorem tw_610 : Cond.fieldLink "QuantifierOutModel" 25 "QuantifierOutModel" "freeX" "[Z" ∈ ww := ww_in3 130 rfl rfl
theorem tw_611 : Cond.fieldLink "QuantifierOutModel" 29 "QuantifierOutModel" "freeY" "[Z" ∈ ww := ww_in3 131 rfl rfl
theorem tw_612 : Cond.fieldLink "QuantifierOutModel" 32 "QuantifierOutModel" "size" "[I" ∈ ww := ww_in3 132 rfl rfl
theorem tw_613 : Cond.fieldLink "QuantifierOutModel" 35 "QuantifierOutModel" "depth" "[I" ∈ ww := ww_in3 133 rfl rfl
theorem tw_614 : Cond.fieldLink "QuantifierOutModel" 38 "QuantifierOutModel" "needed" "[Z" ∈ ww := ww_in3 134 rfl rfl
theorem tw_615 : Cond.fieldLink "QuantifierOutModel" 41 "QuantifierOutModel" "isTrue" "[Z" ∈ ww := ww_in3 135 rfl rfl
theorem tw_616 : Cond.fieldLink "QuantifierOutModel" 44 "QuantifierOutModel" "point" "[J" ∈ ww := ww_in3 136 rfl rfl
theorem tw_617 : Cond.fieldLink "QuantifierOutModel" 48 "QuantifierOutModel" "many" "[I" ∈ ww := ww_in3 137 rfl rfl
theorem tw_618 : Cond.fieldLink "QuantifierOutModel" 51 "QuantifierOutModel" "above" "[J" ∈ ww := ww_in3 138 rfl rfl
theorem tw_619 : Cond.fieldLink "QuantifierOutModel" 54 "QuantifierOutModel" "below" "[J" ∈ ww := ww_in3 139 rfl rfl
theorem tw_620 : Cond.fieldLink "QuantifierOutModel" 99 "QuantifierOutModel" "up" "J" ∈ ww := ww_in3 140 rfl rfl
theorem tw_621 : Cond.fieldLink "QuantifierOutModel" 103 "QuantifierOutModel" "down" "J" ∈ ww := ww_in3 141 rfl rfl
theorem tw_622 : Cond.fieldLink "QuantifierOutModel" 57 "QuantifierOutModel" "line" "[Z" ∈ ww := ww_in3 142 rfl rfl
theorem tw_623 : Cond.fieldLink "QuantifierOutModel" 166 "QuantifierOutModel" "pieces" "I" ∈ ww := ww_in3 143 rfl rfl
theorem tw_624 : Cond.fieldLink "QuantifierOutModel" 60 "QuantifierOutModel" "from" "[I" ∈ ww := ww_in3 144 rfl rfl
theorem tw_625 : Cond.fieldLink "QuantifierOutModel" 63 "QuantifierOutModel" "to" "[I" ∈ ww := ww_in3 145 rfl rfl
theorem tw_626 : Cond.lays "QuantifierOutModel" "QuantifierOutModel" "code" "I" ∈ ww := ww_in3 146 rfl rfl
theorem tw_627 : Cond.soleField "QuantifierOutModel" "code" ∈ ww := ww_in3 147 rfl rfl
theorem tw_628 : Cond.lays "QuantifierOutModel" "QuantifierOutModel" "nodes" "I" ∈ ww := ww_in3 148 rfl rfl
theorem tw_629 : Cond.soleField "QuantifierOutModel" "nodes" ∈ ww := ww_in3 149 rfl rfl
theorem tw_630 : Cond.laysFinal "QuantifierOutModel" "QuantifierOutModel" "kind" "[I" ∈ ww := ww_in3 150 rfl rfl
theorem tw_631 : Cond.soleField "QuantifierOutModel" "kind" ∈ ww := ww_in3 151 rfl rfl
theorem tw_632 : Cond.laysFinal "QuantifierOutModel" "QuantifierOutModel" "one" "[I" ∈ ww := ww_in3 152 rfl rfl
theorem tw_633 : Cond.soleField "QuantifierOutModel" "one" ∈ ww := ww_in3 153 rfl rfl
theorem tw_634 : Cond.laysFinal "QuantifierOutModel" "QuantifierOutModel" "two" "[I" ∈ ww := ww_in3 154 rfl rfl
theorem tw_635 : Cond.soleField "QuantifierOutModel" "two" ∈ ww := ww_in3 155 rfl rfl
theorem tw_636 : Cond.laysFinal "QuantifierOutModel" "QuantifierOutModel" "numbers" "[I" ∈ ww := ww_in3 156 rfl rfl
theorem tw_637 : Cond.soleField "QuantifierOutModel" "numbers" ∈ ww := ww_in3 157 rfl rfl
theorem tw_638 : Cond.laysFinal "QuantifierOutModel" "QuantifierOutModel" "letter" "[I" ∈ ww := ww_in3 158 rfl rfl
theorem tw_639 : Cond.soleField "QuantifierOutModel" "letter" ∈ ww := ww_in3 159 rfl rfl
theorem tw_640 : Cond.laysFinal "QuantifierOutModel" "QuantifierOutModel" "freeX" "[Z" ∈ ww := ww_in3 160 rfl rfl
theorem tw_641 : Cond.soleField "QuantifierOutModel" "freeX" ∈ ww := ww_in3 161 rfl rfl
theorem tw_642 : Cond.laysFinal "QuantifierOutModel" "QuantifierOutModel" "freeY" "[Z" ∈ ww := ww_in3 162 rfl rfl
theorem tw_643 : Cond.soleField "QuantifierOutModel" "freeY" ∈ ww := ww_in3 163 rfl rfl
theorem tw_644 : Cond.laysFinal "QuantifierOutModel" "QuantifierOutModel" "size" "[I" ∈ ww := ww_in3 164 rfl rfl
theorem tw_645 : Cond.soleField "QuantifierOutModel" "size" ∈ ww := ww_in3 165 rfl rfl
theorem tw_646 : Cond.laysFinal "QuantifierOutModel" "QuantifierOutModel" "depth" "[I" ∈ ww := ww_in3 166 rfl rfl
theorem tw_647 : Cond.soleField "QuantifierOutModel" "depth" ∈ ww := ww_in3 167 rfl rfl
theorem tw_648 : Cond.laysFinal "QuantifierOutModel" "QuantifierOutModel" "needed" "[Z" ∈ ww := ww_in3 168 rfl rfl
theorem tw_649 : Cond.soleField "QuantifierOutModel" "needed" ∈ ww := ww_in3 169 rfl rfl
theorem tw_650 : Cond.laysFinal "QuantifierOutModel" "QuantifierOutModel" "isTrue" "[Z" ∈ ww := ww_in3 170 rfl rfl
theorem tw_651 : Cond.soleField "QuantifierOutModel" "isTrue" ∈ ww := ww_in3 171 rfl rfl
theorem tw_652 : Cond.laysFinal "QuantifierOutModel" "QuantifierOutModel" "point" "[J" ∈ ww := ww_in3 172 rfl rfl
theorem tw_653 : Cond.soleField "QuantifierOutModel" "point" ∈ ww := ww_in3 173 rfl rfl
theorem tw_654 : Cond.laysFinal "QuantifierOutModel" "QuantifierOutModel" "many" "[I" ∈ ww := ww_in3 174 rfl rfl
theorem tw_655 : Cond.soleField "QuantifierOutModel" "many" ∈ ww := ww_in3 175 rfl rfl
theorem tw_656 : Cond.laysFinal "QuantifierOutModel" "QuantifierOutModel" "above" "[J" ∈ ww := ww_in3 176 rfl rfl
theorem tw_657 : Cond.soleField "QuantifierOutModel" "above" ∈ ww := ww_in3 177 rfl rfl
theorem tw_658 : Cond.laysFinal "QuantifierOutModel" "QuantifierOutModel" "below" "[J" ∈ ww := ww_in3 178 rfl rfl
theorem tw_659 : Cond.soleField "QuantifierOutModel" "below" ∈ ww := ww_in3 179 rfl rfl
theorem tw_660 : Cond.lays "QuantifierOutModel" "QuantifierOutModel" "up" "J" ∈ ww := ww_in3 180 rfl rfl
theorem tw_661 : Cond.soleField "QuantifierOutModel" "up" ∈ ww := ww_in3 181 rfl rfl
theorem tw_662 : Cond.lays "QuantifierOutModel" "QuantifierOutModel" "down" "J" ∈ ww := ww_in3 182 rfl rfl
theorem tw_663 : Cond.soleField "QuantifierOutModel" "down" ∈ ww := ww_in3 183 rfl rfl
theorem tw_664 : Cond.laysFinal "QuantifierOutModel" "QuantifierOutModel" "line" "[Z" ∈ ww := ww_in3 184 rfl rfl
theorem tw_665 : Cond.soleField "QuantifierOutModel" "line" ∈ ww := ww_in3 185 rfl rfl
theorem tw_666 : Cond.lays "QuantifierOutModel" "QuantifierOutModel" "pieces" "I" ∈ ww := ww_in3 186 rfl rfl
theorem tw_667 : Cond.soleField "QuantifierOutModel" "pieces" ∈ ww := ww_in3 187 rfl rfl
theorem tw_668 : Cond.laysFinal "QuantifierOutModel" "QuantifierOutModel" "from" "[I" ∈ ww := ww_in3 188 rfl rfl
theorem tw_669 : Cond.soleField "QuantifierOutModel" "from" ∈ ww := ww_in3 189 rfl rfl
theorem tw_670 : Cond.laysFinal "QuantifierOutModel" "QuantifierOutModel" "to" "[I" ∈ ww := ww_in3 190 rfl rfl
theorem tw_671 : Cond.soleField "QuantifierOutModel" "to" ∈ ww := ww_in3 191 rfl rfl
theorem tw_672 : Cond.superclass "QuantifierOutModel" "java/lang/Object" ∈ ww := ww_in3 192 rfl rfl
theorem tw_673 : Cond.arrayClass .boolean ∈ ww := ww_in3 193 rfl rfl
theorem tw_674 : Cond.methodLink "QuantifierOutLaw" 68 y_Md_thrown ∈ ww := ww_in3 194 rfl rfl
theorem tw_675 : Cond.instanceMethod y_Md_thrown ∈ ww := ww_in3 195 rfl rfl
theorem tw_676 : Cond.selects "QuantifierOutModel" y_Md_thrown y_Md_thrown ∈ ww := ww_in3 196 rfl rfl
theorem tw_677 : Cond.code y_Md_thrown prog_11_method_2_code 1 (some .int) ∈ ww := ww_in3 197 rfl rfl
theorem tw_678 : Cond.methodLink "QuantifierOutLaw" 67 y_Md_atom ∈ ww := ww_in3 198 rfl rfl
theorem tw_679 : Cond.instanceMethod y_Md_atom ∈ ww := ww_in3 199 rfl rfl
theorem tw_680 : Cond.selects "QuantifierOutModel" y_Md_atom y_Md_atom ∈ ww := ww_in3 200 rfl rfl
theorem tw_681 : Cond.code y_Md_atom prog_11_method_7_code 6 (some .int) ∈ ww := ww_in3 201 rfl rfl
theorem tw_682 : Cond.constantLong "QuantifierOutModel" 77 (-5) ∈ ww := ww_in3 202 rfl rfl
theorem tw_683 : Cond.constantLong "QuantifierOutModel" 79 5 ∈ ww := ww_in3 203 rfl rfl
theorem tw_684 : Cond.methodLink "QuantifierOutModel" 73 y_Md_in ∈ ww := ww_in3 204 rfl rfl
theorem tw_685 : Cond.static y_Md_in ∈ ww := ww_in3 205 rfl rfl
theorem tw_686 : Cond.code y_Md_in prog_11_method_3_code 6 (some .boolean) ∈ ww := ww_in3 206 rfl rfl
theorem tw_687 : Cond.constantLong "QuantifierOutModel" 81 2 ∈ ww := ww_in3 207 rfl rfl
theorem tw_688 : Cond.methodLink "QuantifierOutModel" 83 y_Md_add ∈ ww := ww_in3 208 rfl rfl
theorem tq_689 : Cond.privateMethod y_Md_add ∈ lw_tbl := lw_in3 209 rfl
theorem tw_690 : Cond.instanceMethod y_Md_add ∈ ww := ww_in3 210 rfl rfl
theorem tw_691 : Cond.code y_Md_add prog_11_method_6_code 6 (some .int) ∈ ww := ww_in3 211 rfl rfl
theorem tw_692 : Cond.methodLink "QuantifierOutLaw" 75 y_Md_both ∈ ww := ww_in3 212 rfl rfl
theorem tw_693 : Cond.instanceMethod y_Md_both ∈ ww := ww_in3 213 rfl rfl
theorem tw_694 : Cond.selects "QuantifierOutModel" y_Md_both y_Md_both ∈ ww := ww_in3 214 rfl rfl
theorem tw_695 : Cond.code y_Md_both prog_11_method_9_code 3 (some .int) ∈ ww := ww_in3 215 rfl rfl
theorem tw_696 : Cond.methodLink "QuantifierOutModel" 91 y_Md_pair ∈ ww := ww_in3 216 rfl rfl
theorem tq_697 : Cond.privateMethod y_Md_pair ∈ lw_tbl := lw_in3 217 rfl
theorem tw_698 : Cond.instanceMethod y_Md_pair ∈ ww := ww_in3 218 rfl rfl
theorem tw_699 : Cond.code y_Md_pair prog_11_method_8_code 4 (some .int) ∈ ww := ww_in3 219 rfl rfl
theorem tw_700 : Cond.methodLink "QuantifierOutModel" 87 y_Md_isNode ∈ ww := ww_in3 220 rfl rfl
theorem tq_701 : Cond.privateMethod y_Md_isNode ∈ lw_tbl := lw_in3 221 rfl
theorem tw_702 : Cond.instanceMethod y_Md_isNode ∈ ww := ww_in3 222 rfl rfl
theorem tw_703 : Cond.code y_Md_isNode prog_11_method_5_code 2 (some .boolean) ∈ ww := ww_in3 223 rfl rfl
theorem tw_704 : Cond.methodLink "QuantifierOutLaw" 78 y_Md_either ∈ ww := ww_in3 224 rfl rfl
theorem tw_705 : Cond.instanceMethod y_Md_either ∈ ww := ww_in3 225 rfl rfl
theorem tw_706 : Cond.selects "QuantifierOutModel" y_Md_either y_Md_either ∈ ww := ww_in3 226 rfl rfl
theorem tw_707 : Cond.code y_Md_either prog_11_method_10_code 3 (some .int) ∈ ww := ww_in3 227 rfl rfl
theorem tw_708 : Cond.methodLink "QuantifierOutLaw" 82 y_Md_not ∈ ww := ww_in3 228 rfl rfl
theorem tw_709 : Cond.instanceMethod y_Md_not ∈ ww := ww_in3 229 rfl rfl
theorem tw_710 : Cond.selects "QuantifierOutModel" y_Md_not y_Md_not ∈ ww := ww_in3 230 rfl rfl
theorem tw_711 : Cond.code y_Md_not prog_11_method_11_code 2 (some .int) ∈ ww := ww_in3 231 rfl rfl
theorem tw_712 : Cond.methodLink "QuantifierOutLaw" 85 y_Md_some ∈ ww := ww_in3 232 rfl rfl
theorem tw_713 : Cond.instanceMethod y_Md_some ∈ ww := ww_in3 233 rfl rfl
theorem tw_714 : Cond.selects "QuantifierOutModel" y_Md_some y_Md_some ∈ ww := ww_in3 234 rfl rfl
theorem tw_715 : Cond.code y_Md_some prog_11_method_13_code 3 (some .int) ∈ ww := ww_in3 235 rfl rfl
theorem tw_716 : Cond.methodLink "QuantifierOutModel" 94 y_Md_quantified ∈ ww := ww_in3 236 rfl rfl
theorem tq_717 : Cond.privateMethod y_Md_quantified ∈ lw_tbl := lw_in3 237 rfl
theorem tw_718 : Cond.instanceMethod y_Md_quantified ∈ ww := ww_in3 238 rfl rfl
theorem tw_719 : Cond.code y_Md_quantified prog_11_method_12_code 5 (some .int) ∈ ww := ww_in3 239 rfl rfl
theorem tw_720 : Cond.methodLink "QuantifierOutLaw" 88 y_Md_every ∈ ww := ww_in4 0 rfl rfl
theorem tw_721 : Cond.instanceMethod y_Md_every ∈ ww := ww_in4 1 rfl rfl
theorem tw_722 : Cond.selects "QuantifierOutModel" y_Md_every y_Md_every ∈ ww := ww_in4 2 rfl rfl
theorem tw_723 : Cond.code y_Md_every prog_11_method_14_code 3 (some .int) ∈ ww := ww_in4 3 rfl rfl
theorem tw_724 : Cond.methodLink "QuantifierOutLaw" 91 y_Md_known ∈ ww := ww_in4 4 rfl rfl
theorem tw_725 : Cond.instanceMethod y_Md_known ∈ ww := ww_in4 5 rfl rfl
theorem tw_726 : Cond.selects "QuantifierOutModel" y_Md_known y_Md_known ∈ ww := ww_in4 6 rfl rfl
theorem tw_727 : Cond.code y_Md_known prog_11_method_15_code 3 (some .int) ∈ ww := ww_in4 7 rfl rfl
theorem tw_728 : Cond.constantLong "QuantifierOutModel" 97 3 ∈ ww := ww_in4 8 rfl rfl
theorem tw_729 : Cond.methodLink "QuantifierOutLaw" 111 y_Md_count ∈ ww := ww_in4 9 rfl rfl
theorem tw_730 : Cond.instanceMethod y_Md_count ∈ ww := ww_in4 10 rfl rfl
theorem tw_731 : Cond.selects "QuantifierOutModel" y_Md_count y_Md_count ∈ ww := ww_in4 11 rfl rfl
theorem tw_732 : Cond.code y_Md_count prog_11_method_16_code 1 (some .int) ∈ ww := ww_in4 12 rfl rfl
theorem tw_733 : Cond.methodLink "QuantifierOutLaw" 95 y_Md_holds ∈ ww := ww_in4 13 rfl rfl
theorem tw_734 : Cond.instanceMethod y_Md_holds ∈ ww := ww_in4 14 rfl rfl
theorem tw_735 : Cond.selects "QuantifierOutModel" y_Md_holds y_Md_holds ∈ ww := ww_in4 15 rfl rfl
theorem tw_736 : Cond.code y_Md_holds prog_11_method_33_code 4 (some .boolean) ∈ ww := ww_in4 16 rfl rfl
theorem tw_737 : Cond.constantLong "QuantifierOutModel" 158 (-50) ∈ ww := ww_in4 17 rfl rfl
theorem tw_738 : Cond.constantLong "QuantifierOutModel" 160 50 ∈ ww := ww_in4 18 rfl rfl
theorem tw_739 : Cond.methodLink "QuantifierOutModel" 162 y_Md_at ∈ ww := ww_in4 19 rfl rfl
theorem tq_740 : Cond.privateMethod y_Md_at ∈ lw_tbl := lw_in4 20 rfl
theorem tw_741 : Cond.instanceMethod y_Md_at ∈ ww := ww_in4 21 rfl rfl
theorem tw_742 : Cond.code y_Md_at prog_11_method_32_code 6 (some .boolean) ∈ ww := ww_in4 22 rfl rfl
theorem tw_743 : Cond.methodLink "QuantifierOutModel" 155 y_Md_truth2 ∈ ww := ww_in4 23 rfl rfl
theorem tq_744 : Cond.privateMethod y_Md_truth2 ∈ lw_tbl := lw_in4 24 rfl
theorem tw_745 : Cond.instanceMethod y_Md_truth2 ∈ ww := ww_in4 25 rfl rfl
theorem tw_746 : Cond.code y_Md_truth2 prog_11_method_30_code 3 (some .boolean) ∈ ww := ww_in4 26 rfl rfl
theorem tw_747 : Cond.methodLink "QuantifierOutModel" 106 y_Md_mark ∈ ww := ww_in4 27 rfl rfl
theorem tq_748 : Cond.privateMethod y_Md_mark ∈ lw_tbl := lw_in4 28 rfl
theorem tw_749 : Cond.instanceMethod y_Md_mark ∈ ww := ww_in4 29 rfl rfl
theorem tw_750 : Cond.code y_Md_mark prog_11_method_20_code 4 none ∈ ww := ww_in4 30 rfl rfl
theorem tw_751 : Cond.methodLink "QuantifierOutModel" 130 y_Md_plain ∈ ww := ww_in4 31 rfl rfl
theorem tq_752 : Cond.privateMethod y_Md_plain ∈ lw_tbl := lw_in4 32 rfl
theorem tw_753 : Cond.instanceMethod y_Md_plain ∈ ww := ww_in4 33 rfl rfl
theorem tw_754 : Cond.code y_Md_plain prog_11_method_25_code 4 (some .boolean) ∈ ww := ww_in4 34 rfl rfl
theorem tw_755 : Cond.methodLink "QuantifierOutModel" 126 y_Md_atomAt ∈ ww := ww_in4 35 rfl rfl
theorem tq_756 : Cond.privateMethod y_Md_atomAt ∈ lw_tbl := lw_in4 36 rfl
theorem tw_757 : Cond.instanceMethod y_Md_atomAt ∈ ww := ww_in4 37 rfl rfl
theorem tw_758 : Cond.code y_Md_atomAt prog_11_method_24_code 14 (some .boolean) ∈ ww := ww_in4 38 rfl rfl
theorem tw_759 : Cond.methodLink "QuantifierOutModel" 110 y_Md_of ∈ ww := ww_in4 39 rfl rfl
theorem tq_760 : Cond.privateMethod y_Md_of ∈ lw_tbl := lw_in4 40 rfl
theorem tw_761 : Cond.instanceMethod y_Md_of ∈ ww := ww_in4 41 rfl rfl
theorem tw_762 : Cond.code y_Md_of prog_11_method_19_code 3 (some .int) ∈ ww := ww_in4 42 rfl rfl
theorem tw_763 : Cond.methodLink "QuantifierOutModel" 149 y_Md_tries2 ∈ ww := ww_in4 43 rfl rfl
theorem tq_764 : Cond.privateMethod y_Md_tries2 ∈ lw_tbl := lw_in4 44 rfl
theorem tw_765 : Cond.instanceMethod y_Md_tries2 ∈ ww := ww_in4 45 rfl rfl
theorem tw_766 : Cond.code y_Md_tries2 prog_11_method_31_code 4 (some .boolean) ∈ ww := ww_in4 46 rfl rfl
theorem tw_767 : Cond.methodLink "QuantifierOutModel" 136 y_Md_gather ∈ ww := ww_in4 47 rfl rfl
theorem tq_768 : Cond.privateMethod y_Md_gather ∈ lw_tbl := lw_in4 48 rfl
theorem tw_769 : Cond.instanceMethod y_Md_gather ∈ ww := ww_in4 49 rfl rfl
theorem tw_770 : Cond.code y_Md_gather prog_11_method_21_code 10 none ∈ ww := ww_in4 50 rfl rfl
theorem tw_771 : Cond.methodLink "QuantifierOutModel" 114 y_Md_lowest ∈ ww := ww_in4 51 rfl rfl
theorem tq_772 : Cond.privateMethod y_Md_lowest ∈ lw_tbl := lw_in4 52 rfl
theorem tw_773 : Cond.instanceMethod y_Md_lowest ∈ ww := ww_in4 53 rfl rfl
theorem tw_774 : Cond.code y_Md_lowest prog_11_method_17_code 11 none ∈ ww := ww_in4 54 rfl rfl
theorem tw_775 : Cond.methodLink "QuantifierOutModel" 118 y_Md_keep ∈ ww := ww_in4 55 rfl rfl
theorem tq_776 : Cond.privateMethod y_Md_keep ∈ lw_tbl := lw_in4 56 rfl
theorem tw_777 : Cond.instanceMethod y_Md_keep ∈ ww := ww_in4 57 rfl rfl
theorem tw_778 : Cond.code y_Md_keep prog_11_method_18_code 5 none ∈ ww := ww_in4 58 rfl rfl
theorem tw_779 : Cond.methodLink "QuantifierOutModel" 122 y_Md_meet ∈ ww := ww_in4 59 rfl rfl
theorem tq_780 : Cond.privateMethod y_Md_meet ∈ lw_tbl := lw_in4 60 rfl
theorem tw_781 : Cond.instanceMethod y_Md_meet ∈ ww := ww_in4 61 rfl rfl
theorem tw_782 : Cond.code y_Md_meet prog_11_method_22_code 7 none ∈ ww := ww_in4 62 rfl rfl
theorem tw_783 : Cond.methodLink "QuantifierOutModel" 140 y_Md_trial ∈ ww := ww_in4 63 rfl rfl
theorem tq_784 : Cond.privateMethod y_Md_trial ∈ lw_tbl := lw_in4 64 rfl
theorem tw_785 : Cond.instanceMethod y_Md_trial ∈ ww := ww_in4 65 rfl rfl
theorem tw_786 : Cond.code y_Md_trial prog_11_method_23_code 5 none ∈ ww := ww_in4 66 rfl rfl
theorem tw_787 : Cond.methodLink "QuantifierOutModel" 143 y_Md_step ∈ ww := ww_in4 67 rfl rfl
theorem tq_788 : Cond.privateMethod y_Md_step ∈ lw_tbl := lw_in4 68 rfl
theorem tw_789 : Cond.instanceMethod y_Md_step ∈ ww := ww_in4 69 rfl rfl
theorem tw_790 : Cond.code y_Md_step prog_11_method_26_code 4 none ∈ ww := ww_in4 70 rfl rfl
theorem tw_791 : Cond.methodLink "QuantifierOutModel" 152 y_Md_truth1 ∈ ww := ww_in4 71 rfl rfl
theorem tq_792 : Cond.privateMethod y_Md_truth1 ∈ lw_tbl := lw_in4 72 rfl
theorem tw_793 : Cond.instanceMethod y_Md_truth1 ∈ ww := ww_in4 73 rfl rfl
theorem tw_794 : Cond.code y_Md_truth1 prog_11_method_28_code 3 (some .boolean) ∈ ww := ww_in4 74 rfl rfl
theorem tw_795 : Cond.methodLink "QuantifierOutModel" 133 y_Md_tries1 ∈ ww := ww_in4 75 rfl rfl
theorem tq_796 : Cond.privateMethod y_Md_tries1 ∈ lw_tbl := lw_in4 76 rfl
theorem tw_797 : Cond.instanceMethod y_Md_tries1 ∈ ww := ww_in4 77 rfl rfl
theorem tw_798 : Cond.code y_Md_tries1 prog_11_method_29_code 4 (some .boolean) ∈ ww := ww_in4 78 rfl rfl
theorem tw_799 : Cond.methodLink "QuantifierOutModel" 146 y_Md_truth0 ∈ ww := ww_in4 79 rfl rfl
theorem tq_800 : Cond.privateMethod y_Md_truth0 ∈ lw_tbl := lw_in4 80 rfl
theorem tw_801 : Cond.instanceMethod y_Md_truth0 ∈ ww := ww_in4 81 rfl rfl
theorem tw_802 : Cond.code y_Md_truth0 prog_11_method_27_code 3 (some .boolean) ∈ ww := ww_in4 82 rfl rfl
theorem tw_803 : Cond.methodLink "QuantifierOutLaw" 98 y_Md_decide ∈ ww := ww_in4 83 rfl rfl
theorem tw_804 : Cond.instanceMethod y_Md_decide ∈ ww := ww_in4 84 rfl rfl
theorem tw_805 : Cond.selects "QuantifierOutModel" y_Md_decide y_Md_decide ∈ ww := ww_in4 85 rfl rfl
theorem tw_806 : Cond.code y_Md_decide prog_11_method_34_code 2 (some .boolean) ∈ ww := ww_in4 86 rfl rfl
theorem tw_807 : Cond.methodLink "QuantifierOutLaw" 107 y_Md_alike ∈ ww := ww_in4 87 rfl rfl
theorem tw_808 : Cond.instanceMethod y_Md_alike ∈ ww := ww_in4 88 rfl rfl
theorem tw_809 : Cond.selects "QuantifierOutModel" y_Md_alike y_Md_alike ∈ ww := ww_in4 89 rfl rfl
theorem tw_810 : Cond.code y_Md_alike prog_11_method_35_code 5 (some .boolean) ∈ ww := ww_in4 90 rfl rfl
theorem tw_811 : Cond.methodLink "QuantifierOutLaw" 101 y_Md_pieces ∈ ww := ww_in4 91 rfl rfl
theorem tw_812 : Cond.instanceMethod y_Md_pieces ∈ ww := ww_in4 92 rfl rfl
theorem tw_813 : Cond.selects "QuantifierOutModel" y_Md_pieces y_Md_pieces ∈ ww := ww_in4 93 rfl rfl
theorem tw_814 : Cond.code y_Md_pieces prog_11_method_37_code 2 (some .int) ∈ ww := ww_in4 94 rfl rfl
theorem tw_815 : Cond.methodLink "QuantifierOutModel" 169 y_Md_find ∈ ww := ww_in4 95 rfl rfl
theorem tq_816 : Cond.privateMethod y_Md_find ∈ lw_tbl := lw_in4 96 rfl
theorem tw_817 : Cond.instanceMethod y_Md_find ∈ ww := ww_in4 97 rfl rfl
theorem tw_818 : Cond.code y_Md_find prog_11_method_36_code 6 (some .boolean) ∈ ww := ww_in4 98 rfl rfl
theorem tw_819 : Cond.methodLink "QuantifierOutLaw" 104 y_Md_end ∈ ww := ww_in4 99 rfl rfl
theorem tw_820 : Cond.instanceMethod y_Md_end ∈ ww := ww_in4 100 rfl rfl
theorem tw_821 : Cond.selects "QuantifierOutModel" y_Md_end y_Md_end ∈ ww := ww_in4 101 rfl rfl
theorem tw_822 : Cond.code y_Md_end prog_11_method_38_code 8 (some .long) ∈ ww := ww_in4 102 rfl rfl
theorem tw_823 : Cond.methodLink "QuantifierOutModel" 172 y_Md_raise ∈ ww := ww_in4 103 rfl rfl
theorem tq_824 : Cond.privateMethod y_Md_raise ∈ lw_tbl := lw_in4 104 rfl
theorem tw_825 : Cond.instanceMethod y_Md_raise ∈ ww := ww_in4 105 rfl rfl
theorem tw_826 : Cond.code y_Md_raise prog_11_method_4_code 2 (some .int) ∈ ww := ww_in4 106 rfl rfl
theorem tw_827 : Cond.sameMethod "java/lang/Throwable" "java/lang/Throwable" "fillInStackTrace" "(I)Ljava/lang/Throwable;" ∈ ww := ww_in4 107 rfl rfl
theorem tq_828 : Cond.castable "QuantifierOut$Atom" "QuantifierOut$Node" ∈ lw_tbl := lw_in4 108 rfl
theorem tq_829 : Cond.castable "QuantifierOut$Negation" "QuantifierOut$Node" ∈ lw_tbl := lw_in4 109 rfl
theorem tq_830 : Cond.castable "QuantifierOut$Pair" "QuantifierOut$Node" ∈ lw_tbl := lw_in4 110 rfl
theorem tq_831 : Cond.castable "QuantifierOut$Quantified" "QuantifierOut$Node" ∈ lw_tbl := lw_in4 111 rfl
theorem ts_0 : Cond.selects "QuantifierOut" y_Qo_checkRoom y_Qo_checkRoom ∈ ww := ww_sel 0 rfl rfl
theorem ts_1 : Cond.selects "java/lang/Throwable" ⟨"java/lang/Throwable", "fillInStackTrace", "(I)Ljava/lang/Throwable;"⟩ ⟨"java/lang/Throwable", "fillInStackTrace", "(I)Ljava/lang/Throwable;"⟩ ∈ ww := ww_sel 1 rfl rfl
theorem ts_2 : Cond.selects "QuantifierOut" y_Qo_add y_Qo_add ∈ ww := ww_sel 2 rfl rfl
theorem ts_3 : Cond.selects "QuantifierOut" y_Qo_addPair y_Qo_addPair ∈ ww := ww_sel 3 rfl rfl
theorem ts_4 : Cond.selects "QuantifierOut" y_Qo_nodeAt y_Qo_nodeAt ∈ ww := ww_sel 4 rfl rfl
theorem ts_5 : Cond.selects "QuantifierOut" y_Qo_addQuantified y_Qo_addQuantified ∈ ww := ww_sel 5 rfl rfl
theorem ts_6 : Cond.selects "QuantifierOut$Marks" y_Mk_markValue y_Mk_markValue ∈ ww := ww_sel 6 rfl rfl
theorem ts_7 : Cond.selects "QuantifierOut$Marks" y_Mk_insert y_Mk_insert ∈ ww := ww_sel 7 rfl rfl
theorem ts_8 : Cond.selects "QuantifierOut$Marks" y_Mk_markCrossing y_Mk_markCrossing ∈ ww := ww_sel 8 rfl rfl
theorem ts_9 : Cond.selects "QuantifierOut" y_Qo_findPieces y_Qo_findPieces ∈ ww := ww_sel 9 rfl rfl
theorem ts_10 : Cond.selects "QuantifierOut$Marks" y_Mk_divisorOf y_Mk_divisorOf ∈ ww := ww_sel 10 rfl rfl
theorem ts_11 : Cond.selects "QuantifierOutModel" y_Md_add y_Md_add ∈ ww := ww_sel 11 rfl rfl
theorem ts_12 : Cond.selects "QuantifierOutModel" y_Md_pair y_Md_pair ∈ ww := ww_sel 12 rfl rfl
theorem ts_13 : Cond.selects "QuantifierOutModel" y_Md_isNode y_Md_isNode ∈ ww := ww_sel 13 rfl rfl
theorem ts_14 : Cond.selects "QuantifierOutModel" y_Md_quantified y_Md_quantified ∈ ww := ww_sel 14 rfl rfl
theorem ts_15 : Cond.selects "QuantifierOutModel" y_Md_at y_Md_at ∈ ww := ww_sel 15 rfl rfl
theorem ts_16 : Cond.selects "QuantifierOutModel" y_Md_truth2 y_Md_truth2 ∈ ww := ww_sel 16 rfl rfl
theorem ts_17 : Cond.selects "QuantifierOutModel" y_Md_mark y_Md_mark ∈ ww := ww_sel 17 rfl rfl
theorem ts_18 : Cond.selects "QuantifierOutModel" y_Md_plain y_Md_plain ∈ ww := ww_sel 18 rfl rfl
theorem ts_19 : Cond.selects "QuantifierOutModel" y_Md_atomAt y_Md_atomAt ∈ ww := ww_sel 19 rfl rfl
theorem ts_20 : Cond.selects "QuantifierOutModel" y_Md_of y_Md_of ∈ ww := ww_sel 20 rfl rfl
theorem ts_21 : Cond.selects "QuantifierOutModel" y_Md_tries2 y_Md_tries2 ∈ ww := ww_sel 21 rfl rfl
theorem ts_22 : Cond.selects "QuantifierOutModel" y_Md_gather y_Md_gather ∈ ww := ww_sel 22 rfl rfl
theorem ts_23 : Cond.selects "QuantifierOutModel" y_Md_lowest y_Md_lowest ∈ ww := ww_sel 23 rfl rfl
theorem ts_24 : Cond.selects "QuantifierOutModel" y_Md_keep y_Md_keep ∈ ww := ww_sel 24 rfl rfl
theorem ts_25 : Cond.selects "QuantifierOutModel" y_Md_meet y_Md_meet ∈ ww := ww_sel 25 rfl rfl
theorem ts_26 : Cond.selects "QuantifierOutModel" y_Md_trial y_Md_trial ∈ ww := ww_sel 26 rfl rfl
theorem ts_27 : Cond.selects "QuantifierOutModel" y_Md_step y_Md_step ∈ ww := ww_sel 27 rfl rfl
theorem ts_28 : Cond.selects "QuantifierOutModel" y_Md_truth1 y_Md_truth1 ∈ ww := ww_sel 28 rfl rfl
theorem ts_29 : Cond.selects "QuantifierOutModel" y_Md_tries1 y_Md_tries1 ∈ ww := ww_sel 29 rfl rfl
theorem ts_30 : Cond.selects "QuantifierOutModel" y_Md_truth0 y_Md_truth0 ∈ ww := ww_sel 30 rfl rfl
theorem ts_31 : Cond.selects "QuantifierOutModel" y_Md_find y_Md_find ∈ ww := ww_sel 31 rfl rfl
theorem ts_32 : Cond.selects "QuantifierOutModel" y_Md_raise y_Md_raise ∈ ww := ww_sel 32 rfl rfl
theorem i_Qo : ∀ w ∈ u_ws "QuantifierOut" F_Qo 4, w ∈ ww := by
  show ∀ w ∈ [u_lay "QuantifierOut" F_Qo 0, u_lay "QuantifierOut" F_Qo 1, u_lay "QuantifierOut" F_Qo 2, u_lay "QuantifierOut" F_Qo 3], w ∈ ww
  exact List.forall_mem_cons.mpr ⟨tw_101, List.forall_mem_cons.mpr ⟨tw_103, List.forall_mem_cons.mpr ⟨tw_105, List.forall_mem_cons.mpr ⟨tw_107, fun _ h => absurd h List.not_mem_nil⟩⟩⟩⟩
theorem i_At : ∀ w ∈ u_ws "QuantifierOut$Atom" F_At 8, w ∈ ww := by
  show ∀ w ∈ [u_lay "QuantifierOut$Atom" F_At 0, u_lay "QuantifierOut$Atom" F_At 1, u_lay "QuantifierOut$Atom" F_At 2, u_lay "QuantifierOut$Atom" F_At 3, u_lay "QuantifierOut$Atom" F_At 4, u_lay "QuantifierOut$Atom" F_At 5, u_lay "QuantifierOut$Atom" F_At 6, u_lay "QuantifierOut$Atom" F_At 7], w ∈ ww
  exact List.forall_mem_cons.mpr ⟨tw_255, List.forall_mem_cons.mpr ⟨tw_257, List.forall_mem_cons.mpr ⟨tw_259, List.forall_mem_cons.mpr ⟨tw_261, List.forall_mem_cons.mpr ⟨tw_247, List.forall_mem_cons.mpr ⟨tw_249, List.forall_mem_cons.mpr ⟨tw_251, List.forall_mem_cons.mpr ⟨tw_253, fun _ h => absurd h List.not_mem_nil⟩⟩⟩⟩⟩⟩⟩⟩
theorem i_Mk : ∀ w ∈ u_ws "QuantifierOut$Marks" F_Mk 3, w ∈ ww := by
  show ∀ w ∈ [u_lay "QuantifierOut$Marks" F_Mk 0, u_lay "QuantifierOut$Marks" F_Mk 1, u_lay "QuantifierOut$Marks" F_Mk 2], w ∈ ww
  exact List.forall_mem_cons.mpr ⟨tw_44, List.forall_mem_cons.mpr ⟨tw_46, List.forall_mem_cons.mpr ⟨tw_48, fun _ h => absurd h List.not_mem_nil⟩⟩⟩
theorem i_Ng : ∀ w ∈ u_ws "QuantifierOut$Negation" F_Ng 5, w ∈ ww := by
  show ∀ w ∈ [u_lay "QuantifierOut$Negation" F_Ng 0, u_lay "QuantifierOut$Negation" F_Ng 1, u_lay "QuantifierOut$Negation" F_Ng 2, u_lay "QuantifierOut$Negation" F_Ng 3, u_lay "QuantifierOut$Negation" F_Ng 4], w ∈ ww
  exact List.forall_mem_cons.mpr ⟨tw_371, List.forall_mem_cons.mpr ⟨tw_372, List.forall_mem_cons.mpr ⟨tw_373, List.forall_mem_cons.mpr ⟨tw_374, List.forall_mem_cons.mpr ⟨tw_369, fun _ h => absurd h List.not_mem_nil⟩⟩⟩⟩⟩
theorem i_Pr : ∀ w ∈ u_ws "QuantifierOut$Pair" F_Pr 7, w ∈ ww := by
  show ∀ w ∈ [u_lay "QuantifierOut$Pair" F_Pr 0, u_lay "QuantifierOut$Pair" F_Pr 1, u_lay "QuantifierOut$Pair" F_Pr 2, u_lay "QuantifierOut$Pair" F_Pr 3, u_lay "QuantifierOut$Pair" F_Pr 4, u_lay "QuantifierOut$Pair" F_Pr 5, u_lay "QuantifierOut$Pair" F_Pr 6], w ∈ ww
  exact List.forall_mem_cons.mpr ⟨tw_333, List.forall_mem_cons.mpr ⟨tw_334, List.forall_mem_cons.mpr ⟨tw_335, List.forall_mem_cons.mpr ⟨tw_336, List.forall_mem_cons.mpr ⟨tw_327, List.forall_mem_cons.mpr ⟨tw_329, List.forall_mem_cons.mpr ⟨tw_331, fun _ h => absurd h List.not_mem_nil⟩⟩⟩⟩⟩⟩⟩
theorem i_Pc : ∀ w ∈ u_ws "QuantifierOut$Pieces" F_Pc 5, w ∈ ww := by
  show ∀ w ∈ [u_lay "QuantifierOut$Pieces" F_Pc 0, u_lay "QuantifierOut$Pieces" F_Pc 1, u_lay "QuantifierOut$Pieces" F_Pc 2, u_lay "QuantifierOut$Pieces" F_Pc 3, u_lay "QuantifierOut$Pieces" F_Pc 4], w ∈ ww
  exact List.forall_mem_cons.mpr ⟨tw_85, List.forall_mem_cons.mpr ⟨tw_87, List.forall_mem_cons.mpr ⟨tw_89, List.forall_mem_cons.mpr ⟨tw_91, List.forall_mem_cons.mpr ⟨tw_93, fun _ h => absurd h List.not_mem_nil⟩⟩⟩⟩⟩
theorem i_Qf : ∀ w ∈ u_ws "QuantifierOut$Quantified" F_Qf 7, w ∈ ww := by
  show ∀ w ∈ [u_lay "QuantifierOut$Quantified" F_Qf 0, u_lay "QuantifierOut$Quantified" F_Qf 1, u_lay "QuantifierOut$Quantified" F_Qf 2, u_lay "QuantifierOut$Quantified" F_Qf 3, u_lay "QuantifierOut$Quantified" F_Qf 4, u_lay "QuantifierOut$Quantified" F_Qf 5, u_lay "QuantifierOut$Quantified" F_Qf 6], w ∈ ww
  exact List.forall_mem_cons.mpr ⟨tw_404, List.forall_mem_cons.mpr ⟨tw_405, List.forall_mem_cons.mpr ⟨tw_406, List.forall_mem_cons.mpr ⟨tw_407, List.forall_mem_cons.mpr ⟨tw_398, List.forall_mem_cons.mpr ⟨tw_400, List.forall_mem_cons.mpr ⟨tw_402, fun _ h => absurd h List.not_mem_nil⟩⟩⟩⟩⟩⟩⟩
theorem i_Vs : ∀ w ∈ u_ws "QuantifierOut$Values" F_Vs 4, w ∈ ww := by
  show ∀ w ∈ [u_lay "QuantifierOut$Values" F_Vs 0, u_lay "QuantifierOut$Values" F_Vs 1, u_lay "QuantifierOut$Values" F_Vs 2, u_lay "QuantifierOut$Values" F_Vs 3], w ∈ ww
  exact List.forall_mem_cons.mpr ⟨tw_62, List.forall_mem_cons.mpr ⟨tw_64, List.forall_mem_cons.mpr ⟨tw_66, List.forall_mem_cons.mpr ⟨tw_68, fun _ h => absurd h List.not_mem_nil⟩⟩⟩⟩
theorem i_Md : ∀ w ∈ u_ws "QuantifierOutModel" F_Md 23, w ∈ ww := by
  show ∀ w ∈ [u_lay "QuantifierOutModel" F_Md 0, u_lay "QuantifierOutModel" F_Md 1, u_lay "QuantifierOutModel" F_Md 2, u_lay "QuantifierOutModel" F_Md 3, u_lay "QuantifierOutModel" F_Md 4, u_lay "QuantifierOutModel" F_Md 5, u_lay "QuantifierOutModel" F_Md 6, u_lay "QuantifierOutModel" F_Md 7, u_lay "QuantifierOutModel" F_Md 8, u_lay "QuantifierOutModel" F_Md 9, u_lay "QuantifierOutModel" F_Md 10, u_lay "QuantifierOutModel" F_Md 11, u_lay "QuantifierOutModel" F_Md 12, u_lay "QuantifierOutModel" F_Md 13, u_lay "QuantifierOutModel" F_Md 14, u_lay "QuantifierOutModel" F_Md 15, u_lay "QuantifierOutModel" F_Md 16, u_lay "QuantifierOutModel" F_Md 17, u_lay "QuantifierOutModel" F_Md 18, u_lay "QuantifierOutModel" F_Md 19, u_lay "QuantifierOutModel" F_Md 20, u_lay "QuantifierOutModel" F_Md 21, u_lay "QuantifierOutModel" F_Md 22], w ∈ ww
  exact List.forall_mem_cons.mpr ⟨tw_626, List.forall_mem_cons.mpr ⟨tw_628, List.forall_mem_cons.mpr ⟨tw_630, List.forall_mem_cons.mpr ⟨tw_632, List.forall_mem_cons.mpr ⟨tw_634, List.forall_mem_cons.mpr ⟨tw_636, List.forall_mem_cons.mpr ⟨tw_638, List.forall_mem_cons.mpr ⟨tw_640, List.forall_mem_cons.mpr ⟨tw_642, List.forall_mem_cons.mpr ⟨tw_644, List.forall_mem_cons.mpr ⟨tw_646, List.forall_mem_cons.mpr ⟨tw_648, List.forall_mem_cons.mpr ⟨tw_650, List.forall_mem_cons.mpr ⟨tw_652, List.forall_mem_cons.mpr ⟨tw_654, List.forall_mem_cons.mpr ⟨tw_656, List.forall_mem_cons.mpr ⟨tw_658, List.forall_mem_cons.mpr ⟨tw_660, List.forall_mem_cons.mpr ⟨tw_662, List.forall_mem_cons.mpr ⟨tw_664, List.forall_mem_cons.mpr ⟨tw_666, List.forall_mem_cons.mpr ⟨tw_668, List.forall_mem_cons.mpr ⟨tw_670, fun _ h => absurd h List.not_mem_nil⟩⟩⟩⟩⟩⟩⟩⟩⟩⟩⟩⟩⟩⟩⟩⟩⟩⟩⟩⟩⟩⟩⟩
end
section
theorem d_Vs_init_0 : decode b_Vs_init 0 = .ok (.aload_n 0, 1) := by decide +kernel
theorem d_Vs_init_1 : decode b_Vs_init 1 = .ok (.invokespecial 3, 3) := by decide +kernel
theorem d_Vs_init_4 : decode b_Vs_init 4 = .ok (.aload_n 0, 1) := by decide +kernel
theorem d_Vs_init_5 : decode b_Vs_init 5 = .ok (.iconst 2, 1) := by decide +kernel
theorem d_Vs_init_6 : decode b_Vs_init 6 = .ok (.newarray .long, 2) := by decide +kernel
theorem d_Vs_init_8 : decode b_Vs_init 8 = .ok (.dup, 1) := by decide +kernel
theorem d_Vs_init_9 : decode b_Vs_init 9 = .ok (.iconst 0, 1) := by decide +kernel
theorem d_Vs_init_10 : decode b_Vs_init 10 = .ok (.lconst 0, 1) := by decide +kernel
theorem d_Vs_init_11 : decode b_Vs_init 11 = .ok (.lastore, 1) := by decide +kernel
theorem d_Vs_init_12 : decode b_Vs_init 12 = .ok (.dup, 1) := by decide +kernel
theorem d_Vs_init_13 : decode b_Vs_init 13 = .ok (.iconst 1, 1) := by decide +kernel
theorem d_Vs_init_14 : decode b_Vs_init 14 = .ok (.lconst 0, 1) := by decide +kernel
theorem d_Vs_init_15 : decode b_Vs_init 15 = .ok (.lastore, 1) := by decide +kernel
theorem d_Vs_init_16 : decode b_Vs_init 16 = .ok (.putfield 9, 3) := by decide +kernel
theorem d_Vs_init_19 : decode b_Vs_init 19 = .ok (.aload_n 0, 1) := by decide +kernel
theorem d_Vs_init_20 : decode b_Vs_init 20 = .ok (.iconst 2, 1) := by decide +kernel
theorem d_Vs_init_21 : decode b_Vs_init 21 = .ok (.newarray .long, 2) := by decide +kernel
theorem d_Vs_init_23 : decode b_Vs_init 23 = .ok (.dup, 1) := by decide +kernel
theorem d_Vs_init_24 : decode b_Vs_init 24 = .ok (.iconst 0, 1) := by decide +kernel
theorem d_Vs_init_25 : decode b_Vs_init 25 = .ok (.lconst 1, 1) := by decide +kernel
theorem d_Vs_init_26 : decode b_Vs_init 26 = .ok (.lastore, 1) := by decide +kernel
theorem d_Vs_init_27 : decode b_Vs_init 27 = .ok (.dup, 1) := by decide +kernel
theorem d_Vs_init_28 : decode b_Vs_init 28 = .ok (.iconst 1, 1) := by decide +kernel
theorem d_Vs_init_29 : decode b_Vs_init 29 = .ok (.lconst 1, 1) := by decide +kernel
theorem d_Vs_init_30 : decode b_Vs_init 30 = .ok (.lastore, 1) := by decide +kernel
theorem d_Vs_init_31 : decode b_Vs_init 31 = .ok (.putfield 15, 3) := by decide +kernel
theorem d_Vs_init_34 : decode b_Vs_init 34 = .ok (.aload_n 0, 1) := by decide +kernel
theorem d_Vs_init_35 : decode b_Vs_init 35 = .ok (.new 18, 3) := by decide +kernel
theorem d_Vs_init_38 : decode b_Vs_init 38 = .ok (.dup, 1) := by decide +kernel
theorem d_Vs_init_39 : decode b_Vs_init 39 = .ok (.invokespecial 20, 3) := by decide +kernel
theorem d_Vs_init_42 : decode b_Vs_init 42 = .ok (.putfield 21, 3) := by decide +kernel
theorem d_Vs_init_45 : decode b_Vs_init 45 = .ok (.aload_n 0, 1) := by decide +kernel
theorem d_Vs_init_46 : decode b_Vs_init 46 = .ok (.new 18, 3) := by decide +kernel
theorem d_Vs_init_49 : decode b_Vs_init 49 = .ok (.dup, 1) := by decide +kernel
theorem d_Vs_init_50 : decode b_Vs_init 50 = .ok (.invokespecial 20, 3) := by decide +kernel
theorem d_Vs_init_53 : decode b_Vs_init 53 = .ok (.putfield 25, 3) := by decide +kernel
theorem d_Vs_init_56 : decode b_Vs_init 56 = .ok (.return_, 1) := by decide +kernel
theorem d_Mk_init_0 : decode b_Mk_init 0 = .ok (.aload_n 0, 1) := by decide +kernel
theorem d_Mk_init_1 : decode b_Mk_init 1 = .ok (.invokespecial 1, 3) := by decide +kernel
theorem d_Mk_init_4 : decode b_Mk_init 4 = .ok (.aload_n 0, 1) := by decide +kernel
theorem d_Mk_init_5 : decode b_Mk_init 5 = .ok (.bipush 21, 2) := by decide +kernel
theorem d_Mk_init_7 : decode b_Mk_init 7 = .ok (.newarray .long, 2) := by decide +kernel
theorem d_Mk_init_9 : decode b_Mk_init 9 = .ok (.putfield 9, 3) := by decide +kernel
theorem d_Mk_init_12 : decode b_Mk_init 12 = .ok (.aload_n 0, 1) := by decide +kernel
theorem d_Mk_init_13 : decode b_Mk_init 13 = .ok (.bipush 21, 2) := by decide +kernel
theorem d_Mk_init_15 : decode b_Mk_init 15 = .ok (.newarray .long, 2) := by decide +kernel
theorem d_Mk_init_17 : decode b_Mk_init 17 = .ok (.putfield 13, 3) := by decide +kernel
theorem d_Mk_init_20 : decode b_Mk_init 20 = .ok (.aload_n 0, 1) := by decide +kernel
theorem d_Mk_init_21 : decode b_Mk_init 21 = .ok (.iconst 0, 1) := by decide +kernel
theorem d_Mk_init_22 : decode b_Mk_init 22 = .ok (.putfield 16, 3) := by decide +kernel
theorem d_Mk_init_25 : decode b_Mk_init 25 = .ok (.return_, 1) := by decide +kernel
theorem d_At_init_0 : decode b_At_init 0 = .ok (.aload_n 0, 1) := by decide +kernel
theorem d_At_init_1 : decode b_At_init 1 = .ok (.iconst 3, 1) := by decide +kernel
theorem d_At_init_2 : decode b_At_init 2 = .ok (.iconst 0, 1) := by decide +kernel
theorem d_At_init_3 : decode b_At_init 3 = .ok (.iconst 3, 1) := by decide +kernel
theorem d_At_init_4 : decode b_At_init 4 = .ok (.newarray .int, 2) := by decide +kernel
theorem d_At_init_6 : decode b_At_init 6 = .ok (.dup, 1) := by decide +kernel
theorem d_At_init_7 : decode b_At_init 7 = .ok (.iconst 0, 1) := by decide +kernel
theorem d_At_init_8 : decode b_At_init 8 = .ok (.iload_n 1, 1) := by decide +kernel
theorem d_At_init_9 : decode b_At_init 9 = .ok (.iastore, 1) := by decide +kernel
theorem d_At_init_10 : decode b_At_init 10 = .ok (.dup, 1) := by decide +kernel
theorem d_At_init_11 : decode b_At_init 11 = .ok (.iconst 1, 1) := by decide +kernel
theorem d_At_init_12 : decode b_At_init 12 = .ok (.iload_n 2, 1) := by decide +kernel
theorem d_At_init_13 : decode b_At_init 13 = .ok (.iastore, 1) := by decide +kernel
theorem d_At_init_14 : decode b_At_init 14 = .ok (.dup, 1) := by decide +kernel
theorem d_At_init_15 : decode b_At_init 15 = .ok (.iconst 2, 1) := by decide +kernel
theorem d_At_init_16 : decode b_At_init 16 = .ok (.iload_n 3, 1) := by decide +kernel
theorem d_At_init_17 : decode b_At_init 17 = .ok (.iastore, 1) := by decide +kernel
theorem d_At_init_18 : decode b_At_init 18 = .ok (.invokespecial 3, 3) := by decide +kernel
theorem d_At_init_21 : decode b_At_init 21 = .ok (.aload_n 0, 1) := by decide +kernel
theorem d_At_init_22 : decode b_At_init 22 = .ok (.iload_n 1, 1) := by decide +kernel
theorem d_At_init_23 : decode b_At_init 23 = .ok (.putfield 9, 3) := by decide +kernel
theorem d_At_init_26 : decode b_At_init 26 = .ok (.aload_n 0, 1) := by decide +kernel
theorem d_At_init_27 : decode b_At_init 27 = .ok (.iload_n 2, 1) := by decide +kernel
theorem d_At_init_28 : decode b_At_init 28 = .ok (.putfield 15, 3) := by decide +kernel
theorem d_At_init_31 : decode b_At_init 31 = .ok (.aload_n 0, 1) := by decide +kernel
theorem d_At_init_32 : decode b_At_init 32 = .ok (.iload_n 3, 1) := by decide +kernel
theorem d_At_init_33 : decode b_At_init 33 = .ok (.putfield 18, 3) := by decide +kernel
theorem d_At_init_36 : decode b_At_init 36 = .ok (.aload_n 0, 1) := by decide +kernel
theorem d_At_init_37 : decode b_At_init 37 = .ok (.iload 4, 2) := by decide +kernel
theorem d_At_init_39 : decode b_At_init 39 = .ok (.putfield 21, 3) := by decide +kernel
theorem d_At_init_42 : decode b_At_init 42 = .ok (.return_, 1) := by decide +kernel
theorem d_Nd_init_0 : decode b_Nd_init 0 = .ok (.aload_n 0, 1) := by decide +kernel
theorem d_Nd_init_1 : decode b_Nd_init 1 = .ok (.invokespecial 5, 3) := by decide +kernel
theorem d_Nd_init_4 : decode b_Nd_init 4 = .ok (.aload_n 0, 1) := by decide +kernel
theorem d_Nd_init_5 : decode b_Nd_init 5 = .ok (.iload_n 1, 1) := by decide +kernel
theorem d_Nd_init_6 : decode b_Nd_init 6 = .ok (.putfield 11, 3) := by decide +kernel
theorem d_Nd_init_9 : decode b_Nd_init 9 = .ok (.aload_n 0, 1) := by decide +kernel
theorem d_Nd_init_10 : decode b_Nd_init 10 = .ok (.iload_n 2, 1) := by decide +kernel
theorem d_Nd_init_11 : decode b_Nd_init 11 = .ok (.putfield 15, 3) := by decide +kernel
theorem d_Nd_init_14 : decode b_Nd_init 14 = .ok (.aload_n 0, 1) := by decide +kernel
theorem d_Nd_init_15 : decode b_Nd_init 15 = .ok (.aload_n 3, 1) := by decide +kernel
theorem d_Nd_init_16 : decode b_Nd_init 16 = .ok (.putfield 18, 3) := by decide +kernel
theorem d_Nd_init_19 : decode b_Nd_init 19 = .ok (.aload_n 0, 1) := by decide +kernel
theorem d_Nd_init_20 : decode b_Nd_init 20 = .ok (.iconst (-1), 1) := by decide +kernel
theorem d_Nd_init_21 : decode b_Nd_init 21 = .ok (.putfield 22, 3) := by decide +kernel
theorem d_Nd_init_24 : decode b_Nd_init 24 = .ok (.return_, 1) := by decide +kernel
theorem d_Nd_size_0 : decode b_Nd_size 0 = .ok (.aload_n 0, 1) := by decide +kernel
theorem d_Nd_size_1 : decode b_Nd_size 1 = .ok (.getfield 18, 3) := by decide +kernel
theorem d_Nd_size_4 : decode b_Nd_size 4 = .ok (.arraylength, 1) := by decide +kernel
theorem d_Nd_size_5 : decode b_Nd_size 5 = .ok (.iconst 3, 1) := by decide +kernel
theorem d_Nd_size_6 : decode b_Nd_size 6 = .ok (.idiv, 1) := by decide +kernel
theorem d_Nd_size_7 : decode b_Nd_size 7 = .ok (.ireturn, 1) := by decide +kernel
theorem d_Nd_opposite_0 : decode b_Nd_opposite 0 = .ok (.new 25, 3) := by decide +kernel
theorem d_Nd_opposite_3 : decode b_Nd_opposite 3 = .ok (.dup, 1) := by decide +kernel
theorem d_Nd_opposite_4 : decode b_Nd_opposite 4 = .ok (.aload_n 0, 1) := by decide +kernel
theorem d_Nd_opposite_5 : decode b_Nd_opposite 5 = .ok (.invokespecial 27, 3) := by decide +kernel
theorem d_Nd_opposite_8 : decode b_Nd_opposite 8 = .ok (.areturn, 1) := by decide +kernel
theorem d_Nd_isFree_0 : decode b_Nd_isFree 0 = .ok (.aload_n 0, 1) := by decide +kernel
theorem d_Nd_isFree_1 : decode b_Nd_isFree 1 = .ok (.getfield 11, 3) := by decide +kernel
theorem d_Nd_isFree_4 : decode b_Nd_isFree 4 = .ok (.iload_n 1, 1) := by decide +kernel
theorem d_Nd_isFree_5 : decode b_Nd_isFree 5 = .ok (.ishr, 1) := by decide +kernel
theorem d_Nd_isFree_6 : decode b_Nd_isFree 6 = .ok (.iconst 1, 1) := by decide +kernel
theorem d_Nd_isFree_7 : decode b_Nd_isFree 7 = .ok (.iand, 1) := by decide +kernel
theorem d_Nd_isFree_8 : decode b_Nd_isFree 8 = .ok (.iconst 1, 1) := by decide +kernel
theorem d_Nd_isFree_9 : decode b_Nd_isFree 9 = .ok (.if_icmp .ne 7, 3) := by decide +kernel
theorem d_Nd_isFree_12 : decode b_Nd_isFree 12 = .ok (.iconst 1, 1) := by decide +kernel
theorem d_Nd_isFree_13 : decode b_Nd_isFree 13 = .ok (.goto 4, 3) := by decide +kernel
theorem d_Nd_isFree_16 : decode b_Nd_isFree 16 = .ok (.iconst 0, 1) := by decide +kernel
theorem d_Nd_isFree_17 : decode b_Nd_isFree 17 = .ok (.ireturn, 1) := by decide +kernel
theorem d_Vs_putWhole_0 : decode b_Vs_putWhole 0 = .ok (.aload_n 0, 1) := by decide +kernel
theorem d_Vs_putWhole_1 : decode b_Vs_putWhole 1 = .ok (.iconst 0, 1) := by decide +kernel
theorem d_Vs_putWhole_2 : decode b_Vs_putWhole 2 = .ok (.iload_n 1, 1) := by decide +kernel
theorem d_Vs_putWhole_3 : decode b_Vs_putWhole 3 = .ok (.i2l, 1) := by decide +kernel
theorem d_Vs_putWhole_4 : decode b_Vs_putWhole 4 = .ok (.lconst 1, 1) := by decide +kernel
theorem d_Vs_putWhole_5 : decode b_Vs_putWhole 5 = .ok (.invokevirtual 28, 3) := by decide +kernel
theorem d_Vs_putWhole_8 : decode b_Vs_putWhole 8 = .ok (.aload_n 0, 1) := by decide +kernel
theorem d_Vs_putWhole_9 : decode b_Vs_putWhole 9 = .ok (.iconst 1, 1) := by decide +kernel
theorem d_Vs_putWhole_10 : decode b_Vs_putWhole 10 = .ok (.iload_n 2, 1) := by decide +kernel
theorem d_Vs_putWhole_11 : decode b_Vs_putWhole 11 = .ok (.i2l, 1) := by decide +kernel
theorem d_Vs_putWhole_12 : decode b_Vs_putWhole 12 = .ok (.lconst 1, 1) := by decide +kernel
theorem d_Vs_putWhole_13 : decode b_Vs_putWhole 13 = .ok (.invokevirtual 28, 3) := by decide +kernel
theorem d_Vs_putWhole_16 : decode b_Vs_putWhole 16 = .ok (.return_, 1) := by decide +kernel
theorem d_Vs_put_0 : decode b_Vs_put 0 = .ok (.aload_n 0, 1) := by decide +kernel
theorem d_Vs_put_1 : decode b_Vs_put 1 = .ok (.getfield 9, 3) := by decide +kernel
theorem d_Vs_put_4 : decode b_Vs_put 4 = .ok (.iload_n 1, 1) := by decide +kernel
theorem d_Vs_put_5 : decode b_Vs_put 5 = .ok (.lload_n 2, 1) := by decide +kernel
theorem d_Vs_put_6 : decode b_Vs_put 6 = .ok (.lastore, 1) := by decide +kernel
theorem d_Vs_put_7 : decode b_Vs_put 7 = .ok (.aload_n 0, 1) := by decide +kernel
theorem d_Vs_put_8 : decode b_Vs_put 8 = .ok (.getfield 15, 3) := by decide +kernel
theorem d_Vs_put_11 : decode b_Vs_put 11 = .ok (.iload_n 1, 1) := by decide +kernel
theorem d_Vs_put_12 : decode b_Vs_put 12 = .ok (.lload 4, 2) := by decide +kernel
theorem d_Vs_put_14 : decode b_Vs_put 14 = .ok (.lastore, 1) := by decide +kernel
theorem d_Vs_put_15 : decode b_Vs_put 15 = .ok (.return_, 1) := by decide +kernel
theorem d_At_isTrueAt_0 : decode b_At_isTrueAt 0 = .ok (.aload_n 1, 1) := by decide +kernel
theorem d_At_isTrueAt_1 : decode b_At_isTrueAt 1 = .ok (.getfield 24, 3) := by decide +kernel
theorem d_At_isTrueAt_4 : decode b_At_isTrueAt 4 = .ok (.iconst 0, 1) := by decide +kernel
theorem d_At_isTrueAt_5 : decode b_At_isTrueAt 5 = .ok (.laload, 1) := by decide +kernel
theorem d_At_isTrueAt_6 : decode b_At_isTrueAt 6 = .ok (.lstore_n 2, 1) := by decide +kernel
theorem d_At_isTrueAt_7 : decode b_At_isTrueAt 7 = .ok (.aload_n 1, 1) := by decide +kernel
theorem d_At_isTrueAt_8 : decode b_At_isTrueAt 8 = .ok (.getfield 24, 3) := by decide +kernel
theorem d_At_isTrueAt_11 : decode b_At_isTrueAt 11 = .ok (.iconst 1, 1) := by decide +kernel
theorem d_At_isTrueAt_12 : decode b_At_isTrueAt 12 = .ok (.laload, 1) := by decide +kernel
theorem d_At_isTrueAt_13 : decode b_At_isTrueAt 13 = .ok (.lstore 4, 2) := by decide +kernel
theorem d_At_isTrueAt_15 : decode b_At_isTrueAt 15 = .ok (.aload_n 0, 1) := by decide +kernel
theorem d_At_isTrueAt_16 : decode b_At_isTrueAt 16 = .ok (.getfield 9, 3) := by decide +kernel
theorem d_At_isTrueAt_19 : decode b_At_isTrueAt 19 = .ok (.i2l, 1) := by decide +kernel
theorem d_At_isTrueAt_20 : decode b_At_isTrueAt 20 = .ok (.aload_n 1, 1) := by decide +kernel
theorem d_At_isTrueAt_21 : decode b_At_isTrueAt 21 = .ok (.getfield 30, 3) := by decide +kernel
theorem d_At_isTrueAt_24 : decode b_At_isTrueAt 24 = .ok (.iconst 0, 1) := by decide +kernel
theorem d_At_isTrueAt_25 : decode b_At_isTrueAt 25 = .ok (.laload, 1) := by decide +kernel
theorem d_At_isTrueAt_26 : decode b_At_isTrueAt 26 = .ok (.lmul, 1) := by decide +kernel
theorem d_At_isTrueAt_27 : decode b_At_isTrueAt 27 = .ok (.lload 4, 2) := by decide +kernel
theorem d_At_isTrueAt_29 : decode b_At_isTrueAt 29 = .ok (.lmul, 1) := by decide +kernel
theorem d_At_isTrueAt_30 : decode b_At_isTrueAt 30 = .ok (.aload_n 0, 1) := by decide +kernel
theorem d_At_isTrueAt_31 : decode b_At_isTrueAt 31 = .ok (.getfield 15, 3) := by decide +kernel
theorem d_At_isTrueAt_34 : decode b_At_isTrueAt 34 = .ok (.i2l, 1) := by decide +kernel
theorem d_At_isTrueAt_35 : decode b_At_isTrueAt 35 = .ok (.aload_n 1, 1) := by decide +kernel
theorem d_At_isTrueAt_36 : decode b_At_isTrueAt 36 = .ok (.getfield 30, 3) := by decide +kernel
theorem d_At_isTrueAt_39 : decode b_At_isTrueAt 39 = .ok (.iconst 1, 1) := by decide +kernel
theorem d_At_isTrueAt_40 : decode b_At_isTrueAt 40 = .ok (.laload, 1) := by decide +kernel
theorem d_At_isTrueAt_41 : decode b_At_isTrueAt 41 = .ok (.lmul, 1) := by decide +kernel
theorem d_At_isTrueAt_42 : decode b_At_isTrueAt 42 = .ok (.lload_n 2, 1) := by decide +kernel
theorem d_At_isTrueAt_43 : decode b_At_isTrueAt 43 = .ok (.lmul, 1) := by decide +kernel
theorem d_At_isTrueAt_44 : decode b_At_isTrueAt 44 = .ok (.ladd, 1) := by decide +kernel
theorem d_At_isTrueAt_45 : decode b_At_isTrueAt 45 = .ok (.aload_n 0, 1) := by decide +kernel
theorem d_At_isTrueAt_46 : decode b_At_isTrueAt 46 = .ok (.getfield 18, 3) := by decide +kernel
theorem d_At_isTrueAt_49 : decode b_At_isTrueAt 49 = .ok (.i2l, 1) := by decide +kernel
theorem d_At_isTrueAt_50 : decode b_At_isTrueAt 50 = .ok (.lload_n 2, 1) := by decide +kernel
theorem d_At_isTrueAt_51 : decode b_At_isTrueAt 51 = .ok (.lmul, 1) := by decide +kernel
theorem d_At_isTrueAt_52 : decode b_At_isTrueAt 52 = .ok (.lload 4, 2) := by decide +kernel
theorem d_At_isTrueAt_54 : decode b_At_isTrueAt 54 = .ok (.lmul, 1) := by decide +kernel
theorem d_At_isTrueAt_55 : decode b_At_isTrueAt 55 = .ok (.ladd, 1) := by decide +kernel
theorem d_At_isTrueAt_56 : decode b_At_isTrueAt 56 = .ok (.lstore 6, 2) := by decide +kernel
theorem d_At_isTrueAt_58 : decode b_At_isTrueAt 58 = .ok (.aload_n 0, 1) := by decide +kernel
theorem d_At_isTrueAt_59 : decode b_At_isTrueAt 59 = .ok (.getfield 21, 3) := by decide +kernel
theorem d_At_isTrueAt_62 : decode b_At_isTrueAt 62 = .ok (.lookupswitch 52 #[(0, 26), (1, 39)], 26) := by decide +kernel
theorem d_At_isTrueAt_88 : decode b_At_isTrueAt 88 = .ok (.lload 6, 2) := by decide +kernel
theorem d_At_isTrueAt_90 : decode b_At_isTrueAt 90 = .ok (.lconst 0, 1) := by decide +kernel
theorem d_At_isTrueAt_91 : decode b_At_isTrueAt 91 = .ok (.lcmp, 1) := by decide +kernel
theorem d_At_isTrueAt_92 : decode b_At_isTrueAt 92 = .ok (.ifCond .ne 7, 3) := by decide +kernel
theorem d_At_isTrueAt_95 : decode b_At_isTrueAt 95 = .ok (.iconst 1, 1) := by decide +kernel
theorem d_At_isTrueAt_96 : decode b_At_isTrueAt 96 = .ok (.goto 4, 3) := by decide +kernel
theorem d_At_isTrueAt_99 : decode b_At_isTrueAt 99 = .ok (.iconst 0, 1) := by decide +kernel
theorem d_At_isTrueAt_100 : decode b_At_isTrueAt 100 = .ok (.ireturn, 1) := by decide +kernel
theorem d_At_isTrueAt_101 : decode b_At_isTrueAt 101 = .ok (.lload 6, 2) := by decide +kernel
theorem d_At_isTrueAt_103 : decode b_At_isTrueAt 103 = .ok (.lconst 0, 1) := by decide +kernel
theorem d_At_isTrueAt_104 : decode b_At_isTrueAt 104 = .ok (.lcmp, 1) := by decide +kernel
theorem d_At_isTrueAt_105 : decode b_At_isTrueAt 105 = .ok (.ifCond .ge 7, 3) := by decide +kernel
theorem d_At_isTrueAt_108 : decode b_At_isTrueAt 108 = .ok (.iconst 1, 1) := by decide +kernel
theorem d_At_isTrueAt_109 : decode b_At_isTrueAt 109 = .ok (.goto 4, 3) := by decide +kernel
theorem d_At_isTrueAt_112 : decode b_At_isTrueAt 112 = .ok (.iconst 0, 1) := by decide +kernel
theorem d_At_isTrueAt_113 : decode b_At_isTrueAt 113 = .ok (.ireturn, 1) := by decide +kernel
theorem d_At_isTrueAt_114 : decode b_At_isTrueAt 114 = .ok (.lload 6, 2) := by decide +kernel
theorem d_At_isTrueAt_116 : decode b_At_isTrueAt 116 = .ok (.lconst 0, 1) := by decide +kernel
theorem d_At_isTrueAt_117 : decode b_At_isTrueAt 117 = .ok (.lcmp, 1) := by decide +kernel
theorem d_At_isTrueAt_118 : decode b_At_isTrueAt 118 = .ok (.ifCond .gt 7, 3) := by decide +kernel
theorem d_At_isTrueAt_121 : decode b_At_isTrueAt 121 = .ok (.iconst 1, 1) := by decide +kernel
theorem d_At_isTrueAt_122 : decode b_At_isTrueAt 122 = .ok (.goto 4, 3) := by decide +kernel
theorem d_At_isTrueAt_125 : decode b_At_isTrueAt 125 = .ok (.iconst 0, 1) := by decide +kernel
theorem d_At_isTrueAt_126 : decode b_At_isTrueAt 126 = .ok (.ireturn, 1) := by decide +kernel
theorem d_Vs_marksFor_0 : decode b_Vs_marksFor 0 = .ok (.iload_n 1, 1) := by decide +kernel
theorem d_Vs_marksFor_1 : decode b_Vs_marksFor 1 = .ok (.iconst 2, 1) := by decide +kernel
theorem d_Vs_marksFor_2 : decode b_Vs_marksFor 2 = .ok (.if_icmp .ge 10, 3) := by decide +kernel
theorem d_Vs_marksFor_5 : decode b_Vs_marksFor 5 = .ok (.aload_n 0, 1) := by decide +kernel
theorem d_Vs_marksFor_6 : decode b_Vs_marksFor 6 = .ok (.getfield 25, 3) := by decide +kernel
theorem d_Vs_marksFor_9 : decode b_Vs_marksFor 9 = .ok (.goto 7, 3) := by decide +kernel
theorem d_Vs_marksFor_12 : decode b_Vs_marksFor 12 = .ok (.aload_n 0, 1) := by decide +kernel
theorem d_Vs_marksFor_13 : decode b_Vs_marksFor 13 = .ok (.getfield 21, 3) := by decide +kernel
theorem d_Vs_marksFor_16 : decode b_Vs_marksFor 16 = .ok (.areturn, 1) := by decide +kernel
theorem d_Mk_gather_0 : decode b_Mk_gather 0 = .ok (.aload_n 0, 1) := by decide +kernel
theorem d_Mk_gather_1 : decode b_Mk_gather 1 = .ok (.iconst 0, 1) := by decide +kernel
theorem d_Mk_gather_2 : decode b_Mk_gather 2 = .ok (.putfield 16, 3) := by decide +kernel
theorem d_Mk_gather_5 : decode b_Mk_gather 5 = .ok (.aload_n 1, 1) := by decide +kernel
theorem d_Mk_gather_6 : decode b_Mk_gather 6 = .ok (.iload_n 2, 1) := by decide +kernel
theorem d_Mk_gather_7 : decode b_Mk_gather 7 = .ok (.invokevirtual 20, 3) := by decide +kernel
theorem d_Mk_gather_10 : decode b_Mk_gather 10 = .ok (.ifCond .ne 4, 3) := by decide +kernel
theorem d_Mk_gather_13 : decode b_Mk_gather 13 = .ok (.return_, 1) := by decide +kernel
theorem d_Mk_gather_14 : decode b_Mk_gather 14 = .ok (.aload_n 1, 1) := by decide +kernel
theorem d_Mk_gather_15 : decode b_Mk_gather 15 = .ok (.getfield 26, 3) := by decide +kernel
theorem d_Mk_gather_18 : decode b_Mk_gather 18 = .ok (.astore 4, 2) := by decide +kernel
theorem d_Mk_gather_20 : decode b_Mk_gather 20 = .ok (.iconst 0, 1) := by decide +kernel
theorem d_Mk_gather_21 : decode b_Mk_gather 21 = .ok (.istore 5, 2) := by decide +kernel
theorem d_Mk_gather_23 : decode b_Mk_gather 23 = .ok (.iload 5, 2) := by decide +kernel
theorem d_Mk_gather_25 : decode b_Mk_gather 25 = .ok (.iconst 3, 1) := by decide +kernel
theorem d_Mk_gather_26 : decode b_Mk_gather 26 = .ok (.iadd, 1) := by decide +kernel
theorem d_Mk_gather_27 : decode b_Mk_gather 27 = .ok (.aload 4, 2) := by decide +kernel
theorem d_Mk_gather_29 : decode b_Mk_gather 29 = .ok (.arraylength, 1) := by decide +kernel
theorem d_Mk_gather_30 : decode b_Mk_gather 30 = .ok (.if_icmp .gt 53, 3) := by decide +kernel
theorem d_Mk_gather_33 : decode b_Mk_gather 33 = .ok (.aload_n 0, 1) := by decide +kernel
theorem d_Mk_gather_34 : decode b_Mk_gather 34 = .ok (.aload 4, 2) := by decide +kernel
theorem d_Mk_gather_36 : decode b_Mk_gather 36 = .ok (.iload 5, 2) := by decide +kernel
theorem d_Mk_gather_38 : decode b_Mk_gather 38 = .ok (.iload_n 2, 1) := by decide +kernel
theorem d_Mk_gather_39 : decode b_Mk_gather 39 = .ok (.aload_n 3, 1) := by decide +kernel
theorem d_Mk_gather_40 : decode b_Mk_gather 40 = .ok (.invokevirtual 30, 3) := by decide +kernel
theorem d_Mk_gather_43 : decode b_Mk_gather 43 = .ok (.iconst 0, 1) := by decide +kernel
theorem d_Mk_gather_44 : decode b_Mk_gather 44 = .ok (.istore 6, 2) := by decide +kernel
theorem d_Mk_gather_46 : decode b_Mk_gather 46 = .ok (.iload 6, 2) := by decide +kernel
theorem d_Mk_gather_48 : decode b_Mk_gather 48 = .ok (.iload 5, 2) := by decide +kernel
theorem d_Mk_gather_50 : decode b_Mk_gather 50 = .ok (.if_icmp .ge 27, 3) := by decide +kernel
theorem d_Mk_gather_53 : decode b_Mk_gather 53 = .ok (.aload_n 1, 1) := by decide +kernel
theorem d_Mk_gather_54 : decode b_Mk_gather 54 = .ok (.getfield 34, 3) := by decide +kernel
theorem d_Mk_gather_57 : decode b_Mk_gather 57 = .ok (.ifCond .le 20, 3) := by decide +kernel
theorem d_Mk_gather_60 : decode b_Mk_gather 60 = .ok (.aload_n 0, 1) := by decide +kernel
theorem d_Mk_gather_61 : decode b_Mk_gather 61 = .ok (.aload 4, 2) := by decide +kernel
theorem d_Mk_gather_63 : decode b_Mk_gather 63 = .ok (.iload 5, 2) := by decide +kernel
theorem d_Mk_gather_65 : decode b_Mk_gather 65 = .ok (.iload 6, 2) := by decide +kernel
theorem d_Mk_gather_67 : decode b_Mk_gather 67 = .ok (.iload_n 2, 1) := by decide +kernel
theorem d_Mk_gather_68 : decode b_Mk_gather 68 = .ok (.invokevirtual 37, 3) := by decide +kernel
theorem d_Mk_gather_71 : decode b_Mk_gather 71 = .ok (.iinc 6 3, 3) := by decide +kernel
theorem d_Mk_gather_74 : decode b_Mk_gather 74 = .ok (.goto (-28), 3) := by decide +kernel
theorem d_Mk_gather_77 : decode b_Mk_gather 77 = .ok (.iinc 5 3, 3) := by decide +kernel
theorem d_Mk_gather_80 : decode b_Mk_gather 80 = .ok (.goto (-57), 3) := by decide +kernel
theorem d_Mk_gather_83 : decode b_Mk_gather 83 = .ok (.return_, 1) := by decide +kernel
theorem d_Mk_markValue_0 : decode b_Mk_markValue 0 = .ok (.iconst 1, 1) := by decide +kernel
theorem d_Mk_markValue_1 : decode b_Mk_markValue 1 = .ok (.iload_n 3, 1) := by decide +kernel
theorem d_Mk_markValue_2 : decode b_Mk_markValue 2 = .ok (.isub, 1) := by decide +kernel
theorem d_Mk_markValue_3 : decode b_Mk_markValue 3 = .ok (.istore 5, 2) := by decide +kernel
theorem d_Mk_markValue_5 : decode b_Mk_markValue 5 = .ok (.aload 4, 2) := by decide +kernel
theorem d_Mk_markValue_7 : decode b_Mk_markValue 7 = .ok (.getfield 41, 3) := by decide +kernel
theorem d_Mk_markValue_10 : decode b_Mk_markValue 10 = .ok (.iload 5, 2) := by decide +kernel
theorem d_Mk_markValue_12 : decode b_Mk_markValue 12 = .ok (.laload, 1) := by decide +kernel
theorem d_Mk_markValue_13 : decode b_Mk_markValue 13 = .ok (.lstore 6, 2) := by decide +kernel
theorem d_Mk_markValue_15 : decode b_Mk_markValue 15 = .ok (.aload_n 1, 1) := by decide +kernel
theorem d_Mk_markValue_16 : decode b_Mk_markValue 16 = .ok (.iload_n 2, 1) := by decide +kernel
theorem d_Mk_markValue_17 : decode b_Mk_markValue 17 = .ok (.iload 5, 2) := by decide +kernel
theorem d_Mk_markValue_19 : decode b_Mk_markValue 19 = .ok (.iadd, 1) := by decide +kernel
theorem d_Mk_markValue_20 : decode b_Mk_markValue 20 = .ok (.iaload, 1) := by decide +kernel
theorem d_Mk_markValue_21 : decode b_Mk_markValue 21 = .ok (.i2l, 1) := by decide +kernel
theorem d_Mk_markValue_22 : decode b_Mk_markValue 22 = .ok (.aload 4, 2) := by decide +kernel
theorem d_Mk_markValue_24 : decode b_Mk_markValue 24 = .ok (.getfield 44, 3) := by decide +kernel
theorem d_Mk_markValue_27 : decode b_Mk_markValue 27 = .ok (.iload 5, 2) := by decide +kernel
theorem d_Mk_markValue_29 : decode b_Mk_markValue 29 = .ok (.laload, 1) := by decide +kernel
theorem d_Mk_markValue_30 : decode b_Mk_markValue 30 = .ok (.lmul, 1) := by decide +kernel
theorem d_Mk_markValue_31 : decode b_Mk_markValue 31 = .ok (.aload_n 1, 1) := by decide +kernel
theorem d_Mk_markValue_32 : decode b_Mk_markValue 32 = .ok (.iload_n 2, 1) := by decide +kernel
theorem d_Mk_markValue_33 : decode b_Mk_markValue 33 = .ok (.iconst 2, 1) := by decide +kernel
theorem d_Mk_markValue_34 : decode b_Mk_markValue 34 = .ok (.iadd, 1) := by decide +kernel
theorem d_Mk_markValue_35 : decode b_Mk_markValue 35 = .ok (.iaload, 1) := by decide +kernel
theorem d_Mk_markValue_36 : decode b_Mk_markValue 36 = .ok (.i2l, 1) := by decide +kernel
theorem d_Mk_markValue_37 : decode b_Mk_markValue 37 = .ok (.lload 6, 2) := by decide +kernel
theorem d_Mk_markValue_39 : decode b_Mk_markValue 39 = .ok (.lmul, 1) := by decide +kernel
theorem d_Mk_markValue_40 : decode b_Mk_markValue 40 = .ok (.ladd, 1) := by decide +kernel
theorem d_Mk_markValue_41 : decode b_Mk_markValue 41 = .ok (.lstore 8, 2) := by decide +kernel
theorem d_Mk_markValue_43 : decode b_Mk_markValue 43 = .ok (.aload_n 0, 1) := by decide +kernel
theorem d_Mk_markValue_44 : decode b_Mk_markValue 44 = .ok (.lload 8, 2) := by decide +kernel
theorem d_Mk_markValue_46 : decode b_Mk_markValue 46 = .ok (.lneg, 1) := by decide +kernel
theorem d_Mk_markValue_47 : decode b_Mk_markValue 47 = .ok (.aload_n 1, 1) := by decide +kernel
theorem d_Mk_markValue_48 : decode b_Mk_markValue 48 = .ok (.iload_n 2, 1) := by decide +kernel
theorem d_Mk_markValue_49 : decode b_Mk_markValue 49 = .ok (.iload_n 3, 1) := by decide +kernel
theorem d_Mk_markValue_50 : decode b_Mk_markValue 50 = .ok (.iadd, 1) := by decide +kernel
theorem d_Mk_markValue_51 : decode b_Mk_markValue 51 = .ok (.iaload, 1) := by decide +kernel
theorem d_Mk_markValue_52 : decode b_Mk_markValue 52 = .ok (.i2l, 1) := by decide +kernel
theorem d_Mk_markValue_53 : decode b_Mk_markValue 53 = .ok (.lload 6, 2) := by decide +kernel
theorem d_Mk_markValue_55 : decode b_Mk_markValue 55 = .ok (.lmul, 1) := by decide +kernel
theorem d_Mk_markValue_56 : decode b_Mk_markValue 56 = .ok (.invokevirtual 45, 3) := by decide +kernel
theorem d_Mk_markValue_59 : decode b_Mk_markValue 59 = .ok (.return_, 1) := by decide +kernel
theorem d_Mk_insert_0 : decode b_Mk_insert 0 = .ok (.lload_n 3, 1) := by decide +kernel
theorem d_Mk_insert_1 : decode b_Mk_insert 1 = .ok (.lconst 0, 1) := by decide +kernel
theorem d_Mk_insert_2 : decode b_Mk_insert 2 = .ok (.lcmp, 1) := by decide +kernel
theorem d_Mk_insert_3 : decode b_Mk_insert 3 = .ok (.ifCond .eq 12, 3) := by decide +kernel
theorem d_Mk_insert_6 : decode b_Mk_insert 6 = .ok (.aload_n 0, 1) := by decide +kernel
theorem d_Mk_insert_7 : decode b_Mk_insert 7 = .ok (.getfield 16, 3) := by decide +kernel
theorem d_Mk_insert_10 : decode b_Mk_insert 10 = .ok (.bipush 21, 2) := by decide +kernel
theorem d_Mk_insert_12 : decode b_Mk_insert 12 = .ok (.if_icmp .lt 4, 3) := by decide +kernel
theorem d_Mk_insert_15 : decode b_Mk_insert 15 = .ok (.return_, 1) := by decide +kernel
theorem d_Mk_insert_16 : decode b_Mk_insert 16 = .ok (.lload_n 3, 1) := by decide +kernel
theorem d_Mk_insert_17 : decode b_Mk_insert 17 = .ok (.lconst 0, 1) := by decide +kernel
theorem d_Mk_insert_18 : decode b_Mk_insert 18 = .ok (.lcmp, 1) := by decide +kernel
theorem d_Mk_insert_19 : decode b_Mk_insert 19 = .ok (.ifCond .ge 8, 3) := by decide +kernel
theorem d_Mk_insert_22 : decode b_Mk_insert 22 = .ok (.lload_n 1, 1) := by decide +kernel
theorem d_Mk_insert_23 : decode b_Mk_insert 23 = .ok (.lneg, 1) := by decide +kernel
theorem d_Mk_insert_24 : decode b_Mk_insert 24 = .ok (.goto 4, 3) := by decide +kernel
theorem d_Mk_insert_27 : decode b_Mk_insert 27 = .ok (.lload_n 1, 1) := by decide +kernel
theorem d_Mk_insert_28 : decode b_Mk_insert 28 = .ok (.lstore 5, 2) := by decide +kernel
theorem d_Mk_insert_30 : decode b_Mk_insert 30 = .ok (.lload_n 3, 1) := by decide +kernel
theorem d_Mk_insert_31 : decode b_Mk_insert 31 = .ok (.lconst 0, 1) := by decide +kernel
theorem d_Mk_insert_32 : decode b_Mk_insert 32 = .ok (.lcmp, 1) := by decide +kernel
theorem d_Mk_insert_33 : decode b_Mk_insert 33 = .ok (.ifCond .ge 8, 3) := by decide +kernel
theorem d_Mk_insert_36 : decode b_Mk_insert 36 = .ok (.lload_n 3, 1) := by decide +kernel
theorem d_Mk_insert_37 : decode b_Mk_insert 37 = .ok (.lneg, 1) := by decide +kernel
theorem d_Mk_insert_38 : decode b_Mk_insert 38 = .ok (.goto 4, 3) := by decide +kernel
theorem d_Mk_insert_41 : decode b_Mk_insert 41 = .ok (.lload_n 3, 1) := by decide +kernel
theorem d_Mk_insert_42 : decode b_Mk_insert 42 = .ok (.lstore 7, 2) := by decide +kernel
theorem d_Mk_insert_44 : decode b_Mk_insert 44 = .ok (.aload_n 0, 1) := by decide +kernel
theorem d_Mk_insert_45 : decode b_Mk_insert 45 = .ok (.getfield 16, 3) := by decide +kernel
theorem d_Mk_insert_48 : decode b_Mk_insert 48 = .ok (.istore 9, 2) := by decide +kernel
theorem d_Mk_insert_50 : decode b_Mk_insert 50 = .ok (.iload 9, 2) := by decide +kernel
theorem d_Mk_insert_52 : decode b_Mk_insert 52 = .ok (.ifCond .le 37, 3) := by decide +kernel
theorem d_Mk_insert_55 : decode b_Mk_insert 55 = .ok (.aload_n 0, 1) := by decide +kernel
theorem d_Mk_insert_56 : decode b_Mk_insert 56 = .ok (.getfield 9, 3) := by decide +kernel
theorem d_Mk_insert_59 : decode b_Mk_insert 59 = .ok (.iload 9, 2) := by decide +kernel
theorem d_Mk_insert_61 : decode b_Mk_insert 61 = .ok (.iconst 1, 1) := by decide +kernel
theorem d_Mk_insert_62 : decode b_Mk_insert 62 = .ok (.isub, 1) := by decide +kernel
theorem d_Mk_insert_63 : decode b_Mk_insert 63 = .ok (.laload, 1) := by decide +kernel
theorem d_Mk_insert_64 : decode b_Mk_insert 64 = .ok (.lload 7, 2) := by decide +kernel
theorem d_Mk_insert_66 : decode b_Mk_insert 66 = .ok (.lmul, 1) := by decide +kernel
theorem d_Mk_insert_67 : decode b_Mk_insert 67 = .ok (.lload 5, 2) := by decide +kernel
theorem d_Mk_insert_69 : decode b_Mk_insert 69 = .ok (.aload_n 0, 1) := by decide +kernel
theorem d_Mk_insert_70 : decode b_Mk_insert 70 = .ok (.getfield 13, 3) := by decide +kernel
theorem d_Mk_insert_73 : decode b_Mk_insert 73 = .ok (.iload 9, 2) := by decide +kernel
theorem d_Mk_insert_75 : decode b_Mk_insert 75 = .ok (.iconst 1, 1) := by decide +kernel
theorem d_Mk_insert_76 : decode b_Mk_insert 76 = .ok (.isub, 1) := by decide +kernel
theorem d_Mk_insert_77 : decode b_Mk_insert 77 = .ok (.laload, 1) := by decide +kernel
theorem d_Mk_insert_78 : decode b_Mk_insert 78 = .ok (.lmul, 1) := by decide +kernel
theorem d_Mk_insert_79 : decode b_Mk_insert 79 = .ok (.lcmp, 1) := by decide +kernel
theorem d_Mk_insert_80 : decode b_Mk_insert 80 = .ok (.ifCond .le 9, 3) := by decide +kernel
theorem d_Mk_insert_83 : decode b_Mk_insert 83 = .ok (.iinc 9 (-1), 3) := by decide +kernel
theorem d_Mk_insert_86 : decode b_Mk_insert 86 = .ok (.goto (-36), 3) := by decide +kernel
theorem d_Mk_insert_89 : decode b_Mk_insert 89 = .ok (.iload 9, 2) := by decide +kernel
theorem d_Mk_insert_91 : decode b_Mk_insert 91 = .ok (.ifCond .le 32, 3) := by decide +kernel
theorem d_Mk_insert_94 : decode b_Mk_insert 94 = .ok (.aload_n 0, 1) := by decide +kernel
theorem d_Mk_insert_95 : decode b_Mk_insert 95 = .ok (.getfield 9, 3) := by decide +kernel
theorem d_Mk_insert_98 : decode b_Mk_insert 98 = .ok (.iload 9, 2) := by decide +kernel
theorem d_Mk_insert_100 : decode b_Mk_insert 100 = .ok (.iconst 1, 1) := by decide +kernel
theorem d_Mk_insert_101 : decode b_Mk_insert 101 = .ok (.isub, 1) := by decide +kernel
theorem d_Mk_insert_102 : decode b_Mk_insert 102 = .ok (.laload, 1) := by decide +kernel
theorem d_Mk_insert_103 : decode b_Mk_insert 103 = .ok (.lload 7, 2) := by decide +kernel
theorem d_Mk_insert_105 : decode b_Mk_insert 105 = .ok (.lmul, 1) := by decide +kernel
theorem d_Mk_insert_106 : decode b_Mk_insert 106 = .ok (.lload 5, 2) := by decide +kernel
theorem d_Mk_insert_108 : decode b_Mk_insert 108 = .ok (.aload_n 0, 1) := by decide +kernel
theorem d_Mk_insert_109 : decode b_Mk_insert 109 = .ok (.getfield 13, 3) := by decide +kernel
theorem d_Mk_insert_112 : decode b_Mk_insert 112 = .ok (.iload 9, 2) := by decide +kernel
theorem d_Mk_insert_114 : decode b_Mk_insert 114 = .ok (.iconst 1, 1) := by decide +kernel
theorem d_Mk_insert_115 : decode b_Mk_insert 115 = .ok (.isub, 1) := by decide +kernel
theorem d_Mk_insert_116 : decode b_Mk_insert 116 = .ok (.laload, 1) := by decide +kernel
theorem d_Mk_insert_117 : decode b_Mk_insert 117 = .ok (.lmul, 1) := by decide +kernel
theorem d_Mk_insert_118 : decode b_Mk_insert 118 = .ok (.lcmp, 1) := by decide +kernel
theorem d_Mk_insert_119 : decode b_Mk_insert 119 = .ok (.ifCond .ne 4, 3) := by decide +kernel
theorem d_Mk_insert_122 : decode b_Mk_insert 122 = .ok (.return_, 1) := by decide +kernel
theorem d_Mk_insert_123 : decode b_Mk_insert 123 = .ok (.aload_n 0, 1) := by decide +kernel
theorem d_Mk_insert_124 : decode b_Mk_insert 124 = .ok (.getfield 9, 3) := by decide +kernel
theorem d_Mk_insert_127 : decode b_Mk_insert 127 = .ok (.iload 9, 2) := by decide +kernel
theorem d_Mk_insert_129 : decode b_Mk_insert 129 = .ok (.aload_n 0, 1) := by decide +kernel
theorem d_Mk_insert_130 : decode b_Mk_insert 130 = .ok (.getfield 9, 3) := by decide +kernel
theorem d_Mk_insert_133 : decode b_Mk_insert 133 = .ok (.iload 9, 2) := by decide +kernel
theorem d_Mk_insert_135 : decode b_Mk_insert 135 = .ok (.iconst 1, 1) := by decide +kernel
theorem d_Mk_insert_136 : decode b_Mk_insert 136 = .ok (.iadd, 1) := by decide +kernel
theorem d_Mk_insert_137 : decode b_Mk_insert 137 = .ok (.aload_n 0, 1) := by decide +kernel
theorem d_Mk_insert_138 : decode b_Mk_insert 138 = .ok (.getfield 16, 3) := by decide +kernel
theorem d_Mk_insert_141 : decode b_Mk_insert 141 = .ok (.iload 9, 2) := by decide +kernel
theorem d_Mk_insert_143 : decode b_Mk_insert 143 = .ok (.isub, 1) := by decide +kernel
theorem d_Mk_insert_144 : decode b_Mk_insert 144 = .ok (.invokestatic 49, 3) := by decide +kernel
theorem d_Mk_insert_147 : decode b_Mk_insert 147 = .ok (.aload_n 0, 1) := by decide +kernel
theorem d_Mk_insert_148 : decode b_Mk_insert 148 = .ok (.getfield 13, 3) := by decide +kernel
theorem d_Mk_insert_151 : decode b_Mk_insert 151 = .ok (.iload 9, 2) := by decide +kernel
theorem d_Mk_insert_153 : decode b_Mk_insert 153 = .ok (.aload_n 0, 1) := by decide +kernel
theorem d_Mk_insert_154 : decode b_Mk_insert 154 = .ok (.getfield 13, 3) := by decide +kernel
theorem d_Mk_insert_157 : decode b_Mk_insert 157 = .ok (.iload 9, 2) := by decide +kernel
theorem d_Mk_insert_159 : decode b_Mk_insert 159 = .ok (.iconst 1, 1) := by decide +kernel
theorem d_Mk_insert_160 : decode b_Mk_insert 160 = .ok (.iadd, 1) := by decide +kernel
theorem d_Mk_insert_161 : decode b_Mk_insert 161 = .ok (.aload_n 0, 1) := by decide +kernel
theorem d_Mk_insert_162 : decode b_Mk_insert 162 = .ok (.getfield 16, 3) := by decide +kernel
theorem d_Mk_insert_165 : decode b_Mk_insert 165 = .ok (.iload 9, 2) := by decide +kernel
theorem d_Mk_insert_167 : decode b_Mk_insert 167 = .ok (.isub, 1) := by decide +kernel
theorem d_Mk_insert_168 : decode b_Mk_insert 168 = .ok (.invokestatic 49, 3) := by decide +kernel
theorem d_Mk_insert_171 : decode b_Mk_insert 171 = .ok (.aload_n 0, 1) := by decide +kernel
theorem d_Mk_insert_172 : decode b_Mk_insert 172 = .ok (.getfield 9, 3) := by decide +kernel
theorem d_Mk_insert_175 : decode b_Mk_insert 175 = .ok (.iload 9, 2) := by decide +kernel
theorem d_Mk_insert_177 : decode b_Mk_insert 177 = .ok (.lload 5, 2) := by decide +kernel
theorem d_Mk_insert_179 : decode b_Mk_insert 179 = .ok (.lastore, 1) := by decide +kernel
theorem d_Mk_insert_180 : decode b_Mk_insert 180 = .ok (.aload_n 0, 1) := by decide +kernel
theorem d_Mk_insert_181 : decode b_Mk_insert 181 = .ok (.getfield 13, 3) := by decide +kernel
theorem d_Mk_insert_184 : decode b_Mk_insert 184 = .ok (.iload 9, 2) := by decide +kernel
theorem d_Mk_insert_186 : decode b_Mk_insert 186 = .ok (.lload 7, 2) := by decide +kernel
theorem d_Mk_insert_188 : decode b_Mk_insert 188 = .ok (.lastore, 1) := by decide +kernel
theorem d_Mk_insert_189 : decode b_Mk_insert 189 = .ok (.aload_n 0, 1) := by decide +kernel
theorem d_Mk_insert_190 : decode b_Mk_insert 190 = .ok (.dup, 1) := by decide +kernel
theorem d_Mk_insert_191 : decode b_Mk_insert 191 = .ok (.getfield 16, 3) := by decide +kernel
theorem d_Mk_insert_194 : decode b_Mk_insert 194 = .ok (.iconst 1, 1) := by decide +kernel
theorem d_Mk_insert_195 : decode b_Mk_insert 195 = .ok (.iadd, 1) := by decide +kernel
theorem d_Mk_insert_196 : decode b_Mk_insert 196 = .ok (.putfield 16, 3) := by decide +kernel
theorem d_Mk_insert_199 : decode b_Mk_insert 199 = .ok (.return_, 1) := by decide +kernel
theorem d_Mk_markCrossing_0 : decode b_Mk_markCrossing 0 = .ok (.iconst 1, 1) := by decide +kernel
theorem d_Mk_markCrossing_1 : decode b_Mk_markCrossing 1 = .ok (.iload 4, 2) := by decide +kernel
theorem d_Mk_markCrossing_3 : decode b_Mk_markCrossing 3 = .ok (.isub, 1) := by decide +kernel
theorem d_Mk_markCrossing_4 : decode b_Mk_markCrossing 4 = .ok (.istore 5, 2) := by decide +kernel
theorem d_Mk_markCrossing_6 : decode b_Mk_markCrossing 6 = .ok (.aload_n 1, 1) := by decide +kernel
theorem d_Mk_markCrossing_7 : decode b_Mk_markCrossing 7 = .ok (.iload_n 2, 1) := by decide +kernel
theorem d_Mk_markCrossing_8 : decode b_Mk_markCrossing 8 = .ok (.iload 4, 2) := by decide +kernel
theorem d_Mk_markCrossing_10 : decode b_Mk_markCrossing 10 = .ok (.iadd, 1) := by decide +kernel
theorem d_Mk_markCrossing_11 : decode b_Mk_markCrossing 11 = .ok (.iaload, 1) := by decide +kernel
theorem d_Mk_markCrossing_12 : decode b_Mk_markCrossing 12 = .ok (.aload_n 1, 1) := by decide +kernel
theorem d_Mk_markCrossing_13 : decode b_Mk_markCrossing 13 = .ok (.iload_n 3, 1) := by decide +kernel
theorem d_Mk_markCrossing_14 : decode b_Mk_markCrossing 14 = .ok (.iload 5, 2) := by decide +kernel
theorem d_Mk_markCrossing_16 : decode b_Mk_markCrossing 16 = .ok (.iadd, 1) := by decide +kernel
theorem d_Mk_markCrossing_17 : decode b_Mk_markCrossing 17 = .ok (.iaload, 1) := by decide +kernel
theorem d_Mk_markCrossing_18 : decode b_Mk_markCrossing 18 = .ok (.imul, 1) := by decide +kernel
theorem d_Mk_markCrossing_19 : decode b_Mk_markCrossing 19 = .ok (.aload_n 1, 1) := by decide +kernel
theorem d_Mk_markCrossing_20 : decode b_Mk_markCrossing 20 = .ok (.iload_n 3, 1) := by decide +kernel
theorem d_Mk_markCrossing_21 : decode b_Mk_markCrossing 21 = .ok (.iload 4, 2) := by decide +kernel
theorem d_Mk_markCrossing_23 : decode b_Mk_markCrossing 23 = .ok (.iadd, 1) := by decide +kernel
theorem d_Mk_markCrossing_24 : decode b_Mk_markCrossing 24 = .ok (.iaload, 1) := by decide +kernel
theorem d_Mk_markCrossing_25 : decode b_Mk_markCrossing 25 = .ok (.aload_n 1, 1) := by decide +kernel
theorem d_Mk_markCrossing_26 : decode b_Mk_markCrossing 26 = .ok (.iload_n 2, 1) := by decide +kernel
theorem d_Mk_markCrossing_27 : decode b_Mk_markCrossing 27 = .ok (.iload 5, 2) := by decide +kernel
theorem d_Mk_markCrossing_29 : decode b_Mk_markCrossing 29 = .ok (.iadd, 1) := by decide +kernel
theorem d_Mk_markCrossing_30 : decode b_Mk_markCrossing 30 = .ok (.iaload, 1) := by decide +kernel
theorem d_Mk_markCrossing_31 : decode b_Mk_markCrossing 31 = .ok (.imul, 1) := by decide +kernel
theorem d_Mk_markCrossing_32 : decode b_Mk_markCrossing 32 = .ok (.isub, 1) := by decide +kernel
theorem d_Mk_markCrossing_33 : decode b_Mk_markCrossing 33 = .ok (.istore 6, 2) := by decide +kernel
theorem d_Mk_markCrossing_35 : decode b_Mk_markCrossing 35 = .ok (.aload_n 1, 1) := by decide +kernel
theorem d_Mk_markCrossing_36 : decode b_Mk_markCrossing 36 = .ok (.iload_n 2, 1) := by decide +kernel
theorem d_Mk_markCrossing_37 : decode b_Mk_markCrossing 37 = .ok (.iconst 2, 1) := by decide +kernel
theorem d_Mk_markCrossing_38 : decode b_Mk_markCrossing 38 = .ok (.iadd, 1) := by decide +kernel
theorem d_Mk_markCrossing_39 : decode b_Mk_markCrossing 39 = .ok (.iaload, 1) := by decide +kernel
theorem d_Mk_markCrossing_40 : decode b_Mk_markCrossing 40 = .ok (.aload_n 1, 1) := by decide +kernel
theorem d_Mk_markCrossing_41 : decode b_Mk_markCrossing 41 = .ok (.iload_n 3, 1) := by decide +kernel
theorem d_Mk_markCrossing_42 : decode b_Mk_markCrossing 42 = .ok (.iload 5, 2) := by decide +kernel
theorem d_Mk_markCrossing_44 : decode b_Mk_markCrossing 44 = .ok (.iadd, 1) := by decide +kernel
theorem d_Mk_markCrossing_45 : decode b_Mk_markCrossing 45 = .ok (.iaload, 1) := by decide +kernel
theorem d_Mk_markCrossing_46 : decode b_Mk_markCrossing 46 = .ok (.imul, 1) := by decide +kernel
theorem d_Mk_markCrossing_47 : decode b_Mk_markCrossing 47 = .ok (.aload_n 1, 1) := by decide +kernel
theorem d_Mk_markCrossing_48 : decode b_Mk_markCrossing 48 = .ok (.iload_n 3, 1) := by decide +kernel
theorem d_Mk_markCrossing_49 : decode b_Mk_markCrossing 49 = .ok (.iconst 2, 1) := by decide +kernel
theorem d_Mk_markCrossing_50 : decode b_Mk_markCrossing 50 = .ok (.iadd, 1) := by decide +kernel
theorem d_Mk_markCrossing_51 : decode b_Mk_markCrossing 51 = .ok (.iaload, 1) := by decide +kernel
theorem d_Mk_markCrossing_52 : decode b_Mk_markCrossing 52 = .ok (.aload_n 1, 1) := by decide +kernel
theorem d_Mk_markCrossing_53 : decode b_Mk_markCrossing 53 = .ok (.iload_n 2, 1) := by decide +kernel
theorem d_Mk_markCrossing_54 : decode b_Mk_markCrossing 54 = .ok (.iload 5, 2) := by decide +kernel
theorem d_Mk_markCrossing_56 : decode b_Mk_markCrossing 56 = .ok (.iadd, 1) := by decide +kernel
theorem d_Mk_markCrossing_57 : decode b_Mk_markCrossing 57 = .ok (.iaload, 1) := by decide +kernel
theorem d_Mk_markCrossing_58 : decode b_Mk_markCrossing 58 = .ok (.imul, 1) := by decide +kernel
theorem d_Mk_markCrossing_59 : decode b_Mk_markCrossing 59 = .ok (.isub, 1) := by decide +kernel
theorem d_Mk_markCrossing_60 : decode b_Mk_markCrossing 60 = .ok (.istore 7, 2) := by decide +kernel
theorem d_Mk_markCrossing_62 : decode b_Mk_markCrossing 62 = .ok (.aload_n 0, 1) := by decide +kernel
theorem d_Mk_markCrossing_63 : decode b_Mk_markCrossing 63 = .ok (.iload 7, 2) := by decide +kernel
theorem d_Mk_markCrossing_65 : decode b_Mk_markCrossing 65 = .ok (.ineg, 1) := by decide +kernel
theorem d_Mk_markCrossing_66 : decode b_Mk_markCrossing 66 = .ok (.i2l, 1) := by decide +kernel
theorem d_Mk_markCrossing_67 : decode b_Mk_markCrossing 67 = .ok (.iload 6, 2) := by decide +kernel
theorem d_Mk_markCrossing_69 : decode b_Mk_markCrossing 69 = .ok (.i2l, 1) := by decide +kernel
theorem d_Mk_markCrossing_70 : decode b_Mk_markCrossing 70 = .ok (.invokevirtual 45, 3) := by decide +kernel
theorem d_Mk_markCrossing_73 : decode b_Mk_markCrossing 73 = .ok (.return_, 1) := by decide +kernel
theorem d_Mk_stops_0 : decode b_Mk_stops 0 = .ok (.iconst 2, 1) := by decide +kernel
theorem d_Mk_stops_1 : decode b_Mk_stops 1 = .ok (.aload_n 0, 1) := by decide +kernel
theorem d_Mk_stops_2 : decode b_Mk_stops 2 = .ok (.getfield 16, 3) := by decide +kernel
theorem d_Mk_stops_5 : decode b_Mk_stops 5 = .ok (.imul, 1) := by decide +kernel
theorem d_Mk_stops_6 : decode b_Mk_stops 6 = .ok (.iconst 1, 1) := by decide +kernel
theorem d_Mk_stops_7 : decode b_Mk_stops 7 = .ok (.iadd, 1) := by decide +kernel
theorem d_Mk_stops_8 : decode b_Mk_stops 8 = .ok (.ireturn, 1) := by decide +kernel
theorem d_Mk_moveTo_0 : decode b_Mk_moveTo 0 = .ok (.iload_n 1, 1) := by decide +kernel
theorem d_Mk_moveTo_1 : decode b_Mk_moveTo 1 = .ok (.iconst 2, 1) := by decide +kernel
theorem d_Mk_moveTo_2 : decode b_Mk_moveTo 2 = .ok (.idiv, 1) := by decide +kernel
theorem d_Mk_moveTo_3 : decode b_Mk_moveTo 3 = .ok (.istore 4, 2) := by decide +kernel
theorem d_Mk_moveTo_5 : decode b_Mk_moveTo 5 = .ok (.aload_n 0, 1) := by decide +kernel
theorem d_Mk_moveTo_6 : decode b_Mk_moveTo 6 = .ok (.getfield 16, 3) := by decide +kernel
theorem d_Mk_moveTo_9 : decode b_Mk_moveTo 9 = .ok (.ifCond .ne 13, 3) := by decide +kernel
theorem d_Mk_moveTo_12 : decode b_Mk_moveTo 12 = .ok (.aload_n 3, 1) := by decide +kernel
theorem d_Mk_moveTo_13 : decode b_Mk_moveTo 13 = .ok (.iload_n 2, 1) := by decide +kernel
theorem d_Mk_moveTo_14 : decode b_Mk_moveTo 14 = .ok (.lconst 0, 1) := by decide +kernel
theorem d_Mk_moveTo_15 : decode b_Mk_moveTo 15 = .ok (.lconst 1, 1) := by decide +kernel
theorem d_Mk_moveTo_16 : decode b_Mk_moveTo 16 = .ok (.invokevirtual 55, 3) := by decide +kernel
theorem d_Mk_moveTo_19 : decode b_Mk_moveTo 19 = .ok (.goto 163, 3) := by decide +kernel
theorem d_Mk_moveTo_22 : decode b_Mk_moveTo 22 = .ok (.iload_n 1, 1) := by decide +kernel
theorem d_Mk_moveTo_23 : decode b_Mk_moveTo 23 = .ok (.iconst 2, 1) := by decide +kernel
theorem d_Mk_moveTo_24 : decode b_Mk_moveTo 24 = .ok (.irem, 1) := by decide +kernel
theorem d_Mk_moveTo_25 : decode b_Mk_moveTo 25 = .ok (.iconst 1, 1) := by decide +kernel
theorem d_Mk_moveTo_26 : decode b_Mk_moveTo 26 = .ok (.if_icmp .ne 34, 3) := by decide +kernel
theorem d_Mk_moveTo_29 : decode b_Mk_moveTo 29 = .ok (.iload 4, 2) := by decide +kernel
theorem d_Mk_moveTo_31 : decode b_Mk_moveTo 31 = .ok (.aload_n 0, 1) := by decide +kernel
theorem d_Mk_moveTo_32 : decode b_Mk_moveTo 32 = .ok (.getfield 16, 3) := by decide +kernel
theorem d_Mk_moveTo_35 : decode b_Mk_moveTo 35 = .ok (.if_icmp .ge 25, 3) := by decide +kernel
theorem d_Mk_moveTo_38 : decode b_Mk_moveTo 38 = .ok (.aload_n 3, 1) := by decide +kernel
theorem d_Mk_moveTo_39 : decode b_Mk_moveTo 39 = .ok (.iload_n 2, 1) := by decide +kernel
theorem d_Mk_moveTo_40 : decode b_Mk_moveTo 40 = .ok (.aload_n 0, 1) := by decide +kernel
theorem d_Mk_moveTo_41 : decode b_Mk_moveTo 41 = .ok (.getfield 9, 3) := by decide +kernel
theorem d_Mk_moveTo_44 : decode b_Mk_moveTo 44 = .ok (.iload 4, 2) := by decide +kernel
theorem d_Mk_moveTo_46 : decode b_Mk_moveTo 46 = .ok (.laload, 1) := by decide +kernel
theorem d_Mk_moveTo_47 : decode b_Mk_moveTo 47 = .ok (.aload_n 0, 1) := by decide +kernel
theorem d_Mk_moveTo_48 : decode b_Mk_moveTo 48 = .ok (.getfield 13, 3) := by decide +kernel
theorem d_Mk_moveTo_51 : decode b_Mk_moveTo 51 = .ok (.iload 4, 2) := by decide +kernel
theorem d_Mk_moveTo_53 : decode b_Mk_moveTo 53 = .ok (.laload, 1) := by decide +kernel
theorem d_Mk_moveTo_54 : decode b_Mk_moveTo 54 = .ok (.invokevirtual 55, 3) := by decide +kernel
theorem d_Mk_moveTo_57 : decode b_Mk_moveTo 57 = .ok (.goto 125, 3) := by decide +kernel
theorem d_Mk_moveTo_60 : decode b_Mk_moveTo 60 = .ok (.iload 4, 2) := by decide +kernel
theorem d_Mk_moveTo_62 : decode b_Mk_moveTo 62 = .ok (.ifCond .ne 30, 3) := by decide +kernel
theorem d_Mk_moveTo_65 : decode b_Mk_moveTo 65 = .ok (.aload_n 3, 1) := by decide +kernel
theorem d_Mk_moveTo_66 : decode b_Mk_moveTo 66 = .ok (.iload_n 2, 1) := by decide +kernel
theorem d_Mk_moveTo_67 : decode b_Mk_moveTo 67 = .ok (.aload_n 0, 1) := by decide +kernel
theorem d_Mk_moveTo_68 : decode b_Mk_moveTo 68 = .ok (.getfield 9, 3) := by decide +kernel
theorem d_Mk_moveTo_71 : decode b_Mk_moveTo 71 = .ok (.iconst 0, 1) := by decide +kernel
theorem d_Mk_moveTo_72 : decode b_Mk_moveTo 72 = .ok (.laload, 1) := by decide +kernel
theorem d_Mk_moveTo_73 : decode b_Mk_moveTo 73 = .ok (.aload_n 0, 1) := by decide +kernel
theorem d_Mk_moveTo_74 : decode b_Mk_moveTo 74 = .ok (.getfield 13, 3) := by decide +kernel
theorem d_Mk_moveTo_77 : decode b_Mk_moveTo 77 = .ok (.iconst 0, 1) := by decide +kernel
theorem d_Mk_moveTo_78 : decode b_Mk_moveTo 78 = .ok (.laload, 1) := by decide +kernel
theorem d_Mk_moveTo_79 : decode b_Mk_moveTo 79 = .ok (.lsub, 1) := by decide +kernel
theorem d_Mk_moveTo_80 : decode b_Mk_moveTo 80 = .ok (.aload_n 0, 1) := by decide +kernel
theorem d_Mk_moveTo_81 : decode b_Mk_moveTo 81 = .ok (.getfield 13, 3) := by decide +kernel
theorem d_Mk_moveTo_84 : decode b_Mk_moveTo 84 = .ok (.iconst 0, 1) := by decide +kernel
theorem d_Mk_moveTo_85 : decode b_Mk_moveTo 85 = .ok (.laload, 1) := by decide +kernel
theorem d_Mk_moveTo_86 : decode b_Mk_moveTo 86 = .ok (.invokevirtual 55, 3) := by decide +kernel
theorem d_Mk_moveTo_89 : decode b_Mk_moveTo 89 = .ok (.goto 93, 3) := by decide +kernel
theorem d_Mk_moveTo_92 : decode b_Mk_moveTo 92 = .ok (.iload 4, 2) := by decide +kernel
theorem d_Mk_moveTo_94 : decode b_Mk_moveTo 94 = .ok (.aload_n 0, 1) := by decide +kernel
theorem d_Mk_moveTo_95 : decode b_Mk_moveTo 95 = .ok (.getfield 16, 3) := by decide +kernel
theorem d_Mk_moveTo_98 : decode b_Mk_moveTo 98 = .ok (.if_icmp .lt 45, 3) := by decide +kernel
theorem d_Mk_moveTo_101 : decode b_Mk_moveTo 101 = .ok (.aload_n 3, 1) := by decide +kernel
theorem d_Mk_moveTo_102 : decode b_Mk_moveTo 102 = .ok (.iload_n 2, 1) := by decide +kernel
theorem d_Mk_moveTo_103 : decode b_Mk_moveTo 103 = .ok (.aload_n 0, 1) := by decide +kernel
theorem d_Mk_moveTo_104 : decode b_Mk_moveTo 104 = .ok (.getfield 9, 3) := by decide +kernel
theorem d_Mk_moveTo_107 : decode b_Mk_moveTo 107 = .ok (.aload_n 0, 1) := by decide +kernel
theorem d_Mk_moveTo_108 : decode b_Mk_moveTo 108 = .ok (.getfield 16, 3) := by decide +kernel
theorem d_Mk_moveTo_111 : decode b_Mk_moveTo 111 = .ok (.iconst 1, 1) := by decide +kernel
theorem d_Mk_moveTo_112 : decode b_Mk_moveTo 112 = .ok (.isub, 1) := by decide +kernel
theorem d_Mk_moveTo_113 : decode b_Mk_moveTo 113 = .ok (.laload, 1) := by decide +kernel
theorem d_Mk_moveTo_114 : decode b_Mk_moveTo 114 = .ok (.aload_n 0, 1) := by decide +kernel
theorem d_Mk_moveTo_115 : decode b_Mk_moveTo 115 = .ok (.getfield 13, 3) := by decide +kernel
theorem d_Mk_moveTo_118 : decode b_Mk_moveTo 118 = .ok (.aload_n 0, 1) := by decide +kernel
theorem d_Mk_moveTo_119 : decode b_Mk_moveTo 119 = .ok (.getfield 16, 3) := by decide +kernel
theorem d_Mk_moveTo_122 : decode b_Mk_moveTo 122 = .ok (.iconst 1, 1) := by decide +kernel
theorem d_Mk_moveTo_123 : decode b_Mk_moveTo 123 = .ok (.isub, 1) := by decide +kernel
theorem d_Mk_moveTo_124 : decode b_Mk_moveTo 124 = .ok (.laload, 1) := by decide +kernel
theorem d_Mk_moveTo_125 : decode b_Mk_moveTo 125 = .ok (.ladd, 1) := by decide +kernel
theorem d_Mk_moveTo_126 : decode b_Mk_moveTo 126 = .ok (.aload_n 0, 1) := by decide +kernel
theorem d_Mk_moveTo_127 : decode b_Mk_moveTo 127 = .ok (.getfield 13, 3) := by decide +kernel
theorem d_Mk_moveTo_130 : decode b_Mk_moveTo 130 = .ok (.aload_n 0, 1) := by decide +kernel
theorem d_Mk_moveTo_131 : decode b_Mk_moveTo 131 = .ok (.getfield 16, 3) := by decide +kernel
theorem d_Mk_moveTo_134 : decode b_Mk_moveTo 134 = .ok (.iconst 1, 1) := by decide +kernel
theorem d_Mk_moveTo_135 : decode b_Mk_moveTo 135 = .ok (.isub, 1) := by decide +kernel
theorem d_Mk_moveTo_136 : decode b_Mk_moveTo 136 = .ok (.laload, 1) := by decide +kernel
theorem d_Mk_moveTo_137 : decode b_Mk_moveTo 137 = .ok (.invokevirtual 55, 3) := by decide +kernel
theorem d_Mk_moveTo_140 : decode b_Mk_moveTo 140 = .ok (.goto 42, 3) := by decide +kernel
theorem d_Mk_moveTo_143 : decode b_Mk_moveTo 143 = .ok (.aload_n 3, 1) := by decide +kernel
theorem d_Mk_moveTo_144 : decode b_Mk_moveTo 144 = .ok (.iload_n 2, 1) := by decide +kernel
theorem d_Mk_moveTo_145 : decode b_Mk_moveTo 145 = .ok (.aload_n 0, 1) := by decide +kernel
theorem d_Mk_moveTo_146 : decode b_Mk_moveTo 146 = .ok (.getfield 9, 3) := by decide +kernel
theorem d_Mk_moveTo_149 : decode b_Mk_moveTo 149 = .ok (.iload 4, 2) := by decide +kernel
theorem d_Mk_moveTo_151 : decode b_Mk_moveTo 151 = .ok (.iconst 1, 1) := by decide +kernel
theorem d_Mk_moveTo_152 : decode b_Mk_moveTo 152 = .ok (.isub, 1) := by decide +kernel
theorem d_Mk_moveTo_153 : decode b_Mk_moveTo 153 = .ok (.laload, 1) := by decide +kernel
theorem d_Mk_moveTo_154 : decode b_Mk_moveTo 154 = .ok (.aload_n 0, 1) := by decide +kernel
theorem d_Mk_moveTo_155 : decode b_Mk_moveTo 155 = .ok (.getfield 9, 3) := by decide +kernel
theorem d_Mk_moveTo_158 : decode b_Mk_moveTo 158 = .ok (.iload 4, 2) := by decide +kernel
theorem d_Mk_moveTo_160 : decode b_Mk_moveTo 160 = .ok (.laload, 1) := by decide +kernel
theorem d_Mk_moveTo_161 : decode b_Mk_moveTo 161 = .ok (.ladd, 1) := by decide +kernel
theorem d_Mk_moveTo_162 : decode b_Mk_moveTo 162 = .ok (.aload_n 0, 1) := by decide +kernel
theorem d_Mk_moveTo_163 : decode b_Mk_moveTo 163 = .ok (.getfield 13, 3) := by decide +kernel
theorem d_Mk_moveTo_166 : decode b_Mk_moveTo 166 = .ok (.iload 4, 2) := by decide +kernel
theorem d_Mk_moveTo_168 : decode b_Mk_moveTo 168 = .ok (.iconst 1, 1) := by decide +kernel
theorem d_Mk_moveTo_169 : decode b_Mk_moveTo 169 = .ok (.isub, 1) := by decide +kernel
theorem d_Mk_moveTo_170 : decode b_Mk_moveTo 170 = .ok (.laload, 1) := by decide +kernel
theorem d_Mk_moveTo_171 : decode b_Mk_moveTo 171 = .ok (.aload_n 0, 1) := by decide +kernel
theorem d_Mk_moveTo_172 : decode b_Mk_moveTo 172 = .ok (.getfield 13, 3) := by decide +kernel
theorem d_Mk_moveTo_175 : decode b_Mk_moveTo 175 = .ok (.iload 4, 2) := by decide +kernel
theorem d_Mk_moveTo_177 : decode b_Mk_moveTo 177 = .ok (.laload, 1) := by decide +kernel
theorem d_Mk_moveTo_178 : decode b_Mk_moveTo 178 = .ok (.ladd, 1) := by decide +kernel
theorem d_Mk_moveTo_179 : decode b_Mk_moveTo 179 = .ok (.invokevirtual 55, 3) := by decide +kernel
theorem d_Mk_moveTo_182 : decode b_Mk_moveTo 182 = .ok (.return_, 1) := by decide +kernel
theorem d_Mk_lowestAbove_0 : decode b_Mk_lowestAbove 0 = .ok (.aload_n 0, 1) := by decide +kernel
theorem d_Mk_lowestAbove_1 : decode b_Mk_lowestAbove 1 = .ok (.getfield 9, 3) := by decide +kernel
theorem d_Mk_lowestAbove_4 : decode b_Mk_lowestAbove 4 = .ok (.iload_n 1, 1) := by decide +kernel
theorem d_Mk_lowestAbove_5 : decode b_Mk_lowestAbove 5 = .ok (.laload, 1) := by decide +kernel
theorem d_Mk_lowestAbove_6 : decode b_Mk_lowestAbove 6 = .ok (.aload_n 0, 1) := by decide +kernel
theorem d_Mk_lowestAbove_7 : decode b_Mk_lowestAbove 7 = .ok (.iload_n 1, 1) := by decide +kernel
theorem d_Mk_lowestAbove_8 : decode b_Mk_lowestAbove 8 = .ok (.invokevirtual 59, 3) := by decide +kernel
theorem d_Mk_lowestAbove_11 : decode b_Mk_lowestAbove 11 = .ok (.ldiv, 1) := by decide +kernel
theorem d_Mk_lowestAbove_12 : decode b_Mk_lowestAbove 12 = .ok (.lreturn, 1) := by decide +kernel
theorem d_Mk_divisorOf_0 : decode b_Mk_divisorOf 0 = .ok (.aload_n 0, 1) := by decide +kernel
theorem d_Mk_divisorOf_1 : decode b_Mk_divisorOf 1 = .ok (.getfield 13, 3) := by decide +kernel
theorem d_Mk_divisorOf_4 : decode b_Mk_divisorOf 4 = .ok (.iload_n 1, 1) := by decide +kernel
theorem d_Mk_divisorOf_5 : decode b_Mk_divisorOf 5 = .ok (.laload, 1) := by decide +kernel
theorem d_Mk_divisorOf_6 : decode b_Mk_divisorOf 6 = .ok (.lstore_n 2, 1) := by decide +kernel
theorem d_Mk_divisorOf_7 : decode b_Mk_divisorOf 7 = .ok (.aload_n 0, 1) := by decide +kernel
theorem d_Mk_divisorOf_8 : decode b_Mk_divisorOf 8 = .ok (.getfield 9, 3) := by decide +kernel
theorem d_Mk_divisorOf_11 : decode b_Mk_divisorOf 11 = .ok (.iload_n 1, 1) := by decide +kernel
theorem d_Mk_divisorOf_12 : decode b_Mk_divisorOf 12 = .ok (.laload, 1) := by decide +kernel
theorem d_Mk_divisorOf_13 : decode b_Mk_divisorOf 13 = .ok (.invokestatic 63, 3) := by decide +kernel
theorem d_Mk_divisorOf_16 : decode b_Mk_divisorOf 16 = .ok (.lstore 4, 2) := by decide +kernel
theorem d_Mk_divisorOf_18 : decode b_Mk_divisorOf 18 = .ok (.iconst 0, 1) := by decide +kernel
theorem d_Mk_divisorOf_19 : decode b_Mk_divisorOf 19 = .ok (.istore 6, 2) := by decide +kernel
theorem d_Mk_divisorOf_21 : decode b_Mk_divisorOf 21 = .ok (.iload 6, 2) := by decide +kernel
theorem d_Mk_divisorOf_23 : decode b_Mk_divisorOf 23 = .ok (.bipush 100, 2) := by decide +kernel
theorem d_Mk_divisorOf_25 : decode b_Mk_divisorOf 25 = .ok (.if_icmp .ge 29, 3) := by decide +kernel
theorem d_Mk_divisorOf_28 : decode b_Mk_divisorOf 28 = .ok (.lload 4, 2) := by decide +kernel
theorem d_Mk_divisorOf_30 : decode b_Mk_divisorOf 30 = .ok (.lconst 0, 1) := by decide +kernel
theorem d_Mk_divisorOf_31 : decode b_Mk_divisorOf 31 = .ok (.lcmp, 1) := by decide +kernel
theorem d_Mk_divisorOf_32 : decode b_Mk_divisorOf 32 = .ok (.ifCond .eq 22, 3) := by decide +kernel
theorem d_Mk_divisorOf_35 : decode b_Mk_divisorOf 35 = .ok (.lload_n 2, 1) := by decide +kernel
theorem d_Mk_divisorOf_36 : decode b_Mk_divisorOf 36 = .ok (.lload 4, 2) := by decide +kernel
theorem d_Mk_divisorOf_38 : decode b_Mk_divisorOf 38 = .ok (.lrem, 1) := by decide +kernel
theorem d_Mk_divisorOf_39 : decode b_Mk_divisorOf 39 = .ok (.lstore 7, 2) := by decide +kernel
theorem d_Mk_divisorOf_41 : decode b_Mk_divisorOf 41 = .ok (.lload 4, 2) := by decide +kernel
theorem d_Mk_divisorOf_43 : decode b_Mk_divisorOf 43 = .ok (.lstore_n 2, 1) := by decide +kernel
theorem d_Mk_divisorOf_44 : decode b_Mk_divisorOf 44 = .ok (.lload 7, 2) := by decide +kernel
theorem d_Mk_divisorOf_46 : decode b_Mk_divisorOf 46 = .ok (.lstore 4, 2) := by decide +kernel
theorem d_Mk_divisorOf_48 : decode b_Mk_divisorOf 48 = .ok (.iinc 6 1, 3) := by decide +kernel
theorem d_Mk_divisorOf_51 : decode b_Mk_divisorOf 51 = .ok (.goto (-30), 3) := by decide +kernel
theorem d_Mk_divisorOf_54 : decode b_Mk_divisorOf 54 = .ok (.lload_n 2, 1) := by decide +kernel
theorem d_Mk_divisorOf_55 : decode b_Mk_divisorOf 55 = .ok (.lconst 1, 1) := by decide +kernel
theorem d_Mk_divisorOf_56 : decode b_Mk_divisorOf 56 = .ok (.invokestatic 69, 3) := by decide +kernel
theorem d_Mk_divisorOf_59 : decode b_Mk_divisorOf 59 = .ok (.lreturn, 1) := by decide +kernel
theorem d_Mk_lowestBelow_0 : decode b_Mk_lowestBelow 0 = .ok (.aload_n 0, 1) := by decide +kernel
theorem d_Mk_lowestBelow_1 : decode b_Mk_lowestBelow 1 = .ok (.getfield 13, 3) := by decide +kernel
theorem d_Mk_lowestBelow_4 : decode b_Mk_lowestBelow 4 = .ok (.iload_n 1, 1) := by decide +kernel
theorem d_Mk_lowestBelow_5 : decode b_Mk_lowestBelow 5 = .ok (.laload, 1) := by decide +kernel
theorem d_Mk_lowestBelow_6 : decode b_Mk_lowestBelow 6 = .ok (.aload_n 0, 1) := by decide +kernel
theorem d_Mk_lowestBelow_7 : decode b_Mk_lowestBelow 7 = .ok (.iload_n 1, 1) := by decide +kernel
theorem d_Mk_lowestBelow_8 : decode b_Mk_lowestBelow 8 = .ok (.invokevirtual 59, 3) := by decide +kernel
theorem d_Mk_lowestBelow_11 : decode b_Mk_lowestBelow 11 = .ok (.ldiv, 1) := by decide +kernel
theorem d_Mk_lowestBelow_12 : decode b_Mk_lowestBelow 12 = .ok (.lreturn, 1) := by decide +kernel
theorem d_Nd_grid_0 : decode b_Nd_grid 0 = .ok (.aload_n 0, 1) := by decide +kernel
theorem d_Nd_grid_1 : decode b_Nd_grid 1 = .ok (.getfield 22, 3) := by decide +kernel
theorem d_Nd_grid_4 : decode b_Nd_grid 4 = .ok (.iconst (-1), 1) := by decide +kernel
theorem d_Nd_grid_5 : decode b_Nd_grid 5 = .ok (.if_icmp .ne 12, 3) := by decide +kernel
theorem d_Nd_grid_8 : decode b_Nd_grid 8 = .ok (.aload_n 0, 1) := by decide +kernel
theorem d_Nd_grid_9 : decode b_Nd_grid 9 = .ok (.aload_n 0, 1) := by decide +kernel
theorem d_Nd_grid_10 : decode b_Nd_grid 10 = .ok (.aload_n 1, 1) := by decide +kernel
theorem d_Nd_grid_11 : decode b_Nd_grid 11 = .ok (.invokevirtual 30, 3) := by decide +kernel
theorem d_Nd_grid_14 : decode b_Nd_grid 14 = .ok (.putfield 22, 3) := by decide +kernel
theorem d_Nd_grid_17 : decode b_Nd_grid 17 = .ok (.aload_n 0, 1) := by decide +kernel
theorem d_Nd_grid_18 : decode b_Nd_grid 18 = .ok (.getfield 22, 3) := by decide +kernel
theorem d_Nd_grid_21 : decode b_Nd_grid 21 = .ok (.ireturn, 1) := by decide +kernel
theorem d_Nd_findGrid_0 : decode b_Nd_findGrid 0 = .ok (.iconst 0, 1) := by decide +kernel
theorem d_Nd_findGrid_1 : decode b_Nd_findGrid 1 = .ok (.istore_n 2, 1) := by decide +kernel
theorem d_Nd_findGrid_2 : decode b_Nd_findGrid 2 = .ok (.iconst 0, 1) := by decide +kernel
theorem d_Nd_findGrid_3 : decode b_Nd_findGrid 3 = .ok (.istore_n 3, 1) := by decide +kernel
theorem d_Nd_findGrid_4 : decode b_Nd_findGrid 4 = .ok (.iload_n 3, 1) := by decide +kernel
theorem d_Nd_findGrid_5 : decode b_Nd_findGrid 5 = .ok (.bipush 25, 2) := by decide +kernel
theorem d_Nd_findGrid_7 : decode b_Nd_findGrid 7 = .ok (.if_icmp .ge 110, 3) := by decide +kernel
theorem d_Nd_findGrid_10 : decode b_Nd_findGrid 10 = .ok (.iload_n 3, 1) := by decide +kernel
theorem d_Nd_findGrid_11 : decode b_Nd_findGrid 11 = .ok (.iconst 5, 1) := by decide +kernel
theorem d_Nd_findGrid_12 : decode b_Nd_findGrid 12 = .ok (.idiv, 1) := by decide +kernel
theorem d_Nd_findGrid_13 : decode b_Nd_findGrid 13 = .ok (.istore 4, 2) := by decide +kernel
theorem d_Nd_findGrid_15 : decode b_Nd_findGrid 15 = .ok (.iload_n 3, 1) := by decide +kernel
theorem d_Nd_findGrid_16 : decode b_Nd_findGrid 16 = .ok (.iconst 5, 1) := by decide +kernel
theorem d_Nd_findGrid_17 : decode b_Nd_findGrid 17 = .ok (.irem, 1) := by decide +kernel
theorem d_Nd_findGrid_18 : decode b_Nd_findGrid 18 = .ok (.istore 5, 2) := by decide +kernel
theorem d_Nd_findGrid_20 : decode b_Nd_findGrid 20 = .ok (.aload_n 0, 1) := by decide +kernel
theorem d_Nd_findGrid_21 : decode b_Nd_findGrid 21 = .ok (.iconst 0, 1) := by decide +kernel
theorem d_Nd_findGrid_22 : decode b_Nd_findGrid 22 = .ok (.invokevirtual 34, 3) := by decide +kernel
theorem d_Nd_findGrid_25 : decode b_Nd_findGrid 25 = .ok (.ifCond .eq 8, 3) := by decide +kernel
theorem d_Nd_findGrid_28 : decode b_Nd_findGrid 28 = .ok (.iload 4, 2) := by decide +kernel
theorem d_Nd_findGrid_30 : decode b_Nd_findGrid 30 = .ok (.goto 4, 3) := by decide +kernel
theorem d_Nd_findGrid_33 : decode b_Nd_findGrid 33 = .ok (.iconst 0, 1) := by decide +kernel
theorem d_Nd_findGrid_34 : decode b_Nd_findGrid 34 = .ok (.iconst 5, 1) := by decide +kernel
theorem d_Nd_findGrid_35 : decode b_Nd_findGrid 35 = .ok (.imul, 1) := by decide +kernel
theorem d_Nd_findGrid_36 : decode b_Nd_findGrid 36 = .ok (.aload_n 0, 1) := by decide +kernel
theorem d_Nd_findGrid_37 : decode b_Nd_findGrid 37 = .ok (.iconst 1, 1) := by decide +kernel
theorem d_Nd_findGrid_38 : decode b_Nd_findGrid 38 = .ok (.invokevirtual 34, 3) := by decide +kernel
theorem d_Nd_findGrid_41 : decode b_Nd_findGrid 41 = .ok (.ifCond .eq 8, 3) := by decide +kernel
theorem d_Nd_findGrid_44 : decode b_Nd_findGrid 44 = .ok (.iload 5, 2) := by decide +kernel
theorem d_Nd_findGrid_46 : decode b_Nd_findGrid 46 = .ok (.goto 4, 3) := by decide +kernel
theorem d_Nd_findGrid_49 : decode b_Nd_findGrid 49 = .ok (.iconst 0, 1) := by decide +kernel
theorem d_Nd_findGrid_50 : decode b_Nd_findGrid 50 = .ok (.iadd, 1) := by decide +kernel
theorem d_Nd_findGrid_51 : decode b_Nd_findGrid 51 = .ok (.istore 6, 2) := by decide +kernel
theorem d_Nd_findGrid_53 : decode b_Nd_findGrid 53 = .ok (.iload 6, 2) := by decide +kernel
theorem d_Nd_findGrid_55 : decode b_Nd_findGrid 55 = .ok (.iload_n 3, 1) := by decide +kernel
theorem d_Nd_findGrid_56 : decode b_Nd_findGrid 56 = .ok (.if_icmp .ge 23, 3) := by decide +kernel
theorem d_Nd_findGrid_59 : decode b_Nd_findGrid 59 = .ok (.iload_n 2, 1) := by decide +kernel
theorem d_Nd_findGrid_60 : decode b_Nd_findGrid 60 = .ok (.iload 6, 2) := by decide +kernel
theorem d_Nd_findGrid_62 : decode b_Nd_findGrid 62 = .ok (.ishr, 1) := by decide +kernel
theorem d_Nd_findGrid_63 : decode b_Nd_findGrid 63 = .ok (.iconst 1, 1) := by decide +kernel
theorem d_Nd_findGrid_64 : decode b_Nd_findGrid 64 = .ok (.iand, 1) := by decide +kernel
theorem d_Nd_findGrid_65 : decode b_Nd_findGrid 65 = .ok (.iconst 1, 1) := by decide +kernel
theorem d_Nd_findGrid_66 : decode b_Nd_findGrid 66 = .ok (.if_icmp .ne 7, 3) := by decide +kernel
theorem d_Nd_findGrid_69 : decode b_Nd_findGrid 69 = .ok (.iconst 1, 1) := by decide +kernel
theorem d_Nd_findGrid_70 : decode b_Nd_findGrid 70 = .ok (.goto 4, 3) := by decide +kernel
theorem d_Nd_findGrid_73 : decode b_Nd_findGrid 73 = .ok (.iconst 0, 1) := by decide +kernel
theorem d_Nd_findGrid_74 : decode b_Nd_findGrid 74 = .ok (.istore 7, 2) := by decide +kernel
theorem d_Nd_findGrid_76 : decode b_Nd_findGrid 76 = .ok (.goto 24, 3) := by decide +kernel
theorem d_Nd_findGrid_79 : decode b_Nd_findGrid 79 = .ok (.aload_n 1, 1) := by decide +kernel
theorem d_Nd_findGrid_80 : decode b_Nd_findGrid 80 = .ok (.iload 4, 2) := by decide +kernel
theorem d_Nd_findGrid_82 : decode b_Nd_findGrid 82 = .ok (.bipush (-2), 2) := by decide +kernel
theorem d_Nd_findGrid_84 : decode b_Nd_findGrid 84 = .ok (.iadd, 1) := by decide +kernel
theorem d_Nd_findGrid_85 : decode b_Nd_findGrid 85 = .ok (.iload 5, 2) := by decide +kernel
theorem d_Nd_findGrid_87 : decode b_Nd_findGrid 87 = .ok (.bipush (-2), 2) := by decide +kernel
theorem d_Nd_findGrid_89 : decode b_Nd_findGrid 89 = .ok (.iadd, 1) := by decide +kernel
theorem d_Nd_findGrid_90 : decode b_Nd_findGrid 90 = .ok (.invokevirtual 38, 3) := by decide +kernel
theorem d_Nd_findGrid_93 : decode b_Nd_findGrid 93 = .ok (.aload_n 0, 1) := by decide +kernel
theorem d_Nd_findGrid_94 : decode b_Nd_findGrid 94 = .ok (.aload_n 1, 1) := by decide +kernel
theorem d_Nd_findGrid_95 : decode b_Nd_findGrid 95 = .ok (.invokevirtual 44, 3) := by decide +kernel
theorem d_Nd_findGrid_98 : decode b_Nd_findGrid 98 = .ok (.istore 7, 2) := by decide +kernel
theorem d_Nd_findGrid_100 : decode b_Nd_findGrid 100 = .ok (.iload 7, 2) := by decide +kernel
theorem d_Nd_findGrid_102 : decode b_Nd_findGrid 102 = .ok (.ifCond .eq 9, 3) := by decide +kernel
theorem d_Nd_findGrid_105 : decode b_Nd_findGrid 105 = .ok (.iload_n 2, 1) := by decide +kernel
theorem d_Nd_findGrid_106 : decode b_Nd_findGrid 106 = .ok (.iconst 1, 1) := by decide +kernel
theorem d_Nd_findGrid_107 : decode b_Nd_findGrid 107 = .ok (.iload_n 3, 1) := by decide +kernel
theorem d_Nd_findGrid_108 : decode b_Nd_findGrid 108 = .ok (.ishl, 1) := by decide +kernel
theorem d_Nd_findGrid_109 : decode b_Nd_findGrid 109 = .ok (.ior, 1) := by decide +kernel
theorem d_Nd_findGrid_110 : decode b_Nd_findGrid 110 = .ok (.istore_n 2, 1) := by decide +kernel
theorem d_Nd_findGrid_111 : decode b_Nd_findGrid 111 = .ok (.iinc 3 1, 3) := by decide +kernel
theorem d_Nd_findGrid_114 : decode b_Nd_findGrid 114 = .ok (.goto (-110), 3) := by decide +kernel
theorem d_Nd_findGrid_117 : decode b_Nd_findGrid 117 = .ok (.iload_n 2, 1) := by decide +kernel
theorem d_Nd_findGrid_118 : decode b_Nd_findGrid 118 = .ok (.ireturn, 1) := by decide +kernel
end
section
theorem d_Qo_init_0 : decode b_Qo_init 0 = .ok (.aload_n 0, 1) := by decide +kernel
theorem d_Qo_init_1 : decode b_Qo_init 1 = .ok (.invokespecial 3, 3) := by decide +kernel
theorem d_Qo_init_4 : decode b_Qo_init 4 = .ok (.aload_n 0, 1) := by decide +kernel
theorem d_Qo_init_5 : decode b_Qo_init 5 = .ok (.bipush 60, 2) := by decide +kernel
theorem d_Qo_init_7 : decode b_Qo_init 7 = .ok (.anewarray 9, 3) := by decide +kernel
theorem d_Qo_init_10 : decode b_Qo_init 10 = .ok (.putfield 11, 3) := by decide +kernel
theorem d_Qo_init_13 : decode b_Qo_init 13 = .ok (.aload_n 0, 1) := by decide +kernel
theorem d_Qo_init_14 : decode b_Qo_init 14 = .ok (.new 15, 3) := by decide +kernel
theorem d_Qo_init_17 : decode b_Qo_init 17 = .ok (.dup, 1) := by decide +kernel
theorem d_Qo_init_18 : decode b_Qo_init 18 = .ok (.invokespecial 17, 3) := by decide +kernel
theorem d_Qo_init_21 : decode b_Qo_init 21 = .ok (.putfield 18, 3) := by decide +kernel
theorem d_Qo_init_24 : decode b_Qo_init 24 = .ok (.aload_n 0, 1) := by decide +kernel
theorem d_Qo_init_25 : decode b_Qo_init 25 = .ok (.new 22, 3) := by decide +kernel
theorem d_Qo_init_28 : decode b_Qo_init 28 = .ok (.dup, 1) := by decide +kernel
theorem d_Qo_init_29 : decode b_Qo_init 29 = .ok (.invokespecial 24, 3) := by decide +kernel
theorem d_Qo_init_32 : decode b_Qo_init 32 = .ok (.putfield 25, 3) := by decide +kernel
theorem d_Qo_init_35 : decode b_Qo_init 35 = .ok (.aload_n 0, 1) := by decide +kernel
theorem d_Qo_init_36 : decode b_Qo_init 36 = .ok (.iconst 0, 1) := by decide +kernel
theorem d_Qo_init_37 : decode b_Qo_init 37 = .ok (.putfield 29, 3) := by decide +kernel
theorem d_Qo_init_40 : decode b_Qo_init 40 = .ok (.return_, 1) := by decide +kernel
theorem d_Pc_init_0 : decode b_Pc_init 0 = .ok (.aload_n 0, 1) := by decide +kernel
theorem d_Pc_init_1 : decode b_Pc_init 1 = .ok (.invokespecial 5, 3) := by decide +kernel
theorem d_Pc_init_4 : decode b_Pc_init 4 = .ok (.aload_n 0, 1) := by decide +kernel
theorem d_Pc_init_5 : decode b_Pc_init 5 = .ok (.new 1, 3) := by decide +kernel
theorem d_Pc_init_8 : decode b_Pc_init 8 = .ok (.dup, 1) := by decide +kernel
theorem d_Pc_init_9 : decode b_Pc_init 9 = .ok (.invokespecial 11, 3) := by decide +kernel
theorem d_Pc_init_12 : decode b_Pc_init 12 = .ok (.putfield 12, 3) := by decide +kernel
theorem d_Pc_init_15 : decode b_Pc_init 15 = .ok (.aload_n 0, 1) := by decide +kernel
theorem d_Pc_init_16 : decode b_Pc_init 16 = .ok (.bipush 22, 2) := by decide +kernel
theorem d_Pc_init_18 : decode b_Pc_init 18 = .ok (.newarray .int, 2) := by decide +kernel
theorem d_Pc_init_20 : decode b_Pc_init 20 = .ok (.putfield 18, 3) := by decide +kernel
theorem d_Pc_init_23 : decode b_Pc_init 23 = .ok (.aload_n 0, 1) := by decide +kernel
theorem d_Pc_init_24 : decode b_Pc_init 24 = .ok (.bipush 22, 2) := by decide +kernel
theorem d_Pc_init_26 : decode b_Pc_init 26 = .ok (.newarray .int, 2) := by decide +kernel
theorem d_Pc_init_28 : decode b_Pc_init 28 = .ok (.putfield 22, 3) := by decide +kernel
theorem d_Pc_init_31 : decode b_Pc_init 31 = .ok (.aload_n 0, 1) := by decide +kernel
theorem d_Pc_init_32 : decode b_Pc_init 32 = .ok (.iconst 0, 1) := by decide +kernel
theorem d_Pc_init_33 : decode b_Pc_init 33 = .ok (.putfield 25, 3) := by decide +kernel
theorem d_Pc_init_36 : decode b_Pc_init 36 = .ok (.aload_n 0, 1) := by decide +kernel
theorem d_Pc_init_37 : decode b_Pc_init 37 = .ok (.aconst_null, 1) := by decide +kernel
theorem d_Pc_init_38 : decode b_Pc_init 38 = .ok (.putfield 29, 3) := by decide +kernel
theorem d_Pc_init_41 : decode b_Pc_init 41 = .ok (.return_, 1) := by decide +kernel
theorem d_Qo_count_0 : decode b_Qo_count 0 = .ok (.aload_n 0, 1) := by decide +kernel
theorem d_Qo_count_1 : decode b_Qo_count 1 = .ok (.getfield 29, 3) := by decide +kernel
theorem d_Qo_count_4 : decode b_Qo_count 4 = .ok (.ireturn, 1) := by decide +kernel
theorem d_Qo_atom_0 : decode b_Qo_atom 0 = .ok (.aload_n 0, 1) := by decide +kernel
theorem d_Qo_atom_1 : decode b_Qo_atom 1 = .ok (.invokevirtual 33, 3) := by decide +kernel
theorem d_Qo_atom_4 : decode b_Qo_atom 4 = .ok (.iload_n 1, 1) := by decide +kernel
theorem d_Qo_atom_5 : decode b_Qo_atom 5 = .ok (.invokestatic 36, 3) := by decide +kernel
theorem d_Qo_atom_8 : decode b_Qo_atom 8 = .ok (.ifCond .eq 17, 3) := by decide +kernel
theorem d_Qo_atom_11 : decode b_Qo_atom 11 = .ok (.iload_n 2, 1) := by decide +kernel
theorem d_Qo_atom_12 : decode b_Qo_atom 12 = .ok (.invokestatic 36, 3) := by decide +kernel
theorem d_Qo_atom_15 : decode b_Qo_atom 15 = .ok (.ifCond .eq 10, 3) := by decide +kernel
theorem d_Qo_atom_18 : decode b_Qo_atom 18 = .ok (.iload_n 3, 1) := by decide +kernel
theorem d_Qo_atom_19 : decode b_Qo_atom 19 = .ok (.invokestatic 36, 3) := by decide +kernel
theorem d_Qo_atom_22 : decode b_Qo_atom 22 = .ok (.ifCond .ne 13, 3) := by decide +kernel
theorem d_Qo_atom_25 : decode b_Qo_atom 25 = .ok (.new 40, 3) := by decide +kernel
theorem d_Qo_atom_28 : decode b_Qo_atom 28 = .ok (.dup, 1) := by decide +kernel
theorem d_Qo_atom_29 : decode b_Qo_atom 29 = .ok (.ldc 42, 2) := by decide +kernel
theorem d_Qo_atom_31 : decode b_Qo_atom 31 = .ok (.invokespecial 44, 3) := by decide +kernel
theorem d_Qo_atom_34 : decode b_Qo_atom 34 = .ok (.athrow, 1) := by decide +kernel
theorem d_Qo_atom_35 : decode b_Qo_atom 35 = .ok (.iload 4, 2) := by decide +kernel
theorem d_Qo_atom_37 : decode b_Qo_atom 37 = .ok (.ifCond .eq 25, 3) := by decide +kernel
theorem d_Qo_atom_40 : decode b_Qo_atom 40 = .ok (.iload 4, 2) := by decide +kernel
theorem d_Qo_atom_42 : decode b_Qo_atom 42 = .ok (.iconst 1, 1) := by decide +kernel
theorem d_Qo_atom_43 : decode b_Qo_atom 43 = .ok (.if_icmp .eq 19, 3) := by decide +kernel
theorem d_Qo_atom_46 : decode b_Qo_atom 46 = .ok (.iload 4, 2) := by decide +kernel
theorem d_Qo_atom_48 : decode b_Qo_atom 48 = .ok (.iconst 2, 1) := by decide +kernel
theorem d_Qo_atom_49 : decode b_Qo_atom 49 = .ok (.if_icmp .eq 13, 3) := by decide +kernel
theorem d_Qo_atom_52 : decode b_Qo_atom 52 = .ok (.new 40, 3) := by decide +kernel
theorem d_Qo_atom_55 : decode b_Qo_atom 55 = .ok (.dup, 1) := by decide +kernel
theorem d_Qo_atom_56 : decode b_Qo_atom 56 = .ok (.ldc 47, 2) := by decide +kernel
theorem d_Qo_atom_58 : decode b_Qo_atom 58 = .ok (.invokespecial 44, 3) := by decide +kernel
theorem d_Qo_atom_61 : decode b_Qo_atom 61 = .ok (.athrow, 1) := by decide +kernel
theorem d_Qo_atom_62 : decode b_Qo_atom 62 = .ok (.aload_n 0, 1) := by decide +kernel
theorem d_Qo_atom_63 : decode b_Qo_atom 63 = .ok (.new 49, 3) := by decide +kernel
theorem d_Qo_atom_66 : decode b_Qo_atom 66 = .ok (.dup, 1) := by decide +kernel
theorem d_Qo_atom_67 : decode b_Qo_atom 67 = .ok (.iload_n 1, 1) := by decide +kernel
theorem d_Qo_atom_68 : decode b_Qo_atom 68 = .ok (.iload_n 2, 1) := by decide +kernel
theorem d_Qo_atom_69 : decode b_Qo_atom 69 = .ok (.iload_n 3, 1) := by decide +kernel
theorem d_Qo_atom_70 : decode b_Qo_atom 70 = .ok (.iload 4, 2) := by decide +kernel
theorem d_Qo_atom_72 : decode b_Qo_atom 72 = .ok (.invokespecial 51, 3) := by decide +kernel
theorem d_Qo_atom_75 : decode b_Qo_atom 75 = .ok (.invokevirtual 54, 3) := by decide +kernel
theorem d_Qo_atom_78 : decode b_Qo_atom 78 = .ok (.ireturn, 1) := by decide +kernel
theorem d_Qo_checkRoom_0 : decode b_Qo_checkRoom 0 = .ok (.aload_n 0, 1) := by decide +kernel
theorem d_Qo_checkRoom_1 : decode b_Qo_checkRoom 1 = .ok (.getfield 29, 3) := by decide +kernel
theorem d_Qo_checkRoom_4 : decode b_Qo_checkRoom 4 = .ok (.aload_n 0, 1) := by decide +kernel
theorem d_Qo_checkRoom_5 : decode b_Qo_checkRoom 5 = .ok (.getfield 11, 3) := by decide +kernel
theorem d_Qo_checkRoom_8 : decode b_Qo_checkRoom 8 = .ok (.arraylength, 1) := by decide +kernel
theorem d_Qo_checkRoom_9 : decode b_Qo_checkRoom 9 = .ok (.if_icmp .lt 13, 3) := by decide +kernel
theorem d_Qo_checkRoom_12 : decode b_Qo_checkRoom 12 = .ok (.new 101, 3) := by decide +kernel
theorem d_Qo_checkRoom_15 : decode b_Qo_checkRoom 15 = .ok (.dup, 1) := by decide +kernel
theorem d_Qo_checkRoom_16 : decode b_Qo_checkRoom 16 = .ok (.ldc 131, 2) := by decide +kernel
theorem d_Qo_checkRoom_18 : decode b_Qo_checkRoom 18 = .ok (.invokespecial 105, 3) := by decide +kernel
theorem d_Qo_checkRoom_21 : decode b_Qo_checkRoom 21 = .ok (.athrow, 1) := by decide +kernel
theorem d_Qo_checkRoom_22 : decode b_Qo_checkRoom 22 = .ok (.return_, 1) := by decide +kernel
theorem d_Qo_isFactor_0 : decode b_Qo_isFactor 0 = .ok (.iload_n 0, 1) := by decide +kernel
theorem d_Qo_isFactor_1 : decode b_Qo_isFactor 1 = .ok (.bipush (-5), 2) := by decide +kernel
theorem d_Qo_isFactor_3 : decode b_Qo_isFactor 3 = .ok (.if_icmp .lt 12, 3) := by decide +kernel
theorem d_Qo_isFactor_6 : decode b_Qo_isFactor 6 = .ok (.iload_n 0, 1) := by decide +kernel
theorem d_Qo_isFactor_7 : decode b_Qo_isFactor 7 = .ok (.iconst 5, 1) := by decide +kernel
theorem d_Qo_isFactor_8 : decode b_Qo_isFactor 8 = .ok (.if_icmp .gt 7, 3) := by decide +kernel
theorem d_Qo_isFactor_11 : decode b_Qo_isFactor 11 = .ok (.iconst 1, 1) := by decide +kernel
theorem d_Qo_isFactor_12 : decode b_Qo_isFactor 12 = .ok (.goto 4, 3) := by decide +kernel
theorem d_Qo_isFactor_15 : decode b_Qo_isFactor 15 = .ok (.iconst 0, 1) := by decide +kernel
theorem d_Qo_isFactor_16 : decode b_Qo_isFactor 16 = .ok (.ireturn, 1) := by decide +kernel
theorem d_Qo_add_0 : decode b_Qo_add 0 = .ok (.aload_n 0, 1) := by decide +kernel
theorem d_Qo_add_1 : decode b_Qo_add 1 = .ok (.getfield 29, 3) := by decide +kernel
theorem d_Qo_add_4 : decode b_Qo_add 4 = .ok (.istore_n 2, 1) := by decide +kernel
theorem d_Qo_add_5 : decode b_Qo_add 5 = .ok (.iload_n 2, 1) := by decide +kernel
theorem d_Qo_add_6 : decode b_Qo_add 6 = .ok (.aload_n 0, 1) := by decide +kernel
theorem d_Qo_add_7 : decode b_Qo_add 7 = .ok (.getfield 11, 3) := by decide +kernel
theorem d_Qo_add_10 : decode b_Qo_add 10 = .ok (.arraylength, 1) := by decide +kernel
theorem d_Qo_add_11 : decode b_Qo_add 11 = .ok (.if_icmp .ge 17, 3) := by decide +kernel
theorem d_Qo_add_14 : decode b_Qo_add 14 = .ok (.aload_n 0, 1) := by decide +kernel
theorem d_Qo_add_15 : decode b_Qo_add 15 = .ok (.getfield 11, 3) := by decide +kernel
theorem d_Qo_add_18 : decode b_Qo_add 18 = .ok (.iload_n 2, 1) := by decide +kernel
theorem d_Qo_add_19 : decode b_Qo_add 19 = .ok (.aload_n 1, 1) := by decide +kernel
theorem d_Qo_add_20 : decode b_Qo_add 20 = .ok (.aastore, 1) := by decide +kernel
theorem d_Qo_add_21 : decode b_Qo_add 21 = .ok (.aload_n 0, 1) := by decide +kernel
theorem d_Qo_add_22 : decode b_Qo_add 22 = .ok (.iload_n 2, 1) := by decide +kernel
theorem d_Qo_add_23 : decode b_Qo_add 23 = .ok (.iconst 1, 1) := by decide +kernel
theorem d_Qo_add_24 : decode b_Qo_add 24 = .ok (.iadd, 1) := by decide +kernel
theorem d_Qo_add_25 : decode b_Qo_add 25 = .ok (.putfield 29, 3) := by decide +kernel
theorem d_Qo_add_28 : decode b_Qo_add 28 = .ok (.iload_n 2, 1) := by decide +kernel
theorem d_Qo_add_29 : decode b_Qo_add 29 = .ok (.ireturn, 1) := by decide +kernel
theorem d_Qo_both_0 : decode b_Qo_both 0 = .ok (.aload_n 0, 1) := by decide +kernel
theorem d_Qo_both_1 : decode b_Qo_both 1 = .ok (.iload_n 1, 1) := by decide +kernel
theorem d_Qo_both_2 : decode b_Qo_both 2 = .ok (.iload_n 2, 1) := by decide +kernel
theorem d_Qo_both_3 : decode b_Qo_both 3 = .ok (.iconst 1, 1) := by decide +kernel
theorem d_Qo_both_4 : decode b_Qo_both 4 = .ok (.invokevirtual 58, 3) := by decide +kernel
theorem d_Qo_both_7 : decode b_Qo_both 7 = .ok (.ireturn, 1) := by decide +kernel
theorem d_Qo_addPair_0 : decode b_Qo_addPair 0 = .ok (.aload_n 0, 1) := by decide +kernel
theorem d_Qo_addPair_1 : decode b_Qo_addPair 1 = .ok (.iload_n 1, 1) := by decide +kernel
theorem d_Qo_addPair_2 : decode b_Qo_addPair 2 = .ok (.invokevirtual 62, 3) := by decide +kernel
theorem d_Qo_addPair_5 : decode b_Qo_addPair 5 = .ok (.astore 4, 2) := by decide +kernel
theorem d_Qo_addPair_7 : decode b_Qo_addPair 7 = .ok (.aload_n 0, 1) := by decide +kernel
theorem d_Qo_addPair_8 : decode b_Qo_addPair 8 = .ok (.iload_n 2, 1) := by decide +kernel
theorem d_Qo_addPair_9 : decode b_Qo_addPair 9 = .ok (.invokevirtual 62, 3) := by decide +kernel
theorem d_Qo_addPair_12 : decode b_Qo_addPair 12 = .ok (.astore 5, 2) := by decide +kernel
theorem d_Qo_addPair_14 : decode b_Qo_addPair 14 = .ok (.aload_n 0, 1) := by decide +kernel
theorem d_Qo_addPair_15 : decode b_Qo_addPair 15 = .ok (.invokevirtual 33, 3) := by decide +kernel
theorem d_Qo_addPair_18 : decode b_Qo_addPair 18 = .ok (.aload 4, 2) := by decide +kernel
theorem d_Qo_addPair_20 : decode b_Qo_addPair 20 = .ok (.invokevirtual 76, 3) := by decide +kernel
theorem d_Qo_addPair_23 : decode b_Qo_addPair 23 = .ok (.aload 5, 2) := by decide +kernel
theorem d_Qo_addPair_25 : decode b_Qo_addPair 25 = .ok (.invokevirtual 76, 3) := by decide +kernel
theorem d_Qo_addPair_28 : decode b_Qo_addPair 28 = .ok (.iadd, 1) := by decide +kernel
theorem d_Qo_addPair_29 : decode b_Qo_addPair 29 = .ok (.bipush 6, 2) := by decide +kernel
theorem d_Qo_addPair_31 : decode b_Qo_addPair 31 = .ok (.if_icmp .le 13, 3) := by decide +kernel
theorem d_Qo_addPair_34 : decode b_Qo_addPair 34 = .ok (.new 40, 3) := by decide +kernel
theorem d_Qo_addPair_37 : decode b_Qo_addPair 37 = .ok (.dup, 1) := by decide +kernel
theorem d_Qo_addPair_38 : decode b_Qo_addPair 38 = .ok (.ldc 133, 2) := by decide +kernel
theorem d_Qo_addPair_40 : decode b_Qo_addPair 40 = .ok (.invokespecial 44, 3) := by decide +kernel
theorem d_Qo_addPair_43 : decode b_Qo_addPair 43 = .ok (.athrow, 1) := by decide +kernel
theorem d_Qo_addPair_44 : decode b_Qo_addPair 44 = .ok (.aload_n 0, 1) := by decide +kernel
theorem d_Qo_addPair_45 : decode b_Qo_addPair 45 = .ok (.new 135, 3) := by decide +kernel
theorem d_Qo_addPair_48 : decode b_Qo_addPair 48 = .ok (.dup, 1) := by decide +kernel
theorem d_Qo_addPair_49 : decode b_Qo_addPair 49 = .ok (.aload 4, 2) := by decide +kernel
theorem d_Qo_addPair_51 : decode b_Qo_addPair 51 = .ok (.aload 5, 2) := by decide +kernel
theorem d_Qo_addPair_53 : decode b_Qo_addPair 53 = .ok (.iload_n 3, 1) := by decide +kernel
theorem d_Qo_addPair_54 : decode b_Qo_addPair 54 = .ok (.invokespecial 137, 3) := by decide +kernel
theorem d_Qo_addPair_57 : decode b_Qo_addPair 57 = .ok (.invokevirtual 54, 3) := by decide +kernel
theorem d_Qo_addPair_60 : decode b_Qo_addPair 60 = .ok (.ireturn, 1) := by decide +kernel
theorem d_Qo_nodeAt_0 : decode b_Qo_nodeAt 0 = .ok (.iload_n 1, 1) := by decide +kernel
theorem d_Qo_nodeAt_1 : decode b_Qo_nodeAt 1 = .ok (.ifCond .lt 29, 3) := by decide +kernel
theorem d_Qo_nodeAt_4 : decode b_Qo_nodeAt 4 = .ok (.iload_n 1, 1) := by decide +kernel
theorem d_Qo_nodeAt_5 : decode b_Qo_nodeAt 5 = .ok (.aload_n 0, 1) := by decide +kernel
theorem d_Qo_nodeAt_6 : decode b_Qo_nodeAt 6 = .ok (.getfield 29, 3) := by decide +kernel
theorem d_Qo_nodeAt_9 : decode b_Qo_nodeAt 9 = .ok (.if_icmp .ge 21, 3) := by decide +kernel
theorem d_Qo_nodeAt_12 : decode b_Qo_nodeAt 12 = .ok (.iload_n 1, 1) := by decide +kernel
theorem d_Qo_nodeAt_13 : decode b_Qo_nodeAt 13 = .ok (.aload_n 0, 1) := by decide +kernel
theorem d_Qo_nodeAt_14 : decode b_Qo_nodeAt 14 = .ok (.getfield 11, 3) := by decide +kernel
theorem d_Qo_nodeAt_17 : decode b_Qo_nodeAt 17 = .ok (.arraylength, 1) := by decide +kernel
theorem d_Qo_nodeAt_18 : decode b_Qo_nodeAt 18 = .ok (.if_icmp .ge 12, 3) := by decide +kernel
theorem d_Qo_nodeAt_21 : decode b_Qo_nodeAt 21 = .ok (.aload_n 0, 1) := by decide +kernel
theorem d_Qo_nodeAt_22 : decode b_Qo_nodeAt 22 = .ok (.getfield 11, 3) := by decide +kernel
theorem d_Qo_nodeAt_25 : decode b_Qo_nodeAt 25 = .ok (.iload_n 1, 1) := by decide +kernel
theorem d_Qo_nodeAt_26 : decode b_Qo_nodeAt 26 = .ok (.aaload, 1) := by decide +kernel
theorem d_Qo_nodeAt_27 : decode b_Qo_nodeAt 27 = .ok (.ifnonnull 13, 3) := by decide +kernel
theorem d_Qo_nodeAt_30 : decode b_Qo_nodeAt 30 = .ok (.new 112, 3) := by decide +kernel
theorem d_Qo_nodeAt_33 : decode b_Qo_nodeAt 33 = .ok (.dup, 1) := by decide +kernel
theorem d_Qo_nodeAt_34 : decode b_Qo_nodeAt 34 = .ok (.ldc 129, 2) := by decide +kernel
theorem d_Qo_nodeAt_36 : decode b_Qo_nodeAt 36 = .ok (.invokespecial 116, 3) := by decide +kernel
theorem d_Qo_nodeAt_39 : decode b_Qo_nodeAt 39 = .ok (.athrow, 1) := by decide +kernel
theorem d_Qo_nodeAt_40 : decode b_Qo_nodeAt 40 = .ok (.aload_n 0, 1) := by decide +kernel
theorem d_Qo_nodeAt_41 : decode b_Qo_nodeAt 41 = .ok (.getfield 11, 3) := by decide +kernel
theorem d_Qo_nodeAt_44 : decode b_Qo_nodeAt 44 = .ok (.iload_n 1, 1) := by decide +kernel
theorem d_Qo_nodeAt_45 : decode b_Qo_nodeAt 45 = .ok (.aaload, 1) := by decide +kernel
theorem d_Qo_nodeAt_46 : decode b_Qo_nodeAt 46 = .ok (.areturn, 1) := by decide +kernel
theorem d_Pr_init_0 : decode b_Pr_init 0 = .ok (.aload_n 0, 1) := by decide +kernel
theorem d_Pr_init_1 : decode b_Pr_init 1 = .ok (.aload_n 1, 1) := by decide +kernel
theorem d_Pr_init_2 : decode b_Pr_init 2 = .ok (.getfield 1, 3) := by decide +kernel
theorem d_Pr_init_5 : decode b_Pr_init 5 = .ok (.aload_n 2, 1) := by decide +kernel
theorem d_Pr_init_6 : decode b_Pr_init 6 = .ok (.getfield 1, 3) := by decide +kernel
theorem d_Pr_init_9 : decode b_Pr_init 9 = .ok (.ior, 1) := by decide +kernel
theorem d_Pr_init_10 : decode b_Pr_init 10 = .ok (.aload_n 1, 1) := by decide +kernel
theorem d_Pr_init_11 : decode b_Pr_init 11 = .ok (.getfield 7, 3) := by decide +kernel
theorem d_Pr_init_14 : decode b_Pr_init 14 = .ok (.aload_n 2, 1) := by decide +kernel
theorem d_Pr_init_15 : decode b_Pr_init 15 = .ok (.getfield 7, 3) := by decide +kernel
theorem d_Pr_init_18 : decode b_Pr_init 18 = .ok (.invokestatic 10, 3) := by decide +kernel
theorem d_Pr_init_21 : decode b_Pr_init 21 = .ok (.aload_n 1, 1) := by decide +kernel
theorem d_Pr_init_22 : decode b_Pr_init 22 = .ok (.getfield 16, 3) := by decide +kernel
theorem d_Pr_init_25 : decode b_Pr_init 25 = .ok (.aload_n 2, 1) := by decide +kernel
theorem d_Pr_init_26 : decode b_Pr_init 26 = .ok (.getfield 16, 3) := by decide +kernel
theorem d_Pr_init_29 : decode b_Pr_init 29 = .ok (.invokestatic 20, 3) := by decide +kernel
theorem d_Pr_init_32 : decode b_Pr_init 32 = .ok (.invokespecial 26, 3) := by decide +kernel
theorem d_Pr_init_35 : decode b_Pr_init 35 = .ok (.aload_n 0, 1) := by decide +kernel
theorem d_Pr_init_36 : decode b_Pr_init 36 = .ok (.aload_n 1, 1) := by decide +kernel
theorem d_Pr_init_37 : decode b_Pr_init 37 = .ok (.putfield 30, 3) := by decide +kernel
theorem d_Pr_init_40 : decode b_Pr_init 40 = .ok (.aload_n 0, 1) := by decide +kernel
theorem d_Pr_init_41 : decode b_Pr_init 41 = .ok (.aload_n 2, 1) := by decide +kernel
theorem d_Pr_init_42 : decode b_Pr_init 42 = .ok (.putfield 34, 3) := by decide +kernel
theorem d_Pr_init_45 : decode b_Pr_init 45 = .ok (.aload_n 0, 1) := by decide +kernel
theorem d_Pr_init_46 : decode b_Pr_init 46 = .ok (.iload_n 3, 1) := by decide +kernel
theorem d_Pr_init_47 : decode b_Pr_init 47 = .ok (.putfield 37, 3) := by decide +kernel
theorem d_Pr_init_50 : decode b_Pr_init 50 = .ok (.return_, 1) := by decide +kernel
theorem d_Pr_join_0 : decode b_Pr_join 0 = .ok (.aload_n 0, 1) := by decide +kernel
theorem d_Pr_join_1 : decode b_Pr_join 1 = .ok (.arraylength, 1) := by decide +kernel
theorem d_Pr_join_2 : decode b_Pr_join 2 = .ok (.aload_n 1, 1) := by decide +kernel
theorem d_Pr_join_3 : decode b_Pr_join 3 = .ok (.arraylength, 1) := by decide +kernel
theorem d_Pr_join_4 : decode b_Pr_join 4 = .ok (.iadd, 1) := by decide +kernel
theorem d_Pr_join_5 : decode b_Pr_join 5 = .ok (.newarray .int, 2) := by decide +kernel
theorem d_Pr_join_7 : decode b_Pr_join 7 = .ok (.astore_n 2, 1) := by decide +kernel
theorem d_Pr_join_8 : decode b_Pr_join 8 = .ok (.aload_n 0, 1) := by decide +kernel
theorem d_Pr_join_9 : decode b_Pr_join 9 = .ok (.iconst 0, 1) := by decide +kernel
theorem d_Pr_join_10 : decode b_Pr_join 10 = .ok (.aload_n 2, 1) := by decide +kernel
theorem d_Pr_join_11 : decode b_Pr_join 11 = .ok (.iconst 0, 1) := by decide +kernel
theorem d_Pr_join_12 : decode b_Pr_join 12 = .ok (.aload_n 0, 1) := by decide +kernel
theorem d_Pr_join_13 : decode b_Pr_join 13 = .ok (.arraylength, 1) := by decide +kernel
theorem d_Pr_join_14 : decode b_Pr_join 14 = .ok (.invokestatic 41, 3) := by decide +kernel
theorem d_Pr_join_17 : decode b_Pr_join 17 = .ok (.aload_n 1, 1) := by decide +kernel
theorem d_Pr_join_18 : decode b_Pr_join 18 = .ok (.iconst 0, 1) := by decide +kernel
theorem d_Pr_join_19 : decode b_Pr_join 19 = .ok (.aload_n 2, 1) := by decide +kernel
theorem d_Pr_join_20 : decode b_Pr_join 20 = .ok (.aload_n 0, 1) := by decide +kernel
theorem d_Pr_join_21 : decode b_Pr_join 21 = .ok (.arraylength, 1) := by decide +kernel
theorem d_Pr_join_22 : decode b_Pr_join 22 = .ok (.aload_n 1, 1) := by decide +kernel
theorem d_Pr_join_23 : decode b_Pr_join 23 = .ok (.arraylength, 1) := by decide +kernel
theorem d_Pr_join_24 : decode b_Pr_join 24 = .ok (.invokestatic 41, 3) := by decide +kernel
theorem d_Pr_join_27 : decode b_Pr_join 27 = .ok (.aload_n 2, 1) := by decide +kernel
theorem d_Pr_join_28 : decode b_Pr_join 28 = .ok (.areturn, 1) := by decide +kernel
theorem d_Qo_either_0 : decode b_Qo_either 0 = .ok (.aload_n 0, 1) := by decide +kernel
theorem d_Qo_either_1 : decode b_Qo_either 1 = .ok (.iload_n 1, 1) := by decide +kernel
theorem d_Qo_either_2 : decode b_Qo_either 2 = .ok (.iload_n 2, 1) := by decide +kernel
theorem d_Qo_either_3 : decode b_Qo_either 3 = .ok (.iconst 0, 1) := by decide +kernel
theorem d_Qo_either_4 : decode b_Qo_either 4 = .ok (.invokevirtual 58, 3) := by decide +kernel
theorem d_Qo_either_7 : decode b_Qo_either 7 = .ok (.ireturn, 1) := by decide +kernel
theorem d_Qo_not_0 : decode b_Qo_not 0 = .ok (.aload_n 0, 1) := by decide +kernel
theorem d_Qo_not_1 : decode b_Qo_not 1 = .ok (.iload_n 1, 1) := by decide +kernel
theorem d_Qo_not_2 : decode b_Qo_not 2 = .ok (.invokevirtual 62, 3) := by decide +kernel
theorem d_Qo_not_5 : decode b_Qo_not 5 = .ok (.astore_n 2, 1) := by decide +kernel
theorem d_Qo_not_6 : decode b_Qo_not 6 = .ok (.aload_n 0, 1) := by decide +kernel
theorem d_Qo_not_7 : decode b_Qo_not 7 = .ok (.invokevirtual 33, 3) := by decide +kernel
theorem d_Qo_not_10 : decode b_Qo_not 10 = .ok (.aload_n 0, 1) := by decide +kernel
theorem d_Qo_not_11 : decode b_Qo_not 11 = .ok (.aload_n 2, 1) := by decide +kernel
theorem d_Qo_not_12 : decode b_Qo_not 12 = .ok (.invokevirtual 66, 3) := by decide +kernel
theorem d_Qo_not_15 : decode b_Qo_not 15 = .ok (.invokevirtual 54, 3) := by decide +kernel
theorem d_Qo_not_18 : decode b_Qo_not 18 = .ok (.ireturn, 1) := by decide +kernel
theorem d_Ng_opposite_0 : decode b_Ng_opposite 0 = .ok (.aload_n 0, 1) := by decide +kernel
theorem d_Ng_opposite_1 : decode b_Ng_opposite 1 = .ok (.getfield 18, 3) := by decide +kernel
theorem d_Ng_opposite_4 : decode b_Ng_opposite 4 = .ok (.areturn, 1) := by decide +kernel
theorem d_Ng_init_0 : decode b_Ng_init 0 = .ok (.aload_n 0, 1) := by decide +kernel
theorem d_Ng_init_1 : decode b_Ng_init 1 = .ok (.aload_n 1, 1) := by decide +kernel
theorem d_Ng_init_2 : decode b_Ng_init 2 = .ok (.getfield 1, 3) := by decide +kernel
theorem d_Ng_init_5 : decode b_Ng_init 5 = .ok (.aload_n 1, 1) := by decide +kernel
theorem d_Ng_init_6 : decode b_Ng_init 6 = .ok (.getfield 7, 3) := by decide +kernel
theorem d_Ng_init_9 : decode b_Ng_init 9 = .ok (.aload_n 1, 1) := by decide +kernel
theorem d_Ng_init_10 : decode b_Ng_init 10 = .ok (.getfield 10, 3) := by decide +kernel
theorem d_Ng_init_13 : decode b_Ng_init 13 = .ok (.invokespecial 14, 3) := by decide +kernel
theorem d_Ng_init_16 : decode b_Ng_init 16 = .ok (.aload_n 0, 1) := by decide +kernel
theorem d_Ng_init_17 : decode b_Ng_init 17 = .ok (.aload_n 1, 1) := by decide +kernel
theorem d_Ng_init_18 : decode b_Ng_init 18 = .ok (.putfield 18, 3) := by decide +kernel
theorem d_Ng_init_21 : decode b_Ng_init 21 = .ok (.return_, 1) := by decide +kernel
theorem d_Qo_some_0 : decode b_Qo_some 0 = .ok (.aload_n 0, 1) := by decide +kernel
theorem d_Qo_some_1 : decode b_Qo_some 1 = .ok (.iload_n 1, 1) := by decide +kernel
theorem d_Qo_some_2 : decode b_Qo_some 2 = .ok (.iload_n 2, 1) := by decide +kernel
theorem d_Qo_some_3 : decode b_Qo_some 3 = .ok (.iconst 0, 1) := by decide +kernel
theorem d_Qo_some_4 : decode b_Qo_some 4 = .ok (.invokevirtual 70, 3) := by decide +kernel
theorem d_Qo_some_7 : decode b_Qo_some 7 = .ok (.ireturn, 1) := by decide +kernel
theorem d_Qo_addQuantified_0 : decode b_Qo_addQuantified 0 = .ok (.aload_n 0, 1) := by decide +kernel
theorem d_Qo_addQuantified_1 : decode b_Qo_addQuantified 1 = .ok (.iload_n 2, 1) := by decide +kernel
theorem d_Qo_addQuantified_2 : decode b_Qo_addQuantified 2 = .ok (.invokevirtual 62, 3) := by decide +kernel
theorem d_Qo_addQuantified_5 : decode b_Qo_addQuantified 5 = .ok (.astore 4, 2) := by decide +kernel
theorem d_Qo_addQuantified_7 : decode b_Qo_addQuantified 7 = .ok (.aload_n 0, 1) := by decide +kernel
theorem d_Qo_addQuantified_8 : decode b_Qo_addQuantified 8 = .ok (.invokevirtual 33, 3) := by decide +kernel
theorem d_Qo_addQuantified_11 : decode b_Qo_addQuantified 11 = .ok (.iload_n 1, 1) := by decide +kernel
theorem d_Qo_addQuantified_12 : decode b_Qo_addQuantified 12 = .ok (.ifCond .eq 18, 3) := by decide +kernel
theorem d_Qo_addQuantified_15 : decode b_Qo_addQuantified 15 = .ok (.iload_n 1, 1) := by decide +kernel
theorem d_Qo_addQuantified_16 : decode b_Qo_addQuantified 16 = .ok (.iconst 1, 1) := by decide +kernel
theorem d_Qo_addQuantified_17 : decode b_Qo_addQuantified 17 = .ok (.if_icmp .eq 13, 3) := by decide +kernel
theorem d_Qo_addQuantified_20 : decode b_Qo_addQuantified 20 = .ok (.new 40, 3) := by decide +kernel
theorem d_Qo_addQuantified_23 : decode b_Qo_addQuantified 23 = .ok (.dup, 1) := by decide +kernel
theorem d_Qo_addQuantified_24 : decode b_Qo_addQuantified 24 = .ok (.ldc 140, 2) := by decide +kernel
theorem d_Qo_addQuantified_26 : decode b_Qo_addQuantified 26 = .ok (.invokespecial 44, 3) := by decide +kernel
theorem d_Qo_addQuantified_29 : decode b_Qo_addQuantified 29 = .ok (.athrow, 1) := by decide +kernel
theorem d_Qo_addQuantified_30 : decode b_Qo_addQuantified 30 = .ok (.aload 4, 2) := by decide +kernel
theorem d_Qo_addQuantified_32 : decode b_Qo_addQuantified 32 = .ok (.getfield 80, 3) := by decide +kernel
theorem d_Qo_addQuantified_35 : decode b_Qo_addQuantified 35 = .ok (.iconst 2, 1) := by decide +kernel
theorem d_Qo_addQuantified_36 : decode b_Qo_addQuantified 36 = .ok (.if_icmp .lt 13, 3) := by decide +kernel
theorem d_Qo_addQuantified_39 : decode b_Qo_addQuantified 39 = .ok (.new 40, 3) := by decide +kernel
theorem d_Qo_addQuantified_42 : decode b_Qo_addQuantified 42 = .ok (.dup, 1) := by decide +kernel
theorem d_Qo_addQuantified_43 : decode b_Qo_addQuantified 43 = .ok (.ldc 142, 2) := by decide +kernel
theorem d_Qo_addQuantified_45 : decode b_Qo_addQuantified 45 = .ok (.invokespecial 44, 3) := by decide +kernel
theorem d_Qo_addQuantified_48 : decode b_Qo_addQuantified 48 = .ok (.athrow, 1) := by decide +kernel
theorem d_Qo_addQuantified_49 : decode b_Qo_addQuantified 49 = .ok (.aload_n 0, 1) := by decide +kernel
theorem d_Qo_addQuantified_50 : decode b_Qo_addQuantified 50 = .ok (.new 144, 3) := by decide +kernel
theorem d_Qo_addQuantified_53 : decode b_Qo_addQuantified 53 = .ok (.dup, 1) := by decide +kernel
theorem d_Qo_addQuantified_54 : decode b_Qo_addQuantified 54 = .ok (.iload_n 1, 1) := by decide +kernel
theorem d_Qo_addQuantified_55 : decode b_Qo_addQuantified 55 = .ok (.aload 4, 2) := by decide +kernel
theorem d_Qo_addQuantified_57 : decode b_Qo_addQuantified 57 = .ok (.iload_n 3, 1) := by decide +kernel
theorem d_Qo_addQuantified_58 : decode b_Qo_addQuantified 58 = .ok (.invokespecial 146, 3) := by decide +kernel
theorem d_Qo_addQuantified_61 : decode b_Qo_addQuantified 61 = .ok (.invokevirtual 54, 3) := by decide +kernel
theorem d_Qo_addQuantified_64 : decode b_Qo_addQuantified 64 = .ok (.ireturn, 1) := by decide +kernel
theorem d_Qf_init_0 : decode b_Qf_init 0 = .ok (.aload_n 0, 1) := by decide +kernel
theorem d_Qf_init_1 : decode b_Qf_init 1 = .ok (.aload_n 2, 1) := by decide +kernel
theorem d_Qf_init_2 : decode b_Qf_init 2 = .ok (.getfield 1, 3) := by decide +kernel
theorem d_Qf_init_5 : decode b_Qf_init 5 = .ok (.iconst 1, 1) := by decide +kernel
theorem d_Qf_init_6 : decode b_Qf_init 6 = .ok (.iload_n 1, 1) := by decide +kernel
theorem d_Qf_init_7 : decode b_Qf_init 7 = .ok (.ishl, 1) := by decide +kernel
theorem d_Qf_init_8 : decode b_Qf_init 8 = .ok (.iconst (-1), 1) := by decide +kernel
theorem d_Qf_init_9 : decode b_Qf_init 9 = .ok (.ixor, 1) := by decide +kernel
theorem d_Qf_init_10 : decode b_Qf_init 10 = .ok (.iand, 1) := by decide +kernel
theorem d_Qf_init_11 : decode b_Qf_init 11 = .ok (.aload_n 2, 1) := by decide +kernel
theorem d_Qf_init_12 : decode b_Qf_init 12 = .ok (.getfield 7, 3) := by decide +kernel
theorem d_Qf_init_15 : decode b_Qf_init 15 = .ok (.iconst 1, 1) := by decide +kernel
theorem d_Qf_init_16 : decode b_Qf_init 16 = .ok (.iadd, 1) := by decide +kernel
theorem d_Qf_init_17 : decode b_Qf_init 17 = .ok (.aload_n 2, 1) := by decide +kernel
theorem d_Qf_init_18 : decode b_Qf_init 18 = .ok (.getfield 10, 3) := by decide +kernel
theorem d_Qf_init_21 : decode b_Qf_init 21 = .ok (.invokespecial 14, 3) := by decide +kernel
theorem d_Qf_init_24 : decode b_Qf_init 24 = .ok (.aload_n 0, 1) := by decide +kernel
theorem d_Qf_init_25 : decode b_Qf_init 25 = .ok (.iload_n 1, 1) := by decide +kernel
theorem d_Qf_init_26 : decode b_Qf_init 26 = .ok (.putfield 18, 3) := by decide +kernel
theorem d_Qf_init_29 : decode b_Qf_init 29 = .ok (.aload_n 0, 1) := by decide +kernel
theorem d_Qf_init_30 : decode b_Qf_init 30 = .ok (.aload_n 2, 1) := by decide +kernel
theorem d_Qf_init_31 : decode b_Qf_init 31 = .ok (.putfield 23, 3) := by decide +kernel
theorem d_Qf_init_34 : decode b_Qf_init 34 = .ok (.aload_n 0, 1) := by decide +kernel
theorem d_Qf_init_35 : decode b_Qf_init 35 = .ok (.iload_n 3, 1) := by decide +kernel
theorem d_Qf_init_36 : decode b_Qf_init 36 = .ok (.putfield 27, 3) := by decide +kernel
theorem d_Qf_init_39 : decode b_Qf_init 39 = .ok (.return_, 1) := by decide +kernel
theorem d_Qo_every_0 : decode b_Qo_every 0 = .ok (.aload_n 0, 1) := by decide +kernel
theorem d_Qo_every_1 : decode b_Qo_every 1 = .ok (.iload_n 1, 1) := by decide +kernel
theorem d_Qo_every_2 : decode b_Qo_every 2 = .ok (.iload_n 2, 1) := by decide +kernel
theorem d_Qo_every_3 : decode b_Qo_every 3 = .ok (.iconst 1, 1) := by decide +kernel
theorem d_Qo_every_4 : decode b_Qo_every 4 = .ok (.invokevirtual 70, 3) := by decide +kernel
theorem d_Qo_every_7 : decode b_Qo_every 7 = .ok (.ireturn, 1) := by decide +kernel
theorem d_Qo_known_0 : decode b_Qo_known 0 = .ok (.aload_n 0, 1) := by decide +kernel
theorem d_Qo_known_1 : decode b_Qo_known 1 = .ok (.iload_n 1, 1) := by decide +kernel
theorem d_Qo_known_2 : decode b_Qo_known 2 = .ok (.invokevirtual 62, 3) := by decide +kernel
theorem d_Qo_known_5 : decode b_Qo_known 5 = .ok (.astore_n 3, 1) := by decide +kernel
theorem d_Qo_known_6 : decode b_Qo_known 6 = .ok (.iload_n 2, 1) := by decide +kernel
theorem d_Qo_known_7 : decode b_Qo_known 7 = .ok (.tableswitch 67 0 3 #[29, 43, 57, 62], 29) := by decide +kernel
theorem d_Qo_known_36 : decode b_Qo_known 36 = .ok (.aload_n 3, 1) := by decide +kernel
theorem d_Qo_known_37 : decode b_Qo_known 37 = .ok (.iconst 0, 1) := by decide +kernel
theorem d_Qo_known_38 : decode b_Qo_known 38 = .ok (.invokevirtual 73, 3) := by decide +kernel
theorem d_Qo_known_41 : decode b_Qo_known 41 = .ok (.ifCond .eq 7, 3) := by decide +kernel
theorem d_Qo_known_44 : decode b_Qo_known 44 = .ok (.iconst 1, 1) := by decide +kernel
theorem d_Qo_known_45 : decode b_Qo_known 45 = .ok (.goto 4, 3) := by decide +kernel
theorem d_Qo_known_48 : decode b_Qo_known 48 = .ok (.iconst 0, 1) := by decide +kernel
theorem d_Qo_known_49 : decode b_Qo_known 49 = .ok (.ireturn, 1) := by decide +kernel
theorem d_Qo_known_50 : decode b_Qo_known 50 = .ok (.aload_n 3, 1) := by decide +kernel
theorem d_Qo_known_51 : decode b_Qo_known 51 = .ok (.iconst 1, 1) := by decide +kernel
theorem d_Qo_known_52 : decode b_Qo_known 52 = .ok (.invokevirtual 73, 3) := by decide +kernel
theorem d_Qo_known_55 : decode b_Qo_known 55 = .ok (.ifCond .eq 7, 3) := by decide +kernel
theorem d_Qo_known_58 : decode b_Qo_known 58 = .ok (.iconst 1, 1) := by decide +kernel
theorem d_Qo_known_59 : decode b_Qo_known 59 = .ok (.goto 4, 3) := by decide +kernel
theorem d_Qo_known_62 : decode b_Qo_known 62 = .ok (.iconst 0, 1) := by decide +kernel
theorem d_Qo_known_63 : decode b_Qo_known 63 = .ok (.ireturn, 1) := by decide +kernel
theorem d_Qo_known_64 : decode b_Qo_known 64 = .ok (.aload_n 3, 1) := by decide +kernel
theorem d_Qo_known_65 : decode b_Qo_known 65 = .ok (.invokevirtual 76, 3) := by decide +kernel
theorem d_Qo_known_68 : decode b_Qo_known 68 = .ok (.ireturn, 1) := by decide +kernel
theorem d_Qo_known_69 : decode b_Qo_known 69 = .ok (.aload_n 3, 1) := by decide +kernel
theorem d_Qo_known_70 : decode b_Qo_known 70 = .ok (.getfield 80, 3) := by decide +kernel
theorem d_Qo_known_73 : decode b_Qo_known 73 = .ok (.ireturn, 1) := by decide +kernel
theorem d_Qo_known_74 : decode b_Qo_known 74 = .ok (.new 40, 3) := by decide +kernel
theorem d_Qo_known_77 : decode b_Qo_known 77 = .ok (.dup, 1) := by decide +kernel
theorem d_Qo_known_78 : decode b_Qo_known 78 = .ok (.ldc 83, 2) := by decide +kernel
theorem d_Qo_known_80 : decode b_Qo_known 80 = .ok (.invokespecial 44, 3) := by decide +kernel
theorem d_Qo_known_83 : decode b_Qo_known 83 = .ok (.athrow, 1) := by decide +kernel
theorem d_Qo_holds_0 : decode b_Qo_holds 0 = .ok (.aload_n 0, 1) := by decide +kernel
theorem d_Qo_holds_1 : decode b_Qo_holds 1 = .ok (.iload_n 1, 1) := by decide +kernel
theorem d_Qo_holds_2 : decode b_Qo_holds 2 = .ok (.invokevirtual 62, 3) := by decide +kernel
theorem d_Qo_holds_5 : decode b_Qo_holds 5 = .ok (.astore 4, 2) := by decide +kernel
theorem d_Qo_holds_7 : decode b_Qo_holds 7 = .ok (.iload_n 2, 1) := by decide +kernel
theorem d_Qo_holds_8 : decode b_Qo_holds 8 = .ok (.invokestatic 85, 3) := by decide +kernel
theorem d_Qo_holds_11 : decode b_Qo_holds 11 = .ok (.ifCond .eq 10, 3) := by decide +kernel
theorem d_Qo_holds_14 : decode b_Qo_holds 14 = .ok (.iload_n 3, 1) := by decide +kernel
theorem d_Qo_holds_15 : decode b_Qo_holds 15 = .ok (.invokestatic 85, 3) := by decide +kernel
theorem d_Qo_holds_18 : decode b_Qo_holds 18 = .ok (.ifCond .ne 13, 3) := by decide +kernel
theorem d_Qo_holds_21 : decode b_Qo_holds 21 = .ok (.new 40, 3) := by decide +kernel
theorem d_Qo_holds_24 : decode b_Qo_holds 24 = .ok (.dup, 1) := by decide +kernel
theorem d_Qo_holds_25 : decode b_Qo_holds 25 = .ok (.ldc 88, 2) := by decide +kernel
theorem d_Qo_holds_27 : decode b_Qo_holds 27 = .ok (.invokespecial 44, 3) := by decide +kernel
theorem d_Qo_holds_30 : decode b_Qo_holds 30 = .ok (.athrow, 1) := by decide +kernel
theorem d_Qo_holds_31 : decode b_Qo_holds 31 = .ok (.aload_n 0, 1) := by decide +kernel
theorem d_Qo_holds_32 : decode b_Qo_holds 32 = .ok (.getfield 18, 3) := by decide +kernel
theorem d_Qo_holds_35 : decode b_Qo_holds 35 = .ok (.iload_n 2, 1) := by decide +kernel
theorem d_Qo_holds_36 : decode b_Qo_holds 36 = .ok (.iload_n 3, 1) := by decide +kernel
theorem d_Qo_holds_37 : decode b_Qo_holds 37 = .ok (.invokevirtual 90, 3) := by decide +kernel
theorem d_Qo_holds_40 : decode b_Qo_holds 40 = .ok (.aload 4, 2) := by decide +kernel
theorem d_Qo_holds_42 : decode b_Qo_holds 42 = .ok (.aload_n 0, 1) := by decide +kernel
theorem d_Qo_holds_43 : decode b_Qo_holds 43 = .ok (.getfield 18, 3) := by decide +kernel
theorem d_Qo_holds_46 : decode b_Qo_holds 46 = .ok (.invokevirtual 94, 3) := by decide +kernel
theorem d_Qo_holds_49 : decode b_Qo_holds 49 = .ok (.ireturn, 1) := by decide +kernel
theorem d_Qo_isValue_0 : decode b_Qo_isValue 0 = .ok (.iload_n 0, 1) := by decide +kernel
theorem d_Qo_isValue_1 : decode b_Qo_isValue 1 = .ok (.bipush (-50), 2) := by decide +kernel
theorem d_Qo_isValue_3 : decode b_Qo_isValue 3 = .ok (.if_icmp .lt 13, 3) := by decide +kernel
theorem d_Qo_isValue_6 : decode b_Qo_isValue 6 = .ok (.iload_n 0, 1) := by decide +kernel
theorem d_Qo_isValue_7 : decode b_Qo_isValue 7 = .ok (.bipush 50, 2) := by decide +kernel
theorem d_Qo_isValue_9 : decode b_Qo_isValue 9 = .ok (.if_icmp .gt 7, 3) := by decide +kernel
theorem d_Qo_isValue_12 : decode b_Qo_isValue 12 = .ok (.iconst 1, 1) := by decide +kernel
theorem d_Qo_isValue_13 : decode b_Qo_isValue 13 = .ok (.goto 4, 3) := by decide +kernel
theorem d_Qo_isValue_16 : decode b_Qo_isValue 16 = .ok (.iconst 0, 1) := by decide +kernel
theorem d_Qo_isValue_17 : decode b_Qo_isValue 17 = .ok (.ireturn, 1) := by decide +kernel
theorem d_Ng_isTrueAt_0 : decode b_Ng_isTrueAt 0 = .ok (.aload_n 0, 1) := by decide +kernel
theorem d_Ng_isTrueAt_1 : decode b_Ng_isTrueAt 1 = .ok (.getfield 18, 3) := by decide +kernel
theorem d_Ng_isTrueAt_4 : decode b_Ng_isTrueAt 4 = .ok (.aload_n 1, 1) := by decide +kernel
theorem d_Ng_isTrueAt_5 : decode b_Ng_isTrueAt 5 = .ok (.invokevirtual 24, 3) := by decide +kernel
theorem d_Ng_isTrueAt_8 : decode b_Ng_isTrueAt 8 = .ok (.ifCond .ne 7, 3) := by decide +kernel
theorem d_Ng_isTrueAt_11 : decode b_Ng_isTrueAt 11 = .ok (.iconst 1, 1) := by decide +kernel
theorem d_Ng_isTrueAt_12 : decode b_Ng_isTrueAt 12 = .ok (.goto 4, 3) := by decide +kernel
theorem d_Ng_isTrueAt_15 : decode b_Ng_isTrueAt 15 = .ok (.iconst 0, 1) := by decide +kernel
theorem d_Ng_isTrueAt_16 : decode b_Ng_isTrueAt 16 = .ok (.ireturn, 1) := by decide +kernel
theorem d_Pr_isTrueAt_0 : decode b_Pr_isTrueAt 0 = .ok (.aload_n 0, 1) := by decide +kernel
theorem d_Pr_isTrueAt_1 : decode b_Pr_isTrueAt 1 = .ok (.getfield 37, 3) := by decide +kernel
theorem d_Pr_isTrueAt_4 : decode b_Pr_isTrueAt 4 = .ok (.ifCond .eq 31, 3) := by decide +kernel
theorem d_Pr_isTrueAt_7 : decode b_Pr_isTrueAt 7 = .ok (.aload_n 0, 1) := by decide +kernel
theorem d_Pr_isTrueAt_8 : decode b_Pr_isTrueAt 8 = .ok (.getfield 30, 3) := by decide +kernel
theorem d_Pr_isTrueAt_11 : decode b_Pr_isTrueAt 11 = .ok (.aload_n 1, 1) := by decide +kernel
theorem d_Pr_isTrueAt_12 : decode b_Pr_isTrueAt 12 = .ok (.invokevirtual 47, 3) := by decide +kernel
theorem d_Pr_isTrueAt_15 : decode b_Pr_isTrueAt 15 = .ok (.ifCond .eq 18, 3) := by decide +kernel
theorem d_Pr_isTrueAt_18 : decode b_Pr_isTrueAt 18 = .ok (.aload_n 0, 1) := by decide +kernel
theorem d_Pr_isTrueAt_19 : decode b_Pr_isTrueAt 19 = .ok (.getfield 34, 3) := by decide +kernel
theorem d_Pr_isTrueAt_22 : decode b_Pr_isTrueAt 22 = .ok (.aload_n 1, 1) := by decide +kernel
theorem d_Pr_isTrueAt_23 : decode b_Pr_isTrueAt 23 = .ok (.invokevirtual 47, 3) := by decide +kernel
theorem d_Pr_isTrueAt_26 : decode b_Pr_isTrueAt 26 = .ok (.ifCond .eq 7, 3) := by decide +kernel
theorem d_Pr_isTrueAt_29 : decode b_Pr_isTrueAt 29 = .ok (.iconst 1, 1) := by decide +kernel
theorem d_Pr_isTrueAt_30 : decode b_Pr_isTrueAt 30 = .ok (.goto 4, 3) := by decide +kernel
theorem d_Pr_isTrueAt_33 : decode b_Pr_isTrueAt 33 = .ok (.iconst 0, 1) := by decide +kernel
theorem d_Pr_isTrueAt_34 : decode b_Pr_isTrueAt 34 = .ok (.ireturn, 1) := by decide +kernel
theorem d_Pr_isTrueAt_35 : decode b_Pr_isTrueAt 35 = .ok (.aload_n 0, 1) := by decide +kernel
theorem d_Pr_isTrueAt_36 : decode b_Pr_isTrueAt 36 = .ok (.getfield 30, 3) := by decide +kernel
theorem d_Pr_isTrueAt_39 : decode b_Pr_isTrueAt 39 = .ok (.aload_n 1, 1) := by decide +kernel
theorem d_Pr_isTrueAt_40 : decode b_Pr_isTrueAt 40 = .ok (.invokevirtual 47, 3) := by decide +kernel
theorem d_Pr_isTrueAt_43 : decode b_Pr_isTrueAt 43 = .ok (.ifCond .ne 14, 3) := by decide +kernel
theorem d_Pr_isTrueAt_46 : decode b_Pr_isTrueAt 46 = .ok (.aload_n 0, 1) := by decide +kernel
theorem d_Pr_isTrueAt_47 : decode b_Pr_isTrueAt 47 = .ok (.getfield 34, 3) := by decide +kernel
theorem d_Pr_isTrueAt_50 : decode b_Pr_isTrueAt 50 = .ok (.aload_n 1, 1) := by decide +kernel
theorem d_Pr_isTrueAt_51 : decode b_Pr_isTrueAt 51 = .ok (.invokevirtual 47, 3) := by decide +kernel
theorem d_Pr_isTrueAt_54 : decode b_Pr_isTrueAt 54 = .ok (.ifCond .eq 7, 3) := by decide +kernel
theorem d_Pr_isTrueAt_57 : decode b_Pr_isTrueAt 57 = .ok (.iconst 1, 1) := by decide +kernel
theorem d_Pr_isTrueAt_58 : decode b_Pr_isTrueAt 58 = .ok (.goto 4, 3) := by decide +kernel
theorem d_Pr_isTrueAt_61 : decode b_Pr_isTrueAt 61 = .ok (.iconst 0, 1) := by decide +kernel
theorem d_Pr_isTrueAt_62 : decode b_Pr_isTrueAt 62 = .ok (.ireturn, 1) := by decide +kernel
theorem d_Qf_isTrueAt_0 : decode b_Qf_isTrueAt 0 = .ok (.aload_n 1, 1) := by decide +kernel
theorem d_Qf_isTrueAt_1 : decode b_Qf_isTrueAt 1 = .ok (.getfield 31, 3) := by decide +kernel
theorem d_Qf_isTrueAt_4 : decode b_Qf_isTrueAt 4 = .ok (.aload_n 0, 1) := by decide +kernel
theorem d_Qf_isTrueAt_5 : decode b_Qf_isTrueAt 5 = .ok (.getfield 18, 3) := by decide +kernel
theorem d_Qf_isTrueAt_8 : decode b_Qf_isTrueAt 8 = .ok (.laload, 1) := by decide +kernel
theorem d_Qf_isTrueAt_9 : decode b_Qf_isTrueAt 9 = .ok (.lstore_n 2, 1) := by decide +kernel
theorem d_Qf_isTrueAt_10 : decode b_Qf_isTrueAt 10 = .ok (.aload_n 1, 1) := by decide +kernel
theorem d_Qf_isTrueAt_11 : decode b_Qf_isTrueAt 11 = .ok (.getfield 37, 3) := by decide +kernel
theorem d_Qf_isTrueAt_14 : decode b_Qf_isTrueAt 14 = .ok (.aload_n 0, 1) := by decide +kernel
theorem d_Qf_isTrueAt_15 : decode b_Qf_isTrueAt 15 = .ok (.getfield 18, 3) := by decide +kernel
theorem d_Qf_isTrueAt_18 : decode b_Qf_isTrueAt 18 = .ok (.laload, 1) := by decide +kernel
theorem d_Qf_isTrueAt_19 : decode b_Qf_isTrueAt 19 = .ok (.lstore 4, 2) := by decide +kernel
theorem d_Qf_isTrueAt_21 : decode b_Qf_isTrueAt 21 = .ok (.aload_n 1, 1) := by decide +kernel
theorem d_Qf_isTrueAt_22 : decode b_Qf_isTrueAt 22 = .ok (.aload_n 0, 1) := by decide +kernel
theorem d_Qf_isTrueAt_23 : decode b_Qf_isTrueAt 23 = .ok (.getfield 40, 3) := by decide +kernel
theorem d_Qf_isTrueAt_26 : decode b_Qf_isTrueAt 26 = .ok (.invokevirtual 41, 3) := by decide +kernel
theorem d_Qf_isTrueAt_29 : decode b_Qf_isTrueAt 29 = .ok (.astore 6, 2) := by decide +kernel
theorem d_Qf_isTrueAt_31 : decode b_Qf_isTrueAt 31 = .ok (.aload 6, 2) := by decide +kernel
theorem d_Qf_isTrueAt_33 : decode b_Qf_isTrueAt 33 = .ok (.aload_n 0, 1) := by decide +kernel
theorem d_Qf_isTrueAt_34 : decode b_Qf_isTrueAt 34 = .ok (.getfield 23, 3) := by decide +kernel
theorem d_Qf_isTrueAt_37 : decode b_Qf_isTrueAt 37 = .ok (.aload_n 0, 1) := by decide +kernel
theorem d_Qf_isTrueAt_38 : decode b_Qf_isTrueAt 38 = .ok (.getfield 18, 3) := by decide +kernel
theorem d_Qf_isTrueAt_41 : decode b_Qf_isTrueAt 41 = .ok (.aload_n 1, 1) := by decide +kernel
theorem d_Qf_isTrueAt_42 : decode b_Qf_isTrueAt 42 = .ok (.invokevirtual 45, 3) := by decide +kernel
theorem d_Qf_isTrueAt_45 : decode b_Qf_isTrueAt 45 = .ok (.aload_n 0, 1) := by decide +kernel
theorem d_Qf_isTrueAt_46 : decode b_Qf_isTrueAt 46 = .ok (.getfield 27, 3) := by decide +kernel
theorem d_Qf_isTrueAt_49 : decode b_Qf_isTrueAt 49 = .ok (.istore 7, 2) := by decide +kernel
theorem d_Qf_isTrueAt_51 : decode b_Qf_isTrueAt 51 = .ok (.iconst 0, 1) := by decide +kernel
theorem d_Qf_isTrueAt_52 : decode b_Qf_isTrueAt 52 = .ok (.istore 8, 2) := by decide +kernel
theorem d_Qf_isTrueAt_54 : decode b_Qf_isTrueAt 54 = .ok (.iload 8, 2) := by decide +kernel
theorem d_Qf_isTrueAt_56 : decode b_Qf_isTrueAt 56 = .ok (.aload 6, 2) := by decide +kernel
theorem d_Qf_isTrueAt_58 : decode b_Qf_isTrueAt 58 = .ok (.invokevirtual 51, 3) := by decide +kernel
theorem d_Qf_isTrueAt_61 : decode b_Qf_isTrueAt 61 = .ok (.if_icmp .ge 40, 3) := by decide +kernel
theorem d_Qf_isTrueAt_64 : decode b_Qf_isTrueAt 64 = .ok (.iload 7, 2) := by decide +kernel
theorem d_Qf_isTrueAt_66 : decode b_Qf_isTrueAt 66 = .ok (.aload_n 0, 1) := by decide +kernel
theorem d_Qf_isTrueAt_67 : decode b_Qf_isTrueAt 67 = .ok (.getfield 27, 3) := by decide +kernel
theorem d_Qf_isTrueAt_70 : decode b_Qf_isTrueAt 70 = .ok (.if_icmp .ne 31, 3) := by decide +kernel
theorem d_Qf_isTrueAt_73 : decode b_Qf_isTrueAt 73 = .ok (.aload 6, 2) := by decide +kernel
theorem d_Qf_isTrueAt_75 : decode b_Qf_isTrueAt 75 = .ok (.iload 8, 2) := by decide +kernel
theorem d_Qf_isTrueAt_77 : decode b_Qf_isTrueAt 77 = .ok (.aload_n 0, 1) := by decide +kernel
theorem d_Qf_isTrueAt_78 : decode b_Qf_isTrueAt 78 = .ok (.getfield 18, 3) := by decide +kernel
theorem d_Qf_isTrueAt_81 : decode b_Qf_isTrueAt 81 = .ok (.aload_n 1, 1) := by decide +kernel
theorem d_Qf_isTrueAt_82 : decode b_Qf_isTrueAt 82 = .ok (.invokevirtual 55, 3) := by decide +kernel
theorem d_Qf_isTrueAt_85 : decode b_Qf_isTrueAt 85 = .ok (.aload_n 0, 1) := by decide +kernel
theorem d_Qf_isTrueAt_86 : decode b_Qf_isTrueAt 86 = .ok (.getfield 23, 3) := by decide +kernel
theorem d_Qf_isTrueAt_89 : decode b_Qf_isTrueAt 89 = .ok (.aload_n 1, 1) := by decide +kernel
theorem d_Qf_isTrueAt_90 : decode b_Qf_isTrueAt 90 = .ok (.invokevirtual 59, 3) := by decide +kernel
theorem d_Qf_isTrueAt_93 : decode b_Qf_isTrueAt 93 = .ok (.istore 7, 2) := by decide +kernel
theorem d_Qf_isTrueAt_95 : decode b_Qf_isTrueAt 95 = .ok (.iinc 8 1, 3) := by decide +kernel
theorem d_Qf_isTrueAt_98 : decode b_Qf_isTrueAt 98 = .ok (.goto (-44), 3) := by decide +kernel
theorem d_Qf_isTrueAt_101 : decode b_Qf_isTrueAt 101 = .ok (.aload_n 1, 1) := by decide +kernel
theorem d_Qf_isTrueAt_102 : decode b_Qf_isTrueAt 102 = .ok (.aload_n 0, 1) := by decide +kernel
theorem d_Qf_isTrueAt_103 : decode b_Qf_isTrueAt 103 = .ok (.getfield 18, 3) := by decide +kernel
theorem d_Qf_isTrueAt_106 : decode b_Qf_isTrueAt 106 = .ok (.lload_n 2, 1) := by decide +kernel
theorem d_Qf_isTrueAt_107 : decode b_Qf_isTrueAt 107 = .ok (.lload 4, 2) := by decide +kernel
theorem d_Qf_isTrueAt_109 : decode b_Qf_isTrueAt 109 = .ok (.invokevirtual 63, 3) := by decide +kernel
theorem d_Qf_isTrueAt_112 : decode b_Qf_isTrueAt 112 = .ok (.iload 7, 2) := by decide +kernel
theorem d_Qf_isTrueAt_114 : decode b_Qf_isTrueAt 114 = .ok (.ireturn, 1) := by decide +kernel
theorem d_Qo_decide_0 : decode b_Qo_decide 0 = .ok (.aload_n 0, 1) := by decide +kernel
theorem d_Qo_decide_1 : decode b_Qo_decide 1 = .ok (.iload_n 1, 1) := by decide +kernel
theorem d_Qo_decide_2 : decode b_Qo_decide 2 = .ok (.invokevirtual 62, 3) := by decide +kernel
theorem d_Qo_decide_5 : decode b_Qo_decide 5 = .ok (.astore_n 2, 1) := by decide +kernel
theorem d_Qo_decide_6 : decode b_Qo_decide 6 = .ok (.aload_n 2, 1) := by decide +kernel
theorem d_Qo_decide_7 : decode b_Qo_decide 7 = .ok (.getfield 98, 3) := by decide +kernel
theorem d_Qo_decide_10 : decode b_Qo_decide 10 = .ok (.ifCond .eq 13, 3) := by decide +kernel
theorem d_Qo_decide_13 : decode b_Qo_decide 13 = .ok (.new 101, 3) := by decide +kernel
theorem d_Qo_decide_16 : decode b_Qo_decide 16 = .ok (.dup, 1) := by decide +kernel
theorem d_Qo_decide_17 : decode b_Qo_decide 17 = .ok (.ldc 103, 2) := by decide +kernel
theorem d_Qo_decide_19 : decode b_Qo_decide 19 = .ok (.invokespecial 105, 3) := by decide +kernel
theorem d_Qo_decide_22 : decode b_Qo_decide 22 = .ok (.athrow, 1) := by decide +kernel
theorem d_Qo_decide_23 : decode b_Qo_decide 23 = .ok (.aload_n 0, 1) := by decide +kernel
theorem d_Qo_decide_24 : decode b_Qo_decide 24 = .ok (.getfield 18, 3) := by decide +kernel
theorem d_Qo_decide_27 : decode b_Qo_decide 27 = .ok (.iconst 0, 1) := by decide +kernel
theorem d_Qo_decide_28 : decode b_Qo_decide 28 = .ok (.iconst 0, 1) := by decide +kernel
theorem d_Qo_decide_29 : decode b_Qo_decide 29 = .ok (.invokevirtual 90, 3) := by decide +kernel
theorem d_Qo_decide_32 : decode b_Qo_decide 32 = .ok (.aload_n 2, 1) := by decide +kernel
theorem d_Qo_decide_33 : decode b_Qo_decide 33 = .ok (.aload_n 0, 1) := by decide +kernel
theorem d_Qo_decide_34 : decode b_Qo_decide 34 = .ok (.getfield 18, 3) := by decide +kernel
theorem d_Qo_decide_37 : decode b_Qo_decide 37 = .ok (.invokevirtual 94, 3) := by decide +kernel
theorem d_Qo_decide_40 : decode b_Qo_decide 40 = .ok (.ireturn, 1) := by decide +kernel
theorem d_Qo_pieces_0 : decode b_Qo_pieces 0 = .ok (.aload_n 0, 1) := by decide +kernel
theorem d_Qo_pieces_1 : decode b_Qo_pieces 1 = .ok (.iload_n 1, 1) := by decide +kernel
theorem d_Qo_pieces_2 : decode b_Qo_pieces 2 = .ok (.invokevirtual 106, 3) := by decide +kernel
theorem d_Qo_pieces_5 : decode b_Qo_pieces 5 = .ok (.aload_n 0, 1) := by decide +kernel
theorem d_Qo_pieces_6 : decode b_Qo_pieces 6 = .ok (.getfield 25, 3) := by decide +kernel
theorem d_Qo_pieces_9 : decode b_Qo_pieces 9 = .ok (.getfield 110, 3) := by decide +kernel
theorem d_Qo_pieces_12 : decode b_Qo_pieces 12 = .ok (.ireturn, 1) := by decide +kernel
theorem d_Qo_findPieces_0 : decode b_Qo_findPieces 0 = .ok (.aload_n 0, 1) := by decide +kernel
theorem d_Qo_findPieces_1 : decode b_Qo_findPieces 1 = .ok (.iload_n 1, 1) := by decide +kernel
theorem d_Qo_findPieces_2 : decode b_Qo_findPieces 2 = .ok (.invokevirtual 62, 3) := by decide +kernel
theorem d_Qo_findPieces_5 : decode b_Qo_findPieces 5 = .ok (.astore_n 2, 1) := by decide +kernel
theorem d_Qo_findPieces_6 : decode b_Qo_findPieces 6 = .ok (.aload_n 2, 1) := by decide +kernel
theorem d_Qo_findPieces_7 : decode b_Qo_findPieces 7 = .ok (.getfield 98, 3) := by decide +kernel
theorem d_Qo_findPieces_10 : decode b_Qo_findPieces 10 = .ok (.iconst 1, 1) := by decide +kernel
theorem d_Qo_findPieces_11 : decode b_Qo_findPieces 11 = .ok (.if_icmp .eq 11, 3) := by decide +kernel
theorem d_Qo_findPieces_14 : decode b_Qo_findPieces 14 = .ok (.aload_n 2, 1) := by decide +kernel
theorem d_Qo_findPieces_15 : decode b_Qo_findPieces 15 = .ok (.getfield 98, 3) := by decide +kernel
theorem d_Qo_findPieces_18 : decode b_Qo_findPieces 18 = .ok (.iconst 2, 1) := by decide +kernel
theorem d_Qo_findPieces_19 : decode b_Qo_findPieces 19 = .ok (.if_icmp .ne 7, 3) := by decide +kernel
theorem d_Qo_findPieces_22 : decode b_Qo_findPieces 22 = .ok (.iconst 1, 1) := by decide +kernel
theorem d_Qo_findPieces_23 : decode b_Qo_findPieces 23 = .ok (.goto 4, 3) := by decide +kernel
theorem d_Qo_findPieces_26 : decode b_Qo_findPieces 26 = .ok (.iconst 0, 1) := by decide +kernel
theorem d_Qo_findPieces_27 : decode b_Qo_findPieces 27 = .ok (.istore_n 3, 1) := by decide +kernel
theorem d_Qo_findPieces_28 : decode b_Qo_findPieces 28 = .ok (.iload_n 3, 1) := by decide +kernel
theorem d_Qo_findPieces_29 : decode b_Qo_findPieces 29 = .ok (.ifCond .eq 11, 3) := by decide +kernel
theorem d_Qo_findPieces_32 : decode b_Qo_findPieces 32 = .ok (.aload_n 2, 1) := by decide +kernel
theorem d_Qo_findPieces_33 : decode b_Qo_findPieces 33 = .ok (.getfield 80, 3) := by decide +kernel
theorem d_Qo_findPieces_36 : decode b_Qo_findPieces 36 = .ok (.iconst 1, 1) := by decide +kernel
theorem d_Qo_findPieces_37 : decode b_Qo_findPieces 37 = .ok (.if_icmp .le 13, 3) := by decide +kernel
theorem d_Qo_findPieces_40 : decode b_Qo_findPieces 40 = .ok (.new 101, 3) := by decide +kernel
theorem d_Qo_findPieces_43 : decode b_Qo_findPieces 43 = .ok (.dup, 1) := by decide +kernel
theorem d_Qo_findPieces_44 : decode b_Qo_findPieces 44 = .ok (.ldc 149, 2) := by decide +kernel
theorem d_Qo_findPieces_46 : decode b_Qo_findPieces 46 = .ok (.invokespecial 105, 3) := by decide +kernel
theorem d_Qo_findPieces_49 : decode b_Qo_findPieces 49 = .ok (.athrow, 1) := by decide +kernel
theorem d_Qo_findPieces_50 : decode b_Qo_findPieces 50 = .ok (.aload_n 0, 1) := by decide +kernel
theorem d_Qo_findPieces_51 : decode b_Qo_findPieces 51 = .ok (.getfield 25, 3) := by decide +kernel
theorem d_Qo_findPieces_54 : decode b_Qo_findPieces 54 = .ok (.aload_n 2, 1) := by decide +kernel
theorem d_Qo_findPieces_55 : decode b_Qo_findPieces 55 = .ok (.aload_n 0, 1) := by decide +kernel
theorem d_Qo_findPieces_56 : decode b_Qo_findPieces 56 = .ok (.getfield 18, 3) := by decide +kernel
theorem d_Qo_findPieces_59 : decode b_Qo_findPieces 59 = .ok (.invokevirtual 151, 3) := by decide +kernel
theorem d_Qo_findPieces_62 : decode b_Qo_findPieces 62 = .ok (.return_, 1) := by decide +kernel
theorem d_Pc_find_0 : decode b_Pc_find 0 = .ok (.aload_n 1, 1) := by decide +kernel
theorem d_Pc_find_1 : decode b_Pc_find 1 = .ok (.aload_n 0, 1) := by decide +kernel
theorem d_Pc_find_2 : decode b_Pc_find 2 = .ok (.getfield 29, 3) := by decide +kernel
theorem d_Pc_find_5 : decode b_Pc_find 5 = .ok (.if_acmp .ne 4, 3) := by decide +kernel
theorem d_Pc_find_8 : decode b_Pc_find 8 = .ok (.return_, 1) := by decide +kernel
theorem d_Pc_find_9 : decode b_Pc_find 9 = .ok (.aload_n 0, 1) := by decide +kernel
theorem d_Pc_find_10 : decode b_Pc_find 10 = .ok (.aload_n 1, 1) := by decide +kernel
theorem d_Pc_find_11 : decode b_Pc_find 11 = .ok (.putfield 29, 3) := by decide +kernel
theorem d_Pc_find_14 : decode b_Pc_find 14 = .ok (.aload_n 0, 1) := by decide +kernel
theorem d_Pc_find_15 : decode b_Pc_find 15 = .ok (.iconst 0, 1) := by decide +kernel
theorem d_Pc_find_16 : decode b_Pc_find 16 = .ok (.putfield 25, 3) := by decide +kernel
theorem d_Pc_find_19 : decode b_Pc_find 19 = .ok (.aload_n 1, 1) := by decide +kernel
theorem d_Pc_find_20 : decode b_Pc_find 20 = .ok (.iconst 0, 1) := by decide +kernel
theorem d_Pc_find_21 : decode b_Pc_find 21 = .ok (.invokevirtual 33, 3) := by decide +kernel
theorem d_Pc_find_24 : decode b_Pc_find 24 = .ok (.ifCond .eq 7, 3) := by decide +kernel
theorem d_Pc_find_27 : decode b_Pc_find 27 = .ok (.iconst 0, 1) := by decide +kernel
theorem d_Pc_find_28 : decode b_Pc_find 28 = .ok (.goto 4, 3) := by decide +kernel
theorem d_Pc_find_31 : decode b_Pc_find 31 = .ok (.iconst 1, 1) := by decide +kernel
theorem d_Pc_find_32 : decode b_Pc_find 32 = .ok (.istore_n 3, 1) := by decide +kernel
theorem d_Pc_find_33 : decode b_Pc_find 33 = .ok (.aload_n 2, 1) := by decide +kernel
theorem d_Pc_find_34 : decode b_Pc_find 34 = .ok (.iconst 0, 1) := by decide +kernel
theorem d_Pc_find_35 : decode b_Pc_find 35 = .ok (.iconst 0, 1) := by decide +kernel
theorem d_Pc_find_36 : decode b_Pc_find 36 = .ok (.invokevirtual 39, 3) := by decide +kernel
theorem d_Pc_find_39 : decode b_Pc_find 39 = .ok (.aload_n 0, 1) := by decide +kernel
theorem d_Pc_find_40 : decode b_Pc_find 40 = .ok (.getfield 12, 3) := by decide +kernel
theorem d_Pc_find_43 : decode b_Pc_find 43 = .ok (.aload_n 1, 1) := by decide +kernel
theorem d_Pc_find_44 : decode b_Pc_find 44 = .ok (.iload_n 3, 1) := by decide +kernel
theorem d_Pc_find_45 : decode b_Pc_find 45 = .ok (.aload_n 2, 1) := by decide +kernel
theorem d_Pc_find_46 : decode b_Pc_find 46 = .ok (.invokevirtual 45, 3) := by decide +kernel
theorem d_Pc_find_49 : decode b_Pc_find 49 = .ok (.iconst 0, 1) := by decide +kernel
theorem d_Pc_find_50 : decode b_Pc_find 50 = .ok (.istore 4, 2) := by decide +kernel
theorem d_Pc_find_52 : decode b_Pc_find 52 = .ok (.iconst 0, 1) := by decide +kernel
theorem d_Pc_find_53 : decode b_Pc_find 53 = .ok (.istore 5, 2) := by decide +kernel
theorem d_Pc_find_55 : decode b_Pc_find 55 = .ok (.iload 5, 2) := by decide +kernel
theorem d_Pc_find_57 : decode b_Pc_find 57 = .ok (.aload_n 0, 1) := by decide +kernel
theorem d_Pc_find_58 : decode b_Pc_find 58 = .ok (.getfield 12, 3) := by decide +kernel
theorem d_Pc_find_61 : decode b_Pc_find 61 = .ok (.invokevirtual 49, 3) := by decide +kernel
theorem d_Pc_find_64 : decode b_Pc_find 64 = .ok (.if_icmp .ge 96, 3) := by decide +kernel
theorem d_Pc_find_67 : decode b_Pc_find 67 = .ok (.aload_n 0, 1) := by decide +kernel
theorem d_Pc_find_68 : decode b_Pc_find 68 = .ok (.getfield 12, 3) := by decide +kernel
theorem d_Pc_find_71 : decode b_Pc_find 71 = .ok (.iload 5, 2) := by decide +kernel
theorem d_Pc_find_73 : decode b_Pc_find 73 = .ok (.iload_n 3, 1) := by decide +kernel
theorem d_Pc_find_74 : decode b_Pc_find 74 = .ok (.aload_n 2, 1) := by decide +kernel
theorem d_Pc_find_75 : decode b_Pc_find 75 = .ok (.invokevirtual 53, 3) := by decide +kernel
theorem d_Pc_find_78 : decode b_Pc_find 78 = .ok (.aload_n 1, 1) := by decide +kernel
theorem d_Pc_find_79 : decode b_Pc_find 79 = .ok (.aload_n 2, 1) := by decide +kernel
theorem d_Pc_find_80 : decode b_Pc_find 80 = .ok (.invokevirtual 57, 3) := by decide +kernel
theorem d_Pc_find_83 : decode b_Pc_find 83 = .ok (.istore 6, 2) := by decide +kernel
theorem d_Pc_find_85 : decode b_Pc_find 85 = .ok (.iload 6, 2) := by decide +kernel
theorem d_Pc_find_87 : decode b_Pc_find 87 = .ok (.ifCond .eq 38, 3) := by decide +kernel
theorem d_Pc_find_90 : decode b_Pc_find 90 = .ok (.iload 4, 2) := by decide +kernel
theorem d_Pc_find_92 : decode b_Pc_find 92 = .ok (.ifCond .ne 33, 3) := by decide +kernel
theorem d_Pc_find_95 : decode b_Pc_find 95 = .ok (.aload_n 0, 1) := by decide +kernel
theorem d_Pc_find_96 : decode b_Pc_find 96 = .ok (.getfield 25, 3) := by decide +kernel
theorem d_Pc_find_99 : decode b_Pc_find 99 = .ok (.bipush 22, 2) := by decide +kernel
theorem d_Pc_find_101 : decode b_Pc_find 101 = .ok (.if_icmp .ge 24, 3) := by decide +kernel
theorem d_Pc_find_104 : decode b_Pc_find 104 = .ok (.aload_n 0, 1) := by decide +kernel
theorem d_Pc_find_105 : decode b_Pc_find 105 = .ok (.getfield 18, 3) := by decide +kernel
theorem d_Pc_find_108 : decode b_Pc_find 108 = .ok (.aload_n 0, 1) := by decide +kernel
theorem d_Pc_find_109 : decode b_Pc_find 109 = .ok (.getfield 25, 3) := by decide +kernel
theorem d_Pc_find_112 : decode b_Pc_find 112 = .ok (.iload 5, 2) := by decide +kernel
theorem d_Pc_find_114 : decode b_Pc_find 114 = .ok (.iastore, 1) := by decide +kernel
theorem d_Pc_find_115 : decode b_Pc_find 115 = .ok (.aload_n 0, 1) := by decide +kernel
theorem d_Pc_find_116 : decode b_Pc_find 116 = .ok (.dup, 1) := by decide +kernel
theorem d_Pc_find_117 : decode b_Pc_find 117 = .ok (.getfield 25, 3) := by decide +kernel
theorem d_Pc_find_120 : decode b_Pc_find 120 = .ok (.iconst 1, 1) := by decide +kernel
theorem d_Pc_find_121 : decode b_Pc_find 121 = .ok (.iadd, 1) := by decide +kernel
theorem d_Pc_find_122 : decode b_Pc_find 122 = .ok (.putfield 25, 3) := by decide +kernel
theorem d_Pc_find_125 : decode b_Pc_find 125 = .ok (.iload 6, 2) := by decide +kernel
theorem d_Pc_find_127 : decode b_Pc_find 127 = .ok (.ifCond .eq 23, 3) := by decide +kernel
theorem d_Pc_find_130 : decode b_Pc_find 130 = .ok (.aload_n 0, 1) := by decide +kernel
theorem d_Pc_find_131 : decode b_Pc_find 131 = .ok (.getfield 25, 3) := by decide +kernel
theorem d_Pc_find_134 : decode b_Pc_find 134 = .ok (.ifCond .le 16, 3) := by decide +kernel
theorem d_Pc_find_137 : decode b_Pc_find 137 = .ok (.aload_n 0, 1) := by decide +kernel
theorem d_Pc_find_138 : decode b_Pc_find 138 = .ok (.getfield 22, 3) := by decide +kernel
theorem d_Pc_find_141 : decode b_Pc_find 141 = .ok (.aload_n 0, 1) := by decide +kernel
theorem d_Pc_find_142 : decode b_Pc_find 142 = .ok (.getfield 25, 3) := by decide +kernel
theorem d_Pc_find_145 : decode b_Pc_find 145 = .ok (.iconst 1, 1) := by decide +kernel
theorem d_Pc_find_146 : decode b_Pc_find 146 = .ok (.isub, 1) := by decide +kernel
theorem d_Pc_find_147 : decode b_Pc_find 147 = .ok (.iload 5, 2) := by decide +kernel
theorem d_Pc_find_149 : decode b_Pc_find 149 = .ok (.iastore, 1) := by decide +kernel
theorem d_Pc_find_150 : decode b_Pc_find 150 = .ok (.iload 6, 2) := by decide +kernel
theorem d_Pc_find_152 : decode b_Pc_find 152 = .ok (.istore 4, 2) := by decide +kernel
theorem d_Pc_find_154 : decode b_Pc_find 154 = .ok (.iinc 5 1, 3) := by decide +kernel
theorem d_Pc_find_157 : decode b_Pc_find 157 = .ok (.goto (-102), 3) := by decide +kernel
theorem d_Pc_find_160 : decode b_Pc_find 160 = .ok (.return_, 1) := by decide +kernel
theorem d_Qo_end_0 : decode b_Qo_end 0 = .ok (.aload_n 0, 1) := by decide +kernel
theorem d_Qo_end_1 : decode b_Qo_end 1 = .ok (.iload_n 1, 1) := by decide +kernel
theorem d_Qo_end_2 : decode b_Qo_end 2 = .ok (.invokevirtual 106, 3) := by decide +kernel
theorem d_Qo_end_5 : decode b_Qo_end 5 = .ok (.iload_n 2, 1) := by decide +kernel
theorem d_Qo_end_6 : decode b_Qo_end 6 = .ok (.ifCond .lt 14, 3) := by decide +kernel
theorem d_Qo_end_9 : decode b_Qo_end 9 = .ok (.iload_n 2, 1) := by decide +kernel
theorem d_Qo_end_10 : decode b_Qo_end 10 = .ok (.aload_n 0, 1) := by decide +kernel
theorem d_Qo_end_11 : decode b_Qo_end 11 = .ok (.getfield 25, 3) := by decide +kernel
theorem d_Qo_end_14 : decode b_Qo_end 14 = .ok (.getfield 110, 3) := by decide +kernel
theorem d_Qo_end_17 : decode b_Qo_end 17 = .ok (.if_icmp .lt 13, 3) := by decide +kernel
theorem d_Qo_end_20 : decode b_Qo_end 20 = .ok (.new 112, 3) := by decide +kernel
theorem d_Qo_end_23 : decode b_Qo_end 23 = .ok (.dup, 1) := by decide +kernel
theorem d_Qo_end_24 : decode b_Qo_end 24 = .ok (.ldc 114, 2) := by decide +kernel
theorem d_Qo_end_26 : decode b_Qo_end 26 = .ok (.invokespecial 116, 3) := by decide +kernel
theorem d_Qo_end_29 : decode b_Qo_end 29 = .ok (.athrow, 1) := by decide +kernel
theorem d_Qo_end_30 : decode b_Qo_end 30 = .ok (.iload_n 3, 1) := by decide +kernel
theorem d_Qo_end_31 : decode b_Qo_end 31 = .ok (.ifCond .eq 18, 3) := by decide +kernel
theorem d_Qo_end_34 : decode b_Qo_end 34 = .ok (.iload_n 3, 1) := by decide +kernel
theorem d_Qo_end_35 : decode b_Qo_end 35 = .ok (.iconst 1, 1) := by decide +kernel
theorem d_Qo_end_36 : decode b_Qo_end 36 = .ok (.if_icmp .eq 13, 3) := by decide +kernel
theorem d_Qo_end_39 : decode b_Qo_end 39 = .ok (.new 40, 3) := by decide +kernel
theorem d_Qo_end_42 : decode b_Qo_end 42 = .ok (.dup, 1) := by decide +kernel
theorem d_Qo_end_43 : decode b_Qo_end 43 = .ok (.ldc 117, 2) := by decide +kernel
theorem d_Qo_end_45 : decode b_Qo_end 45 = .ok (.invokespecial 44, 3) := by decide +kernel
theorem d_Qo_end_48 : decode b_Qo_end 48 = .ok (.athrow, 1) := by decide +kernel
theorem d_Qo_end_49 : decode b_Qo_end 49 = .ok (.iload 4, 2) := by decide +kernel
theorem d_Qo_end_51 : decode b_Qo_end 51 = .ok (.ifCond .eq 25, 3) := by decide +kernel
theorem d_Qo_end_54 : decode b_Qo_end 54 = .ok (.iload 4, 2) := by decide +kernel
theorem d_Qo_end_56 : decode b_Qo_end 56 = .ok (.iconst 1, 1) := by decide +kernel
theorem d_Qo_end_57 : decode b_Qo_end 57 = .ok (.if_icmp .eq 19, 3) := by decide +kernel
theorem d_Qo_end_60 : decode b_Qo_end 60 = .ok (.iload 4, 2) := by decide +kernel
theorem d_Qo_end_62 : decode b_Qo_end 62 = .ok (.iconst 2, 1) := by decide +kernel
theorem d_Qo_end_63 : decode b_Qo_end 63 = .ok (.if_icmp .eq 13, 3) := by decide +kernel
theorem d_Qo_end_66 : decode b_Qo_end 66 = .ok (.new 40, 3) := by decide +kernel
theorem d_Qo_end_69 : decode b_Qo_end 69 = .ok (.dup, 1) := by decide +kernel
theorem d_Qo_end_70 : decode b_Qo_end 70 = .ok (.ldc 119, 2) := by decide +kernel
theorem d_Qo_end_72 : decode b_Qo_end 72 = .ok (.invokespecial 44, 3) := by decide +kernel
theorem d_Qo_end_75 : decode b_Qo_end 75 = .ok (.athrow, 1) := by decide +kernel
theorem d_Qo_end_76 : decode b_Qo_end 76 = .ok (.aload_n 0, 1) := by decide +kernel
theorem d_Qo_end_77 : decode b_Qo_end 77 = .ok (.getfield 25, 3) := by decide +kernel
theorem d_Qo_end_80 : decode b_Qo_end 80 = .ok (.iload_n 2, 1) := by decide +kernel
theorem d_Qo_end_81 : decode b_Qo_end 81 = .ok (.iload_n 3, 1) := by decide +kernel
theorem d_Qo_end_82 : decode b_Qo_end 82 = .ok (.iload 4, 2) := by decide +kernel
theorem d_Qo_end_84 : decode b_Qo_end 84 = .ok (.invokevirtual 121, 3) := by decide +kernel
theorem d_Qo_end_87 : decode b_Qo_end 87 = .ok (.lreturn, 1) := by decide +kernel
theorem d_Pc_partOfEnd_0 : decode b_Pc_partOfEnd 0 = .ok (.iload_n 2, 1) := by decide +kernel
theorem d_Pc_partOfEnd_1 : decode b_Pc_partOfEnd 1 = .ok (.ifCond .ne 12, 3) := by decide +kernel
theorem d_Pc_partOfEnd_4 : decode b_Pc_partOfEnd 4 = .ok (.aload_n 0, 1) := by decide +kernel
theorem d_Pc_partOfEnd_5 : decode b_Pc_partOfEnd 5 = .ok (.getfield 18, 3) := by decide +kernel
theorem d_Pc_partOfEnd_8 : decode b_Pc_partOfEnd 8 = .ok (.iload_n 1, 1) := by decide +kernel
theorem d_Pc_partOfEnd_9 : decode b_Pc_partOfEnd 9 = .ok (.iaload, 1) := by decide +kernel
theorem d_Pc_partOfEnd_10 : decode b_Pc_partOfEnd 10 = .ok (.goto 9, 3) := by decide +kernel
theorem d_Pc_partOfEnd_13 : decode b_Pc_partOfEnd 13 = .ok (.aload_n 0, 1) := by decide +kernel
theorem d_Pc_partOfEnd_14 : decode b_Pc_partOfEnd 14 = .ok (.getfield 22, 3) := by decide +kernel
theorem d_Pc_partOfEnd_17 : decode b_Pc_partOfEnd 17 = .ok (.iload_n 1, 1) := by decide +kernel
theorem d_Pc_partOfEnd_18 : decode b_Pc_partOfEnd 18 = .ok (.iaload, 1) := by decide +kernel
theorem d_Pc_partOfEnd_19 : decode b_Pc_partOfEnd 19 = .ok (.istore 4, 2) := by decide +kernel
theorem d_Pc_partOfEnd_21 : decode b_Pc_partOfEnd 21 = .ok (.iload_n 2, 1) := by decide +kernel
theorem d_Pc_partOfEnd_22 : decode b_Pc_partOfEnd 22 = .ok (.ifCond .ne 16, 3) := by decide +kernel
theorem d_Pc_partOfEnd_25 : decode b_Pc_partOfEnd 25 = .ok (.iload 4, 2) := by decide +kernel
theorem d_Pc_partOfEnd_27 : decode b_Pc_partOfEnd 27 = .ok (.ifCond .ne 7, 3) := by decide +kernel
theorem d_Pc_partOfEnd_30 : decode b_Pc_partOfEnd 30 = .ok (.iconst 1, 1) := by decide +kernel
theorem d_Pc_partOfEnd_31 : decode b_Pc_partOfEnd 31 = .ok (.goto 26, 3) := by decide +kernel
theorem d_Pc_partOfEnd_34 : decode b_Pc_partOfEnd 34 = .ok (.iconst 0, 1) := by decide +kernel
theorem d_Pc_partOfEnd_35 : decode b_Pc_partOfEnd 35 = .ok (.goto 22, 3) := by decide +kernel
theorem d_Pc_partOfEnd_38 : decode b_Pc_partOfEnd 38 = .ok (.iload 4, 2) := by decide +kernel
theorem d_Pc_partOfEnd_40 : decode b_Pc_partOfEnd 40 = .ok (.aload_n 0, 1) := by decide +kernel
theorem d_Pc_partOfEnd_41 : decode b_Pc_partOfEnd 41 = .ok (.getfield 12, 3) := by decide +kernel
theorem d_Pc_partOfEnd_44 : decode b_Pc_partOfEnd 44 = .ok (.invokevirtual 49, 3) := by decide +kernel
theorem d_Pc_partOfEnd_47 : decode b_Pc_partOfEnd 47 = .ok (.iconst 1, 1) := by decide +kernel
theorem d_Pc_partOfEnd_48 : decode b_Pc_partOfEnd 48 = .ok (.isub, 1) := by decide +kernel
theorem d_Pc_partOfEnd_49 : decode b_Pc_partOfEnd 49 = .ok (.if_icmp .ne 7, 3) := by decide +kernel
theorem d_Pc_partOfEnd_52 : decode b_Pc_partOfEnd 52 = .ok (.iconst 1, 1) := by decide +kernel
theorem d_Pc_partOfEnd_53 : decode b_Pc_partOfEnd 53 = .ok (.goto 4, 3) := by decide +kernel
theorem d_Pc_partOfEnd_56 : decode b_Pc_partOfEnd 56 = .ok (.iconst 0, 1) := by decide +kernel
theorem d_Pc_partOfEnd_57 : decode b_Pc_partOfEnd 57 = .ok (.istore 5, 2) := by decide +kernel
theorem d_Pc_partOfEnd_59 : decode b_Pc_partOfEnd 59 = .ok (.iload 5, 2) := by decide +kernel
theorem d_Pc_partOfEnd_61 : decode b_Pc_partOfEnd 61 = .ok (.ifCond .eq 14, 3) := by decide +kernel
theorem d_Pc_partOfEnd_64 : decode b_Pc_partOfEnd 64 = .ok (.iload_n 3, 1) := by decide +kernel
theorem d_Pc_partOfEnd_65 : decode b_Pc_partOfEnd 65 = .ok (.iconst 2, 1) := by decide +kernel
theorem d_Pc_partOfEnd_66 : decode b_Pc_partOfEnd 66 = .ok (.if_icmp .ne 7, 3) := by decide +kernel
theorem d_Pc_partOfEnd_69 : decode b_Pc_partOfEnd 69 = .ok (.lconst 1, 1) := by decide +kernel
theorem d_Pc_partOfEnd_70 : decode b_Pc_partOfEnd 70 = .ok (.goto 4, 3) := by decide +kernel
theorem d_Pc_partOfEnd_73 : decode b_Pc_partOfEnd 73 = .ok (.lconst 0, 1) := by decide +kernel
theorem d_Pc_partOfEnd_74 : decode b_Pc_partOfEnd 74 = .ok (.lreturn, 1) := by decide +kernel
theorem d_Pc_partOfEnd_75 : decode b_Pc_partOfEnd 75 = .ok (.iload 4, 2) := by decide +kernel
theorem d_Pc_partOfEnd_77 : decode b_Pc_partOfEnd 77 = .ok (.iconst 2, 1) := by decide +kernel
theorem d_Pc_partOfEnd_78 : decode b_Pc_partOfEnd 78 = .ok (.irem, 1) := by decide +kernel
theorem d_Pc_partOfEnd_79 : decode b_Pc_partOfEnd 79 = .ok (.iconst 1, 1) := by decide +kernel
theorem d_Pc_partOfEnd_80 : decode b_Pc_partOfEnd 80 = .ok (.if_icmp .ne 7, 3) := by decide +kernel
theorem d_Pc_partOfEnd_83 : decode b_Pc_partOfEnd 83 = .ok (.iconst 1, 1) := by decide +kernel
theorem d_Pc_partOfEnd_84 : decode b_Pc_partOfEnd 84 = .ok (.goto 4, 3) := by decide +kernel
theorem d_Pc_partOfEnd_87 : decode b_Pc_partOfEnd 87 = .ok (.iconst 0, 1) := by decide +kernel
theorem d_Pc_partOfEnd_88 : decode b_Pc_partOfEnd 88 = .ok (.istore 6, 2) := by decide +kernel
theorem d_Pc_partOfEnd_90 : decode b_Pc_partOfEnd 90 = .ok (.iload_n 3, 1) := by decide +kernel
theorem d_Pc_partOfEnd_91 : decode b_Pc_partOfEnd 91 = .ok (.ifCond .ne 16, 3) := by decide +kernel
theorem d_Pc_partOfEnd_94 : decode b_Pc_partOfEnd 94 = .ok (.iload 6, 2) := by decide +kernel
theorem d_Pc_partOfEnd_96 : decode b_Pc_partOfEnd 96 = .ok (.ifCond .eq 9, 3) := by decide +kernel
theorem d_Pc_partOfEnd_99 : decode b_Pc_partOfEnd 99 = .ok (.ldc2_w 61, 3) := by decide +kernel
theorem d_Pc_partOfEnd_102 : decode b_Pc_partOfEnd 102 = .ok (.goto 4, 3) := by decide +kernel
theorem d_Pc_partOfEnd_105 : decode b_Pc_partOfEnd 105 = .ok (.lconst 1, 1) := by decide +kernel
theorem d_Pc_partOfEnd_106 : decode b_Pc_partOfEnd 106 = .ok (.lreturn, 1) := by decide +kernel
theorem d_Pc_partOfEnd_107 : decode b_Pc_partOfEnd 107 = .ok (.iload 6, 2) := by decide +kernel
theorem d_Pc_partOfEnd_109 : decode b_Pc_partOfEnd 109 = .ok (.ifCond .ne 8, 3) := by decide +kernel
theorem d_Pc_partOfEnd_112 : decode b_Pc_partOfEnd 112 = .ok (.iload_n 2, 1) := by decide +kernel
theorem d_Pc_partOfEnd_113 : decode b_Pc_partOfEnd 113 = .ok (.iconst 1, 1) := by decide +kernel
theorem d_Pc_partOfEnd_114 : decode b_Pc_partOfEnd 114 = .ok (.if_icmp .ne 10, 3) := by decide +kernel
theorem d_Pc_partOfEnd_117 : decode b_Pc_partOfEnd 117 = .ok (.iload 4, 2) := by decide +kernel
theorem d_Pc_partOfEnd_119 : decode b_Pc_partOfEnd 119 = .ok (.iconst 2, 1) := by decide +kernel
theorem d_Pc_partOfEnd_120 : decode b_Pc_partOfEnd 120 = .ok (.idiv, 1) := by decide +kernel
theorem d_Pc_partOfEnd_121 : decode b_Pc_partOfEnd 121 = .ok (.goto 9, 3) := by decide +kernel
theorem d_Pc_partOfEnd_124 : decode b_Pc_partOfEnd 124 = .ok (.iload 4, 2) := by decide +kernel
theorem d_Pc_partOfEnd_126 : decode b_Pc_partOfEnd 126 = .ok (.iconst 2, 1) := by decide +kernel
theorem d_Pc_partOfEnd_127 : decode b_Pc_partOfEnd 127 = .ok (.idiv, 1) := by decide +kernel
theorem d_Pc_partOfEnd_128 : decode b_Pc_partOfEnd 128 = .ok (.iconst 1, 1) := by decide +kernel
theorem d_Pc_partOfEnd_129 : decode b_Pc_partOfEnd 129 = .ok (.isub, 1) := by decide +kernel
theorem d_Pc_partOfEnd_130 : decode b_Pc_partOfEnd 130 = .ok (.istore 7, 2) := by decide +kernel
theorem d_Pc_partOfEnd_132 : decode b_Pc_partOfEnd 132 = .ok (.iload_n 3, 1) := by decide +kernel
theorem d_Pc_partOfEnd_133 : decode b_Pc_partOfEnd 133 = .ok (.iconst 1, 1) := by decide +kernel
theorem d_Pc_partOfEnd_134 : decode b_Pc_partOfEnd 134 = .ok (.if_icmp .ne 15, 3) := by decide +kernel
theorem d_Pc_partOfEnd_137 : decode b_Pc_partOfEnd 137 = .ok (.aload_n 0, 1) := by decide +kernel
theorem d_Pc_partOfEnd_138 : decode b_Pc_partOfEnd 138 = .ok (.getfield 12, 3) := by decide +kernel
theorem d_Pc_partOfEnd_141 : decode b_Pc_partOfEnd 141 = .ok (.iload 7, 2) := by decide +kernel
theorem d_Pc_partOfEnd_143 : decode b_Pc_partOfEnd 143 = .ok (.invokevirtual 63, 3) := by decide +kernel
theorem d_Pc_partOfEnd_146 : decode b_Pc_partOfEnd 146 = .ok (.goto 12, 3) := by decide +kernel
theorem d_Pc_partOfEnd_149 : decode b_Pc_partOfEnd 149 = .ok (.aload_n 0, 1) := by decide +kernel
theorem d_Pc_partOfEnd_150 : decode b_Pc_partOfEnd 150 = .ok (.getfield 12, 3) := by decide +kernel
theorem d_Pc_partOfEnd_153 : decode b_Pc_partOfEnd 153 = .ok (.iload 7, 2) := by decide +kernel
theorem d_Pc_partOfEnd_155 : decode b_Pc_partOfEnd 155 = .ok (.invokevirtual 67, 3) := by decide +kernel
theorem d_Pc_partOfEnd_158 : decode b_Pc_partOfEnd 158 = .ok (.lreturn, 1) := by decide +kernel
theorem d_Qo_alike_0 : decode b_Qo_alike 0 = .ok (.aload_n 0, 1) := by decide +kernel
theorem d_Qo_alike_1 : decode b_Qo_alike 1 = .ok (.iload_n 1, 1) := by decide +kernel
theorem d_Qo_alike_2 : decode b_Qo_alike 2 = .ok (.invokevirtual 62, 3) := by decide +kernel
theorem d_Qo_alike_5 : decode b_Qo_alike 5 = .ok (.astore_n 3, 1) := by decide +kernel
theorem d_Qo_alike_6 : decode b_Qo_alike 6 = .ok (.aload_n 0, 1) := by decide +kernel
theorem d_Qo_alike_7 : decode b_Qo_alike 7 = .ok (.iload_n 2, 1) := by decide +kernel
theorem d_Qo_alike_8 : decode b_Qo_alike 8 = .ok (.invokevirtual 62, 3) := by decide +kernel
theorem d_Qo_alike_11 : decode b_Qo_alike 11 = .ok (.astore 4, 2) := by decide +kernel
theorem d_Qo_alike_13 : decode b_Qo_alike 13 = .ok (.aload_n 3, 1) := by decide +kernel
theorem d_Qo_alike_14 : decode b_Qo_alike 14 = .ok (.aload_n 0, 1) := by decide +kernel
theorem d_Qo_alike_15 : decode b_Qo_alike 15 = .ok (.getfield 18, 3) := by decide +kernel
theorem d_Qo_alike_18 : decode b_Qo_alike 18 = .ok (.invokevirtual 125, 3) := by decide +kernel
theorem d_Qo_alike_21 : decode b_Qo_alike 21 = .ok (.aload 4, 2) := by decide +kernel
theorem d_Qo_alike_23 : decode b_Qo_alike 23 = .ok (.aload_n 0, 1) := by decide +kernel
theorem d_Qo_alike_24 : decode b_Qo_alike 24 = .ok (.getfield 18, 3) := by decide +kernel
theorem d_Qo_alike_27 : decode b_Qo_alike 27 = .ok (.invokevirtual 125, 3) := by decide +kernel
theorem d_Qo_alike_30 : decode b_Qo_alike 30 = .ok (.if_icmp .ne 7, 3) := by decide +kernel
theorem d_Qo_alike_33 : decode b_Qo_alike 33 = .ok (.iconst 1, 1) := by decide +kernel
theorem d_Qo_alike_34 : decode b_Qo_alike 34 = .ok (.goto 4, 3) := by decide +kernel
theorem d_Qo_alike_37 : decode b_Qo_alike 37 = .ok (.iconst 0, 1) := by decide +kernel
theorem d_Qo_alike_38 : decode b_Qo_alike 38 = .ok (.ireturn, 1) := by decide +kernel
theorem d_Ng_findGrid_0 : decode b_Ng_findGrid 0 = .ok (.ldc 28, 2) := by decide +kernel
theorem d_Ng_findGrid_2 : decode b_Ng_findGrid 2 = .ok (.aload_n 0, 1) := by decide +kernel
theorem d_Ng_findGrid_3 : decode b_Ng_findGrid 3 = .ok (.getfield 18, 3) := by decide +kernel
theorem d_Ng_findGrid_6 : decode b_Ng_findGrid 6 = .ok (.aload_n 1, 1) := by decide +kernel
theorem d_Ng_findGrid_7 : decode b_Ng_findGrid 7 = .ok (.invokevirtual 29, 3) := by decide +kernel
theorem d_Ng_findGrid_10 : decode b_Ng_findGrid 10 = .ok (.iconst (-1), 1) := by decide +kernel
theorem d_Ng_findGrid_11 : decode b_Ng_findGrid 11 = .ok (.ixor, 1) := by decide +kernel
theorem d_Ng_findGrid_12 : decode b_Ng_findGrid 12 = .ok (.iand, 1) := by decide +kernel
theorem d_Ng_findGrid_13 : decode b_Ng_findGrid 13 = .ok (.ireturn, 1) := by decide +kernel
theorem d_Pr_findGrid_0 : decode b_Pr_findGrid 0 = .ok (.aload_n 0, 1) := by decide +kernel
theorem d_Pr_findGrid_1 : decode b_Pr_findGrid 1 = .ok (.getfield 30, 3) := by decide +kernel
theorem d_Pr_findGrid_4 : decode b_Pr_findGrid 4 = .ok (.aload_n 1, 1) := by decide +kernel
theorem d_Pr_findGrid_5 : decode b_Pr_findGrid 5 = .ok (.invokevirtual 51, 3) := by decide +kernel
theorem d_Pr_findGrid_8 : decode b_Pr_findGrid 8 = .ok (.istore_n 2, 1) := by decide +kernel
theorem d_Pr_findGrid_9 : decode b_Pr_findGrid 9 = .ok (.aload_n 0, 1) := by decide +kernel
theorem d_Pr_findGrid_10 : decode b_Pr_findGrid 10 = .ok (.getfield 34, 3) := by decide +kernel
theorem d_Pr_findGrid_13 : decode b_Pr_findGrid 13 = .ok (.aload_n 1, 1) := by decide +kernel
theorem d_Pr_findGrid_14 : decode b_Pr_findGrid 14 = .ok (.invokevirtual 51, 3) := by decide +kernel
theorem d_Pr_findGrid_17 : decode b_Pr_findGrid 17 = .ok (.istore_n 3, 1) := by decide +kernel
theorem d_Pr_findGrid_18 : decode b_Pr_findGrid 18 = .ok (.aload_n 0, 1) := by decide +kernel
theorem d_Pr_findGrid_19 : decode b_Pr_findGrid 19 = .ok (.getfield 37, 3) := by decide +kernel
theorem d_Pr_findGrid_22 : decode b_Pr_findGrid 22 = .ok (.ifCond .eq 9, 3) := by decide +kernel
theorem d_Pr_findGrid_25 : decode b_Pr_findGrid 25 = .ok (.iload_n 2, 1) := by decide +kernel
theorem d_Pr_findGrid_26 : decode b_Pr_findGrid 26 = .ok (.iload_n 3, 1) := by decide +kernel
theorem d_Pr_findGrid_27 : decode b_Pr_findGrid 27 = .ok (.iand, 1) := by decide +kernel
theorem d_Pr_findGrid_28 : decode b_Pr_findGrid 28 = .ok (.goto 6, 3) := by decide +kernel
theorem d_Pr_findGrid_31 : decode b_Pr_findGrid 31 = .ok (.iload_n 2, 1) := by decide +kernel
theorem d_Pr_findGrid_32 : decode b_Pr_findGrid 32 = .ok (.iload_n 3, 1) := by decide +kernel
theorem d_Pr_findGrid_33 : decode b_Pr_findGrid 33 = .ok (.ior, 1) := by decide +kernel
theorem d_Pr_findGrid_34 : decode b_Pr_findGrid 34 = .ok (.ireturn, 1) := by decide +kernel
end
section
/-! A contract's head, and calls, over the words ww that all contracts share. -/
section HCO
variable {l : Launch} {D : va_G} {tys : List (ClassId × FieldType)} {cl : List vw_C}
theorem hw_met {y : MethodName} {cc : ByteArray} {maxL : Nat} {ret : Option FieldType} {rm : Room} {av : List Value} {M : Nat → Option va_E} {sz : Nat} {Qc : Array Value → State → Outcome → State → Prop} {mc ms : Nat} {free : Addr → Prop}
    (hy : plainName y.cls = true) (hav : (lg_sl av).length ≤ maxL)
    (body : ∀ (p : Program) (e : Env) (s : State) (m : MethodId) (below : List Frame) (meth : Method) (c : Code), p.tables.exec = Jvm.exec → c.code = cc → meth.sig.returnType = ret → c.maxLocals = maxL → s.vm.findClass y.cls = some m.cls → meth.locks = false → meth.name = y.name → (∀ w ∈ ww, w.before av.toArray s = true) → s.heap.size = sz → hw_X s → hw_W D cl tys (hw_A M s.heap.size) M s s.heap → ∀ ls : Array Slot, lv_has ls maxL (lv_args 0 av) →
      W p l e rm s m av.toArray below meth c s.heap [] 0 0 (MQ below Qc av.toArray s mc ms free) (F0 m 0 ls [])) :
    Met l y (.code y cc maxL ret :: ww) rm (hw_Pc D cl tys av M sz) Qc mc ms free := by
  refine Met.ofW (cc := cc) (maxL := maxL) (ret := ret) hy rfl ?_
  intro p e s m args below meth c s₁ B hml hv
  obtain ⟨rfl, hsz, hW, hX⟩ := hv
  have hts := atoms_spec (ws := .code y cc maxL ret :: ww) B.pre
  rw [lg_entry_eq]
  exact body p e s m below meth c B.exec B.bytes B.returns hml (findClass_of_methodNamed B.named) B.notSynchronized (name_of_methodNamed B.named B.method).1 (fun w h => hts w (List.mem_cons_of_mem _ h)) hsz hX hW.self _ (lv_entry av hav)
theorem hw_gi {y : Cond} {l : List Cond} (hy : y ∈ ww) (hl : ∀ w ∈ l, w ∈ ww) : GoodIn ww (l ++ (y :: ww)) := by
  have ok : ∀ w ∈ ww, w ∈ ww ∧ ((w.onTables && w.keeps) = true ∨ ∃ ty, w = .arrayClass ty) := fun w h => ⟨h, good_of_word (List.mem_filter.mp h).2⟩
  intro w hw
  rcases List.mem_append.mp hw with h | h
  · exact ok w (hl w h)
  · rcases List.mem_cons.mp h with h | h
    · rw [h]; exact ok y hy
    · exact ok w h
theorem hw_f4 {a b c d : Cond} (h1 : a ∈ ww) (h2 : b ∈ ww) (h3 : c ∈ ww) (h4 : d ∈ ww) : ∀ w ∈ [a, b, c, d], w ∈ ww := List.forall_mem_cons.mpr ⟨h1, List.forall_mem_cons.mpr ⟨h2, List.forall_mem_cons.mpr ⟨h3, List.forall_mem_cons.mpr ⟨h4, fun _ h => absurd h List.not_mem_nil⟩⟩⟩⟩
theorem hw_f5 {a b c d e : Cond} (h1 : a ∈ ww) (h2 : b ∈ ww) (h3 : c ∈ ww) (h4 : d ∈ ww) (h5 : e ∈ ww) : ∀ w ∈ [a, b, c, d, e], w ∈ ww := List.forall_mem_cons.mpr ⟨h1, hw_f4 h2 h3 h4 h5⟩
theorem hw_f3 {a b c : Cond} (h1 : a ∈ ww) (h2 : b ∈ ww) (h3 : c ∈ ww) : ∀ w ∈ [a, b, c], w ∈ ww := List.forall_mem_cons.mpr ⟨h1, List.forall_mem_cons.mpr ⟨h2, List.forall_mem_cons.mpr ⟨h3, fun _ h => absurd h List.not_mem_nil⟩⟩⟩
theorem hw_f0 : ∀ w ∈ ([] : List Cond), w ∈ ww := fun _ h => absurd h List.not_mem_nil
variable {p : Program} {e : Env} {R : Room} {s : State} {m : MethodId} {args : Array Value} {below : List Frame} {meth : Method} {c : Code} {H : Heap} {locs : List Loc} {cells slots : Nat} {Q : State → Prop}
variable {cc : ByteArray} {pc : Nat} {ls : Array Slot} {rest : List Value} {A : Nat → Prop} {a : Nat} {M : Nat → Option va_E} {H0 : Heap}
/-- a virtual call of a method of the receiver's own class -/
theorem hw_runV {y : MethodName} {bytes : ByteArray} {maxL nL mc ms n index : Nat} {ret : Option FieldType} {rm : Room} {Qc : Array Value → State → Outcome → State → Prop} {free : Addr → Prop} {own : String} {b ci : Nat} {fs : List Value} {T : u_T} {N : Nat} {As : List Value} {st0 : List Value}
    (hx : p.tables.exec = Jvm.exec) (hb : c.code = cc) (hml : c.maxLocals = nL) (hown : s.vm.findClass own = some m.cls) (hts : ∀ w ∈ ww, w.before args s = true) (hX : hw_X s) (hW : hw_W D cl tys A M s H) (hl : ls.size = nL)
    (hM : Met l y (.code y bytes maxL ret :: ww) rm (hw_Pc D cl tys (.ref b :: As) M H.size) Qc mc ms free)
    (hbM : M b = some (.inr (ci, fs))) (hc : cl[ci]? = some (y.cls, T, N))
    (w1 : Cond.methodLink own index y ∈ ww) (w2 : Cond.instanceMethod y ∈ ww) (w3 : Cond.selects y.cls y y ∈ ww) (w4 : Cond.initialized y.cls ∈ ww) (w5 : Cond.code y bytes maxL ret ∈ ww)
    (hd : y.cls ≠ "java/lang/invoke/MethodHandle" ∧ y.cls ≠ "java/lang/invoke/VarHandle" ∧ (parseMethodDescriptor y.desc).map (fun d => d.parameters.length) = some n)
    (hrc : rm.cells = mc) (hrs : rm.slots = ms) (hR : rm.frames + 1 ≤ R.frames ∧ 8 + (maxL + 11) + rm.locals ≤ R.locals) (hn : As.length = n) (hst : st0 = As.reverse ++ .ref b :: rest) (hrw : (rest.map fun v => v.category).sum ≤ 8)
    (hdg : decode cc pc = .ok (.invokevirtual index, 3)) (hf : cells + mc ≤ R.cells ∧ slots + ms ≤ R.slots) :
    va_Run p l e R s m args below meth c H locs cells slots mc ms (F0 m pc ls st0) rest (Qc (Value.ref b :: As).toArray) free :=
  va_runV (Ts := ww) ⟨hx, hb, hml, hown, hts⟩ hM (cwV n hts (hw_gi w5 (hw_f4 w1 w2 w3 w4)) rfl hrc hrs ⟨rfl, hd⟩ hR) (hw_preV hX hW hbM hc) rfl hn hl hst (lv_room hrw) hdg hf
/-- .. of a method of a class above, or overridden (named by x, of the class 'owner') -/
theorem hw_runU {x y : MethodName} {bytes : ByteArray} {maxL nL mc ms n index : Nat} {ret : Option FieldType} {rm : Room} {Qc : Array Value → State → Outcome → State → Prop} {free : Addr → Prop} {own C : String} {b ci : Nat} {fs : List Value} {T : u_T} {N : Nat} {As : List Value} {st0 : List Value}
    (hx : p.tables.exec = Jvm.exec) (hb : c.code = cc) (hml : c.maxLocals = nL) (hown : s.vm.findClass own = some m.cls) (hts : ∀ w ∈ ww, w.before args s = true) (hX : hw_X s) (hW : hw_W D cl tys A M s H) (hl : ls.size = nL)
    (hM : Met l y (.code y bytes maxL ret :: ww) rm (hw_Pc D cl tys (.ref b :: As) M H.size) Qc mc ms free)
    (hbM : M b = some (.inr (ci, fs))) (hc : cl[ci]? = some (C, T, N)) (hdecl : va_Decl s x)
    (w1 : Cond.methodLink own index x ∈ ww) (w2 : Cond.sameMethod x.cls x.cls x.name x.desc ∈ ww) (w3 : Cond.selects C x y ∈ ww) (w4 : Cond.instanceMethod y ∈ ww) (w6 : Cond.initialized y.cls ∈ ww) (w5 : Cond.code y bytes maxL ret ∈ ww)
    (hd : x.cls ≠ "java/lang/invoke/MethodHandle" ∧ x.cls ≠ "java/lang/invoke/VarHandle" ∧ (parseMethodDescriptor x.desc).map (fun d => d.parameters.length) = some n)
    (hrc : rm.cells = mc) (hrs : rm.slots = ms) (hR : rm.frames + 1 ≤ R.frames ∧ 8 + (maxL + 11) + rm.locals ≤ R.locals) (hn : As.length = n) (hst : st0 = As.reverse ++ .ref b :: rest) (hrw : (rest.map fun v => v.category).sum ≤ 8)
    (hdg : decode cc pc = .ok (.invokevirtual index, 3)) (hf : cells + mc ≤ R.cells ∧ slots + ms ≤ R.slots) :
    va_Run p l e R s m args below meth c H locs cells slots mc ms (F0 m pc ls st0) rest (Qc (Value.ref b :: As).toArray) free := by
  have hG : GoodIn ww (va_wsU own index C x.cls x y (.code y bytes maxL ret :: ww)) := hw_gi w5 (hw_f5 w1 w2 w3 w4 w6)
  have cw : va_CU R s args own C x.cls index x y bytes maxL ret (.code y bytes maxL ret :: ww) rm mc ms n := by
    refine ⟨⟨hrc, hrs, hR.1, hR.2, pay_in hts (fun w h => hG w (by unfold va_wsU; exact List.mem_append_right _ h)), List.mem_cons_self⟩, hts _ w5, hts _ w6, ⟨hd.1, hd.2.1⟩, fun sig h => ?_, hts _ w1, hts _ w2, hdecl, hts _ w3, hts _ w4⟩
    have h2 := hd.2.2
    rw [h] at h2
    exact (Option.some.inj h2).symm
  exact va_runU (Ts := ww) ⟨hx, hb, hml, hown, hts⟩ hM cw (hw_preV hX hW hbM hc) rfl hn hl hst (lv_room hrw) hdg hf
theorem hw_runS {y : MethodName} {bytes : ByteArray} {maxL nL mc ms n index : Nat} {ret : Option FieldType} {rm : Room} {Qc : Array Value → State → Outcome → State → Prop} {free : Addr → Prop} {own : String} {As : List Value} {st0 : List Value}
    (hx : p.tables.exec = Jvm.exec) (hb : c.code = cc) (hml : c.maxLocals = nL) (hown : s.vm.findClass own = some m.cls) (hts : ∀ w ∈ ww, w.before args s = true) (hX : hw_X s) (hW : hw_W D cl tys A M s H) (hl : ls.size = nL)
    (hM : Met l y (.code y bytes maxL ret :: ww) rm (hw_Pc D cl tys As M H.size) Qc mc ms free)
    (w1 : Cond.methodLink own index y ∈ ww) (w2 : Cond.static y ∈ ww) (w3 : Cond.initialized y.cls ∈ ww) (w5 : Cond.code y bytes maxL ret ∈ ww)
    (hd : y.cls ≠ "java/lang/invoke/MethodHandle" ∧ y.cls ≠ "java/lang/invoke/VarHandle" ∧ (parseMethodDescriptor y.desc).map (fun d => d.parameters.length) = some n)
    (hrc : rm.cells = mc) (hrs : rm.slots = ms) (hR : rm.frames + 1 ≤ R.frames ∧ 8 + (maxL + 11) + rm.locals ≤ R.locals) (hn : As.length = n) (hst : st0 = As.reverse ++ rest) (hrw : (rest.map fun v => v.category).sum ≤ 8)
    (hdg : decode cc pc = .ok (.invokestatic index, 3)) (hf : cells + mc ≤ R.cells ∧ slots + ms ≤ R.slots) :
    va_Run p l e R s m args below meth c H locs cells slots mc ms (F0 m pc ls st0) rest (Qc As.toArray) free :=
  va_runS (Ts := ww) ⟨hx, hb, hml, hown, hts⟩ hM (va_cwS n hts (hw_gi w5 (hw_f3 w1 w2 w3)) rfl hrc hrs hd hR) (hw_preS hX hW) rfl hn hl hst (lv_room hrw) hdg hf
theorem hw_runI {y : MethodName} {bytes : ByteArray} {maxL nL mc ms n index : Nat} {rm : Room} {Qc : Array Value → State → Outcome → State → Prop} {free : Addr → Prop} {own : String} {b : Nat} {As : List Value} {st0 : List Value}
    (hx : p.tables.exec = Jvm.exec) (hb : c.code = cc) (hml : c.maxLocals = nL) (hown : s.vm.findClass own = some m.cls) (hts : ∀ w ∈ ww, w.before args s = true) (hX : hw_X s) (hW : hw_W D cl tys A M s H) (hl : ls.size = nL)
    (hM : Met l y (.code y bytes maxL none :: ww) rm (hw_Pc D cl tys (.ref b :: As) M H.size) Qc mc ms free)
    (w1 : Cond.methodLink own index y ∈ ww) (w2 : Cond.instanceMethod y ∈ ww) (w3 : Cond.initialized y.cls ∈ ww) (w5 : Cond.code y bytes maxL none ∈ ww) (hy1 : y.name = "<init>")
    (hd : y.cls ≠ "java/lang/invoke/MethodHandle" ∧ y.cls ≠ "java/lang/invoke/VarHandle" ∧ (parseMethodDescriptor y.desc).map (fun d => d.parameters.length) = some n)
    (hrc : rm.cells = mc) (hrs : rm.slots = ms) (hR : rm.frames + 1 ≤ R.frames ∧ 8 + (maxL + 11) + rm.locals ≤ R.locals) (hn : As.length = n) (hst : st0 = As.reverse ++ .ref b :: rest) (hrw : (rest.map fun v => v.category).sum ≤ 8)
    (hdg : decode cc pc = .ok (.invokespecial index, 3)) (hf : cells + mc ≤ R.cells ∧ slots + ms ≤ R.slots) :
    va_Run p l e R s m args below meth c H locs cells slots mc ms (F0 m pc ls st0) rest (Qc (Value.ref b :: As).toArray) free :=
  va_runI (Ts := ww) ⟨hx, hb, hml, hown, hts⟩ hM (cwI n hts (hw_gi (l := []) w5 hw_f0) rfl hrc hrs (hts _ w3) (hts _ w1) (hts _ w2) hy1 hd hR) (hw_preS hX hW) rfl hn hl hst (lv_room hrw) hdg hf
end HCO
end
section
/-! Arrays by natural places; copies; boolean arrays. -/
section HC2
variable {p : Program} {l : Launch} {e : Env} {R : Room} {s : State} {m : MethodId} {args : Array Value} {below : List Frame} {meth : Method} {c : Code} {H : Heap} {locs : List Loc} {cells slots : Nat} {Q : State → Prop}
variable {cc : ByteArray} {pc : Nat} {ls : Array Slot} {rest : List Value} {D : va_G} {cl : List vw_C} {A : Nat → Prop} {a : Nat} {tys : List (ClassId × FieldType)} {M : Nat → Option va_E} {H0 : Heap}
theorem hw_ix {i : Int32} {j n : Nat} (hi : i = nI j) (hj : j < n) (hn : n < 1000000) : vp_in i n ∧ i.toNatClampNeg = j := by
  subst hi
  exact ⟨vp_in_nI hj (by omega), nI_clamp (by omega)⟩
theorem hw_ild (hexec : p.tables.exec = Jvm.exec) (hb : c.code = cc) (hW : hw_W D cl tys A M s H) (t0 : Nat) {cA : ClassId} {n : Nat} {f : Nat → Int32} (ha : M a = some (.inl (cA, n, .inl f))) (ht : tys[t0]? = some (cA, .int)) {i : Int32} (j : Nat) (hi : i = nI j) (hj : j < n) (hn : n < 1000000) (hdg : decode cc pc = .ok (.iaload, 1))
    (kk : W p l e R s m args below meth c H locs cells slots Q (F0 m (pc + 1) ls (.int (f j) :: rest))) : W p l e R s m args below meth c H locs cells slots Q (F0 m pc ls (.int i :: .ref a :: rest)) := by
  obtain ⟨h1, h2⟩ := hw_ix hi hj hn
  obtain ⟨ws, rfl, hP, hD, hK⟩ := hW
  obtain ⟨q0, hq⟩ := hw_lk_ix ha
  refine va_iald hexec hb hK hP q0 t0 hq ht h1 hdg ?_
  rw [h2]
  exact kk
theorem hw_lld (hexec : p.tables.exec = Jvm.exec) (hb : c.code = cc) (hW : hw_W D cl tys A M s H) (t0 : Nat) {cA : ClassId} {n : Nat} {f : Nat → Int64} (ha : M a = some (.inl (cA, n, .inr (.inl f)))) (ht : tys[t0]? = some (cA, .long)) {i : Int32} (j : Nat) (hi : i = nI j) (hj : j < n) (hn : n < 1000000) (hdg : decode cc pc = .ok (.laload, 1))
    (kk : W p l e R s m args below meth c H locs cells slots Q (F0 m (pc + 1) ls (.long (f j) :: rest))) : W p l e R s m args below meth c H locs cells slots Q (F0 m pc ls (.int i :: .ref a :: rest)) := by
  obtain ⟨h1, h2⟩ := hw_ix hi hj hn
  obtain ⟨ws, rfl, hP, hD, hK⟩ := hW
  obtain ⟨q0, hq⟩ := hw_lk_ix ha
  refine va_lald hexec hb hK hP q0 t0 hq ht h1 hdg ?_
  rw [h2]
  exact kk
theorem hw_zld (hexec : p.tables.exec = Jvm.exec) (hb : c.code = cc) (hW : hw_W D cl tys A M s H) (t0 : Nat) {cA : ClassId} {n : Nat} {f : Nat → Int32} (ha : M a = some (.inl (cA, n, .inl f))) (ht : tys[t0]? = some (cA, .boolean)) {i : Int32} (j : Nat) (hi : i = nI j) (hj : j < n) (hn : n < 1000000) (hdg : decode cc pc = .ok (.baload, 1))
    (kk : W p l e R s m args below meth c H locs cells slots Q (F0 m (pc + 1) ls (.int (f j) :: rest))) : W p l e R s m args below meth c H locs cells slots Q (F0 m pc ls (.int i :: .ref a :: rest)) := by
  obtain ⟨h1, h2⟩ := hw_ix hi hj hn
  obtain ⟨ws, rfl, hP, hD, hK⟩ := hW
  obtain ⟨q0, hq⟩ := hw_lk_ix ha
  refine va_zald hexec hb hK hP q0 t0 hq ht h1 hdg ?_
  rw [h2]
  exact kk
theorem hw_ald (hexec : p.tables.exec = Jvm.exec) (hb : c.code = cc) (hW : hw_W D cl tys A M s H) (t0 : Nat) {cA : ClassId} {C : String} {n : Nat} {f : Nat → Option Nat} (ha : M a = some (.inl (cA, n, .inr (.inr (.inr (.inr f)))))) (ht : tys[t0]? = some (cA, .object C)) {i : Int32} (j : Nat) (hi : i = nI j) (hj : j < n) (hn : n < 1000000) (hdg : decode cc pc = .ok (.aaload, 1))
    (kk : W p l e R s m args below meth c H locs cells slots Q (F0 m (pc + 1) ls (va_rf (f j) :: rest))) : W p l e R s m args below meth c H locs cells slots Q (F0 m pc ls (.int i :: .ref a :: rest)) := by
  obtain ⟨h1, h2⟩ := hw_ix hi hj hn
  refine hw_aald hexec hb hW t0 ha ht h1 hdg ?_
  rw [h2]
  exact kk
theorem hw_ist (hexec : p.tables.exec = Jvm.exec) (hb : c.code = cc) (hW : hw_W D cl tys A M s H) (hS : va_S A H0 H locs) (t0 : Nat) {cA : ClassId} {n : Nat} {f : Nat → Int32} (ha : M a = some (.inl (cA, n, .inl f))) (ht : tys[t0]? = some (cA, .int)) {i : Int32} {x : Int32} (j : Nat) (hi : i = nI j) (hj : j < n) (hn : n < 1000000) (hdg : decode cc pc = .ok (.iastore, 1))
    (kk : ∀ (H1 : Heap) (locs1 : List Loc), hw_W D cl tys A (va_up M a (some (.inl (cA, n, .inl (upd f j x))))) s H1 → va_S A H0 H1 locs1 → W p l e R s m args below meth c H1 locs1 cells slots Q (F0 m (pc + 1) ls rest)) : W p l e R s m args below meth c H locs cells slots Q (F0 m pc ls (.int x :: .int i :: .ref a :: rest)) := by
  obtain ⟨h1, h2⟩ := hw_ix hi hj hn
  obtain ⟨ws, rfl, hP, hD, hK⟩ := hW
  obtain ⟨q0, hq⟩ := hw_lk_ix ha
  refine va_iast hexec hb hK hP hD hS q0 t0 hq ht h1 hdg (fun H1 locs1 e1 e2 e3 => ?_)
  rw [h2] at e1 e2
  exact kk H1 locs1 ⟨_, hw_lk_set hD hq, e1, e2, hK⟩ e3
theorem hw_lst (hexec : p.tables.exec = Jvm.exec) (hb : c.code = cc) (hW : hw_W D cl tys A M s H) (hS : va_S A H0 H locs) (t0 : Nat) {cA : ClassId} {n : Nat} {f : Nat → Int64} (ha : M a = some (.inl (cA, n, .inr (.inl f)))) (ht : tys[t0]? = some (cA, .long)) {i : Int32} {x : Int64} (j : Nat) (hi : i = nI j) (hj : j < n) (hn : n < 1000000) (hdg : decode cc pc = .ok (.lastore, 1))
    (kk : ∀ (H1 : Heap) (locs1 : List Loc), hw_W D cl tys A (va_up M a (some (.inl (cA, n, .inr (.inl (vp_updL f j x)))))) s H1 → va_S A H0 H1 locs1 → W p l e R s m args below meth c H1 locs1 cells slots Q (F0 m (pc + 1) ls rest)) : W p l e R s m args below meth c H locs cells slots Q (F0 m pc ls (.long x :: .int i :: .ref a :: rest)) := by
  obtain ⟨h1, h2⟩ := hw_ix hi hj hn
  obtain ⟨ws, rfl, hP, hD, hK⟩ := hW
  obtain ⟨q0, hq⟩ := hw_lk_ix ha
  refine va_last hexec hb hK hP hD hS q0 t0 hq ht h1 hdg (fun H1 locs1 e1 e2 e3 => ?_)
  rw [h2] at e1 e2
  exact kk H1 locs1 ⟨_, hw_lk_set hD hq, e1, e2, hK⟩ e3
theorem hw_zst (hexec : p.tables.exec = Jvm.exec) (hb : c.code = cc) (hW : hw_W D cl tys A M s H) (hS : va_S A H0 H locs) (t0 : Nat) {cA : ClassId} {n : Nat} {f : Nat → Int32} (ha : M a = some (.inl (cA, n, .inl f))) (ht : tys[t0]? = some (cA, .boolean)) {i : Int32} {x : Int32} (j : Nat) (hi : i = nI j) (hj : j < n) (hn : n < 1000000) (hx01 : vp_nar .boolean x = x) (hdg : decode cc pc = .ok (.bastore, 1))
    (kk : ∀ (H1 : Heap) (locs1 : List Loc), hw_W D cl tys A (va_up M a (some (.inl (cA, n, .inl (upd f j x))))) s H1 → va_S A H0 H1 locs1 → W p l e R s m args below meth c H1 locs1 cells slots Q (F0 m (pc + 1) ls rest)) : W p l e R s m args below meth c H locs cells slots Q (F0 m pc ls (.int x :: .int i :: .ref a :: rest)) := by
  obtain ⟨h1, h2⟩ := hw_ix hi hj hn
  obtain ⟨ws, rfl, hP, hD, hK⟩ := hW
  obtain ⟨q0, hq⟩ := hw_lk_ix ha
  refine va_zast hexec hb hK hP hD hS q0 t0 hq ht h1 hdg (fun H1 locs1 e1 e2 e3 => ?_)
  rw [h2, hx01] at e1 e2
  exact kk H1 locs1 ⟨_, hw_lk_set hD hq, e1, e2, hK⟩ e3
/-- System.arraycopy of longs, by natural places -/
theorem hw_cpl (hexec : p.tables.exec = Jvm.exec) (hb : c.code = cc) (hml : c.maxLocals = ls.size) {own : String} {index : Nat} (hown : s.vm.findClass own = some m.cls) (hts : ∀ w ∈ ww, w.before args s = true) (w1 : Cond.methodLink own index arraycopyName ∈ ww) (w2 : Cond.native arraycopyName ∈ ww) (w3 : Cond.static arraycopyName ∈ ww) (w4 : Cond.initialized "java/lang/System" ∈ ww)
    (hW : hw_W D cl tys A M s H) (hS : va_S A H0 H locs) (t0 : Nat) {a0 : Nat} {c0 : ClassId} {n0 n1 : Nat} {f g : Nat → Int64} (ha0 : M a0 = some (.inl (c0, n0, .inr (.inl f)))) (ha1 : M a = some (.inl (c0, n1, .inr (.inl g)))) (ht0 : tys[t0]? = some (c0, .long))
    {sp dp n : Int32} (jsp jdp jn : Nat) (e1 : sp = nI jsp) (e2 : dp = nI jdp) (e3 : n = nI jn) (h4 : jsp + jn ≤ n0) (h5 : jdp + jn ≤ n1) (hn0 : n0 < 1000000) (hn1 : n1 < 1000000)
    (hframes : 1 ≤ R.frames) (hlocals : (rest.map fun v => v.category).sum + (nativeFrameWords "java/lang/System" "arraycopy" 5 + 11) ≤ R.locals) (hdg : decode cc pc = .ok (.invokestatic index, 3))
    (kk : ∀ (H1 : Heap) (locs1 : List Loc), hw_W D cl tys A (va_up M a (some (.inl (c0, n1, .inr (.inl (va_cpy f g jsp jdp jn)))))) s H1 → va_S A H0 H1 locs1 → W p l e R s m args below meth c H1 locs1 cells slots Q (F0 m (pc + 3) ls rest)) : W p l e R s m args below meth c H locs cells slots Q (F0 m pc ls (.int n :: .int dp :: .ref a :: .int sp :: .ref a0 :: rest)) := by
  subst e1; subst e2; subst e3
  have k1 : (nI jsp).toNatClampNeg = jsp := nI_clamp (by omega)
  have k2 : (nI jdp).toNatClampNeg = jdp := nI_clamp (by omega)
  have k3 : (nI jn).toNatClampNeg = jn := nI_clamp (by omega)
  obtain ⟨ws, rfl, hP, hD, hK⟩ := hW
  obtain ⟨q0, hq0⟩ := hw_lk_ix ha0
  obtain ⟨q1, hq1⟩ := hw_lk_ix ha1
  refine va_copyl (ty := .long) hexec hb hml hown (hts _ w1) (hts _ w2) (hts _ w3) (hts _ w4) hK hP hD hS q0 q1 t0 t0 hq0 hq1 ht0 ht0 rfl (nI_pos (by omega)) (nI_pos (by omega)) (nI_pos (by omega)) (by rw [k1, k3]; exact h4) (by rw [k2, k3]; exact h5) (fun _ _ => rfl) hframes hlocals hdg (fun H1 locs1 f1 f2 f3 => ?_)
  rw [k1, k2, k3] at f1 f2
  exact kk H1 locs1 ⟨_, hw_lk_set hD hq1, f1, f2, hK⟩ f3
theorem hw_cpi (hexec : p.tables.exec = Jvm.exec) (hb : c.code = cc) (hml : c.maxLocals = ls.size) {own : String} {index : Nat} (hown : s.vm.findClass own = some m.cls) (hts : ∀ w ∈ ww, w.before args s = true) (w1 : Cond.methodLink own index arraycopyName ∈ ww) (w2 : Cond.native arraycopyName ∈ ww) (w3 : Cond.static arraycopyName ∈ ww) (w4 : Cond.initialized "java/lang/System" ∈ ww)
    (hW : hw_W D cl tys A M s H) (hS : va_S A H0 H locs) (t0 : Nat) {a0 : Nat} {c0 : ClassId} {n0 n1 : Nat} {f g : Nat → Int32} (ha0 : M a0 = some (.inl (c0, n0, .inl f))) (ha1 : M a = some (.inl (c0, n1, .inl g))) (ht0 : tys[t0]? = some (c0, .int))
    {sp dp n : Int32} (jsp jdp jn : Nat) (e1 : sp = nI jsp) (e2 : dp = nI jdp) (e3 : n = nI jn) (h4 : jsp + jn ≤ n0) (h5 : jdp + jn ≤ n1) (hn0 : n0 < 1000000) (hn1 : n1 < 1000000)
    (hframes : 1 ≤ R.frames) (hlocals : (rest.map fun v => v.category).sum + (nativeFrameWords "java/lang/System" "arraycopy" 5 + 11) ≤ R.locals) (hdg : decode cc pc = .ok (.invokestatic index, 3))
    (kk : ∀ (H1 : Heap) (locs1 : List Loc), hw_W D cl tys A (va_up M a (some (.inl (c0, n1, .inl (va_cpy f g jsp jdp jn))))) s H1 → va_S A H0 H1 locs1 → W p l e R s m args below meth c H1 locs1 cells slots Q (F0 m (pc + 3) ls rest)) : W p l e R s m args below meth c H locs cells slots Q (F0 m pc ls (.int n :: .int dp :: .ref a :: .int sp :: .ref a0 :: rest)) := by
  subst e1; subst e2; subst e3
  have k1 : (nI jsp).toNatClampNeg = jsp := nI_clamp (by omega)
  have k2 : (nI jdp).toNatClampNeg = jdp := nI_clamp (by omega)
  have k3 : (nI jn).toNatClampNeg = jn := nI_clamp (by omega)
  obtain ⟨ws, rfl, hP, hD, hK⟩ := hW
  obtain ⟨q0, hq0⟩ := hw_lk_ix ha0
  obtain ⟨q1, hq1⟩ := hw_lk_ix ha1
  refine va_copyi (ty := .int) hexec hb hml hown (hts _ w1) (hts _ w2) (hts _ w3) (hts _ w4) hK hP hD hS q0 q1 t0 t0 hq0 hq1 ht0 ht0 rfl (nI_pos (by omega)) (nI_pos (by omega)) (nI_pos (by omega)) (by rw [k1, k3]; exact h4) (by rw [k2, k3]; exact h5) (fun _ _ => rfl) hframes hlocals hdg (fun H1 locs1 f1 f2 f3 => ?_)
  rw [k1, k2, k3] at f1 f2
  exact kk H1 locs1 ⟨_, hw_lk_set hD hq1, f1, f2, hK⟩ f3
end HC2
/-- the classes of the arrays that the worlds hold -/
abbrev qty (cI cJ cZ cN : ClassId) : List (ClassId × FieldType) := [(cI, .int), (cJ, .long), (cZ, .boolean), (cN, .object "QuantifierOut$Node")]
end
section
/-! Values and Marks: small methods -/
theorem hw_ne {M : Nat → Option va_E} {a b : Nat} {x y : va_E} (ha : M a = some x) (hb : M b = some y) (h : x ≠ y) : a ≠ b := fun e => h (by subst e; exact Option.some.inj (ha.symm.trans hb))
section G13
variable (l : Launch) (D : va_G) (cI cJ cZ cN : ClassId)
set_option maxHeartbeats 4000000 in
set_option maxRecDepth 100000 in
/-- Marks.stops() -/
theorem c_Mk_stops (h0 ma mb n sz : Nat) (M : Nat → Option va_E) (hM : M h0 = some (.inr (2, [.ref ma, .ref mb, .int (nI n)]))) (hn : n < 1000000) : Met l y_Mk_stops (.code y_Mk_stops b_Mk_stops 1 (some .int) :: ww) ({ frames := 0, cells := 0, slots := 0, locals := 0 }) (hw_Pc D qcl (qty cI cJ cZ cN) [.ref h0] M sz) (va_Qi (fun r M1 => r = nI (2 * n + 1) ∧ M1 = M) (hw_B D qcl (qty cI cJ cZ cN) M sz) (hw_A M sz)) 0 0 (hw_A M sz) := by
  refine hw_met (by decide) (Nat.le_of_ble_eq_true rfl) ?_
  intro p e s m below meth c hx hb hr hml hown hlocks hnm hts hsz hX hW ls hl
  subst hsz
  have hA : ∀ q, s.heap.size ≤ q → hw_A M s.heap.size q := fun q h => Or.inr h
  have hS : va_S (hw_A M s.heap.size) s.heap s.heap [] := va_S.rf
  have hl : lv_has ls 1 [(0, .ref h0)] := hl
  have hown : s.vm.findClass "QuantifierOut$Marks" = some m.cls := hown
  refine lv_iconst (v := 2) hx hb d_Mk_stops_0 (by decide) ?_
  refine lv_aload_n hx hb d_Mk_stops_1 rfl (lv_at hl 0 rfl) ?_
  refine hw_get (own := "QuantifierOut$Marks") (v := .int (nI n)) hx hb hts i_Mk hown hW hM rfl 2 (by decide) (hts _ tw_43) (fun _ h9 => h9) rfl d_Mk_stops_2 ?_
  refine lv_imul hx hb d_Mk_stops_5 ?_
  refine lv_topi (fun x1 ex1 => ?_)
  refine lv_iconst (v := 1) hx hb d_Mk_stops_6 (by decide) ?_
  refine lv_iadd hx hb d_Mk_stops_7 ?_
  refine lv_topi (fun x2 ex2 => ?_)
  exact hw_reti hx hb hr hlocks hW hS ⟨by rw [ex2, ex1]; exact (by rw [show (2 : Int32) = nI 2 from rfl, pk_mul, nI_1]), rfl⟩ d_Mk_stops_8
set_option maxHeartbeats 4000000 in
set_option maxRecDepth 100000 in
/-- Values.put(letter, above, below) -/
theorem c_Vs_put (h0 va vb om im sz j : Nat) (f g : Nat → Int64) (i : Int32) (x y : Int64) (M : Nat → Option va_E) (hM : M h0 = some (.inr (7, [.ref va, .ref vb, .ref om, .ref im]))) (ha : M va = some (.inl (cJ, 2, .inr (.inl f)))) (hb9 : M vb = some (.inl (cJ, 2, .inr (.inl g)))) (hne : va ≠ vb) (hi : i = nI j) (hj : j < 2) : Met l y_Vs_put (.code y_Vs_put b_Vs_put 6 none :: ww) ({ frames := 0, cells := 0, slots := 0, locals := 0 }) (hw_Pc D qcl (qty cI cJ cZ cN) [.ref h0, .int i, .long x, .long y] M sz) (va_Qv (fun M1 => M1 = va_up (va_up M va (some (.inl (cJ, 2, .inr (.inl (vp_updL f j x)))))) vb (some (.inl (cJ, 2, .inr (.inl (vp_updL g j y)))))) (hw_B D qcl (qty cI cJ cZ cN) M sz) (hw_A M sz)) 0 0 (hw_A M sz) := by
  refine hw_met (by decide) (Nat.le_of_ble_eq_true rfl) ?_
  intro p e s m below meth c hx hb hr hml hown hlocks hnm hts hsz hX hW ls hl
  subst hsz
  have hA : ∀ q, s.heap.size ≤ q → hw_A M s.heap.size q := fun q h => Or.inr h
  have hS : va_S (hw_A M s.heap.size) s.heap s.heap [] := va_S.rf
  have hl : lv_has ls 6 [(0, .ref h0), (1, .int i), (2, .long x), (4, .long y)] := hl
  have hown : s.vm.findClass "QuantifierOut$Values" = some m.cls := hown
  refine lv_aload_n hx hb d_Vs_put_0 rfl (lv_at hl 0 rfl) ?_
  refine hw_get (own := "QuantifierOut$Values") (v := .ref va) hx hb hts i_Vs hown hW hM rfl 0 (by decide) (hts _ tw_52) (fun _ h9 => h9) rfl d_Vs_put_1 ?_
  refine lv_iload_n hx hb d_Vs_put_4 rfl (lv_at hl 1 rfl) ?_
  refine lv_lload_n hx hb d_Vs_put_5 rfl (lv_at hl 2 rfl) ?_
  refine hw_lst hx hb hW hS 1 ha rfl j hi hj (by decide) d_Vs_put_6 (fun H locs hW hS => ?_)
  have hW : hw_W D qcl (qty cI cJ cZ cN) _ (va_up M va (some (.inl (cJ, 2, .inr (.inl (vp_updL f j x)))))) s H := hW
  generalize hM1 : va_up M va (some (.inl (cJ, 2, .inr (.inl (vp_updL f j x))))) = M1 at hW
  have n_h0_va : h0 ≠ va := (hw_ne hM ha (by simp))
  have hM : M1 h0 = some (.inr (7, [.ref va, .ref vb, .ref om, .ref im])) := by rw [← hM1, va_up_ne _ _ n_h0_va]; exact hM
  have hb9 : M1 vb = some (.inl (cJ, 2, .inr (.inl g))) := by rw [← hM1, va_up_ne _ _ (Ne.symm hne)]; exact hb9
  have ha : M1 va = some (.inl (cJ, 2, .inr (.inl (vp_updL f j x)))) := by rw [← hM1]; exact va_up_self _ _ _
  refine lv_aload_n hx hb d_Vs_put_7 rfl (lv_at hl 0 rfl) ?_
  refine hw_get (own := "QuantifierOut$Values") (v := .ref vb) hx hb hts i_Vs hown hW hM rfl 1 (by decide) (hts _ tw_56) (fun _ h9 => h9) rfl d_Vs_put_8 ?_
  refine lv_iload_n hx hb d_Vs_put_11 rfl (lv_at hl 1 rfl) ?_
  refine lv_lload hx hb d_Vs_put_12 (lv_at hl 3 rfl) ?_
  refine hw_lst hx hb hW hS 1 hb9 rfl j hi hj (by decide) d_Vs_put_14 (fun H locs hW hS => ?_)
  have hW : hw_W D qcl (qty cI cJ cZ cN) _ (va_up M1 vb (some (.inl (cJ, 2, .inr (.inl (vp_updL g j y)))))) s H := hW
  generalize hM2 : va_up M1 vb (some (.inl (cJ, 2, .inr (.inl (vp_updL g j y))))) = M2 at hW
  have n_h0_vb : h0 ≠ vb := (hw_ne hM hb9 (by simp))
  have hM : M2 h0 = some (.inr (7, [.ref va, .ref vb, .ref om, .ref im])) := by rw [← hM2, va_up_ne _ _ n_h0_vb]; exact hM
  have ha : M2 va = some (.inl (cJ, 2, .inr (.inl (vp_updL f j x)))) := by rw [← hM2, va_up_ne _ _ hne]; exact ha
  have hb9 : M2 vb = some (.inl (cJ, 2, .inr (.inl (vp_updL g j y)))) := by rw [← hM2]; exact va_up_self _ _ _
  exact hw_retv hx hb hr hlocks hW hS (by rw [← hM2, ← hM1]) d_Vs_put_15
end G13
end
section
/-! A rising row of fractions in two arrays of longs. -/
def mk_v (f g : Nat → Int64) (i : Nat) : Rat := qm_fr (f i).toInt (g i).toInt
def mk_row (f g : Nat → Int64) (n B : Nat) : Prop := (∀ i, i < n → 0 < (g i).toInt ∧ (g i).toInt ≤ B ∧ (f i).toInt.natAbs ≤ B) ∧ qm_inc (mk_v f g) n
/-- what Marks.insert does to a row -/
def mk_ins (n : Nat) (f g : Nat → Int64) (u d : Int) (B n' : Nat) (f' g' : Nat → Int64) : Prop := n' ≤ 21 ∧ n ≤ n' ∧ n' ≤ n + 1 ∧ mk_row f' g' n' B ∧ (∀ i, i < n → ∃ j, j < n' ∧ mk_v f' g' j = mk_v f g i) ∧ (d ≠ 0 → n < 21 → ∃ j, j < n' ∧ mk_v f' g' j = qm_fr u d)
theorem mk_ins_0 {n : Nat} {f g : Nat → Int64} {u d : Int} {B : Nat} (hn : n ≤ 21) (hr : mk_row f g n B) (h : d = 0 ∨ 21 ≤ n) : mk_ins n f g u d B n f g := by
  refine ⟨hn, Nat.le_refl n, Nat.le_succ n, hr, fun i hi => ⟨i, hi, rfl⟩, fun h1 h2 => ?_⟩
  rcases h with h | h
  · exact absurd h h1
  · omega
theorem qm_fr_neg {u d : Int} (hd : d ≠ 0) : qm_fr (-u) (-d) = qm_fr u d := by
  unfold qm_fr
  have h : (d : Rat) ≠ 0 := fun q => hd (Rat.intCast_eq_zero_iff.mp q)
  rw [Rat.intCast_neg, Rat.intCast_neg]
  have h1 : (-(u : Rat)) / (-(d : Rat)) * (-(d : Rat)) = -(u : Rat) := Rat.div_mul_cancel (fun q => h (by grind))
  have h2 : (u : Rat) / (d : Rat) * (d : Rat) = (u : Rat) := Rat.div_mul_cancel h
  have h3 : (-(u : Rat)) / (-(d : Rat)) * (d : Rat) = (u : Rat) / (d : Rat) * (d : Rat) := by grind
  have h4 := congrArg (fun z => z * (d : Rat)⁻¹) h3
  simp only [Rat.mul_assoc, Rat.mul_inv_cancel _ h, Rat.mul_one] at h4
  exact h4
theorem mk_ins_eq {n : Nat} {f g : Nat → Int64} {u d : Int} {B k : Nat} (hn : n ≤ 21) (hr : mk_row f g n B) (hk : k < n) (h : mk_v f g k = qm_fr u d) : mk_ins n f g u d B n f g :=
  ⟨hn, Nat.le_refl n, Nat.le_succ n, hr, fun i hi => ⟨i, hi, rfl⟩, fun _ _ => ⟨k, hk, h⟩⟩
theorem mk_cpy {f : Nat → Int64} {n k : Nat} {x : Int64} (hk : k ≤ n) : (∀ i, i < k → vp_updL (va_cpy f f k (k + 1) (n - k)) k x i = f i) ∧ vp_updL (va_cpy f f k (k + 1) (n - k)) k x k = x ∧ ∀ i, k ≤ i → i < n → vp_updL (va_cpy f f k (k + 1) (n - k)) k x (i + 1) = f i := by
  refine ⟨fun i hi => ?_, ?_, fun i h1 h2 => ?_⟩
  · rw [pk_uLn (by omega), pk_cpy_out (by omega)]
  · exact pk_uLs
  · rw [pk_uLn (by omega), pk_cpy_in (by omega) (by omega)]
    congr 1
    omega
theorem mk_ins_in {n : Nat} {f g : Nat → Int64} {u d : Int} {B k : Nat} {up dn : Int64} (hn : n < 21) (hr : mk_row f g n B) (hk : k ≤ n) (hd : 0 < dn.toInt) (hdB : dn.toInt ≤ B) (huB : up.toInt.natAbs ≤ B) (hv : qm_fr up.toInt dn.toInt = qm_fr u d)
    (h1 : ∀ i, k ≤ i → i < n → qm_fr up.toInt dn.toInt < mk_v f g i) (h2 : ∀ i, i < k → mk_v f g i < qm_fr up.toInt dn.toInt) :
    mk_ins n f g u d B (n + 1) (vp_updL (va_cpy f f k (k + 1) (n - k)) k up) (vp_updL (va_cpy g g k (k + 1) (n - k)) k dn) := by
  obtain ⟨a1, a2, a3⟩ := mk_cpy (f := f) (n := n) (k := k) (x := up) hk
  obtain ⟨b1, b2, b3⟩ := mk_cpy (f := g) (n := n) (k := k) (x := dn) hk
  generalize vp_updL (va_cpy f f k (k + 1) (n - k)) k up = f' at a1 a2 a3 ⊢
  generalize vp_updL (va_cpy g g k (k + 1) (n - k)) k dn = g' at b1 b2 b3 ⊢
  obtain ⟨r1, r2⟩ := hr
  have v1 : ∀ i, i < k → mk_v f' g' i = mk_v f g i := fun i hi => by unfold mk_v; rw [a1 i hi, b1 i hi]
  have v2 : mk_v f' g' k = qm_fr up.toInt dn.toInt := by unfold mk_v; rw [a2, b2]
  have v3 : ∀ i, k ≤ i → i < n → mk_v f' g' (i + 1) = mk_v f g i := fun i h h' => by unfold mk_v; rw [a3 i h h', b3 i h h']
  refine ⟨by omega, by omega, Nat.le_refl _, ⟨fun i hi => ?_, fun i j hij hj => ?_⟩, fun i hi => ?_, fun _ _ => ⟨k, by omega, by rw [v2, hv]⟩⟩
  · rcases Nat.lt_trichotomy i k with c | c | c
    · rw [a1 i c, b1 i c]; exact r1 i (by omega)
    · subst c; rw [a2, b2]; exact ⟨hd, hdB, huB⟩
    · obtain ⟨z, rfl⟩ : ∃ z, i = z + 1 := ⟨i - 1, by omega⟩
      rw [a3 z (by omega) (by omega), b3 z (by omega) (by omega)]; exact r1 z (by omega)
  · rcases Nat.lt_trichotomy i k with c | c | c
    · rw [v1 i c]
      rcases Nat.lt_trichotomy j k with e | e | e
      · rw [v1 j e]; exact r2 i j hij (by omega)
      · subst e; rw [v2]; exact h2 i c
      · obtain ⟨z, rfl⟩ : ∃ z, j = z + 1 := ⟨j - 1, by omega⟩
        rw [v3 z (by omega) (by omega)]; exact r2 i z (by omega) (by omega)
    · subst c
      obtain ⟨z, rfl⟩ : ∃ z, j = z + 1 := ⟨j - 1, by omega⟩
      rw [v2, v3 z (by omega) (by omega)]; exact h1 z (by omega) (by omega)
    · obtain ⟨z, rfl⟩ : ∃ z, j = z + 1 := ⟨j - 1, by omega⟩
      obtain ⟨y, rfl⟩ : ∃ y, i = y + 1 := ⟨i - 1, by omega⟩
      rw [v3 z (by omega) (by omega), v3 y (by omega) (by omega)]; exact r2 y z (by omega) (by omega)
  · rcases Nat.lt_or_ge i k with c | c
    · exact ⟨i, by omega, v1 i c⟩
    · exact ⟨i + 1, by omega, v3 i c hi⟩
/-- a mark compared with a fraction, by the products that the machine makes -/
theorem mk_cmp {a b u d : Int64} {B : Nat} (hB : B ≤ 1000000) (hb : 0 < b.toInt) (hbB : b.toInt ≤ B) (haB : a.toInt.natAbs ≤ B) (hd : 0 < d.toInt) (hdB : d.toInt ≤ B) (huB : u.toInt.natAbs ≤ B) : (a * d).toInt = a.toInt * d.toInt ∧ (u * b).toInt = u.toInt * b.toInt := by
  have h1 : (a.toInt * d.toInt).natAbs ≤ B * B := nm_mulb haB (by omega)
  have h2 : (u.toInt * b.toInt).natAbs ≤ B * B := nm_mulb huB (by omega)
  have h3 : B * B ≤ 1000000 * 1000000 := Nat.mul_le_mul hB hB
  exact ⟨nm_lmul (by omega), nm_lmul (by omega)⟩
/-- the cells of a Marks object -/
def mk_S (cJ : ClassId) (M : Nat → Option va_E) (k a b n : Nat) (f g : Nat → Int64) : Prop := M k = some (.inr (2, [.ref a, .ref b, .int (nI n)])) ∧ M a = some (.inl (cJ, 21, .inr (.inl f))) ∧ M b = some (.inl (cJ, 21, .inr (.inl g)))
end
section
/-! Marks.insert -/
section G15
variable (l : Launch) (D : va_G) (cI cJ cZ cN : ClassId)
set_option maxHeartbeats 4000000 in
set_option maxRecDepth 100000 in
/-- Marks.insert(above, below): the fraction is put in its place, if it is one and new -/
theorem c_Mk_insert (h0 ma mb n B sz : Nat) (f g : Nat → Int64) (u d : Int64) (M : Nat → Option va_E) (hM : mk_S cJ M h0 ma mb n f g) (hne : ma ≠ mb) (hn : n ≤ 21) (hro : mk_row f g n B) (hB : B ≤ 1000000) (huB : u.toInt.natAbs ≤ B) (hdB : d.toInt.natAbs ≤ B) : Met l y_Mk_insert (.code y_Mk_insert b_Mk_insert 10 none :: ww) ({ frames := 1, cells := 0, slots := 0, locals := 60 }) (hw_Pc D qcl (qty cI cJ cZ cN) [.ref h0, .long u, .long d] M sz) (va_Qv (fun M1 => ∃ (n2 : Nat) (f2 g2 : Nat → Int64), mk_S cJ M1 h0 ma mb n2 f2 g2 ∧ (∀ q, q ≠ h0 → q ≠ ma → q ≠ mb → M1 q = M q) ∧ mk_ins n f g u.toInt d.toInt B n2 f2 g2) (hw_B D qcl (qty cI cJ cZ cN) M sz) (hw_A M sz)) 0 0 (hw_A M sz) := by
  obtain ⟨hk, hfa, hgb⟩ := hM
  refine hw_met (by decide) (Nat.le_of_ble_eq_true rfl) ?_
  intro p e s m below meth c hx hb hr hml hown hlocks hnm hts hsz hX hW ls hl
  subst hsz
  have hA : ∀ q, s.heap.size ≤ q → hw_A M s.heap.size q := fun q h => Or.inr h
  have hS : va_S (hw_A M s.heap.size) s.heap s.heap [] := va_S.rf
  have hl : lv_has ls 10 [(0, .ref h0), (1, .long u), (3, .long d)] := hl
  have hown : s.vm.findClass "QuantifierOut$Marks" = some m.cls := hown
  obtain ⟨Q9, hQ9⟩ : ∃ X : State → Prop, X = MQ below (va_Qv (fun M1 => ∃ (n2 : Nat) (f2 g2 : Nat → Int64), mk_S cJ M1 h0 ma mb n2 f2 g2 ∧ (∀ q, q ≠ h0 → q ≠ ma → q ≠ mb → M1 q = M q) ∧ mk_ins n f g u.toInt d.toInt B n2 f2 g2) (hw_B D qcl (qty cI cJ cZ cN) M s.heap.size) (hw_A M s.heap.size)) [.ref h0, .long u, .long d].toArray s 0 0 (hw_A M s.heap.size) := ⟨_, rfl⟩
  rw [← hQ9]
  have hk0 := hk; have hfa0 := hfa; have hgb0 := hgb
  refine lv_lload_n hx hb d_Mk_insert_0 rfl (lv_at hl 2 rfl) ?_
  refine lv_lconst (v := 0) hx hb d_Mk_insert_1 (by decide) ?_
  refine W.lcmp hx hb d_Mk_insert_2 ?_
  refine lv_if_eq (tgt := 15) hx hb d_Mk_insert_3 (by decide) (fun c_2 => ?_) (fun c_2 => ?_)
  · skip
    rw [lg_cmp_eq] at c_2
    rw [hQ9]
    exact hw_retv hx hb hr hlocks hW hS ⟨n, f, g, ⟨hk, hfa, hgb⟩, fun _ _ _ _ => rfl, mk_ins_0 hn hro (Or.inl (by rw [c_2]; rfl))⟩ d_Mk_insert_15
  · skip
    rw [lg_cmp_eq] at c_2
    refine lv_aload_n hx hb d_Mk_insert_6 rfl (lv_at hl 0 rfl) ?_
    refine hw_get (own := "QuantifierOut$Marks") (v := .int (nI n)) hx hb hts i_Mk hown hW hk rfl 2 (by decide) (hts _ tw_43) (fun _ h9 => h9) rfl d_Mk_insert_7 ?_
    refine lv_bipush (v := 21) hx hb d_Mk_insert_10 (by decide) ?_
    refine lv_icmp_lt (tgt := 16) hx hb d_Mk_insert_12 (by decide) (fun c_12 => ?_) (fun c_12 => ?_)
    · skip
      have hlt : n < 21 := (nI_ltI (b := 21) (by omega) (by decide)).mp c_12
      have key : ∀ (up dn : Int64) (ls : Array Slot), 0 < dn.toInt → dn.toInt ≤ B → up.toInt.natAbs ≤ B → qm_fr up.toInt dn.toInt = qm_fr u.toInt d.toInt → lv_has ls 10 [(7, .long dn), (5, .long up), (0, .ref h0)] → W p l e ({ frames := 1, cells := 0, slots := 0, locals := 60 }) s m [.ref h0, .long u, .long d].toArray below meth c s.heap [] 0 0 Q9 (F0 m 44 ls []) := by
        intro up dn ls hdn hdnB hupB hval hl
        have hcmp : ∀ i, i < n → ((f i * dn).toInt = (f i).toInt * dn.toInt ∧ (up * g i).toInt = up.toInt * (g i).toInt) := fun i hi => mk_cmp hB (hro.1 i hi).1 (hro.1 i hi).2.1 (hro.1 i hi).2.2 hdn hdnB hupB
        have hflt : ∀ i, i < n → (mk_v f g i < qm_fr up.toInt dn.toInt ↔ (f i).toInt * dn.toInt < up.toInt * (g i).toInt) := fun i hi => qm_fr_lt (hro.1 i hi).1 hdn
        have hfgt : ∀ i, i < n → (qm_fr up.toInt dn.toInt < mk_v f g i ↔ up.toInt * (g i).toInt < (f i).toInt * dn.toInt) := fun i hi => qm_fr_lt hdn (hro.1 i hi).1
        have hfeq : ∀ i, i < n → (mk_v f g i = qm_fr up.toInt dn.toInt ↔ (f i).toInt * dn.toInt = up.toInt * (g i).toInt) := fun i hi => qm_fr_eq (hro.1 i hi).1 hdn
        have tail : ∀ (k : Nat) (ls : Array Slot), k ≤ n → (∀ i, k ≤ i → i < n → qm_fr up.toInt dn.toInt < mk_v f g i) → (∀ i, i + 1 = k → ¬ qm_fr up.toInt dn.toInt < mk_v f g i) → lv_has ls 10 [(9, .int (nI k)), (7, .long dn), (5, .long up), (0, .ref h0)] → W p l e ({ frames := 1, cells := 0, slots := 0, locals := 60 }) s m [.ref h0, .long u, .long d].toArray below meth c s.heap [] 0 0 Q9 (F0 m 89 ls []) := by
          intro k ls hkn h1 h2 hl
          refine lv_iload hx hb d_Mk_insert_89 (lv_at hl 0 rfl) ?_
          refine lv_if_le (tgt := 123) hx hb d_Mk_insert_91 (by decide) (fun c_91 => ?_) (fun c_91 => ?_)
          · skip
            have hk9 : k = 0 := by
              cases k with
              | zero => rfl
              | succ z => exact absurd c_91 (nI_nle (by omega) (by omega))
            have hbel : ∀ i, i < k → mk_v f g i < qm_fr up.toInt dn.toInt := by
              intro i hi
              omega
            refine lv_aload_n hx hb d_Mk_insert_123 rfl (lv_at hl 3 rfl) ?_
            refine hw_get (own := "QuantifierOut$Marks") (v := .ref ma) hx hb hts i_Mk hown hW hk rfl 0 (by decide) (hts _ tw_41) (fun _ h9 => h9) rfl d_Mk_insert_124 ?_
            refine lv_iload hx hb d_Mk_insert_127 (lv_at hl 0 rfl) ?_
            refine lv_aload_n hx hb d_Mk_insert_129 rfl (lv_at hl 3 rfl) ?_
            refine hw_get (own := "QuantifierOut$Marks") (v := .ref ma) hx hb hts i_Mk hown hW hk rfl 0 (by decide) (hts _ tw_41) (fun _ h9 => h9) rfl d_Mk_insert_130 ?_
            refine lv_iload hx hb d_Mk_insert_133 (lv_at hl 0 rfl) ?_
            refine lv_iconst (v := 1) hx hb d_Mk_insert_135 (by decide) ?_
            refine lv_iadd hx hb d_Mk_insert_136 ?_
            refine lv_topi (fun x1 ex1 => ?_)
            refine lv_aload_n hx hb d_Mk_insert_137 rfl (lv_at hl 3 rfl) ?_
            refine hw_get (own := "QuantifierOut$Marks") (v := .int (nI n)) hx hb hts i_Mk hown hW hk rfl 2 (by decide) (hts _ tw_43) (fun _ h9 => h9) rfl d_Mk_insert_138 ?_
            refine lv_iload hx hb d_Mk_insert_141 (lv_at hl 0 rfl) ?_
            refine lv_isub hx hb d_Mk_insert_143 ?_
            refine lv_topi (fun x2 ex2 => ?_)
            refine hw_cpl (own := "QuantifierOut$Marks") hx hb (hml.trans hl.1.symm) hown hts tw_483 tw_322 tw_321 tw_16 hW hS 1 hfa hfa rfl k (k + 1) (n - k) rfl (by rw [ex1]; exact nI_1 k) (by rw [ex2]; exact pk_sub hkn) (by omega) (by omega) (by decide) (by decide) (by decide) (by decide) d_Mk_insert_144 (fun H locs hW hS => ?_)
            have hW : hw_W D qcl (qty cI cJ cZ cN) _ (va_up M ma (some (.inl (cJ, 21, .inr (.inl (va_cpy f f k (k + 1) (n - k))))))) s H := hW
            generalize hM3 : va_up M ma (some (.inl (cJ, 21, .inr (.inl (va_cpy f f k (k + 1) (n - k)))))) = M3 at hW
            have n_h0_ma : h0 ≠ ma := (hw_ne hk hfa (by simp))
            have hk : M3 h0 = some (.inr (2, [.ref ma, .ref mb, .int (nI n)])) := by rw [← hM3, va_up_ne _ _ n_h0_ma]; exact hk
            have hgb : M3 mb = some (.inl (cJ, 21, .inr (.inl g))) := by rw [← hM3, va_up_ne _ _ (Ne.symm hne)]; exact hgb
            have hfa : M3 ma = some (.inl (cJ, 21, .inr (.inl (va_cpy f f k (k + 1) (n - k))))) := by rw [← hM3]; exact va_up_self _ _ _
            refine lv_aload_n hx hb d_Mk_insert_147 rfl (lv_at hl 3 rfl) ?_
            refine hw_get (own := "QuantifierOut$Marks") (v := .ref mb) hx hb hts i_Mk hown hW hk rfl 1 (by decide) (hts _ tw_42) (fun _ h9 => h9) rfl d_Mk_insert_148 ?_
            refine lv_iload hx hb d_Mk_insert_151 (lv_at hl 0 rfl) ?_
            refine lv_aload_n hx hb d_Mk_insert_153 rfl (lv_at hl 3 rfl) ?_
            refine hw_get (own := "QuantifierOut$Marks") (v := .ref mb) hx hb hts i_Mk hown hW hk rfl 1 (by decide) (hts _ tw_42) (fun _ h9 => h9) rfl d_Mk_insert_154 ?_
            refine lv_iload hx hb d_Mk_insert_157 (lv_at hl 0 rfl) ?_
            refine lv_iconst (v := 1) hx hb d_Mk_insert_159 (by decide) ?_
            refine lv_iadd hx hb d_Mk_insert_160 ?_
            refine lv_topi (fun x4 ex4 => ?_)
            refine lv_aload_n hx hb d_Mk_insert_161 rfl (lv_at hl 3 rfl) ?_
            refine hw_get (own := "QuantifierOut$Marks") (v := .int (nI n)) hx hb hts i_Mk hown hW hk rfl 2 (by decide) (hts _ tw_43) (fun _ h9 => h9) rfl d_Mk_insert_162 ?_
            refine lv_iload hx hb d_Mk_insert_165 (lv_at hl 0 rfl) ?_
            refine lv_isub hx hb d_Mk_insert_167 ?_
            refine lv_topi (fun x5 ex5 => ?_)
            refine hw_cpl (own := "QuantifierOut$Marks") hx hb (hml.trans hl.1.symm) hown hts tw_483 tw_322 tw_321 tw_16 hW hS 1 hgb hgb rfl k (k + 1) (n - k) rfl (by rw [ex4]; exact nI_1 k) (by rw [ex5]; exact pk_sub hkn) (by omega) (by omega) (by decide) (by decide) (by decide) (by decide) d_Mk_insert_168 (fun H locs hW hS => ?_)
            have hW : hw_W D qcl (qty cI cJ cZ cN) _ (va_up M3 mb (some (.inl (cJ, 21, .inr (.inl (va_cpy g g k (k + 1) (n - k))))))) s H := hW
            generalize hM6 : va_up M3 mb (some (.inl (cJ, 21, .inr (.inl (va_cpy g g k (k + 1) (n - k)))))) = M6 at hW
            have n_h0_mb : h0 ≠ mb := (hw_ne hk hgb (by simp))
            have hk : M6 h0 = some (.inr (2, [.ref ma, .ref mb, .int (nI n)])) := by rw [← hM6, va_up_ne _ _ n_h0_mb]; exact hk
            have hfa : M6 ma = some (.inl (cJ, 21, .inr (.inl (va_cpy f f k (k + 1) (n - k))))) := by rw [← hM6, va_up_ne _ _ hne]; exact hfa
            have hgb : M6 mb = some (.inl (cJ, 21, .inr (.inl (va_cpy g g k (k + 1) (n - k))))) := by rw [← hM6]; exact va_up_self _ _ _
            refine lv_aload_n hx hb d_Mk_insert_171 rfl (lv_at hl 3 rfl) ?_
            refine hw_get (own := "QuantifierOut$Marks") (v := .ref ma) hx hb hts i_Mk hown hW hk rfl 0 (by decide) (hts _ tw_41) (fun _ h9 => h9) rfl d_Mk_insert_172 ?_
            refine lv_iload hx hb d_Mk_insert_175 (lv_at hl 0 rfl) ?_
            refine lv_lload hx hb d_Mk_insert_177 (lv_at hl 2 rfl) ?_
            refine hw_lst hx hb hW hS 1 hfa rfl k rfl (by omega) (by decide) d_Mk_insert_179 (fun H locs hW hS => ?_)
            have hW : hw_W D qcl (qty cI cJ cZ cN) _ (va_up M6 ma (some (.inl (cJ, 21, .inr (.inl (vp_updL (va_cpy f f k (k + 1) (n - k)) k up)))))) s H := hW
            generalize hM7 : va_up M6 ma (some (.inl (cJ, 21, .inr (.inl (vp_updL (va_cpy f f k (k + 1) (n - k)) k up))))) = M7 at hW
            have hk : M7 h0 = some (.inr (2, [.ref ma, .ref mb, .int (nI n)])) := by rw [← hM7, va_up_ne _ _ n_h0_ma]; exact hk
            have hgb : M7 mb = some (.inl (cJ, 21, .inr (.inl (va_cpy g g k (k + 1) (n - k))))) := by rw [← hM7, va_up_ne _ _ (Ne.symm hne)]; exact hgb
            have hfa : M7 ma = some (.inl (cJ, 21, .inr (.inl (vp_updL (va_cpy f f k (k + 1) (n - k)) k up)))) := by rw [← hM7]; exact va_up_self _ _ _
            refine lv_aload_n hx hb d_Mk_insert_180 rfl (lv_at hl 3 rfl) ?_
            refine hw_get (own := "QuantifierOut$Marks") (v := .ref mb) hx hb hts i_Mk hown hW hk rfl 1 (by decide) (hts _ tw_42) (fun _ h9 => h9) rfl d_Mk_insert_181 ?_
            refine lv_iload hx hb d_Mk_insert_184 (lv_at hl 0 rfl) ?_
            refine lv_lload hx hb d_Mk_insert_186 (lv_at hl 1 rfl) ?_
            refine hw_lst hx hb hW hS 1 hgb rfl k rfl (by omega) (by decide) d_Mk_insert_188 (fun H locs hW hS => ?_)
            have hW : hw_W D qcl (qty cI cJ cZ cN) _ (va_up M7 mb (some (.inl (cJ, 21, .inr (.inl (vp_updL (va_cpy g g k (k + 1) (n - k)) k dn)))))) s H := hW
            generalize hM8 : va_up M7 mb (some (.inl (cJ, 21, .inr (.inl (vp_updL (va_cpy g g k (k + 1) (n - k)) k dn))))) = M8 at hW
            have hk : M8 h0 = some (.inr (2, [.ref ma, .ref mb, .int (nI n)])) := by rw [← hM8, va_up_ne _ _ n_h0_mb]; exact hk
            have hfa : M8 ma = some (.inl (cJ, 21, .inr (.inl (vp_updL (va_cpy f f k (k + 1) (n - k)) k up)))) := by rw [← hM8, va_up_ne _ _ hne]; exact hfa
            have hgb : M8 mb = some (.inl (cJ, 21, .inr (.inl (vp_updL (va_cpy g g k (k + 1) (n - k)) k dn)))) := by rw [← hM8]; exact va_up_self _ _ _
            refine lv_aload_n hx hb d_Mk_insert_189 rfl (lv_at hl 3 rfl) ?_
            refine lv_dup hx hb d_Mk_insert_190 rfl ?_
            refine hw_get (own := "QuantifierOut$Marks") (v := .int (nI n)) hx hb hts i_Mk hown hW hk rfl 2 (by decide) (hts _ tw_43) (fun _ h9 => h9) rfl d_Mk_insert_191 ?_
            refine lv_iconst (v := 1) hx hb d_Mk_insert_194 (by decide) ?_
            refine lv_iadd hx hb d_Mk_insert_195 ?_
            refine lv_topi (fun x9 ex9 => ?_)
            refine hw_put (own := "QuantifierOut$Marks") (v := .int x9) (ty := .int) hx hb hts i_Mk ft_Mk tk_Mk n_Mk hown hW hS hk rfl 2 (by decide) (hts _ tw_43) (fun _ h9 => h9) rfl (tk_Mk 2 (by decide)) rfl rfl (Nat.le_of_ble_eq_true rfl) d_Mk_insert_196 (fun H locs hW hS => ?_)
            have hW : hw_W D qcl (qty cI cJ cZ cN) _ (va_up M8 h0 (some (.inr (2, [.ref ma, .ref mb, .int x9])))) s H := hW
            generalize hM10 : va_up M8 h0 (some (.inr (2, [.ref ma, .ref mb, .int x9]))) = M10 at hW
            have hfa : M10 ma = some (.inl (cJ, 21, .inr (.inl (vp_updL (va_cpy f f k (k + 1) (n - k)) k up)))) := by rw [← hM10, va_up_ne _ _ (Ne.symm n_h0_ma)]; exact hfa
            have hgb : M10 mb = some (.inl (cJ, 21, .inr (.inl (vp_updL (va_cpy g g k (k + 1) (n - k)) k dn)))) := by rw [← hM10, va_up_ne _ _ (Ne.symm n_h0_mb)]; exact hgb
            have hk : M10 h0 = some (.inr (2, [.ref ma, .ref mb, .int x9])) := by rw [← hM10]; exact va_up_self _ _ _
            rw [hQ9]
            refine hw_retv hx hb hr hlocks hW hS ⟨n + 1, _, _, ⟨?_, hfa, hgb⟩, fun q q1 q2 q3 => ?_, mk_ins_in hlt hro hkn hdn hdnB hupB hval h1 hbel⟩ d_Mk_insert_199
            · rw [hk, ex9, nI_1]
            · rw [← hM10, va_up_ne _ _ q1, ← hM8, va_up_ne _ _ q3, ← hM7, va_up_ne _ _ q2, ← hM6, va_up_ne _ _ q3, ← hM3, va_up_ne _ _ q2]
          · skip
            obtain ⟨z, rfl⟩ : ∃ z, k = z + 1 := by
              cases k with
              | zero => exact absurd (show nI 0 ≤ 0 by decide) c_91
              | succ z => exact ⟨z, rfl⟩
            refine lv_aload_n hx hb d_Mk_insert_94 rfl (lv_at hl 3 rfl) ?_
            refine hw_get (own := "QuantifierOut$Marks") (v := .ref ma) hx hb hts i_Mk hown hW hk rfl 0 (by decide) (hts _ tw_41) (fun _ h9 => h9) rfl d_Mk_insert_95 ?_
            refine lv_iload hx hb d_Mk_insert_98 (lv_at hl 0 rfl) ?_
            refine lv_iconst (v := 1) hx hb d_Mk_insert_100 (by decide) ?_
            refine lv_isub hx hb d_Mk_insert_101 ?_
            refine lv_topi (fun x11 ex11 => ?_)
            refine hw_lld hx hb hW 1 hfa rfl z (by rw [ex11]; exact nI_pred z) (by omega) (by decide) d_Mk_insert_102 ?_
            refine lv_topl (fun fz efz => ?_)
            refine lv_lload hx hb d_Mk_insert_103 (lv_at hl 1 rfl) ?_
            refine lv_lmul hx hb d_Mk_insert_105 ?_
            refine lv_topl (fun x12 ex12 => ?_)
            refine lv_lload hx hb d_Mk_insert_106 (lv_at hl 2 rfl) ?_
            refine lv_aload_n hx hb d_Mk_insert_108 rfl (lv_at hl 3 rfl) ?_
            refine hw_get (own := "QuantifierOut$Marks") (v := .ref mb) hx hb hts i_Mk hown hW hk rfl 1 (by decide) (hts _ tw_42) (fun _ h9 => h9) rfl d_Mk_insert_109 ?_
            refine lv_iload hx hb d_Mk_insert_112 (lv_at hl 0 rfl) ?_
            refine lv_iconst (v := 1) hx hb d_Mk_insert_114 (by decide) ?_
            refine lv_isub hx hb d_Mk_insert_115 ?_
            refine lv_topi (fun x13 ex13 => ?_)
            refine hw_lld hx hb hW 1 hgb rfl z (by rw [ex13]; exact nI_pred z) (by omega) (by decide) d_Mk_insert_116 ?_
            refine lv_topl (fun gz egz => ?_)
            refine lv_lmul hx hb d_Mk_insert_117 ?_
            refine lv_topl (fun x14 ex14 => ?_)
            obtain ⟨k1, k2⟩ := hcmp z (by omega)
            refine W.lcmp hx hb d_Mk_insert_118 ?_
            refine lv_if_ne (tgt := 123) hx hb d_Mk_insert_119 (by decide) (fun c_118 => ?_) (fun c_118 => ?_)
            · skip
              first | rw [lg_cmp_eq] at c_118 | rw [ne_eq, lg_cmp_eq] at c_118 | simp only [ne_eq, lg_cmp_eq, not_not, Decidable.not_not] at c_118
              have hlast : mk_v f g (z + 1 - 1) < qm_fr up.toInt dn.toInt := by
                rw [show z + 1 - 1 = z by omega]
                have q1 := h2 z rfl
                have q2 : ¬ mk_v f g z = qm_fr up.toInt dn.toInt := fun q => c_118 (by rw [nm_leq, ex12, ex14, efz, egz, k1, k2]; exact (hfeq z (by omega)).mp q)
                grind
              generalize z + 1 = k at *
              have hbel : ∀ i, i < k → mk_v f g i < qm_fr up.toInt dn.toInt := by
                intro i hi
                rcases Nat.lt_or_ge i (k - 1) with q | q
                · have := hro.2 i (k - 1) q (by omega)
                  grind
                · rw [show i = k - 1 by omega]; exact hlast
              refine lv_aload_n hx hb d_Mk_insert_123 rfl (lv_at hl 3 rfl) ?_
              refine hw_get (own := "QuantifierOut$Marks") (v := .ref ma) hx hb hts i_Mk hown hW hk rfl 0 (by decide) (hts _ tw_41) (fun _ h9 => h9) rfl d_Mk_insert_124 ?_
              refine lv_iload hx hb d_Mk_insert_127 (lv_at hl 0 rfl) ?_
              refine lv_aload_n hx hb d_Mk_insert_129 rfl (lv_at hl 3 rfl) ?_
              refine hw_get (own := "QuantifierOut$Marks") (v := .ref ma) hx hb hts i_Mk hown hW hk rfl 0 (by decide) (hts _ tw_41) (fun _ h9 => h9) rfl d_Mk_insert_130 ?_
              refine lv_iload hx hb d_Mk_insert_133 (lv_at hl 0 rfl) ?_
              refine lv_iconst (v := 1) hx hb d_Mk_insert_135 (by decide) ?_
              refine lv_iadd hx hb d_Mk_insert_136 ?_
              refine lv_topi (fun x15 ex15 => ?_)
              refine lv_aload_n hx hb d_Mk_insert_137 rfl (lv_at hl 3 rfl) ?_
              refine hw_get (own := "QuantifierOut$Marks") (v := .int (nI n)) hx hb hts i_Mk hown hW hk rfl 2 (by decide) (hts _ tw_43) (fun _ h9 => h9) rfl d_Mk_insert_138 ?_
              refine lv_iload hx hb d_Mk_insert_141 (lv_at hl 0 rfl) ?_
              refine lv_isub hx hb d_Mk_insert_143 ?_
              refine lv_topi (fun x16 ex16 => ?_)
              refine hw_cpl (own := "QuantifierOut$Marks") hx hb (hml.trans hl.1.symm) hown hts tw_483 tw_322 tw_321 tw_16 hW hS 1 hfa hfa rfl k (k + 1) (n - k) rfl (by rw [ex15]; exact nI_1 k) (by rw [ex16]; exact pk_sub hkn) (by omega) (by omega) (by decide) (by decide) (by decide) (by decide) d_Mk_insert_144 (fun H locs hW hS => ?_)
              have hW : hw_W D qcl (qty cI cJ cZ cN) _ (va_up M ma (some (.inl (cJ, 21, .inr (.inl (va_cpy f f k (k + 1) (n - k))))))) s H := hW
              generalize hM17 : va_up M ma (some (.inl (cJ, 21, .inr (.inl (va_cpy f f k (k + 1) (n - k)))))) = M17 at hW
              have n_h0_ma : h0 ≠ ma := (hw_ne hk hfa (by simp))
              have hk : M17 h0 = some (.inr (2, [.ref ma, .ref mb, .int (nI n)])) := by rw [← hM17, va_up_ne _ _ n_h0_ma]; exact hk
              have hgb : M17 mb = some (.inl (cJ, 21, .inr (.inl g))) := by rw [← hM17, va_up_ne _ _ (Ne.symm hne)]; exact hgb
              have hfa : M17 ma = some (.inl (cJ, 21, .inr (.inl (va_cpy f f k (k + 1) (n - k))))) := by rw [← hM17]; exact va_up_self _ _ _
              refine lv_aload_n hx hb d_Mk_insert_147 rfl (lv_at hl 3 rfl) ?_
              refine hw_get (own := "QuantifierOut$Marks") (v := .ref mb) hx hb hts i_Mk hown hW hk rfl 1 (by decide) (hts _ tw_42) (fun _ h9 => h9) rfl d_Mk_insert_148 ?_
              refine lv_iload hx hb d_Mk_insert_151 (lv_at hl 0 rfl) ?_
              refine lv_aload_n hx hb d_Mk_insert_153 rfl (lv_at hl 3 rfl) ?_
              refine hw_get (own := "QuantifierOut$Marks") (v := .ref mb) hx hb hts i_Mk hown hW hk rfl 1 (by decide) (hts _ tw_42) (fun _ h9 => h9) rfl d_Mk_insert_154 ?_
              refine lv_iload hx hb d_Mk_insert_157 (lv_at hl 0 rfl) ?_
              refine lv_iconst (v := 1) hx hb d_Mk_insert_159 (by decide) ?_
              refine lv_iadd hx hb d_Mk_insert_160 ?_
              refine lv_topi (fun x18 ex18 => ?_)
              refine lv_aload_n hx hb d_Mk_insert_161 rfl (lv_at hl 3 rfl) ?_
              refine hw_get (own := "QuantifierOut$Marks") (v := .int (nI n)) hx hb hts i_Mk hown hW hk rfl 2 (by decide) (hts _ tw_43) (fun _ h9 => h9) rfl d_Mk_insert_162 ?_
              refine lv_iload hx hb d_Mk_insert_165 (lv_at hl 0 rfl) ?_
              refine lv_isub hx hb d_Mk_insert_167 ?_
              refine lv_topi (fun x19 ex19 => ?_)
              refine hw_cpl (own := "QuantifierOut$Marks") hx hb (hml.trans hl.1.symm) hown hts tw_483 tw_322 tw_321 tw_16 hW hS 1 hgb hgb rfl k (k + 1) (n - k) rfl (by rw [ex18]; exact nI_1 k) (by rw [ex19]; exact pk_sub hkn) (by omega) (by omega) (by decide) (by decide) (by decide) (by decide) d_Mk_insert_168 (fun H locs hW hS => ?_)
              have hW : hw_W D qcl (qty cI cJ cZ cN) _ (va_up M17 mb (some (.inl (cJ, 21, .inr (.inl (va_cpy g g k (k + 1) (n - k))))))) s H := hW
              generalize hM20 : va_up M17 mb (some (.inl (cJ, 21, .inr (.inl (va_cpy g g k (k + 1) (n - k)))))) = M20 at hW
              have n_h0_mb : h0 ≠ mb := (hw_ne hk hgb (by simp))
              have hk : M20 h0 = some (.inr (2, [.ref ma, .ref mb, .int (nI n)])) := by rw [← hM20, va_up_ne _ _ n_h0_mb]; exact hk
              have hfa : M20 ma = some (.inl (cJ, 21, .inr (.inl (va_cpy f f k (k + 1) (n - k))))) := by rw [← hM20, va_up_ne _ _ hne]; exact hfa
              have hgb : M20 mb = some (.inl (cJ, 21, .inr (.inl (va_cpy g g k (k + 1) (n - k))))) := by rw [← hM20]; exact va_up_self _ _ _
              refine lv_aload_n hx hb d_Mk_insert_171 rfl (lv_at hl 3 rfl) ?_
              refine hw_get (own := "QuantifierOut$Marks") (v := .ref ma) hx hb hts i_Mk hown hW hk rfl 0 (by decide) (hts _ tw_41) (fun _ h9 => h9) rfl d_Mk_insert_172 ?_
              refine lv_iload hx hb d_Mk_insert_175 (lv_at hl 0 rfl) ?_
              refine lv_lload hx hb d_Mk_insert_177 (lv_at hl 2 rfl) ?_
              refine hw_lst hx hb hW hS 1 hfa rfl k rfl (by omega) (by decide) d_Mk_insert_179 (fun H locs hW hS => ?_)
              have hW : hw_W D qcl (qty cI cJ cZ cN) _ (va_up M20 ma (some (.inl (cJ, 21, .inr (.inl (vp_updL (va_cpy f f k (k + 1) (n - k)) k up)))))) s H := hW
              generalize hM21 : va_up M20 ma (some (.inl (cJ, 21, .inr (.inl (vp_updL (va_cpy f f k (k + 1) (n - k)) k up))))) = M21 at hW
              have hk : M21 h0 = some (.inr (2, [.ref ma, .ref mb, .int (nI n)])) := by rw [← hM21, va_up_ne _ _ n_h0_ma]; exact hk
              have hgb : M21 mb = some (.inl (cJ, 21, .inr (.inl (va_cpy g g k (k + 1) (n - k))))) := by rw [← hM21, va_up_ne _ _ (Ne.symm hne)]; exact hgb
              have hfa : M21 ma = some (.inl (cJ, 21, .inr (.inl (vp_updL (va_cpy f f k (k + 1) (n - k)) k up)))) := by rw [← hM21]; exact va_up_self _ _ _
              refine lv_aload_n hx hb d_Mk_insert_180 rfl (lv_at hl 3 rfl) ?_
              refine hw_get (own := "QuantifierOut$Marks") (v := .ref mb) hx hb hts i_Mk hown hW hk rfl 1 (by decide) (hts _ tw_42) (fun _ h9 => h9) rfl d_Mk_insert_181 ?_
              refine lv_iload hx hb d_Mk_insert_184 (lv_at hl 0 rfl) ?_
              refine lv_lload hx hb d_Mk_insert_186 (lv_at hl 1 rfl) ?_
              refine hw_lst hx hb hW hS 1 hgb rfl k rfl (by omega) (by decide) d_Mk_insert_188 (fun H locs hW hS => ?_)
              have hW : hw_W D qcl (qty cI cJ cZ cN) _ (va_up M21 mb (some (.inl (cJ, 21, .inr (.inl (vp_updL (va_cpy g g k (k + 1) (n - k)) k dn)))))) s H := hW
              generalize hM22 : va_up M21 mb (some (.inl (cJ, 21, .inr (.inl (vp_updL (va_cpy g g k (k + 1) (n - k)) k dn))))) = M22 at hW
              have hk : M22 h0 = some (.inr (2, [.ref ma, .ref mb, .int (nI n)])) := by rw [← hM22, va_up_ne _ _ n_h0_mb]; exact hk
              have hfa : M22 ma = some (.inl (cJ, 21, .inr (.inl (vp_updL (va_cpy f f k (k + 1) (n - k)) k up)))) := by rw [← hM22, va_up_ne _ _ hne]; exact hfa
              have hgb : M22 mb = some (.inl (cJ, 21, .inr (.inl (vp_updL (va_cpy g g k (k + 1) (n - k)) k dn)))) := by rw [← hM22]; exact va_up_self _ _ _
              refine lv_aload_n hx hb d_Mk_insert_189 rfl (lv_at hl 3 rfl) ?_
              refine lv_dup hx hb d_Mk_insert_190 rfl ?_
              refine hw_get (own := "QuantifierOut$Marks") (v := .int (nI n)) hx hb hts i_Mk hown hW hk rfl 2 (by decide) (hts _ tw_43) (fun _ h9 => h9) rfl d_Mk_insert_191 ?_
              refine lv_iconst (v := 1) hx hb d_Mk_insert_194 (by decide) ?_
              refine lv_iadd hx hb d_Mk_insert_195 ?_
              refine lv_topi (fun x23 ex23 => ?_)
              refine hw_put (own := "QuantifierOut$Marks") (v := .int x23) (ty := .int) hx hb hts i_Mk ft_Mk tk_Mk n_Mk hown hW hS hk rfl 2 (by decide) (hts _ tw_43) (fun _ h9 => h9) rfl (tk_Mk 2 (by decide)) rfl rfl (Nat.le_of_ble_eq_true rfl) d_Mk_insert_196 (fun H locs hW hS => ?_)
              have hW : hw_W D qcl (qty cI cJ cZ cN) _ (va_up M22 h0 (some (.inr (2, [.ref ma, .ref mb, .int x23])))) s H := hW
              generalize hM24 : va_up M22 h0 (some (.inr (2, [.ref ma, .ref mb, .int x23]))) = M24 at hW
              have hfa : M24 ma = some (.inl (cJ, 21, .inr (.inl (vp_updL (va_cpy f f k (k + 1) (n - k)) k up)))) := by rw [← hM24, va_up_ne _ _ (Ne.symm n_h0_ma)]; exact hfa
              have hgb : M24 mb = some (.inl (cJ, 21, .inr (.inl (vp_updL (va_cpy g g k (k + 1) (n - k)) k dn)))) := by rw [← hM24, va_up_ne _ _ (Ne.symm n_h0_mb)]; exact hgb
              have hk : M24 h0 = some (.inr (2, [.ref ma, .ref mb, .int x23])) := by rw [← hM24]; exact va_up_self _ _ _
              rw [hQ9]
              refine hw_retv hx hb hr hlocks hW hS ⟨n + 1, _, _, ⟨?_, hfa, hgb⟩, fun q q1 q2 q3 => ?_, mk_ins_in hlt hro hkn hdn hdnB hupB hval h1 hbel⟩ d_Mk_insert_199
              · rw [hk, ex23, nI_1]
              · rw [← hM24, va_up_ne _ _ q1, ← hM22, va_up_ne _ _ q3, ← hM21, va_up_ne _ _ q2, ← hM20, va_up_ne _ _ q3, ← hM17, va_up_ne _ _ q2]
            · skip
              first | rw [lg_cmp_eq] at c_118 | rw [ne_eq, lg_cmp_eq] at c_118 | simp only [ne_eq, lg_cmp_eq, not_not, Decidable.not_not] at c_118
              have heq : mk_v f g z = qm_fr up.toInt dn.toInt := (hfeq z (by omega)).mpr (by rw [← k1, ← k2, ← efz, ← egz]; rw [← ex12, ← ex14, c_118])
              rw [hQ9]
              exact hw_retv hx hb hr hlocks hW hS ⟨n, f, g, ⟨hk, hfa, hgb⟩, fun _ _ _ _ => rfl, mk_ins_eq hn hro (show z < n by omega) (heq.trans hval)⟩ d_Mk_insert_122
        have loop : ∀ (k : Nat) (ls : Array Slot), k ≤ n → (∀ i, k ≤ i → i < n → qm_fr up.toInt dn.toInt < mk_v f g i) → lv_has ls 10 [(9, .int (nI k)), (7, .long dn), (5, .long up), (0, .ref h0)] → W p l e ({ frames := 1, cells := 0, slots := 0, locals := 60 }) s m [.ref h0, .long u, .long d].toArray below meth c s.heap [] 0 0 Q9 (F0 m 50 ls []) := by
          intro k
          induction k with
          | zero =>
            intro ls hkn h1 hl
            refine lv_iload hx hb d_Mk_insert_50 (lv_at hl 0 rfl) ?_
            refine lv_if_le (tgt := 89) hx hb d_Mk_insert_52 (by decide) (fun c_52 => ?_) (fun c_52 => ?_)
            · skip
              exact tail 0 ls hkn h1 (fun i h => absurd h (by omega)) hl
            · skip
              exact absurd (show nI 0 ≤ 0 by decide) c_52
          | succ z ih =>
            intro ls hkn h1 hl
            refine lv_iload hx hb d_Mk_insert_50 (lv_at hl 0 rfl) ?_
            refine lv_if_le (tgt := 89) hx hb d_Mk_insert_52 (by decide) (fun c_52 => ?_) (fun c_52 => ?_)
            · skip
              exact absurd c_52 (nI_nle (by omega) (by omega))
            · skip
              refine lv_aload_n hx hb d_Mk_insert_55 rfl (lv_at hl 3 rfl) ?_
              refine hw_get (own := "QuantifierOut$Marks") (v := .ref ma) hx hb hts i_Mk hown hW hk rfl 0 (by decide) (hts _ tw_41) (fun _ h9 => h9) rfl d_Mk_insert_56 ?_
              refine lv_iload hx hb d_Mk_insert_59 (lv_at hl 0 rfl) ?_
              refine lv_iconst (v := 1) hx hb d_Mk_insert_61 (by decide) ?_
              refine lv_isub hx hb d_Mk_insert_62 ?_
              refine lv_topi (fun x25 ex25 => ?_)
              refine hw_lld hx hb hW 1 hfa rfl z (by rw [ex25]; exact nI_pred z) (by omega) (by decide) d_Mk_insert_63 ?_
              refine lv_topl (fun fz efz => ?_)
              refine lv_lload hx hb d_Mk_insert_64 (lv_at hl 1 rfl) ?_
              refine lv_lmul hx hb d_Mk_insert_66 ?_
              refine lv_topl (fun x26 ex26 => ?_)
              refine lv_lload hx hb d_Mk_insert_67 (lv_at hl 2 rfl) ?_
              refine lv_aload_n hx hb d_Mk_insert_69 rfl (lv_at hl 3 rfl) ?_
              refine hw_get (own := "QuantifierOut$Marks") (v := .ref mb) hx hb hts i_Mk hown hW hk rfl 1 (by decide) (hts _ tw_42) (fun _ h9 => h9) rfl d_Mk_insert_70 ?_
              refine lv_iload hx hb d_Mk_insert_73 (lv_at hl 0 rfl) ?_
              refine lv_iconst (v := 1) hx hb d_Mk_insert_75 (by decide) ?_
              refine lv_isub hx hb d_Mk_insert_76 ?_
              refine lv_topi (fun x27 ex27 => ?_)
              refine hw_lld hx hb hW 1 hgb rfl z (by rw [ex27]; exact nI_pred z) (by omega) (by decide) d_Mk_insert_77 ?_
              refine lv_topl (fun gz egz => ?_)
              refine lv_lmul hx hb d_Mk_insert_78 ?_
              refine lv_topl (fun x28 ex28 => ?_)
              obtain ⟨k1, k2⟩ := hcmp z (by omega)
              refine W.lcmp hx hb d_Mk_insert_79 ?_
              refine lv_if_le (tgt := 89) hx hb d_Mk_insert_80 (by decide) (fun c_79 => ?_) (fun c_79 => ?_)
              · skip
                rw [lg_cmp_le] at c_79
                exact tail (z + 1) ls hkn h1 (fun i h q => by
                  have e9 : i = z := by omega
                  subst e9
                  have q2 := (hfgt i (by omega)).mp q
                  rw [nm_lle, ex26, ex28, efz, egz, k1, k2] at c_79
                  omega) hl
              · skip
                rw [lg_cmp_le] at c_79
                obtain ⟨kk, ekk⟩ : ∃ y9 : Int32, y9 = (nI (z + 1)) + Int32.ofInt (-1) := ⟨_, rfl⟩
                refine lv_iinc (v := kk) (lv' := [(9, .int kk), (7, .long dn), (5, .long up), (0, .ref h0)]) hx hb d_Mk_insert_83 hl (k := 0) rfl ekk.symm (by decide) rfl (fun ls hl => ?_)
                have ekk2 : kk = nI z := by rw [ekk]; exact pk_m1 z
                subst ekk2
                refine lv_goto (tgt := 50) hx hb d_Mk_insert_86 (by decide) ?_
                refine ih ls (by omega) (fun i hi1 hi2 => ?_) (lv_sub hl [0, 1, 2, 3] rfl)
                rcases Nat.lt_or_ge z i with q | q
                · exact h1 i (by omega) hi2
                · have e9 : i = z := by omega
                  subst e9
                  refine (hfgt i hi2).mpr ?_
                  rw [nm_lle, ex26, ex28, efz, egz, k1, k2] at c_79
                  omega
        refine lv_aload_n hx hb d_Mk_insert_44 rfl (lv_at hl 2 rfl) ?_
        refine hw_get (own := "QuantifierOut$Marks") (v := .int (nI n)) hx hb hts i_Mk hown hW hk rfl 2 (by decide) (hts _ tw_43) (fun _ h9 => h9) rfl d_Mk_insert_45 ?_
        refine lv_istore (lv' := [(9, .int (nI n)), (7, .long dn), (5, .long up), (0, .ref h0)]) hx hb d_Mk_insert_48 hl (by decide) rfl (fun ls hl => ?_)
        exact loop n ls (Nat.le_refl n) (fun i h1 h2 => absurd h1 (by omega)) (lv_sub hl [0, 1, 2, 3] rfl)
      refine lv_lload_n hx hb d_Mk_insert_16 rfl (lv_at hl 2 rfl) ?_
      refine lv_lconst (v := 0) hx hb d_Mk_insert_17 (by decide) ?_
      refine W.lcmp hx hb d_Mk_insert_18 ?_
      refine lv_if_ge (tgt := 27) hx hb d_Mk_insert_19 (by decide) (fun c_18 => ?_) (fun c_18 => ?_)
      · skip
        rw [lg_cmp_ge] at c_18
        refine lv_lload_n hx hb d_Mk_insert_27 rfl (lv_at hl 1 rfl) ?_
        refine lv_lstore (lv' := [(5, .long u), (0, .ref h0), (1, .long u), (3, .long d)]) hx hb d_Mk_insert_28 hl (by decide) rfl (fun ls hl => ?_)
        refine lv_lload_n hx hb d_Mk_insert_30 rfl (lv_at hl 3 rfl) ?_
        refine lv_lconst (v := 0) hx hb d_Mk_insert_31 (by decide) ?_
        refine W.lcmp hx hb d_Mk_insert_32 ?_
        refine lv_if_ge (tgt := 41) hx hb d_Mk_insert_33 (by decide) (fun c_32 => ?_) (fun c_32 => ?_)
        · skip
          rw [lg_cmp_ge] at c_32
          refine lv_lload_n hx hb d_Mk_insert_41 rfl (lv_at hl 3 rfl) ?_
          refine lv_lstore (lv' := [(7, .long d), (5, .long u), (0, .ref h0), (1, .long u), (3, .long d)]) hx hb d_Mk_insert_42 hl (by decide) rfl (fun ls hl => ?_)
          rw [nm_lle] at c_18
          have hd0 : d.toInt ≠ 0 := fun q => c_2 (nm_leq.mpr q)
          have h00 : (0 : Int64).toInt = 0 := rfl
          exact key u d ls (by omega) (by omega) huB rfl (lv_sub hl [0, 1, 2] rfl)
        · skip
          rw [lg_cmp_ge] at c_32
          exact absurd c_18 c_32
      · skip
        rw [lg_cmp_ge] at c_18
        refine lv_lload_n hx hb d_Mk_insert_22 rfl (lv_at hl 1 rfl) ?_
        refine lv_lneg hx hb d_Mk_insert_23 ?_
        refine lv_topl (fun x29 ex29 => ?_)
        refine lv_goto (tgt := 28) hx hb d_Mk_insert_24 (by decide) ?_
        refine lv_lstore (lv' := [(5, .long x29), (0, .ref h0), (1, .long u), (3, .long d)]) hx hb d_Mk_insert_28 hl (by decide) rfl (fun ls hl => ?_)
        refine lv_lload_n hx hb d_Mk_insert_30 rfl (lv_at hl 3 rfl) ?_
        refine lv_lconst (v := 0) hx hb d_Mk_insert_31 (by decide) ?_
        refine W.lcmp hx hb d_Mk_insert_32 ?_
        refine lv_if_ge (tgt := 41) hx hb d_Mk_insert_33 (by decide) (fun c_32 => ?_) (fun c_32 => ?_)
        · skip
          rw [lg_cmp_ge] at c_32
          exact absurd c_32 c_18
        · skip
          rw [lg_cmp_ge] at c_32
          refine lv_lload_n hx hb d_Mk_insert_36 rfl (lv_at hl 3 rfl) ?_
          refine lv_lneg hx hb d_Mk_insert_37 ?_
          refine lv_topl (fun x30 ex30 => ?_)
          refine lv_goto (tgt := 42) hx hb d_Mk_insert_38 (by decide) ?_
          refine lv_lstore (lv' := [(7, .long x30), (5, .long x29), (0, .ref h0), (1, .long u), (3, .long d)]) hx hb d_Mk_insert_42 hl (by decide) rfl (fun ls hl => ?_)
          rw [nm_lle] at c_18
          have h00 : (0 : Int64).toInt = 0 := rfl
          have eu : x29.toInt = -u.toInt := by rw [ex29]; exact nm_lneg (by omega)
          have ed : x30.toInt = -d.toInt := by rw [ex30]; exact nm_lneg (by omega)
          exact key x29 x30 ls (by omega) (by omega) (by omega) (by rw [eu, ed]; exact qm_fr_neg (by omega)) (lv_sub hl [0, 1, 2] rfl)
    · skip
      have hge : 21 ≤ n := Nat.le_of_not_lt (fun q => c_12 ((nI_ltI (b := 21) (by omega) (by decide)).mpr q))
      rw [hQ9]
      exact hw_retv hx hb hr hlocks hW hS ⟨n, f, g, ⟨hk, hfa, hgb⟩, fun _ _ _ _ => rfl, mk_ins_0 hn hro (Or.inr hge)⟩ d_Mk_insert_15
end G15
end
section
/-! Nodes of any kind: their common fields; Node.isFree, Node.size; Marks.markValue, Marks.markCrossing -/
/-- a node's cell: of one of the four kinds; free, depth, lines, grid; then its own fields -/
def nd_c (M : Nat → Option va_E) (a ci : Nat) (fr dp : Int32) (la : Nat) (gr : Int32) (ex : List Value) : Prop := (ci = 1 ∨ ci = 3 ∨ ci = 4 ∨ ci = 6) ∧ M a = some (.inr (ci, .int fr :: .int dp :: .ref la :: .int gr :: ex))
def nd_fr (fx fy : Bool) : Int32 := nI (fx.toNat + 2 * fy.toNat)
/-- the cells of a Values object -/
def vs_S (cJ : ClassId) (M : Nat → Option va_E) (v a b o i : Nat) (f g : Nat → Int64) : Prop := M v = some (.inr (7, [.ref a, .ref b, .ref o, .ref i])) ∧ M a = some (.inl (cJ, 2, .inr (.inl f))) ∧ M b = some (.inl (cJ, 2, .inr (.inl g)))
section G16
section
variable {p : Program} {l : Launch} {e : Env} {R : Room} {s : State} {m : MethodId} {args : Array Value} {below : List Frame} {meth : Method} {c : Code} {H : Heap} {locs : List Loc} {cells slots : Nat} {Q : State → Prop}
variable {cc : ByteArray} {pc : Nat} {ls : Array Slot} {rest : List Value} {D : va_G} {A : Nat → Prop} {a : Nat} {tys : List (ClassId × FieldType)} {M : Nat → Option va_E} {H0 : Heap}
theorem nd_get0 (hexec : p.tables.exec = Jvm.exec) (hb : c.code = cc) {own : String} {index : Nat} (hts : ∀ w ∈ ww, w.before args s = true) (hown : s.vm.findClass own = some m.cls) (hW : hw_W D qcl tys A M s H) {ci la : Nat} {fr dp gr : Int32} {ex : List Value} (he : nd_c M a ci fr dp la gr ex) (hlink : Cond.fieldLink own index "QuantifierOut$Node" "free" "I" ∈ ww) (hdg : decode cc pc = .ok (.getfield index, 3))
    (kk : W p l e R s m args below meth c H locs cells slots Q (F0 m (pc + 3) ls (.int fr :: rest))) : W p l e R s m args below meth c H locs cells slots Q (F0 m pc ls (.ref a :: rest)) := by
  obtain ⟨hci, he⟩ := he
  rcases hci with rfl | rfl | rfl | rfl
  · exact hw_get (C := "QuantifierOut$Atom") (T := F_At) (N := 8) hexec hb hts i_At hown hW he rfl 0 (by decide) (hts _ hlink) (fun _ h9 => h9) rfl hdg kk
  · exact hw_get (C := "QuantifierOut$Negation") (T := F_Ng) (N := 5) hexec hb hts i_Ng hown hW he rfl 0 (by decide) (hts _ hlink) (fun _ h9 => h9) rfl hdg kk
  · exact hw_get (C := "QuantifierOut$Pair") (T := F_Pr) (N := 7) hexec hb hts i_Pr hown hW he rfl 0 (by decide) (hts _ hlink) (fun _ h9 => h9) rfl hdg kk
  · exact hw_get (C := "QuantifierOut$Quantified") (T := F_Qf) (N := 7) hexec hb hts i_Qf hown hW he rfl 0 (by decide) (hts _ hlink) (fun _ h9 => h9) rfl hdg kk
theorem nd_get1 (hexec : p.tables.exec = Jvm.exec) (hb : c.code = cc) {own : String} {index : Nat} (hts : ∀ w ∈ ww, w.before args s = true) (hown : s.vm.findClass own = some m.cls) (hW : hw_W D qcl tys A M s H) {ci la : Nat} {fr dp gr : Int32} {ex : List Value} (he : nd_c M a ci fr dp la gr ex) (hlink : Cond.fieldLink own index "QuantifierOut$Node" "depth" "I" ∈ ww) (hdg : decode cc pc = .ok (.getfield index, 3))
    (kk : W p l e R s m args below meth c H locs cells slots Q (F0 m (pc + 3) ls (.int dp :: rest))) : W p l e R s m args below meth c H locs cells slots Q (F0 m pc ls (.ref a :: rest)) := by
  obtain ⟨hci, he⟩ := he
  rcases hci with rfl | rfl | rfl | rfl
  · exact hw_get (C := "QuantifierOut$Atom") (T := F_At) (N := 8) hexec hb hts i_At hown hW he rfl 1 (by decide) (hts _ hlink) (fun _ h9 => h9) rfl hdg kk
  · exact hw_get (C := "QuantifierOut$Negation") (T := F_Ng) (N := 5) hexec hb hts i_Ng hown hW he rfl 1 (by decide) (hts _ hlink) (fun _ h9 => h9) rfl hdg kk
  · exact hw_get (C := "QuantifierOut$Pair") (T := F_Pr) (N := 7) hexec hb hts i_Pr hown hW he rfl 1 (by decide) (hts _ hlink) (fun _ h9 => h9) rfl hdg kk
  · exact hw_get (C := "QuantifierOut$Quantified") (T := F_Qf) (N := 7) hexec hb hts i_Qf hown hW he rfl 1 (by decide) (hts _ hlink) (fun _ h9 => h9) rfl hdg kk
theorem nd_get2 (hexec : p.tables.exec = Jvm.exec) (hb : c.code = cc) {own : String} {index : Nat} (hts : ∀ w ∈ ww, w.before args s = true) (hown : s.vm.findClass own = some m.cls) (hW : hw_W D qcl tys A M s H) {ci la : Nat} {fr dp gr : Int32} {ex : List Value} (he : nd_c M a ci fr dp la gr ex) (hlink : Cond.fieldLink own index "QuantifierOut$Node" "lines" "[I" ∈ ww) (hdg : decode cc pc = .ok (.getfield index, 3))
    (kk : W p l e R s m args below meth c H locs cells slots Q (F0 m (pc + 3) ls (.ref la :: rest))) : W p l e R s m args below meth c H locs cells slots Q (F0 m pc ls (.ref a :: rest)) := by
  obtain ⟨hci, he⟩ := he
  rcases hci with rfl | rfl | rfl | rfl
  · exact hw_get (C := "QuantifierOut$Atom") (T := F_At) (N := 8) hexec hb hts i_At hown hW he rfl 2 (by decide) (hts _ hlink) (fun _ h9 => h9) rfl hdg kk
  · exact hw_get (C := "QuantifierOut$Negation") (T := F_Ng) (N := 5) hexec hb hts i_Ng hown hW he rfl 2 (by decide) (hts _ hlink) (fun _ h9 => h9) rfl hdg kk
  · exact hw_get (C := "QuantifierOut$Pair") (T := F_Pr) (N := 7) hexec hb hts i_Pr hown hW he rfl 2 (by decide) (hts _ hlink) (fun _ h9 => h9) rfl hdg kk
  · exact hw_get (C := "QuantifierOut$Quantified") (T := F_Qf) (N := 7) hexec hb hts i_Qf hown hW he rfl 2 (by decide) (hts _ hlink) (fun _ h9 => h9) rfl hdg kk
theorem nd_get3 (hexec : p.tables.exec = Jvm.exec) (hb : c.code = cc) {own : String} {index : Nat} (hts : ∀ w ∈ ww, w.before args s = true) (hown : s.vm.findClass own = some m.cls) (hW : hw_W D qcl tys A M s H) {ci la : Nat} {fr dp gr : Int32} {ex : List Value} (he : nd_c M a ci fr dp la gr ex) (hlink : Cond.fieldLink own index "QuantifierOut$Node" "grid" "I" ∈ ww) (hdg : decode cc pc = .ok (.getfield index, 3))
    (kk : W p l e R s m args below meth c H locs cells slots Q (F0 m (pc + 3) ls (.int gr :: rest))) : W p l e R s m args below meth c H locs cells slots Q (F0 m pc ls (.ref a :: rest)) := by
  obtain ⟨hci, he⟩ := he
  rcases hci with rfl | rfl | rfl | rfl
  · exact hw_get (C := "QuantifierOut$Atom") (T := F_At) (N := 8) hexec hb hts i_At hown hW he rfl 3 (by decide) (hts _ hlink) (fun _ h9 => h9) rfl hdg kk
  · exact hw_get (C := "QuantifierOut$Negation") (T := F_Ng) (N := 5) hexec hb hts i_Ng hown hW he rfl 3 (by decide) (hts _ hlink) (fun _ h9 => h9) rfl hdg kk
  · exact hw_get (C := "QuantifierOut$Pair") (T := F_Pr) (N := 7) hexec hb hts i_Pr hown hW he rfl 3 (by decide) (hts _ hlink) (fun _ h9 => h9) rfl hdg kk
  · exact hw_get (C := "QuantifierOut$Quantified") (T := F_Qf) (N := 7) hexec hb hts i_Qf hown hW he rfl 3 (by decide) (hts _ hlink) (fun _ h9 => h9) rfl hdg kk
/-- a call of a method that Node itself has and no kind of node overrides -/
theorem nd_runF {y : MethodName} {bytes : ByteArray} {maxL nL mc ms n index : Nat} {ret : Option FieldType} {rm : Room} {Qc : Array Value → State → Outcome → State → Prop} {free : Addr → Prop} {own : String} {b ci la : Nat} {fr dp gr : Int32} {ex : List Value} {As : List Value} {st0 : List Value}
    (hx : p.tables.exec = Jvm.exec) (hb : c.code = cc) (hml : c.maxLocals = nL) (hown : s.vm.findClass own = some m.cls) (hts : ∀ w ∈ ww, w.before args s = true) (hX : hw_X s) (hW : hw_W D qcl tys A M s H) (hl : ls.size = nL)
    (hM : Met l y (.code y bytes maxL ret :: ww) rm (hw_Pc D qcl tys (.ref b :: As) M H.size) Qc mc ms free)
    (he : nd_c M b ci fr dp la gr ex)
    (w1 : Cond.methodLink own index y ∈ ww) (w2 : Cond.sameMethod y.cls y.cls y.name y.desc ∈ ww) (s1 : Cond.selects "QuantifierOut$Atom" y y ∈ ww) (s2 : Cond.selects "QuantifierOut$Negation" y y ∈ ww) (s3 : Cond.selects "QuantifierOut$Pair" y y ∈ ww) (s4 : Cond.selects "QuantifierOut$Quantified" y y ∈ ww) (w4 : Cond.instanceMethod y ∈ ww) (w6 : Cond.initialized y.cls ∈ ww) (w5 : Cond.code y bytes maxL ret ∈ ww)
    (hd : y.cls ≠ "java/lang/invoke/MethodHandle" ∧ y.cls ≠ "java/lang/invoke/VarHandle" ∧ (parseMethodDescriptor y.desc).map (fun d => d.parameters.length) = some n)
    (hrc : rm.cells = mc) (hrs : rm.slots = ms) (hR : rm.frames + 1 ≤ R.frames ∧ 8 + (maxL + 11) + rm.locals ≤ R.locals) (hn : As.length = n) (hst : st0 = As.reverse ++ .ref b :: rest) (hrw : (rest.map fun v => v.category).sum ≤ 8)
    (hdg : decode cc pc = .ok (.invokevirtual index, 3)) (hf : cells + mc ≤ R.cells ∧ slots + ms ≤ R.slots) :
    va_Run p l e R s m args below meth c H locs cells slots mc ms (F0 m pc ls st0) rest (Qc (Value.ref b :: As).toArray) free := by
  have hdecl : va_Decl s y := va_Decl.of (hts _ w4) (hts _ w5)
  obtain ⟨hci, he⟩ := he
  rcases hci with rfl | rfl | rfl | rfl
  · exact hw_runU (C := "QuantifierOut$Atom") hx hb hml hown hts hX hW hl hM he rfl hdecl w1 w2 s1 w4 w6 w5 hd hrc hrs hR hn hst hrw hdg hf
  · exact hw_runU (C := "QuantifierOut$Negation") hx hb hml hown hts hX hW hl hM he rfl hdecl w1 w2 s2 w4 w6 w5 hd hrc hrs hR hn hst hrw hdg hf
  · exact hw_runU (C := "QuantifierOut$Pair") hx hb hml hown hts hX hW hl hM he rfl hdecl w1 w2 s3 w4 w6 w5 hd hrc hrs hR hn hst hrw hdg hf
  · exact hw_runU (C := "QuantifierOut$Quantified") hx hb hml hown hts hX hW hl hM he rfl hdecl w1 w2 s4 w4 w6 w5 hd hrc hrs hR hn hst hrw hdg hf
end
variable (l : Launch) (D : va_G) (cI cJ cZ cN : ClassId)
set_option maxHeartbeats 4000000 in
set_option maxRecDepth 100000 in
theorem c_Nd_isFree (h0 ci la j sz : Nat) (fx fy : Bool) (dp gr : Int32) (ex : List Value) (M : Nat → Option va_E) (hnd : nd_c M h0 ci (nd_fr fx fy) dp la gr ex) (hj : j < 2) : Met l y_Nd_isFree (.code y_Nd_isFree b_Nd_isFree 2 (some .boolean) :: ww) ({ frames := 0, cells := 0, slots := 0, locals := 0 }) (hw_Pc D qcl (qty cI cJ cZ cN) [.ref h0, .int (nI j)] M sz) (va_Qi (fun r M1 => r = (if (if j = 0 then fx else fy) = true then 1 else 0) ∧ M1 = M) (hw_B D qcl (qty cI cJ cZ cN) M sz) (hw_A M sz)) 0 0 (hw_A M sz) := by
  refine hw_met (by decide) (Nat.le_of_ble_eq_true rfl) ?_
  intro p e s m below meth c hx hb hr hml hown hlocks hnm hts hsz hX hW ls hl
  subst hsz
  have hA : ∀ q, s.heap.size ≤ q → hw_A M s.heap.size q := fun q h => Or.inr h
  have hS : va_S (hw_A M s.heap.size) s.heap s.heap [] := va_S.rf
  have hl : lv_has ls 2 [(0, .ref h0), (1, .int (nI j))] := hl
  have hown : s.vm.findClass "QuantifierOut$Node" = some m.cls := hown
  refine lv_aload_n hx hb d_Nd_isFree_0 rfl (lv_at hl 0 rfl) ?_
  refine nd_get0 (own := "QuantifierOut$Node") hx hb hts hown hW hnd tw_231 d_Nd_isFree_1 ?_
  refine lv_iload_n hx hb d_Nd_isFree_4 rfl (lv_at hl 1 rfl) ?_
  refine lv_ishr hx hb d_Nd_isFree_5 ?_
  refine lv_topi (fun x1 ex1 => ?_)
  refine lv_iconst (v := 1) hx hb d_Nd_isFree_6 (by decide) ?_
  refine lv_iand hx hb d_Nd_isFree_7 ?_
  refine lv_topi (fun x2 ex2 => ?_)
  refine lv_iconst (v := 1) hx hb d_Nd_isFree_8 (by decide) ?_
  refine lv_icmp_ne (tgt := 16) hx hb d_Nd_isFree_9 (by decide) (fun c_9 => ?_) (fun c_9 => ?_)
  · skip
    refine lv_iconst (v := 0) hx hb d_Nd_isFree_16 (by decide) ?_
    refine hw_retz hx hb hr rfl hlocks hW hS ⟨?_, rfl⟩ d_Nd_isFree_17
    rw [if_neg]
    intro q; apply c_9; rw [ex2, ex1]; revert q
    rcases (show j = 0 ∨ j = 1 by omega) with rfl | rfl <;> cases fx <;> cases fy <;> decide
  · skip
    refine lv_iconst (v := 1) hx hb d_Nd_isFree_12 (by decide) ?_
    refine lv_goto (tgt := 17) hx hb d_Nd_isFree_13 (by decide) ?_
    refine hw_retz hx hb hr rfl hlocks hW hS ⟨?_, rfl⟩ d_Nd_isFree_17
    rw [if_pos]
    rw [ex2, ex1] at c_9; revert c_9
    rcases (show j = 0 ∨ j = 1 by omega) with rfl | rfl <;> cases fx <;> cases fy <;> decide
set_option maxHeartbeats 4000000 in
set_option maxRecDepth 100000 in
theorem c_Nd_size (h0 ci la nl sz : Nat) (fr dp gr : Int32) (F : Nat → Int32) (ex : List Value) (M : Nat → Option va_E) (hnd : nd_c M h0 ci fr dp la gr ex) (hla : M la = some (.inl (cI, 3 * nl, .inl F))) (hnl : nl < 1000) : Met l y_Nd_size (.code y_Nd_size b_Nd_size 1 (some .int) :: ww) ({ frames := 0, cells := 0, slots := 0, locals := 0 }) (hw_Pc D qcl (qty cI cJ cZ cN) [.ref h0] M sz) (va_Qi (fun r M1 => r = nI nl ∧ M1 = M) (hw_B D qcl (qty cI cJ cZ cN) M sz) (hw_A M sz)) 0 0 (hw_A M sz) := by
  refine hw_met (by decide) (Nat.le_of_ble_eq_true rfl) ?_
  intro p e s m below meth c hx hb hr hml hown hlocks hnm hts hsz hX hW ls hl
  subst hsz
  have hA : ∀ q, s.heap.size ≤ q → hw_A M s.heap.size q := fun q h => Or.inr h
  have hS : va_S (hw_A M s.heap.size) s.heap s.heap [] := va_S.rf
  have hl : lv_has ls 1 [(0, .ref h0)] := hl
  have hown : s.vm.findClass "QuantifierOut$Node" = some m.cls := hown
  refine lv_aload_n hx hb d_Nd_size_0 rfl (lv_at hl 0 rfl) ?_
  refine nd_get2 (own := "QuantifierOut$Node") hx hb hts hown hW hnd tw_242 d_Nd_size_1 ?_
  refine hw_alen (v := (nI (3 * nl))) hx hb hW 0 hla rfl (by rfl) d_Nd_size_4 ?_
  refine lv_iconst (v := 3) hx hb d_Nd_size_5 (by decide) ?_
  refine lv_idiv hx hb d_Nd_size_6 (by decide) ?_
  refine lv_topi (fun x1 ex1 => ?_)
  refine hw_reti hx hb hr hlocks hW hS ⟨?_, rfl⟩ d_Nd_size_7
  rw [ex1, show (3 : Int32) = nI 3 from rfl, pk_div (by omega) (by omega) (by omega)]; congr 1; omega
set_option maxHeartbeats 4000000 in
set_option maxRecDepth 100000 in
theorem c_Mk_markValue (h0 ma mb n B Bv sz la nl t j o v va vb om im : Nat) (f g fv gv : Nat → Int64) (F : Nat → Int32) (M : Nat → Option va_E) (hM : mk_S cJ M h0 ma mb n f g) (hne : ma ≠ mb) (hn : n ≤ 21) (hro : mk_row f g n B) (hB : B ≤ 1000000) (hla : M la = some (.inl (cI, 3 * nl, .inl F))) (hnl : nl ≤ 6) (ht : t < nl) (hjo : j + o = 1) (hF : ∀ i, i < 3 * nl → (F i).toInt.natAbs ≤ 5) (hV : vs_S cJ M v va vb om im fv gv) (hfv : (fv o).toInt.natAbs ≤ Bv) (hgv : (gv o).toInt.natAbs ≤ Bv) (hBv : 10 * Bv ≤ B) : Met l y_Mk_markValue (.code y_Mk_markValue b_Mk_markValue 10 none :: ww) ({ frames := 2, cells := 0, slots := 0, locals := 100 }) (hw_Pc D qcl (qty cI cJ cZ cN) [.ref h0, .ref la, .int (nI (3 * t)), .int (nI j), .ref v] M sz) (va_Qv (fun M1 => ∃ (n2 : Nat) (f2 g2 : Nat → Int64), mk_S cJ M1 h0 ma mb n2 f2 g2 ∧ (∀ q, q ≠ h0 → q ≠ ma → q ≠ mb → M1 q = M q) ∧ mk_ins n f g (-((F (3 * t + o)).toInt * (fv o).toInt + (F (3 * t + 2)).toInt * (gv o).toInt)) ((F (3 * t + j)).toInt * (gv o).toInt) B n2 f2 g2) (hw_B D qcl (qty cI cJ cZ cN) M sz) (hw_A M sz)) 0 0 (hw_A M sz) := by
  obtain ⟨hv, hva, hvb⟩ := hV
  have hk := hM.1
  refine hw_met (by decide) (Nat.le_of_ble_eq_true rfl) ?_
  intro p e s m below meth c hx hb hr hml hown hlocks hnm hts hsz hX hW ls hl
  subst hsz
  have hA : ∀ q, s.heap.size ≤ q → hw_A M s.heap.size q := fun q h => Or.inr h
  have hS : va_S (hw_A M s.heap.size) s.heap s.heap [] := va_S.rf
  have hl : lv_has ls 10 [(0, .ref h0), (1, .ref la), (2, .int (nI (3 * t))), (3, .int (nI j)), (4, .ref v)] := hl
  have hown : s.vm.findClass "QuantifierOut$Marks" = some m.cls := hown
  have hnb : 3 * nl < 1000000 := by omega
  refine lv_iconst (v := 1) hx hb d_Mk_markValue_0 (by decide) ?_
  refine lv_iload_n hx hb d_Mk_markValue_1 rfl (lv_at hl 3 rfl) ?_
  refine lv_isub hx hb d_Mk_markValue_2 ?_
  refine lv_topi (fun x1 ex1 => ?_)
  refine lv_istore (lv' := [(5, .int x1), (0, .ref h0), (1, .ref la), (2, .int (nI (3 * t))), (3, .int (nI j)), (4, .ref v)]) hx hb d_Mk_markValue_3 hl (by decide) rfl (fun ls hl => ?_)
  have eo : x1 = nI o := by rw [ex1, show (1 : Int32) = nI 1 from rfl, pk_sub (by omega)]; congr 1; omega
  refine lv_aload hx hb d_Mk_markValue_5 (lv_at hl 5 rfl) ?_
  refine hw_get (own := "QuantifierOut$Marks") (v := .ref vb) hx hb hts i_Vs hown hW hv rfl 1 (by decide) (hts _ tw_59) (fun _ h9 => h9) rfl d_Mk_markValue_7 ?_
  refine lv_iload hx hb d_Mk_markValue_10 (lv_at hl 0 rfl) ?_
  refine hw_lld hx hb hW 1 hvb rfl o eo (by omega) (by decide) d_Mk_markValue_12 ?_
  refine lv_topl (fun ob eob => ?_)
  refine lv_lstore (lv' := [(6, .long ob), (5, .int x1), (0, .ref h0), (1, .ref la), (2, .int (nI (3 * t))), (3, .int (nI j)), (4, .ref v)]) hx hb d_Mk_markValue_13 hl (by decide) rfl (fun ls hl => ?_)
  refine lv_aload_n hx hb d_Mk_markValue_15 rfl (lv_at hl 3 rfl) ?_
  refine lv_iload_n hx hb d_Mk_markValue_16 rfl (lv_at hl 4 rfl) ?_
  refine lv_iload hx hb d_Mk_markValue_17 (lv_at hl 1 rfl) ?_
  refine lv_iadd hx hb d_Mk_markValue_19 ?_
  refine lv_topi (fun x2 ex2 => ?_)
  refine hw_ild hx hb hW 0 hla rfl (3 * t + o) (by rw [ex2, eo]; exact nI_add (3 * t) o) (by omega) hnb d_Mk_markValue_20 ?_
  refine lv_topi (fun Fo eFo => ?_)
  obtain ⟨x3, ex3⟩ : ∃ y9 : Int64, y9 = (Fo : Int32).toInt64 := ⟨_, rfl⟩
  refine lv_i2l (v := x3) hx hb d_Mk_markValue_21 ex3.symm ?_
  refine lv_aload hx hb d_Mk_markValue_22 (lv_at hl 6 rfl) ?_
  refine hw_get (own := "QuantifierOut$Marks") (v := .ref va) hx hb hts i_Vs hown hW hv rfl 0 (by decide) (hts _ tw_55) (fun _ h9 => h9) rfl d_Mk_markValue_24 ?_
  refine lv_iload hx hb d_Mk_markValue_27 (lv_at hl 1 rfl) ?_
  refine hw_lld hx hb hW 1 hva rfl o eo (by omega) (by decide) d_Mk_markValue_29 ?_
  refine lv_topl (fun ov eov => ?_)
  refine lv_lmul hx hb d_Mk_markValue_30 ?_
  refine lv_topl (fun x4 ex4 => ?_)
  refine lv_aload_n hx hb d_Mk_markValue_31 rfl (lv_at hl 3 rfl) ?_
  refine lv_iload_n hx hb d_Mk_markValue_32 rfl (lv_at hl 4 rfl) ?_
  refine lv_iconst (v := 2) hx hb d_Mk_markValue_33 (by decide) ?_
  refine lv_iadd hx hb d_Mk_markValue_34 ?_
  refine lv_topi (fun x5 ex5 => ?_)
  refine hw_ild hx hb hW 0 hla rfl (3 * t + 2) (by rw [ex5]; exact nI_add (3 * t) 2) (by omega) hnb d_Mk_markValue_35 ?_
  refine lv_topi (fun Fc eFc => ?_)
  obtain ⟨x6, ex6⟩ : ∃ y9 : Int64, y9 = (Fc : Int32).toInt64 := ⟨_, rfl⟩
  refine lv_i2l (v := x6) hx hb d_Mk_markValue_36 ex6.symm ?_
  refine lv_lload hx hb d_Mk_markValue_37 (lv_at hl 0 rfl) ?_
  refine lv_lmul hx hb d_Mk_markValue_39 ?_
  refine lv_topl (fun x7 ex7 => ?_)
  refine lv_ladd hx hb d_Mk_markValue_40 ?_
  refine lv_topl (fun x8 ex8 => ?_)
  refine lv_lstore (lv' := [(8, .long x8), (6, .long ob), (5, .int x1), (0, .ref h0), (1, .ref la), (2, .int (nI (3 * t))), (3, .int (nI j)), (4, .ref v)]) hx hb d_Mk_markValue_41 hl (by decide) rfl (fun ls hl => ?_)
  refine lv_aload_n hx hb d_Mk_markValue_43 rfl (lv_at hl 3 rfl) ?_
  refine lv_lload hx hb d_Mk_markValue_44 (lv_at hl 0 rfl) ?_
  refine lv_lneg hx hb d_Mk_markValue_46 ?_
  refine lv_topl (fun x9 ex9 => ?_)
  refine lv_aload_n hx hb d_Mk_markValue_47 rfl (lv_at hl 4 rfl) ?_
  refine lv_iload_n hx hb d_Mk_markValue_48 rfl (lv_at hl 5 rfl) ?_
  refine lv_iload_n hx hb d_Mk_markValue_49 rfl (lv_at hl 6 rfl) ?_
  refine lv_iadd hx hb d_Mk_markValue_50 ?_
  refine lv_topi (fun x10 ex10 => ?_)
  refine hw_ild hx hb hW 0 hla rfl (3 * t + j) (by rw [ex10]; exact nI_add (3 * t) j) (by omega) hnb d_Mk_markValue_51 ?_
  refine lv_topi (fun Fj eFj => ?_)
  obtain ⟨x11, ex11⟩ : ∃ y9 : Int64, y9 = (Fj : Int32).toInt64 := ⟨_, rfl⟩
  refine lv_i2l (v := x11) hx hb d_Mk_markValue_52 ex11.symm ?_
  refine lv_lload hx hb d_Mk_markValue_53 (lv_at hl 1 rfl) ?_
  refine lv_lmul hx hb d_Mk_markValue_55 ?_
  refine lv_topl (fun x12 ex12 => ?_)
  have bFo := hF (3 * t + o) (by omega); have bFc := hF (3 * t + 2) (by omega); have bFj := hF (3 * t + j) (by omega)
  have p1 := nm_mulb bFo hfv; have p2 := nm_mulb bFc hgv; have p3 := nm_mulb bFj hgv
  have t3 : x3.toInt = (F (3 * t + o)).toInt := by rw [ex3, nm_i2l, eFo]
  have t4 : x4.toInt = (F (3 * t + o)).toInt * (fv o).toInt := by rw [ex4, nm_lmul (by rw [t3, eov]; omega), t3, eov]
  have t6 : x6.toInt = (F (3 * t + 2)).toInt := by rw [ex6, nm_i2l, eFc]
  have t7 : x7.toInt = (F (3 * t + 2)).toInt * (gv o).toInt := by rw [ex7, nm_lmul (by rw [t6, eob]; omega), t6, eob]
  have t8 : x8.toInt = (F (3 * t + o)).toInt * (fv o).toInt + (F (3 * t + 2)).toInt * (gv o).toInt := by rw [ex8, nm_ladd (by rw [t4, t7]; omega), t4, t7]
  have t9 : x9.toInt = (-((F (3 * t + o)).toInt * (fv o).toInt + (F (3 * t + 2)).toInt * (gv o).toInt)) := by rw [ex9, nm_lneg (by rw [t8]; omega), t8]
  have t11 : x11.toInt = (F (3 * t + j)).toInt := by rw [ex11, nm_i2l, eFj]
  have t12 : x12.toInt = ((F (3 * t + j)).toInt * (gv o).toInt) := by rw [ex12, nm_lmul (by rw [t11, eob]; omega), t11, eob]
  refine hw_callv (hw_runV (n := 2) (own := "QuantifierOut$Marks") (As := [.long x9, .long x12]) (rest := []) hx hb hml hown hts hX hW hl.1 (c_Mk_insert l D cI cJ cZ cN h0 ma mb n B _ f g x9 x12 M hM hne hn hro hB (by rw [t9]; omega) (by rw [t12]; omega)) hk rfl tw_479 tw_481 ts_7 tw_3 tw_482 (by decide +kernel) rfl rfl ⟨by decide, by decide⟩ rfl rfl (Nat.le_of_ble_eq_true rfl) d_Mk_markValue_56 ⟨by decide, by decide⟩) hW hS hA (fun M1 H locs hp hz hW hS => ?_)
  obtain ⟨n2, f2, g2, q1, q2, q3⟩ := hp
  rw [t9, t12] at q3
  exact hw_retv hx hb hr hlocks hW hS ⟨n2, f2, g2, q1, q2, q3⟩ d_Mk_markValue_59
set_option maxHeartbeats 4000000 in
set_option maxRecDepth 100000 in
theorem c_Mk_markCrossing (h0 ma mb n B sz la nl t r j o : Nat) (f g : Nat → Int64) (F : Nat → Int32) (M : Nat → Option va_E) (hM : mk_S cJ M h0 ma mb n f g) (hne : ma ≠ mb) (hn : n ≤ 21) (hro : mk_row f g n B) (hB : B ≤ 1000000) (hB5 : 50 ≤ B) (hla : M la = some (.inl (cI, 3 * nl, .inl F))) (hnl : nl ≤ 6) (ht : t < nl) (hr9 : r < nl) (hjo : j + o = 1) (hF : ∀ i, i < 3 * nl → (F i).toInt.natAbs ≤ 5) : Met l y_Mk_markCrossing (.code y_Mk_markCrossing b_Mk_markCrossing 8 none :: ww) ({ frames := 2, cells := 0, slots := 0, locals := 100 }) (hw_Pc D qcl (qty cI cJ cZ cN) [.ref h0, .ref la, .int (nI (3 * t)), .int (nI (3 * r)), .int (nI j)] M sz) (va_Qv (fun M1 => ∃ (n2 : Nat) (f2 g2 : Nat → Int64), mk_S cJ M1 h0 ma mb n2 f2 g2 ∧ (∀ q, q ≠ h0 → q ≠ ma → q ≠ mb → M1 q = M q) ∧ mk_ins n f g (-((F (3 * t + 2)).toInt * (F (3 * r + o)).toInt - (F (3 * r + 2)).toInt * (F (3 * t + o)).toInt)) ((F (3 * t + j)).toInt * (F (3 * r + o)).toInt - (F (3 * r + j)).toInt * (F (3 * t + o)).toInt) B n2 f2 g2) (hw_B D qcl (qty cI cJ cZ cN) M sz) (hw_A M sz)) 0 0 (hw_A M sz) := by
  have hk := hM.1
  refine hw_met (by decide) (Nat.le_of_ble_eq_true rfl) ?_
  intro p e s m below meth c hx hb hr hml hown hlocks hnm hts hsz hX hW ls hl
  subst hsz
  have hA : ∀ q, s.heap.size ≤ q → hw_A M s.heap.size q := fun q h => Or.inr h
  have hS : va_S (hw_A M s.heap.size) s.heap s.heap [] := va_S.rf
  have hl : lv_has ls 8 [(0, .ref h0), (1, .ref la), (2, .int (nI (3 * t))), (3, .int (nI (3 * r))), (4, .int (nI j))] := hl
  have hown : s.vm.findClass "QuantifierOut$Marks" = some m.cls := hown
  have hnb : 3 * nl < 1000000 := by omega
  refine lv_iconst (v := 1) hx hb d_Mk_markCrossing_0 (by decide) ?_
  refine lv_iload hx hb d_Mk_markCrossing_1 (lv_at hl 4 rfl) ?_
  refine lv_isub hx hb d_Mk_markCrossing_3 ?_
  refine lv_topi (fun x1 ex1 => ?_)
  refine lv_istore (lv' := [(5, .int x1), (0, .ref h0), (1, .ref la), (2, .int (nI (3 * t))), (3, .int (nI (3 * r))), (4, .int (nI j))]) hx hb d_Mk_markCrossing_4 hl (by decide) rfl (fun ls hl => ?_)
  have eo : x1 = nI o := by rw [ex1, show (1 : Int32) = nI 1 from rfl, pk_sub (by omega)]; congr 1; omega
  refine lv_aload_n hx hb d_Mk_markCrossing_6 rfl (lv_at hl 2 rfl) ?_
  refine lv_iload_n hx hb d_Mk_markCrossing_7 rfl (lv_at hl 3 rfl) ?_
  refine lv_iload hx hb d_Mk_markCrossing_8 (lv_at hl 5 rfl) ?_
  refine lv_iadd hx hb d_Mk_markCrossing_10 ?_
  refine lv_topi (fun x2 ex2 => ?_)
  refine hw_ild hx hb hW 0 hla rfl (3 * t + j) (by rw [ex2]; exact nI_add (3 * t) j) (by omega) hnb d_Mk_markCrossing_11 ?_
  refine lv_topi (fun y0 ey0 => ?_)
  refine lv_aload_n hx hb d_Mk_markCrossing_12 rfl (lv_at hl 2 rfl) ?_
  refine lv_iload_n hx hb d_Mk_markCrossing_13 rfl (lv_at hl 4 rfl) ?_
  refine lv_iload hx hb d_Mk_markCrossing_14 (lv_at hl 0 rfl) ?_
  refine lv_iadd hx hb d_Mk_markCrossing_16 ?_
  refine lv_topi (fun x3 ex3 => ?_)
  refine hw_ild hx hb hW 0 hla rfl (3 * r + o) (by rw [ex3, eo]; exact nI_add (3 * r) o) (by omega) hnb d_Mk_markCrossing_17 ?_
  refine lv_topi (fun y1 ey1 => ?_)
  refine lv_imul hx hb d_Mk_markCrossing_18 ?_
  refine lv_topi (fun x4 ex4 => ?_)
  refine lv_aload_n hx hb d_Mk_markCrossing_19 rfl (lv_at hl 2 rfl) ?_
  refine lv_iload_n hx hb d_Mk_markCrossing_20 rfl (lv_at hl 4 rfl) ?_
  refine lv_iload hx hb d_Mk_markCrossing_21 (lv_at hl 5 rfl) ?_
  refine lv_iadd hx hb d_Mk_markCrossing_23 ?_
  refine lv_topi (fun x5 ex5 => ?_)
  refine hw_ild hx hb hW 0 hla rfl (3 * r + j) (by rw [ex5]; exact nI_add (3 * r) j) (by omega) hnb d_Mk_markCrossing_24 ?_
  refine lv_topi (fun y2 ey2 => ?_)
  refine lv_aload_n hx hb d_Mk_markCrossing_25 rfl (lv_at hl 2 rfl) ?_
  refine lv_iload_n hx hb d_Mk_markCrossing_26 rfl (lv_at hl 3 rfl) ?_
  refine lv_iload hx hb d_Mk_markCrossing_27 (lv_at hl 0 rfl) ?_
  refine lv_iadd hx hb d_Mk_markCrossing_29 ?_
  refine lv_topi (fun x6 ex6 => ?_)
  refine hw_ild hx hb hW 0 hla rfl (3 * t + o) (by rw [ex6, eo]; exact nI_add (3 * t) o) (by omega) hnb d_Mk_markCrossing_30 ?_
  refine lv_topi (fun y3 ey3 => ?_)
  refine lv_imul hx hb d_Mk_markCrossing_31 ?_
  refine lv_topi (fun x7 ex7 => ?_)
  refine lv_isub hx hb d_Mk_markCrossing_32 ?_
  refine lv_topi (fun x8 ex8 => ?_)
  refine lv_istore (lv' := [(6, .int x8), (5, .int x1), (0, .ref h0), (1, .ref la), (2, .int (nI (3 * t))), (3, .int (nI (3 * r))), (4, .int (nI j))]) hx hb d_Mk_markCrossing_33 hl (by decide) rfl (fun ls hl => ?_)
  refine lv_aload_n hx hb d_Mk_markCrossing_35 rfl (lv_at hl 3 rfl) ?_
  refine lv_iload_n hx hb d_Mk_markCrossing_36 rfl (lv_at hl 4 rfl) ?_
  refine lv_iconst (v := 2) hx hb d_Mk_markCrossing_37 (by decide) ?_
  refine lv_iadd hx hb d_Mk_markCrossing_38 ?_
  refine lv_topi (fun x9 ex9 => ?_)
  refine hw_ild hx hb hW 0 hla rfl (3 * t + 2) (by rw [ex9]; exact nI_add (3 * t) 2) (by omega) hnb d_Mk_markCrossing_39 ?_
  refine lv_topi (fun y4 ey4 => ?_)
  refine lv_aload_n hx hb d_Mk_markCrossing_40 rfl (lv_at hl 3 rfl) ?_
  refine lv_iload_n hx hb d_Mk_markCrossing_41 rfl (lv_at hl 5 rfl) ?_
  refine lv_iload hx hb d_Mk_markCrossing_42 (lv_at hl 1 rfl) ?_
  refine lv_iadd hx hb d_Mk_markCrossing_44 ?_
  refine lv_topi (fun x10 ex10 => ?_)
  refine hw_ild hx hb hW 0 hla rfl (3 * r + o) (by rw [ex10, eo]; exact nI_add (3 * r) o) (by omega) hnb d_Mk_markCrossing_45 ?_
  refine lv_topi (fun y5 ey5 => ?_)
  refine lv_imul hx hb d_Mk_markCrossing_46 ?_
  refine lv_topi (fun x11 ex11 => ?_)
  refine lv_aload_n hx hb d_Mk_markCrossing_47 rfl (lv_at hl 3 rfl) ?_
  refine lv_iload_n hx hb d_Mk_markCrossing_48 rfl (lv_at hl 5 rfl) ?_
  refine lv_iconst (v := 2) hx hb d_Mk_markCrossing_49 (by decide) ?_
  refine lv_iadd hx hb d_Mk_markCrossing_50 ?_
  refine lv_topi (fun x12 ex12 => ?_)
  refine hw_ild hx hb hW 0 hla rfl (3 * r + 2) (by rw [ex12]; exact nI_add (3 * r) 2) (by omega) hnb d_Mk_markCrossing_51 ?_
  refine lv_topi (fun y6 ey6 => ?_)
  refine lv_aload_n hx hb d_Mk_markCrossing_52 rfl (lv_at hl 3 rfl) ?_
  refine lv_iload_n hx hb d_Mk_markCrossing_53 rfl (lv_at hl 4 rfl) ?_
  refine lv_iload hx hb d_Mk_markCrossing_54 (lv_at hl 1 rfl) ?_
  refine lv_iadd hx hb d_Mk_markCrossing_56 ?_
  refine lv_topi (fun x13 ex13 => ?_)
  refine hw_ild hx hb hW 0 hla rfl (3 * t + o) (by rw [ex13, eo]; exact nI_add (3 * t) o) (by omega) hnb d_Mk_markCrossing_57 ?_
  refine lv_topi (fun y7 ey7 => ?_)
  refine lv_imul hx hb d_Mk_markCrossing_58 ?_
  refine lv_topi (fun x14 ex14 => ?_)
  refine lv_isub hx hb d_Mk_markCrossing_59 ?_
  refine lv_topi (fun x15 ex15 => ?_)
  refine lv_istore (lv' := [(7, .int x15), (6, .int x8), (5, .int x1), (0, .ref h0), (1, .ref la), (2, .int (nI (3 * t))), (3, .int (nI (3 * r))), (4, .int (nI j))]) hx hb d_Mk_markCrossing_60 hl (by decide) rfl (fun ls hl => ?_)
  refine lv_aload_n hx hb d_Mk_markCrossing_62 rfl (lv_at hl 3 rfl) ?_
  refine lv_iload hx hb d_Mk_markCrossing_63 (lv_at hl 0 rfl) ?_
  refine lv_ineg hx hb d_Mk_markCrossing_65 ?_
  refine lv_topi (fun x16 ex16 => ?_)
  obtain ⟨x17, ex17⟩ : ∃ y9 : Int64, y9 = (x16 : Int32).toInt64 := ⟨_, rfl⟩
  refine lv_i2l (v := x17) hx hb d_Mk_markCrossing_66 ex17.symm ?_
  refine lv_iload hx hb d_Mk_markCrossing_67 (lv_at hl 1 rfl) ?_
  obtain ⟨x18, ex18⟩ : ∃ y9 : Int64, y9 = (x8 : Int32).toInt64 := ⟨_, rfl⟩
  refine lv_i2l (v := x18) hx hb d_Mk_markCrossing_69 ex18.symm ?_
  have bb : ∀ a b, a < 3 * nl → b < 3 * nl → ((F a).toInt * (F b).toInt).natAbs ≤ 25 := fun a b ha hb => nm_mulb (hF a ha) (hF b hb)
  have ty0 : y0.toInt = (F (3 * t + j)).toInt := by rw [ey0]
  have ty1 : y1.toInt = (F (3 * r + o)).toInt := by rw [ey1]
  have ty2 : y2.toInt = (F (3 * r + j)).toInt := by rw [ey2]
  have ty3 : y3.toInt = (F (3 * t + o)).toInt := by rw [ey3]
  have ty4 : y4.toInt = (F (3 * t + 2)).toInt := by rw [ey4]
  have ty5 : y5.toInt = (F (3 * r + o)).toInt := by rw [ey5]
  have ty6 : y6.toInt = (F (3 * r + 2)).toInt := by rw [ey6]
  have ty7 : y7.toInt = (F (3 * t + o)).toInt := by rw [ey7]
  have zx4 := bb (3 * t + j) (3 * r + o) (by omega) (by omega)
  have tx4 : x4.toInt = (F (3 * t + j)).toInt * (F (3 * r + o)).toInt := by rw [ex4, nm_imul (by rw [ty0, ty1]; omega), ty0, ty1]
  have zx7 := bb (3 * r + j) (3 * t + o) (by omega) (by omega)
  have tx7 : x7.toInt = (F (3 * r + j)).toInt * (F (3 * t + o)).toInt := by rw [ex7, nm_imul (by rw [ty2, ty3]; omega), ty2, ty3]
  have zx11 := bb (3 * t + 2) (3 * r + o) (by omega) (by omega)
  have tx11 : x11.toInt = (F (3 * t + 2)).toInt * (F (3 * r + o)).toInt := by rw [ex11, nm_imul (by rw [ty4, ty5]; omega), ty4, ty5]
  have zx14 := bb (3 * r + 2) (3 * t + o) (by omega) (by omega)
  have tx14 : x14.toInt = (F (3 * r + 2)).toInt * (F (3 * t + o)).toInt := by rw [ex14, nm_imul (by rw [ty6, ty7]; omega), ty6, ty7]
  have tx8 : x8.toInt = (F (3 * t + j)).toInt * (F (3 * r + o)).toInt - (F (3 * r + j)).toInt * (F (3 * t + o)).toInt := by rw [ex8, nm_isub (by rw [tx4, tx7]; omega), tx4, tx7]
  have tx15 : x15.toInt = (F (3 * t + 2)).toInt * (F (3 * r + o)).toInt - (F (3 * r + 2)).toInt * (F (3 * t + o)).toInt := by rw [ex15, nm_isub (by rw [tx11, tx14]; omega), tx11, tx14]
  have tx16 : x16.toInt = (-((F (3 * t + 2)).toInt * (F (3 * r + o)).toInt - (F (3 * r + 2)).toInt * (F (3 * t + o)).toInt)) := by rw [ex16, nm_ineg (by rw [tx15]; omega), tx15]
  have tU : x17.toInt = (-((F (3 * t + 2)).toInt * (F (3 * r + o)).toInt - (F (3 * r + 2)).toInt * (F (3 * t + o)).toInt)) := by rw [ex17, nm_i2l, tx16]
  have tD : x18.toInt = ((F (3 * t + j)).toInt * (F (3 * r + o)).toInt - (F (3 * r + j)).toInt * (F (3 * t + o)).toInt) := by rw [ex18, nm_i2l, tx8]
  refine hw_callv (hw_runV (n := 2) (own := "QuantifierOut$Marks") (As := [.long x17, .long x18]) (rest := []) hx hb hml hown hts hX hW hl.1 (c_Mk_insert l D cI cJ cZ cN h0 ma mb n B _ f g x17 x18 M hM hne hn hro hB (by rw [tU]; omega) (by rw [tD]; omega)) hk rfl tw_479 tw_481 ts_7 tw_3 tw_482 (by decide +kernel) rfl rfl ⟨by decide, by decide⟩ rfl rfl (Nat.le_of_ble_eq_true rfl) d_Mk_markCrossing_70 ⟨by decide, by decide⟩) hW hS hA (fun M1 H locs hp hz hW hS => ?_)
  obtain ⟨n2, f2, g2, q1, q2, q3⟩ := hp
  rw [tU, tD] at q3
  exact hw_retv hx hb hr hlocks hW hS ⟨n2, f2, g2, q1, q2, q3⟩ d_Mk_markCrossing_73
end G16
end
section
/-! Marks.gather: the marks cover every place where a line, or the order of two, can change -/
def mk_has (f g : Nat → Int64) (n : Nat) (q : Rat) : Prop := ∃ i, i < n ∧ mk_v f g i = q
theorem mk_has_ins {n n2 B : Nat} {f g f2 g2 : Nat → Int64} {u d : Int} {q : Rat} (h : mk_ins n f g u d B n2 f2 g2) (k : mk_has f g n q) : mk_has f2 g2 n2 q := by
  obtain ⟨i, hi, e⟩ := k
  obtain ⟨j, hj, e2⟩ := h.2.2.2.2.1 i hi
  exact ⟨j, hj, e2.trans e⟩
theorem mk_has_new {n n2 B : Nat} {f g f2 g2 : Nat → Int64} {u d : Int} (h : mk_ins n f g u d B n2 f2 g2) (hd : d ≠ 0) (hn : n < 21) : mk_has f2 g2 n2 (qm_fr u d) := h.2.2.2.2.2 hd hn
/-- line t meets the other letter's value x / y in place of letter j -/
def ga_v (F : Nat → Int32) (j o : Nat) (x y : Int) (n : Nat) (f g : Nat → Int64) (t : Nat) : Prop := (F (3 * t + j)).toInt * y ≠ 0 → mk_has f g n (qm_fr (-((F (3 * t + o)).toInt * x + (F (3 * t + 2)).toInt * y)) ((F (3 * t + j)).toInt * y))
/-- lines t and r meet -/
def ga_c (F : Nat → Int32) (j o : Nat) (n : Nat) (f g : Nat → Int64) (t r : Nat) : Prop := (F (3 * t + j)).toInt * (F (3 * r + o)).toInt - (F (3 * r + j)).toInt * (F (3 * t + o)).toInt ≠ 0 → mk_has f g n (qm_fr (-((F (3 * t + 2)).toInt * (F (3 * r + o)).toInt - (F (3 * r + 2)).toInt * (F (3 * t + o)).toInt)) ((F (3 * t + j)).toInt * (F (3 * r + o)).toInt - (F (3 * r + j)).toInt * (F (3 * t + o)).toInt))
def ga_O (F : Nat → Int32) (j o : Nat) (x y : Int) (dp B n : Nat) (f g : Nat → Int64) (t : Nat) : Prop := mk_row f g n B ∧ 2 * n ≤ t * (t + 1) ∧ (∀ t', t' < t → ga_v F j o x y n f g t') ∧ (0 < dp → ∀ t' r, t' < t → r < t' → ga_c F j o n f g t' r)
def ga_N (F : Nat → Int32) (j o : Nat) (x y : Int) (dp B n : Nat) (f g : Nat → Int64) (t r : Nat) : Prop := mk_row f g n B ∧ 2 * n ≤ t * (t + 1) + 2 + 2 * r ∧ (∀ t', t' ≤ t → ga_v F j o x y n f g t') ∧ (0 < dp → (∀ t' r', t' < t → r' < t' → ga_c F j o n f g t' r') ∧ ∀ r', r' < r → ga_c F j o n f g t r')
theorem ga_t {t n z : Nat} (ht : t < 6) (h : 2 * n ≤ t * (t + 1) + z) : 2 * n ≤ 30 + z ∧ t * (t + 1) ≤ 30 := by
  rcases (show t = 0 ∨ t = 1 ∨ t = 2 ∨ t = 3 ∨ t = 4 ∨ t = 5 by omega) with rfl | rfl | rfl | rfl | rfl | rfl <;> omega
theorem ga_ON {F : Nat → Int32} {j o : Nat} {x y : Int} {dp B n n2 : Nat} {f g f2 g2 : Nat → Int64} {t : Nat} (ht : t < 6) (h : ga_O F j o x y dp B n f g t) (k : mk_ins n f g (-((F (3 * t + o)).toInt * x + (F (3 * t + 2)).toInt * y)) ((F (3 * t + j)).toInt * y) B n2 f2 g2) : ga_N F j o x y dp B n2 f2 g2 t 0 := by
  obtain ⟨h1, h2, h3, h4⟩ := h
  have h5 := ga_t ht (z := 0) h2
  refine ⟨k.2.2.2.1, by have := k.2.2.1; omega, fun t' ht' hd => ?_, fun hdp => ⟨fun t' r' a b hd => mk_has_ins k (h4 hdp t' r' a b hd), fun r' hr' => absurd hr' (Nat.not_lt_zero r')⟩⟩
  rcases Nat.lt_or_ge t' t with c | c
  · exact mk_has_ins k (h3 t' c hd)
  · have e : t' = t := by omega
    subst e
    exact mk_has_new k hd (by omega)
theorem ga_NN {F : Nat → Int32} {j o : Nat} {x y : Int} {dp B n n2 : Nat} {f g f2 g2 : Nat → Int64} {t r : Nat} (ht : t < 6) (hr : r < t) (h : ga_N F j o x y dp B n f g t r) (k : mk_ins n f g (-((F (3 * t + 2)).toInt * (F (3 * r + o)).toInt - (F (3 * r + 2)).toInt * (F (3 * t + o)).toInt)) ((F (3 * t + j)).toInt * (F (3 * r + o)).toInt - (F (3 * r + j)).toInt * (F (3 * t + o)).toInt) B n2 f2 g2) : ga_N F j o x y dp B n2 f2 g2 t (r + 1) := by
  obtain ⟨h1, h2, h3, h4⟩ := h
  have h5 := ga_t ht (z := 2 + 2 * r) (by omega) (n := n)
  refine ⟨k.2.2.2.1, by have := k.2.2.1; omega, fun t' ht' hd => mk_has_ins k (h3 t' ht' hd), fun hdp => ⟨fun t' r' a b hd => mk_has_ins k ((h4 hdp).1 t' r' a b hd), fun r' hr' hd => ?_⟩⟩
  rcases Nat.lt_or_ge r' r with c | c
  · exact mk_has_ins k ((h4 hdp).2 r' c hd)
  · have e : r' = r := by omega
    subst e
    exact mk_has_new k hd (by omega)
theorem ga_NO {F : Nat → Int32} {j o : Nat} {x y : Int} {dp B n : Nat} {f g : Nat → Int64} {t r : Nat} (h : ga_N F j o x y dp B n f g t r) (hr : r ≤ t) (hx : t ≤ r ∨ dp = 0) : ga_O F j o x y dp B n f g (t + 1) := by
  obtain ⟨h1, h2, h3, h4⟩ := h
  refine ⟨h1, ?_, fun t' ht' => h3 t' (by omega), fun hdp t' r' a b => ?_⟩
  · have e : (t + 1) * (t + 1 + 1) = t * (t + 1) + 2 + 2 * t := by
      rw [Nat.add_mul, Nat.mul_add t (t + 1) 1]; omega
    omega
  · rcases Nat.lt_or_ge t' t with c | c
    · exact (h4 hdp).1 t' r' c b
    · have e : t' = t := by omega
      subst e
      exact (h4 hdp).2 r' (by omega)
theorem ga_n {F : Nat → Int32} {j o : Nat} {x y : Int} {dp B n : Nat} {f g : Nat → Int64} {t nl : Nat} (h : ga_O F j o x y dp B n f g t) (ht : t ≤ nl) (hnl : nl ≤ 6) : n ≤ 21 := by
  have h2 := h.2.1
  rcases (show t = 0 ∨ t = 1 ∨ t = 2 ∨ t = 3 ∨ t = 4 ∨ t = 5 ∨ t = 6 by omega) with rfl | rfl | rfl | rfl | rfl | rfl | rfl <;> omega
theorem ga_n2 {F : Nat → Int32} {j o : Nat} {x y : Int} {dp B n : Nat} {f g : Nat → Int64} {t r : Nat} (h : ga_N F j o x y dp B n f g t r) (ht : t < 6) (hr : r ≤ t) : n ≤ 21 := by
  have h2 := ga_t ht (z := 2 + 2 * r) (by have := h.2.1; omega) (n := n)
  omega
section G17
variable (l : Launch) (D : va_G) (cI cJ cZ cN : ClassId)
set_option maxHeartbeats 4000000 in
set_option maxRecDepth 100000 in
theorem c_Mk_gather (h0 ma mb n B Bv sz la nl dp j o v va vb om im nd ci : Nat) (fx fy : Bool) (gr : Int32) (ex : List Value) (f g fv gv : Nat → Int64) (F : Nat → Int32) (M : Nat → Option va_E) (hM : mk_S cJ M h0 ma mb n f g) (hne : ma ≠ mb) (hB : B ≤ 1000000) (hB5 : 50 ≤ B) (hnd : nd_c M nd ci (nd_fr fx fy) (nI dp) la gr ex) (hdp : dp < 1000) (hla : M la = some (.inl (cI, 3 * nl, .inl F))) (hnl : nl ≤ 6) (hjo : j + o = 1) (hF : ∀ i, i < 3 * nl → (F i).toInt.natAbs ≤ 5) (hV : vs_S cJ M v va vb om im fv gv) (hfv : (fv o).toInt.natAbs ≤ Bv) (hgv : (gv o).toInt.natAbs ≤ Bv) (hBv : 10 * Bv ≤ B) (na1 : va ≠ ma) (na2 : va ≠ mb) (nb1 : vb ≠ ma) (nb2 : vb ≠ mb) : Met l y_Mk_gather (.code y_Mk_gather b_Mk_gather 7 none :: ww) ({ frames := 3, cells := 0, slots := 0, locals := 140 }) (hw_Pc D qcl (qty cI cJ cZ cN) [.ref h0, .ref nd, .int (nI j), .ref v] M sz) (va_Qv (fun M1 => ∃ (n2 : Nat) (f2 g2 : Nat → Int64), mk_S cJ M1 h0 ma mb n2 f2 g2 ∧ (∀ q, q ≠ h0 → q ≠ ma → q ≠ mb → M1 q = M q) ∧ n2 ≤ 21 ∧ mk_row f2 g2 n2 B ∧ ((if j = 0 then fx else fy) = false → n2 = 0) ∧ ((if j = 0 then fx else fy) = true → (∀ t, t < nl → ga_v F j o (fv o).toInt (gv o).toInt n2 f2 g2 t) ∧ (0 < dp → ∀ t r, t < nl → r < t → ga_c F j o n2 f2 g2 t r))) (hw_B D qcl (qty cI cJ cZ cN) M sz) (hw_A M sz)) 0 0 (hw_A M sz) := by
  obtain ⟨hk, hfa, hgb⟩ := hM
  have nd0 : nd ≠ h0 := by rcases hnd with ⟨rfl | rfl | rfl | rfl, hnd⟩ <;> exact hw_ne hnd hk (by simp)
  have nd1 : nd ≠ ma := hw_ne hnd.2 hfa (by simp)
  have nd2 : nd ≠ mb := hw_ne hnd.2 hgb (by simp)
  have la0 : la ≠ h0 := hw_ne hla hk (by simp)
  have la1 : la ≠ ma := hw_ne hla hfa (by simp)
  have la2 : la ≠ mb := hw_ne hla hgb (by simp)
  have v0 : v ≠ h0 := hw_ne hV.1 hk (by simp)
  have v1 : v ≠ ma := hw_ne hV.1 hfa (by simp)
  have v2 : v ≠ mb := hw_ne hV.1 hgb (by simp)
  have va0 : va ≠ h0 := hw_ne hV.2.1 hk (by simp)
  have vb0 : vb ≠ h0 := hw_ne hV.2.2 hk (by simp)
  refine hw_met (by decide) (Nat.le_of_ble_eq_true rfl) ?_
  intro p e s m below meth c hx hb hr hml hown hlocks hnm hts hsz hX hW ls hl
  subst hsz
  have hA : ∀ q, s.heap.size ≤ q → hw_A M s.heap.size q := fun q h => Or.inr h
  have hS : va_S (hw_A M s.heap.size) s.heap s.heap [] := va_S.rf
  have hl : lv_has ls 7 [(0, .ref h0), (1, .ref nd), (2, .int (nI j)), (3, .ref v)] := hl
  have hown : s.vm.findClass "QuantifierOut$Marks" = some m.cls := hown
  obtain ⟨Q9, hQ9⟩ : ∃ X : State → Prop, X = MQ below (va_Qv (fun M1 => ∃ (n2 : Nat) (f2 g2 : Nat → Int64), mk_S cJ M1 h0 ma mb n2 f2 g2 ∧ (∀ q, q ≠ h0 → q ≠ ma → q ≠ mb → M1 q = M q) ∧ n2 ≤ 21 ∧ mk_row f2 g2 n2 B ∧ ((if j = 0 then fx else fy) = false → n2 = 0) ∧ ((if j = 0 then fx else fy) = true → (∀ t, t < nl → ga_v F j o (fv o).toInt (gv o).toInt n2 f2 g2 t) ∧ (0 < dp → ∀ t r, t < nl → r < t → ga_c F j o n2 f2 g2 t r))) (hw_B D qcl (qty cI cJ cZ cN) M s.heap.size) (hw_A M s.heap.size)) [.ref h0, .ref nd, .int (nI j), .ref v].toArray s 0 0 (hw_A M s.heap.size) := ⟨_, rfl⟩
  rw [← hQ9]
  have kp : ∀ M2 : Nat → Option va_E, (∀ q, q ≠ h0 → q ≠ ma → q ≠ mb → M2 q = M q) → nd_c M2 nd ci (nd_fr fx fy) (nI dp) la gr ex ∧ M2 la = some (.inl (cI, 3 * nl, .inl F)) ∧ vs_S cJ M2 v va vb om im fv gv := fun M2 hf => ⟨⟨hnd.1, (hf nd nd0 nd1 nd2).trans hnd.2⟩, (hf la la0 la1 la2).trans hla, (hf v v0 v1 v2).trans hV.1, (hf va va0 na1 na2).trans hV.2.1, (hf vb vb0 nb1 nb2).trans hV.2.2⟩
  refine lv_aload_n hx hb d_Mk_gather_0 rfl (lv_at hl 0 rfl) ?_
  refine lv_iconst (v := 0) hx hb d_Mk_gather_1 (by decide) ?_
  refine hw_put (own := "QuantifierOut$Marks") (v := .int 0) (ty := .int) hx hb hts i_Mk ft_Mk tk_Mk n_Mk hown hW hS hk rfl 2 (by decide) (hts _ tw_43) (fun _ h9 => h9) rfl (tk_Mk 2 (by decide)) rfl rfl (Nat.le_of_ble_eq_true rfl) d_Mk_gather_2 (fun H locs hW hS => ?_)
  have hW : hw_W D qcl (qty cI cJ cZ cN) _ (va_up M h0 (some (.inr (2, [.ref ma, .ref mb, .int 0])))) s H := hW
  generalize hM1 : va_up M h0 (some (.inr (2, [.ref ma, .ref mb, .int 0]))) = M1 at hW
  have n_ma_h0 : ma ≠ h0 := (hw_ne hfa hk (by simp))
  have n_mb_h0 : mb ≠ h0 := (hw_ne hgb hk (by simp))
  have hfa : M1 ma = some (.inl (cJ, 21, .inr (.inl f))) := by rw [← hM1, va_up_ne _ _ n_ma_h0]; exact hfa
  have hgb : M1 mb = some (.inl (cJ, 21, .inr (.inl g))) := by rw [← hM1, va_up_ne _ _ n_mb_h0]; exact hgb
  have hk : M1 h0 = some (.inr (2, [.ref ma, .ref mb, .int 0])) := by rw [← hM1]; exact va_up_self _ _ _
  refine lv_aload_n hx hb d_Mk_gather_5 rfl (lv_at hl 1 rfl) ?_
  refine lv_iload_n hx hb d_Mk_gather_6 rfl (lv_at hl 2 rfl) ?_
  have fr1 : ∀ q, q ≠ h0 → q ≠ ma → q ≠ mb → M1 q = M q := fun q q1 _ _ => by rw [← hM1]; exact va_up_ne _ _ q1
  obtain ⟨hnd1, hla1, hV1⟩ := kp M1 fr1
  refine hw_calli (nd_runF (n := 1) (own := "QuantifierOut$Marks") (As := [.int (nI j)]) (rest := []) hx hb hml hown hts hX hW hl.1 (c_Nd_isFree l D cI cJ cZ cN nd ci la j _ fx fy (nI dp) gr ex M1 hnd1 (by omega)) hnd1 tw_474 tw_425 tw_426 tw_427 tw_428 tw_429 tw_424 tw_11 tw_430 (by decide +kernel) rfl rfl ⟨by decide, by decide⟩ rfl rfl (Nat.le_of_ble_eq_true rfl) d_Mk_gather_7 ⟨by decide, by decide⟩) hW hS hA (fun r1 Mf H locs hp hz hW hS => ?_)
  obtain ⟨er1, eMf⟩ := hp
  rw [eMf] at hW
  refine lv_if_ne (tgt := 14) hx hb d_Mk_gather_10 (by decide) (fun c_10 => ?_) (fun c_10 => ?_)
  · skip
    have hft : (if j = 0 then fx else fy) = true := by
      cases hq : (if j = 0 then fx else fy)
      · rw [hq] at er1; exact absurd (show r1 = 0 by rw [er1]; rfl) c_10
      · rfl
    have loop : ∀ (z t : Nat), t ≤ nl → nl + 1 ≤ t + z → ∀ (H : Heap) (locs : List Loc) (M2 : Nat → Option va_E) (n2 : Nat) (f2 g2 : Nat → Int64) (ls : Array Slot), hw_W D qcl (qty cI cJ cZ cN) (hw_A M s.heap.size) M2 s H → va_S (hw_A M s.heap.size) s.heap H locs → mk_S cJ M2 h0 ma mb n2 f2 g2 → (∀ q, q ≠ h0 → q ≠ ma → q ≠ mb → M2 q = M q) → ga_O F j o (fv o).toInt (gv o).toInt dp B n2 f2 g2 t → lv_has ls 7 [(5, .int (nI (3 * t))), (4, .ref la), (0, .ref h0), (1, .ref nd), (2, .int (nI j)), (3, .ref v)] → W p l e ({ frames := 3, cells := 0, slots := 0, locals := 140 }) s m [.ref h0, .ref nd, .int (nI j), .ref v].toArray below meth c H locs 0 0 Q9 (F0 m 23 ls []) := by
      intro z
      induction z with
      | zero => intro t h1 h2; exact absurd h2 (by omega)
      | succ z ih =>
        intro t htn hz9 H locs M2 n2 f2 g2 ls hW hS hmk hf hI hl
        obtain ⟨hnd2, hla2, hV2⟩ := kp M2 hf
        refine lv_iload hx hb d_Mk_gather_23 (lv_at hl 0 rfl) ?_
        refine lv_iconst (v := 3) hx hb d_Mk_gather_25 (by decide) ?_
        refine lv_iadd hx hb d_Mk_gather_26 ?_
        refine lv_topi (fun x2 ex2 => ?_)
        refine lv_aload hx hb d_Mk_gather_27 (lv_at hl 1 rfl) ?_
        refine hw_alen (v := (nI (3 * nl))) hx hb hW 0 hla2 rfl (by rfl) d_Mk_gather_29 ?_
        have e3 : x2 = nI (3 * t + 3) := by rw [ex2]; exact nI_add (3 * t) 3
        refine lv_icmp_gt (tgt := 83) hx hb d_Mk_gather_30 (by decide) (fun c_30 => ?_) (fun c_30 => ?_)
        · skip
          have hge : nl < t + 1 := by rw [e3] at c_30; have := (nI_ltI (by omega) (by omega)).mp c_30; omega
          have et : t = nl := by omega
          subst et
          rw [hQ9]
          exact hw_retv hx hb hr hlocks hW hS ⟨n2, f2, g2, hmk, hf, ga_n hI (Nat.le_refl _) hnl, hI.1, fun h => (by rw [hft] at h; cases h), fun _ => ⟨hI.2.2.1, hI.2.2.2⟩⟩ d_Mk_gather_83
        · skip
          have hlt : t < nl := by
            rcases Nat.lt_or_ge t nl with q | q
            · exact q
            · exact absurd (by rw [e3]; exact (nI_ltI (by omega) (by omega)).mpr (by omega)) c_30
          refine lv_aload_n hx hb d_Mk_gather_33 rfl (lv_at hl 2 rfl) ?_
          refine lv_aload hx hb d_Mk_gather_34 (lv_at hl 1 rfl) ?_
          refine lv_iload hx hb d_Mk_gather_36 (lv_at hl 0 rfl) ?_
          refine lv_iload_n hx hb d_Mk_gather_38 rfl (lv_at hl 4 rfl) ?_
          refine lv_aload_n hx hb d_Mk_gather_39 rfl (lv_at hl 5 rfl) ?_
          refine hw_callv (hw_runV (n := 4) (own := "QuantifierOut$Marks") (As := [.ref la, .int (nI (3 * t)), .int (nI j), .ref v]) (rest := []) hx hb hml hown hts hX hW hl.1 (c_Mk_markValue l D cI cJ cZ cN h0 ma mb n2 B Bv _ la nl t j o v va vb om im f2 g2 fv gv F M2 hmk hne (ga_n hI htn hnl) hI.1 hB hla2 hnl hlt hjo hF hV2 hfv hgv hBv) hmk.1 rfl tw_475 tw_477 ts_6 tw_3 tw_478 (by decide +kernel) rfl rfl ⟨by decide, by decide⟩ rfl rfl (Nat.le_of_ble_eq_true rfl) d_Mk_gather_40 ⟨by decide, by decide⟩) hW hS hA (fun M3 H locs hp hz hW hS => ?_)
          obtain ⟨n3, f3, g3, hmk3, hf3, hin3⟩ := hp
          have hf3 : ∀ q, q ≠ h0 → q ≠ ma → q ≠ mb → M3 q = M q := fun q q1 q2 q3 => (hf3 q q1 q2 q3).trans (hf q q1 q2 q3)
          have hN3 := ga_ON (dp := dp) (by omega) hI hin3
          have out : ∀ (r : Nat) (H : Heap) (locs : List Loc) (M2 : Nat → Option va_E) (n2 : Nat) (f2 g2 : Nat → Int64) (ls : Array Slot), hw_W D qcl (qty cI cJ cZ cN) (hw_A M s.heap.size) M2 s H → va_S (hw_A M s.heap.size) s.heap H locs → mk_S cJ M2 h0 ma mb n2 f2 g2 → (∀ q, q ≠ h0 → q ≠ ma → q ≠ mb → M2 q = M q) → ga_O F j o (fv o).toInt (gv o).toInt dp B n2 f2 g2 (t + 1) → lv_has ls 7 [(6, .int (nI (3 * r))), (5, .int (nI (3 * t))), (4, .ref la), (0, .ref h0), (1, .ref nd), (2, .int (nI j)), (3, .ref v)] → W p l e ({ frames := 3, cells := 0, slots := 0, locals := 140 }) s m [.ref h0, .ref nd, .int (nI j), .ref v].toArray below meth c H locs 0 0 Q9 (F0 m 77 ls []) := by
            intro r H locs M2 n2 f2 g2 ls hW hS hmk hf hI hl
            obtain ⟨i5, ei5⟩ : ∃ y9 : Int32, y9 = (nI (3 * t)) + Int32.ofInt (3) := ⟨_, rfl⟩
            refine lv_iinc (v := i5) (lv' := [(5, .int i5), (6, .int (nI (3 * r))), (4, .ref la), (0, .ref h0), (1, .ref nd), (2, .int (nI j)), (3, .ref v)]) hx hb d_Mk_gather_77 hl (k := 1) rfl ei5.symm (by decide) rfl (fun ls hl => ?_)
            have ei : i5 = nI (3 * (t + 1)) := by rw [ei5]; exact nI_add (3 * t) 3
            subst ei
            refine lv_goto (tgt := 23) hx hb d_Mk_gather_80 (by decide) ?_
            exact ih (t + 1) (by omega) (by omega) H locs M2 n2 f2 g2 ls hW hS hmk hf hI (lv_sub hl [0, 2, 3, 4, 5, 6] rfl)
          have inner : ∀ (y r : Nat), r ≤ t → t + 1 ≤ r + y → ∀ (H : Heap) (locs : List Loc) (M2 : Nat → Option va_E) (n2 : Nat) (f2 g2 : Nat → Int64) (ls : Array Slot), hw_W D qcl (qty cI cJ cZ cN) (hw_A M s.heap.size) M2 s H → va_S (hw_A M s.heap.size) s.heap H locs → mk_S cJ M2 h0 ma mb n2 f2 g2 → (∀ q, q ≠ h0 → q ≠ ma → q ≠ mb → M2 q = M q) → ga_N F j o (fv o).toInt (gv o).toInt dp B n2 f2 g2 t r → lv_has ls 7 [(6, .int (nI (3 * r))), (5, .int (nI (3 * t))), (4, .ref la), (0, .ref h0), (1, .ref nd), (2, .int (nI j)), (3, .ref v)] → W p l e ({ frames := 3, cells := 0, slots := 0, locals := 140 }) s m [.ref h0, .ref nd, .int (nI j), .ref v].toArray below meth c H locs 0 0 Q9 (F0 m 46 ls []) := by
            intro y
            induction y with
            | zero => intro r h1 h2; exact absurd h2 (by omega)
            | succ y ih2 =>
              intro r hrt hy9 H locs M2 n2 f2 g2 ls hW hS hmk hf hI hl
              obtain ⟨hnd2, hla2, hV2⟩ := kp M2 hf
              refine lv_iload hx hb d_Mk_gather_46 (lv_at hl 0 rfl) ?_
              refine lv_iload hx hb d_Mk_gather_48 (lv_at hl 1 rfl) ?_
              refine lv_icmp_ge (tgt := 77) hx hb d_Mk_gather_50 (by decide) (fun c_50 => ?_) (fun c_50 => ?_)
              · skip
                have : t ≤ r := by have := (nI_leI (by omega) (by omega)).mp c_50; omega
                exact out r H locs M2 n2 f2 g2 ls hW hS hmk hf (ga_NO hI hrt (Or.inl this)) hl
              · skip
                have hrlt : r < t := by
                  rcases Nat.lt_or_ge r t with q | q
                  · exact q
                  · exact absurd ((nI_leI (by omega) (by omega)).mpr (by omega)) c_50
                refine lv_aload_n hx hb d_Mk_gather_53 rfl (lv_at hl 4 rfl) ?_
                refine nd_get1 (own := "QuantifierOut$Marks") hx hb hts hown hW hnd2 tw_239 d_Mk_gather_54 ?_
                refine lv_if_le (tgt := 77) hx hb d_Mk_gather_57 (by decide) (fun c_57 => ?_) (fun c_57 => ?_)
                · skip
                  have hd0 : dp = 0 := by
                    rcases Nat.eq_zero_or_pos dp with q | q
                    · exact q
                    · exact absurd c_57 (nI_nle q (by omega))
                  exact out r H locs M2 n2 f2 g2 ls hW hS hmk hf (ga_NO hI hrt (Or.inr hd0)) hl
                · skip
                  refine lv_aload_n hx hb d_Mk_gather_60 rfl (lv_at hl 3 rfl) ?_
                  refine lv_aload hx hb d_Mk_gather_61 (lv_at hl 2 rfl) ?_
                  refine lv_iload hx hb d_Mk_gather_63 (lv_at hl 1 rfl) ?_
                  refine lv_iload hx hb d_Mk_gather_65 (lv_at hl 0 rfl) ?_
                  refine lv_iload_n hx hb d_Mk_gather_67 rfl (lv_at hl 5 rfl) ?_
                  refine hw_callv (hw_runV (n := 4) (own := "QuantifierOut$Marks") (As := [.ref la, .int (nI (3 * t)), .int (nI (3 * r)), .int (nI j)]) (rest := []) hx hb hml hown hts hX hW hl.1 (c_Mk_markCrossing l D cI cJ cZ cN h0 ma mb n2 B _ la nl t r j o f2 g2 F M2 hmk hne (ga_n2 hI (by omega) hrt) hI.1 hB hB5 hla2 hnl hlt (by omega) hjo hF) hmk.1 rfl tw_484 tw_486 ts_8 tw_3 tw_487 (by decide +kernel) rfl rfl ⟨by decide, by decide⟩ rfl rfl (Nat.le_of_ble_eq_true rfl) d_Mk_gather_68 ⟨by decide, by decide⟩) hW hS hA (fun M4 H locs hp hz hW hS => ?_)
                  obtain ⟨n4, f4, g4, hmk4, hf4, hin4⟩ := hp
                  have hf4 : ∀ q, q ≠ h0 → q ≠ ma → q ≠ mb → M4 q = M q := fun q q1 q2 q3 => (hf4 q q1 q2 q3).trans (hf q q1 q2 q3)
                  obtain ⟨i6, ei6⟩ : ∃ y9 : Int32, y9 = (nI (3 * r)) + Int32.ofInt (3) := ⟨_, rfl⟩
                  refine lv_iinc (v := i6) (lv' := [(6, .int i6), (5, .int (nI (3 * t))), (4, .ref la), (0, .ref h0), (1, .ref nd), (2, .int (nI j)), (3, .ref v)]) hx hb d_Mk_gather_71 hl (k := 0) rfl ei6.symm (by decide) rfl (fun ls hl => ?_)
                  have ei : i6 = nI (3 * (r + 1)) := by rw [ei6]; exact nI_add (3 * r) 3
                  subst ei
                  refine lv_goto (tgt := 46) hx hb d_Mk_gather_74 (by decide) ?_
                  exact ih2 (r + 1) (by omega) (by omega) H locs M4 n4 f4 g4 ls hW hS hmk4 hf4 (ga_NN (by omega) hrlt hI hin4) (lv_sub hl [0, 1, 2, 3, 4, 5, 6] rfl)
          refine lv_iconst (v := 0) hx hb d_Mk_gather_43 (by decide) ?_
          refine lv_istore (lv' := [(6, .int 0), (5, .int (nI (3 * t))), (4, .ref la), (0, .ref h0), (1, .ref nd), (2, .int (nI j)), (3, .ref v)]) hx hb d_Mk_gather_44 hl (by decide) rfl (fun ls hl => ?_)
          exact inner (t + 1) 0 (by omega) (by omega) H locs M3 n3 f3 g3 ls hW hS hmk3 hf3 hN3 (lv_sub hl [0, 1, 2, 3, 4, 5, 6] rfl)
    refine lv_aload_n hx hb d_Mk_gather_14 rfl (lv_at hl 1 rfl) ?_
    refine nd_get2 (own := "QuantifierOut$Marks") hx hb hts hown hW hnd1 tw_245 d_Mk_gather_15 ?_
    refine lv_astore (lv' := [(4, .ref la), (0, .ref h0), (1, .ref nd), (2, .int (nI j)), (3, .ref v)]) hx hb d_Mk_gather_18 hl (by decide) rfl (fun ls hl => ?_)
    refine lv_iconst (v := 0) hx hb d_Mk_gather_20 (by decide) ?_
    refine lv_istore (lv' := [(5, .int 0), (4, .ref la), (0, .ref h0), (1, .ref nd), (2, .int (nI j)), (3, .ref v)]) hx hb d_Mk_gather_21 hl (by decide) rfl (fun ls hl => ?_)
    exact loop (nl + 1) 0 (by omega) (by omega) H locs M1 0 f g ls hW hS ⟨hk, hfa, hgb⟩ fr1 ⟨⟨fun i hi => absurd hi (Nat.not_lt_zero i), fun i j2 _ hj2 => absurd hj2 (Nat.not_lt_zero j2)⟩, by omega, fun t ht => absurd ht (Nat.not_lt_zero t), fun _ t r ht => absurd ht (Nat.not_lt_zero t)⟩ (lv_sub hl [0, 1, 2, 3, 4, 5] rfl)
  · skip
    have hff : (if j = 0 then fx else fy) = false := by
      cases hq : (if j = 0 then fx else fy)
      · rfl
      · rw [hq] at er1; exact absurd c_10 (by rw [er1]; decide)
    rw [hQ9]
    refine hw_retv hx hb hr hlocks hW hS ⟨0, f, g, ⟨hk, hfa, hgb⟩, fr1, by omega, ⟨fun i hi => absurd hi (Nat.not_lt_zero i), fun i j2 _ hj2 => absurd hj2 (Nat.not_lt_zero j2)⟩, fun _ => rfl, fun h => ?_⟩ d_Mk_gather_13
    rw [hff] at h; cases h
end G17
end
section
/-! Marks.moveTo: a stop's fraction lies where the stop says; Values.putWhole, marksFor -/
theorem mo_even {f g : Nat → Int64} {n k : Nat} {x : Rat} (hi : qm_inc (mk_v f g) n) (hk : k ≤ n) (h1 : 0 < k → mk_v f g (k - 1) < x) (h2 : k < n → x < mk_v f g k) : qi_at (mk_v f g) n (2 * k) x := by
  refine Or.inr ⟨k, hk, rfl, fun j hj => ?_, fun j hj hn => ?_⟩
  · have a := h1 (by omega)
    rcases Nat.lt_or_ge j (k - 1) with c | c
    · have := hi j (k - 1) c (by omega)
      grind
    · rw [show j = k - 1 by omega]; exact a
  · have a := h2 (by omega)
    rcases Nat.lt_or_ge k j with c | c
    · have := hi k j c hn
      grind
    · rw [show j = k by omega]; exact a
theorem mo_dn {u d : Int} (hd : 0 < d) : qm_fr (u - d) d < qm_fr u d := by
  rw [qm_fr_lt hd hd, Int.sub_mul]
  have := Int.mul_pos hd hd
  omega
theorem mo_up {u d : Int} (hd : 0 < d) : qm_fr u d < qm_fr (u + d) d := by
  rw [qm_fr_lt hd hd, Int.add_mul]
  have := Int.mul_pos hd hd
  omega
theorem mo_mid {u d v e : Int} (hd : 0 < d) (he : 0 < e) (h : qm_fr u d < qm_fr v e) : qm_fr u d < qm_fr (u + v) (d + e) ∧ qm_fr (u + v) (d + e) < qm_fr v e := by
  rw [qm_fr_lt hd he] at h
  have hs : 0 < d + e := by omega
  refine ⟨(qm_fr_lt hd hs).mpr ?_, (qm_fr_lt hs he).mpr ?_⟩
  · rw [Int.mul_add, Int.add_mul]; omega
  · rw [Int.mul_add, Int.add_mul]; omega
def mo_P (f g : Nat → Int64) (n B st : Nat) (x y : Int64) : Prop := 0 < y.toInt ∧ y.toInt ≤ 2 * B + 1 ∧ x.toInt.natAbs ≤ 2 * B ∧ qi_at (mk_v f g) n st (qm_fr x.toInt y.toInt)
section G18
variable (l : Launch) (D : va_G) (cI cJ cZ cN : ClassId)
set_option maxHeartbeats 4000000 in
set_option maxRecDepth 100000 in
theorem c_Mk_moveTo (h0 ma mb n B sz st j v va vb om im : Nat) (f g fv gv : Nat → Int64) (M : Nat → Option va_E) (hM : mk_S cJ M h0 ma mb n f g) (hn : n ≤ 21) (hro : mk_row f g n B) (hB : B ≤ 1000000) (hst : st < 2 * n + 1) (hj : j < 2) (hV : vs_S cJ M v va vb om im fv gv) (hne : va ≠ vb) : Met l y_Mk_moveTo (.code y_Mk_moveTo b_Mk_moveTo 5 none :: ww) ({ frames := 1, cells := 0, slots := 0, locals := 30 }) (hw_Pc D qcl (qty cI cJ cZ cN) [.ref h0, .int (nI st), .int (nI j), .ref v] M sz) (va_Qv (fun M1 => ∃ x y : Int64, M1 = va_up (va_up M va (some (.inl (cJ, 2, .inr (.inl (vp_updL fv j x)))))) vb (some (.inl (cJ, 2, .inr (.inl (vp_updL gv j y))))) ∧ mo_P f g n B st x y) (hw_B D qcl (qty cI cJ cZ cN) M sz) (hw_A M sz)) 0 0 (hw_A M sz) := by
  obtain ⟨hk, hfa, hgb⟩ := hM
  refine hw_met (by decide) (Nat.le_of_ble_eq_true rfl) ?_
  intro p e s m below meth c hx hb hr hml hown hlocks hnm hts hsz hX hW ls hl
  subst hsz
  have hA : ∀ q, s.heap.size ≤ q → hw_A M s.heap.size q := fun q h => Or.inr h
  have hS : va_S (hw_A M s.heap.size) s.heap s.heap [] := va_S.rf
  have hl : lv_has ls 5 [(0, .ref h0), (1, .int (nI st)), (2, .int (nI j)), (3, .ref v)] := hl
  have hown : s.vm.findClass "QuantifierOut$Marks" = some m.cls := hown
  obtain ⟨Q9, hQ9⟩ : ∃ X : State → Prop, X = MQ below (va_Qv (fun M1 => ∃ x y : Int64, M1 = va_up (va_up M va (some (.inl (cJ, 2, .inr (.inl (vp_updL fv j x)))))) vb (some (.inl (cJ, 2, .inr (.inl (vp_updL gv j y))))) ∧ mo_P f g n B st x y) (hw_B D qcl (qty cI cJ cZ cN) M s.heap.size) (hw_A M s.heap.size)) [.ref h0, .int (nI st), .int (nI j), .ref v].toArray s 0 0 (hw_A M s.heap.size) := ⟨_, rfl⟩
  rw [← hQ9]
  refine lv_iload_n hx hb d_Mk_moveTo_0 rfl (lv_at hl 1 rfl) ?_
  refine lv_iconst (v := 2) hx hb d_Mk_moveTo_1 (by decide) ?_
  refine lv_idiv hx hb d_Mk_moveTo_2 (by decide) ?_
  refine lv_topi (fun nx enx => ?_)
  have enx2 : nx = nI (st / 2) := by rw [enx, show (2 : Int32) = nI 2 from rfl, pk_div (by omega) (by omega) (by omega)]
  subst enx2
  refine lv_istore (lv' := [(4, .int (nI (st / 2))), (0, .ref h0), (1, .int (nI st)), (2, .int (nI j)), (3, .ref v)]) hx hb d_Mk_moveTo_3 hl (by decide) rfl (fun ls hl => ?_)
  refine lv_aload_n hx hb d_Mk_moveTo_5 rfl (lv_at hl 1 rfl) ?_
  refine hw_get (own := "QuantifierOut$Marks") (v := .int (nI n)) hx hb hts i_Mk hown hW hk rfl 2 (by decide) (hts _ tw_43) (fun _ h9 => h9) rfl d_Mk_moveTo_6 ?_
  refine lv_if_ne (tgt := 22) hx hb d_Mk_moveTo_9 (by decide) (fun c_9 => ?_) (fun c_9 => ?_)
  · skip
    have hnp : 0 < n := by
      rcases Nat.eq_zero_or_pos n with q | q
      · exact absurd (by rw [q]; rfl) c_9
      · exact q
    refine lv_iload_n hx hb d_Mk_moveTo_22 rfl (lv_at hl 2 rfl) ?_
    refine lv_iconst (v := 2) hx hb d_Mk_moveTo_23 (by decide) ?_
    refine lv_irem hx hb d_Mk_moveTo_24 (by decide) ?_
    refine lv_topi (fun rm erm => ?_)
    have erm2 : rm = nI (st % 2) := by rw [erm, show (2 : Int32) = nI 2 from rfl]; exact pk_rem (by omega) (by omega) (by omega)
    refine lv_iconst (v := 1) hx hb d_Mk_moveTo_25 (by decide) ?_
    have rest : st % 2 = 0 → W p l e ({ frames := 1, cells := 0, slots := 0, locals := 30 }) s m [.ref h0, .int (nI st), .int (nI j), .ref v].toArray below meth c s.heap [] 0 0 Q9 (F0 m 60 ls []) := by
      intro hev
      obtain ⟨k, hk2⟩ : ∃ k, st = 2 * k := ⟨st / 2, by omega⟩
      have hdv : st / 2 = k := by omega
      rw [hdv] at hl
      refine lv_iload hx hb d_Mk_moveTo_60 (lv_at hl 0 rfl) ?_
      refine lv_if_ne (tgt := 92) hx hb d_Mk_moveTo_62 (by decide) (fun c_62 => ?_) (fun c_62 => ?_)
      · skip
        have hkp : 0 < k := by
          rcases Nat.eq_zero_or_pos k with q | q
          · exact absurd (by rw [q]; rfl) c_62
          · exact q
        refine lv_iload hx hb d_Mk_moveTo_92 (lv_at hl 0 rfl) ?_
        refine lv_aload_n hx hb d_Mk_moveTo_94 rfl (lv_at hl 1 rfl) ?_
        refine hw_get (own := "QuantifierOut$Marks") (v := .int (nI n)) hx hb hts i_Mk hown hW hk rfl 2 (by decide) (hts _ tw_43) (fun _ h9 => h9) rfl d_Mk_moveTo_95 ?_
        refine lv_icmp_lt (tgt := 143) hx hb d_Mk_moveTo_98 (by decide) (fun c_98 => ?_) (fun c_98 => ?_)
        · skip
          have hkn : k < n := (nI_ltI (by omega) (by omega)).mp c_98
          refine lv_aload_n hx hb d_Mk_moveTo_143 rfl (lv_at hl 4 rfl) ?_
          refine lv_iload_n hx hb d_Mk_moveTo_144 rfl (lv_at hl 3 rfl) ?_
          refine lv_aload_n hx hb d_Mk_moveTo_145 rfl (lv_at hl 1 rfl) ?_
          refine hw_get (own := "QuantifierOut$Marks") (v := .ref ma) hx hb hts i_Mk hown hW hk rfl 0 (by decide) (hts _ tw_41) (fun _ h9 => h9) rfl d_Mk_moveTo_146 ?_
          refine lv_iload hx hb d_Mk_moveTo_149 (lv_at hl 0 rfl) ?_
          refine lv_iconst (v := 1) hx hb d_Mk_moveTo_151 (by decide) ?_
          refine lv_isub hx hb d_Mk_moveTo_152 ?_
          refine lv_topi (fun x1 ex1 => ?_)
          refine hw_lld hx hb hW 1 hfa rfl (k - 1) (by rw [ex1, show k = k - 1 + 1 by omega]; exact nI_pred (k - 1)) (by omega) (by decide) d_Mk_moveTo_153 ?_
          refine lv_topl (fun fa efa => ?_)
          refine lv_aload_n hx hb d_Mk_moveTo_154 rfl (lv_at hl 1 rfl) ?_
          refine hw_get (own := "QuantifierOut$Marks") (v := .ref ma) hx hb hts i_Mk hown hW hk rfl 0 (by decide) (hts _ tw_41) (fun _ h9 => h9) rfl d_Mk_moveTo_155 ?_
          refine lv_iload hx hb d_Mk_moveTo_158 (lv_at hl 0 rfl) ?_
          refine hw_lld hx hb hW 1 hfa rfl k rfl (by omega) (by decide) d_Mk_moveTo_160 ?_
          refine lv_topl (fun fb efb => ?_)
          refine lv_ladd hx hb d_Mk_moveTo_161 ?_
          refine lv_topl (fun x2 ex2 => ?_)
          refine lv_aload_n hx hb d_Mk_moveTo_162 rfl (lv_at hl 1 rfl) ?_
          refine hw_get (own := "QuantifierOut$Marks") (v := .ref mb) hx hb hts i_Mk hown hW hk rfl 1 (by decide) (hts _ tw_42) (fun _ h9 => h9) rfl d_Mk_moveTo_163 ?_
          refine lv_iload hx hb d_Mk_moveTo_166 (lv_at hl 0 rfl) ?_
          refine lv_iconst (v := 1) hx hb d_Mk_moveTo_168 (by decide) ?_
          refine lv_isub hx hb d_Mk_moveTo_169 ?_
          refine lv_topi (fun x3 ex3 => ?_)
          refine hw_lld hx hb hW 1 hgb rfl (k - 1) (by rw [ex3, show k = k - 1 + 1 by omega]; exact nI_pred (k - 1)) (by omega) (by decide) d_Mk_moveTo_170 ?_
          refine lv_topl (fun ga ega => ?_)
          refine lv_aload_n hx hb d_Mk_moveTo_171 rfl (lv_at hl 1 rfl) ?_
          refine hw_get (own := "QuantifierOut$Marks") (v := .ref mb) hx hb hts i_Mk hown hW hk rfl 1 (by decide) (hts _ tw_42) (fun _ h9 => h9) rfl d_Mk_moveTo_172 ?_
          refine lv_iload hx hb d_Mk_moveTo_175 (lv_at hl 0 rfl) ?_
          refine hw_lld hx hb hW 1 hgb rfl k rfl (by omega) (by decide) d_Mk_moveTo_177 ?_
          refine lv_topl (fun gb egb => ?_)
          refine lv_ladd hx hb d_Mk_moveTo_178 ?_
          refine lv_topl (fun x4 ex4 => ?_)
          refine hw_callv (hw_runV (n := 3) (own := "QuantifierOut$Marks") (As := [.int (nI j), .long x2, .long x4]) (rest := []) hx hb hml hown hts hX hW hl.1 (c_Vs_put l D cI cJ cZ cN v va vb om im _ j fv gv (nI j) x2 x4 M hV.1 hV.2.1 hV.2.2 hne rfl hj) hV.1 rfl tw_496 tw_448 tw_449 tw_2 tw_450 (by decide +kernel) rfl rfl ⟨by decide, by decide⟩ rfl rfl (Nat.le_of_ble_eq_true rfl) d_Mk_moveTo_179 ⟨by decide, by decide⟩) hW hS hA (fun M1 H locs hp hz hW hS => ?_)
          rw [hQ9]
          refine hw_retv hx hb hr hlocks hW hS ⟨x2, x4, hp, ?_⟩ d_Mk_moveTo_182
          obtain ⟨b1, b2, b3⟩ := hro.1 (k - 1) (by omega)
          obtain ⟨c1, c2, c3⟩ := hro.1 k hkn
          have tx : x2.toInt = (f (k - 1)).toInt + (f k).toInt := by rw [ex2, nm_ladd (by rw [efa, efb]; omega), efa, efb]
          have ty : x4.toInt = (g (k - 1)).toInt + (g k).toInt := by rw [ex4, nm_ladd (by rw [ega, egb]; omega), ega, egb]
          refine ⟨by rw [ty]; omega, by rw [ty]; omega, by rw [tx]; omega, ?_⟩
          rw [hk2, tx, ty]
          have hm := mo_mid b1 c1 (hro.2 (k - 1) k (by omega) hkn)
          exact mo_even hro.2 (Nat.le_of_lt hkn) (fun _ => hm.1) (fun _ => hm.2)
        · skip
          have hkn : k = n := by
            rcases Nat.lt_or_ge k n with q | q
            · exact absurd ((nI_ltI (by omega) (by omega)).mpr q) c_98
            · omega
          refine lv_aload_n hx hb d_Mk_moveTo_101 rfl (lv_at hl 4 rfl) ?_
          refine lv_iload_n hx hb d_Mk_moveTo_102 rfl (lv_at hl 3 rfl) ?_
          refine lv_aload_n hx hb d_Mk_moveTo_103 rfl (lv_at hl 1 rfl) ?_
          refine hw_get (own := "QuantifierOut$Marks") (v := .ref ma) hx hb hts i_Mk hown hW hk rfl 0 (by decide) (hts _ tw_41) (fun _ h9 => h9) rfl d_Mk_moveTo_104 ?_
          refine lv_aload_n hx hb d_Mk_moveTo_107 rfl (lv_at hl 1 rfl) ?_
          refine hw_get (own := "QuantifierOut$Marks") (v := .int (nI n)) hx hb hts i_Mk hown hW hk rfl 2 (by decide) (hts _ tw_43) (fun _ h9 => h9) rfl d_Mk_moveTo_108 ?_
          refine lv_iconst (v := 1) hx hb d_Mk_moveTo_111 (by decide) ?_
          refine lv_isub hx hb d_Mk_moveTo_112 ?_
          refine lv_topi (fun x5 ex5 => ?_)
          refine hw_lld hx hb hW 1 hfa rfl (n - 1) (by rw [ex5, show n = n - 1 + 1 by omega]; exact nI_pred (n - 1)) (by omega) (by decide) d_Mk_moveTo_113 ?_
          refine lv_topl (fun fa efa => ?_)
          refine lv_aload_n hx hb d_Mk_moveTo_114 rfl (lv_at hl 1 rfl) ?_
          refine hw_get (own := "QuantifierOut$Marks") (v := .ref mb) hx hb hts i_Mk hown hW hk rfl 1 (by decide) (hts _ tw_42) (fun _ h9 => h9) rfl d_Mk_moveTo_115 ?_
          refine lv_aload_n hx hb d_Mk_moveTo_118 rfl (lv_at hl 1 rfl) ?_
          refine hw_get (own := "QuantifierOut$Marks") (v := .int (nI n)) hx hb hts i_Mk hown hW hk rfl 2 (by decide) (hts _ tw_43) (fun _ h9 => h9) rfl d_Mk_moveTo_119 ?_
          refine lv_iconst (v := 1) hx hb d_Mk_moveTo_122 (by decide) ?_
          refine lv_isub hx hb d_Mk_moveTo_123 ?_
          refine lv_topi (fun x6 ex6 => ?_)
          refine hw_lld hx hb hW 1 hgb rfl (n - 1) (by rw [ex6, show n = n - 1 + 1 by omega]; exact nI_pred (n - 1)) (by omega) (by decide) d_Mk_moveTo_124 ?_
          refine lv_topl (fun ga ega => ?_)
          refine lv_ladd hx hb d_Mk_moveTo_125 ?_
          refine lv_topl (fun x7 ex7 => ?_)
          refine lv_aload_n hx hb d_Mk_moveTo_126 rfl (lv_at hl 1 rfl) ?_
          refine hw_get (own := "QuantifierOut$Marks") (v := .ref mb) hx hb hts i_Mk hown hW hk rfl 1 (by decide) (hts _ tw_42) (fun _ h9 => h9) rfl d_Mk_moveTo_127 ?_
          refine lv_aload_n hx hb d_Mk_moveTo_130 rfl (lv_at hl 1 rfl) ?_
          refine hw_get (own := "QuantifierOut$Marks") (v := .int (nI n)) hx hb hts i_Mk hown hW hk rfl 2 (by decide) (hts _ tw_43) (fun _ h9 => h9) rfl d_Mk_moveTo_131 ?_
          refine lv_iconst (v := 1) hx hb d_Mk_moveTo_134 (by decide) ?_
          refine lv_isub hx hb d_Mk_moveTo_135 ?_
          refine lv_topi (fun x8 ex8 => ?_)
          refine hw_lld hx hb hW 1 hgb rfl (n - 1) (by rw [ex8, show n = n - 1 + 1 by omega]; exact nI_pred (n - 1)) (by omega) (by decide) d_Mk_moveTo_136 ?_
          refine lv_topl (fun gb egb => ?_)
          refine hw_callv (hw_runV (n := 3) (own := "QuantifierOut$Marks") (As := [.int (nI j), .long x7, .long gb]) (rest := []) hx hb hml hown hts hX hW hl.1 (c_Vs_put l D cI cJ cZ cN v va vb om im _ j fv gv (nI j) x7 gb M hV.1 hV.2.1 hV.2.2 hne rfl hj) hV.1 rfl tw_496 tw_448 tw_449 tw_2 tw_450 (by decide +kernel) rfl rfl ⟨by decide, by decide⟩ rfl rfl (Nat.le_of_ble_eq_true rfl) d_Mk_moveTo_137 ⟨by decide, by decide⟩) hW hS hA (fun M1 H locs hp hz hW hS => ?_)
          refine lv_goto (tgt := 182) hx hb d_Mk_moveTo_140 (by decide) ?_
          rw [hQ9]
          refine hw_retv hx hb hr hlocks hW hS ⟨x7, gb, hp, ?_⟩ d_Mk_moveTo_182
          obtain ⟨b1, b2, b3⟩ := hro.1 (n - 1) (by omega)
          have tx : x7.toInt = (f (n - 1)).toInt + (g (n - 1)).toInt := by rw [ex7, nm_ladd (by rw [efa, ega]; omega), efa, ega]
          have ty : gb.toInt = (g (n - 1)).toInt := by rw [egb]
          refine ⟨by rw [ty]; exact b1, by rw [ty]; omega, by rw [tx]; omega, ?_⟩
          rw [hk2, hkn, tx, ty]
          exact mo_even hro.2 (Nat.le_refl n) (fun _ => mo_up b1) (fun h => absurd h (Nat.lt_irrefl n))
      · skip
        have hk0 : k = 0 := by
          rcases Nat.eq_zero_or_pos k with q | q
          · exact q
          · exact absurd c_62 (nI_ne0 q (by omega))
        refine lv_aload_n hx hb d_Mk_moveTo_65 rfl (lv_at hl 4 rfl) ?_
        refine lv_iload_n hx hb d_Mk_moveTo_66 rfl (lv_at hl 3 rfl) ?_
        refine lv_aload_n hx hb d_Mk_moveTo_67 rfl (lv_at hl 1 rfl) ?_
        refine hw_get (own := "QuantifierOut$Marks") (v := .ref ma) hx hb hts i_Mk hown hW hk rfl 0 (by decide) (hts _ tw_41) (fun _ h9 => h9) rfl d_Mk_moveTo_68 ?_
        refine lv_iconst (v := 0) hx hb d_Mk_moveTo_71 (by decide) ?_
        refine hw_lld hx hb hW 1 hfa rfl 0 rfl (by omega) (by decide) d_Mk_moveTo_72 ?_
        refine lv_topl (fun f0 ef0 => ?_)
        refine lv_aload_n hx hb d_Mk_moveTo_73 rfl (lv_at hl 1 rfl) ?_
        refine hw_get (own := "QuantifierOut$Marks") (v := .ref mb) hx hb hts i_Mk hown hW hk rfl 1 (by decide) (hts _ tw_42) (fun _ h9 => h9) rfl d_Mk_moveTo_74 ?_
        refine lv_iconst (v := 0) hx hb d_Mk_moveTo_77 (by decide) ?_
        refine hw_lld hx hb hW 1 hgb rfl 0 rfl (by omega) (by decide) d_Mk_moveTo_78 ?_
        refine lv_topl (fun g0 eg0 => ?_)
        refine lv_lsub hx hb d_Mk_moveTo_79 ?_
        refine lv_topl (fun x9 ex9 => ?_)
        refine lv_aload_n hx hb d_Mk_moveTo_80 rfl (lv_at hl 1 rfl) ?_
        refine hw_get (own := "QuantifierOut$Marks") (v := .ref mb) hx hb hts i_Mk hown hW hk rfl 1 (by decide) (hts _ tw_42) (fun _ h9 => h9) rfl d_Mk_moveTo_81 ?_
        refine lv_iconst (v := 0) hx hb d_Mk_moveTo_84 (by decide) ?_
        refine hw_lld hx hb hW 1 hgb rfl 0 rfl (by omega) (by decide) d_Mk_moveTo_85 ?_
        refine lv_topl (fun g1 eg1 => ?_)
        refine hw_callv (hw_runV (n := 3) (own := "QuantifierOut$Marks") (As := [.int (nI j), .long x9, .long g1]) (rest := []) hx hb hml hown hts hX hW hl.1 (c_Vs_put l D cI cJ cZ cN v va vb om im _ j fv gv (nI j) x9 g1 M hV.1 hV.2.1 hV.2.2 hne rfl hj) hV.1 rfl tw_496 tw_448 tw_449 tw_2 tw_450 (by decide +kernel) rfl rfl ⟨by decide, by decide⟩ rfl rfl (Nat.le_of_ble_eq_true rfl) d_Mk_moveTo_86 ⟨by decide, by decide⟩) hW hS hA (fun M1 H locs hp hz hW hS => ?_)
        refine lv_goto (tgt := 182) hx hb d_Mk_moveTo_89 (by decide) ?_
        rw [hQ9]
        refine hw_retv hx hb hr hlocks hW hS ⟨x9, g1, hp, ?_⟩ d_Mk_moveTo_182
        obtain ⟨b1, b2, b3⟩ := hro.1 0 hnp
        have tx : x9.toInt = (f 0).toInt - (g 0).toInt := by rw [ex9, nm_lsub (by rw [ef0, eg0]; omega), ef0, eg0]
        have ty : g1.toInt = (g 0).toInt := by rw [eg1]
        refine ⟨by rw [ty]; exact b1, by rw [ty]; omega, by rw [tx]; omega, ?_⟩
        rw [hk2, hk0, tx, ty]
        exact mo_even hro.2 (Nat.zero_le n) (fun h => absurd h (Nat.lt_irrefl 0)) (fun _ => mo_dn b1)
    refine lv_icmp_ne (tgt := 60) hx hb d_Mk_moveTo_26 (by decide) (fun c_26 => ?_) (fun c_26 => ?_)
    · skip
      exact rest (by
        rcases Nat.mod_two_eq_zero_or_one st with q | q
        · exact q
        · exact absurd (by rw [erm2, q]; rfl) c_26)
    · skip
      have hod : st % 2 = 1 := by
        rcases Nat.mod_two_eq_zero_or_one st with q | q
        · rw [erm2, q] at c_26; exact absurd c_26 (by decide)
        · exact q
      refine lv_iload hx hb d_Mk_moveTo_29 (lv_at hl 0 rfl) ?_
      refine lv_aload_n hx hb d_Mk_moveTo_31 rfl (lv_at hl 1 rfl) ?_
      refine hw_get (own := "QuantifierOut$Marks") (v := .int (nI n)) hx hb hts i_Mk hown hW hk rfl 2 (by decide) (hts _ tw_43) (fun _ h9 => h9) rfl d_Mk_moveTo_32 ?_
      refine lv_icmp_ge (tgt := 60) hx hb d_Mk_moveTo_35 (by decide) (fun c_35 => ?_) (fun c_35 => ?_)
      · skip
        exact absurd ((nI_leI (by omega) (by omega)).mp c_35) (by omega)
      · skip
        refine lv_aload_n hx hb d_Mk_moveTo_38 rfl (lv_at hl 4 rfl) ?_
        refine lv_iload_n hx hb d_Mk_moveTo_39 rfl (lv_at hl 3 rfl) ?_
        refine lv_aload_n hx hb d_Mk_moveTo_40 rfl (lv_at hl 1 rfl) ?_
        refine hw_get (own := "QuantifierOut$Marks") (v := .ref ma) hx hb hts i_Mk hown hW hk rfl 0 (by decide) (hts _ tw_41) (fun _ h9 => h9) rfl d_Mk_moveTo_41 ?_
        refine lv_iload hx hb d_Mk_moveTo_44 (lv_at hl 0 rfl) ?_
        refine hw_lld hx hb hW 1 hfa rfl (st / 2) rfl (by omega) (by decide) d_Mk_moveTo_46 ?_
        refine lv_topl (fun fa efa => ?_)
        refine lv_aload_n hx hb d_Mk_moveTo_47 rfl (lv_at hl 1 rfl) ?_
        refine hw_get (own := "QuantifierOut$Marks") (v := .ref mb) hx hb hts i_Mk hown hW hk rfl 1 (by decide) (hts _ tw_42) (fun _ h9 => h9) rfl d_Mk_moveTo_48 ?_
        refine lv_iload hx hb d_Mk_moveTo_51 (lv_at hl 0 rfl) ?_
        refine hw_lld hx hb hW 1 hgb rfl (st / 2) rfl (by omega) (by decide) d_Mk_moveTo_53 ?_
        refine lv_topl (fun ga ega => ?_)
        refine hw_callv (hw_runV (n := 3) (own := "QuantifierOut$Marks") (As := [.int (nI j), .long fa, .long ga]) (rest := []) hx hb hml hown hts hX hW hl.1 (c_Vs_put l D cI cJ cZ cN v va vb om im _ j fv gv (nI j) fa ga M hV.1 hV.2.1 hV.2.2 hne rfl hj) hV.1 rfl tw_496 tw_448 tw_449 tw_2 tw_450 (by decide +kernel) rfl rfl ⟨by decide, by decide⟩ rfl rfl (Nat.le_of_ble_eq_true rfl) d_Mk_moveTo_54 ⟨by decide, by decide⟩) hW hS hA (fun M1 H locs hp hz hW hS => ?_)
        refine lv_goto (tgt := 182) hx hb d_Mk_moveTo_57 (by decide) ?_
        rw [hQ9]
        refine hw_retv hx hb hr hlocks hW hS ⟨fa, ga, hp, ?_⟩ d_Mk_moveTo_182
        obtain ⟨b1, b2, b3⟩ := hro.1 (st / 2) (by omega)
        refine ⟨by rw [ega]; exact b1, by rw [ega]; omega, by rw [efa]; omega, ?_⟩
        rw [efa, ega]
        have h := qi_mk (M := mk_v f g) (n := n) (i := st / 2) (by omega)
        rw [show 2 * (st / 2) + 1 = st by omega] at h
        exact h
  · skip
    have hn0 : n = 0 := by
      rcases Nat.eq_zero_or_pos n with q | q
      · exact q
      · exact absurd c_9 (nI_ne0 q (by omega))
    refine lv_aload_n hx hb d_Mk_moveTo_12 rfl (lv_at hl 4 rfl) ?_
    refine lv_iload_n hx hb d_Mk_moveTo_13 rfl (lv_at hl 3 rfl) ?_
    refine lv_lconst (v := 0) hx hb d_Mk_moveTo_14 (by decide) ?_
    refine lv_lconst (v := 1) hx hb d_Mk_moveTo_15 (by decide) ?_
    refine hw_callv (hw_runV (n := 3) (own := "QuantifierOut$Marks") (As := [.int (nI j), .long 0, .long 1]) (rest := []) hx hb hml hown hts hX hW hl.1 (c_Vs_put l D cI cJ cZ cN v va vb om im _ j fv gv (nI j) 0 1 M hV.1 hV.2.1 hV.2.2 hne rfl hj) hV.1 rfl tw_496 tw_448 tw_449 tw_2 tw_450 (by decide +kernel) rfl rfl ⟨by decide, by decide⟩ rfl rfl (Nat.le_of_ble_eq_true rfl) d_Mk_moveTo_16 ⟨by decide, by decide⟩) hW hS hA (fun M1 H locs hp hz hW hS => ?_)
    refine lv_goto (tgt := 182) hx hb d_Mk_moveTo_19 (by decide) ?_
    rw [hQ9]
    refine hw_retv hx hb hr hlocks hW hS ⟨0, 1, hp, ?_⟩ d_Mk_moveTo_182
    have h1 : (1 : Int64).toInt = 1 := rfl
    have h00 : (0 : Int64).toInt = 0 := rfl
    refine ⟨by rw [h1]; omega, by rw [h1]; omega, by rw [h00]; omega, Or.inr ⟨0, by omega, by omega, fun j2 h => absurd h (Nat.not_lt_zero j2), fun j2 _ h => by omega⟩⟩
theorem va_up4 {M : Nat → Option va_E} {a b : Nat} {x y x2 y2 : Option va_E} (h : a ≠ b) : va_up (va_up (va_up (va_up M a x) b y) a x2) b y2 = va_up (va_up M a x2) b y2 := by
  funext q
  simp only [va_up]
  by_cases h1 : q = b <;> by_cases h2 : q = a <;> simp [h1, h2]
set_option maxHeartbeats 4000000 in
set_option maxRecDepth 100000 in
theorem c_Vs_putWhole (h0 va vb om im sz : Nat) (f g : Nat → Int64) (x y : Int32) (M : Nat → Option va_E) (hV : vs_S cJ M h0 va vb om im f g) (hne : va ≠ vb) : Met l y_Vs_putWhole (.code y_Vs_putWhole b_Vs_putWhole 3 none :: ww) ({ frames := 1, cells := 0, slots := 0, locals := 30 }) (hw_Pc D qcl (qty cI cJ cZ cN) [.ref h0, .int x, .int y] M sz) (va_Qv (fun M1 => M1 = va_up (va_up M va (some (.inl (cJ, 2, .inr (.inl (vp_updL (vp_updL f 0 x.toInt64) 1 y.toInt64)))))) vb (some (.inl (cJ, 2, .inr (.inl (vp_updL (vp_updL g 0 1) 1 1)))))) (hw_B D qcl (qty cI cJ cZ cN) M sz) (hw_A M sz)) 0 0 (hw_A M sz) := by
  refine hw_met (by decide) (Nat.le_of_ble_eq_true rfl) ?_
  intro p e s m below meth c hx hb hr hml hown hlocks hnm hts hsz hX hW ls hl
  subst hsz
  have hA : ∀ q, s.heap.size ≤ q → hw_A M s.heap.size q := fun q h => Or.inr h
  have hS : va_S (hw_A M s.heap.size) s.heap s.heap [] := va_S.rf
  have hl : lv_has ls 3 [(0, .ref h0), (1, .int x), (2, .int y)] := hl
  have hown : s.vm.findClass "QuantifierOut$Values" = some m.cls := hown
  refine lv_aload_n hx hb d_Vs_putWhole_0 rfl (lv_at hl 0 rfl) ?_
  refine lv_iconst (v := 0) hx hb d_Vs_putWhole_1 (by decide) ?_
  refine lv_iload_n hx hb d_Vs_putWhole_2 rfl (lv_at hl 1 rfl) ?_
  obtain ⟨x1, ex1⟩ : ∃ y9 : Int64, y9 = (x : Int32).toInt64 := ⟨_, rfl⟩
  refine lv_i2l (v := x1) hx hb d_Vs_putWhole_3 ex1.symm ?_
  refine lv_lconst (v := 1) hx hb d_Vs_putWhole_4 (by decide) ?_
  refine hw_callv (hw_runV (n := 3) (own := "QuantifierOut$Values") (As := [.int 0, .long x1, .long 1]) (rest := []) hx hb hml hown hts hX hW hl.1 (c_Vs_put l D cI cJ cZ cN h0 va vb om im _ 0 f g 0 x1 1 M hV.1 hV.2.1 hV.2.2 hne rfl (by omega)) hV.1 rfl tw_447 tw_448 tw_449 tw_2 tw_450 (by decide +kernel) rfl rfl ⟨by decide, by decide⟩ rfl rfl (Nat.le_of_ble_eq_true rfl) d_Vs_putWhole_5 ⟨by decide, by decide⟩) hW hS hA (fun M1 H locs hp hz hW hS => ?_)
  have n1 : h0 ≠ va := hw_ne hV.1 hV.2.1 (by simp)
  have n2 : h0 ≠ vb := hw_ne hV.1 hV.2.2 (by simp)
  have hV1 : vs_S cJ M1 h0 va vb om im (vp_updL f 0 x1) (vp_updL g 0 1) := by
    subst hp
    exact ⟨by rw [va_up_ne _ _ n2, va_up_ne _ _ n1]; exact hV.1, by rw [va_up_ne _ _ hne]; exact va_up_self _ _ _, va_up_self _ _ _⟩
  refine lv_aload_n hx hb d_Vs_putWhole_8 rfl (lv_at hl 0 rfl) ?_
  refine lv_iconst (v := 1) hx hb d_Vs_putWhole_9 (by decide) ?_
  refine lv_iload_n hx hb d_Vs_putWhole_10 rfl (lv_at hl 2 rfl) ?_
  obtain ⟨x2, ex2⟩ : ∃ y9 : Int64, y9 = (y : Int32).toInt64 := ⟨_, rfl⟩
  refine lv_i2l (v := x2) hx hb d_Vs_putWhole_11 ex2.symm ?_
  refine lv_lconst (v := 1) hx hb d_Vs_putWhole_12 (by decide) ?_
  refine hw_callv (hw_runV (n := 3) (own := "QuantifierOut$Values") (As := [.int 1, .long x2, .long 1]) (rest := []) hx hb hml hown hts hX hW hl.1 (c_Vs_put l D cI cJ cZ cN h0 va vb om im _ 1 (vp_updL f 0 x1) (vp_updL g 0 1) 1 x2 1 M1 hV1.1 hV1.2.1 hV1.2.2 hne rfl (by omega)) hV1.1 rfl tw_447 tw_448 tw_449 tw_2 tw_450 (by decide +kernel) rfl rfl ⟨by decide, by decide⟩ rfl rfl (Nat.le_of_ble_eq_true rfl) d_Vs_putWhole_13 ⟨by decide, by decide⟩) hW hS hA (fun M2 H locs hp2 hz hW hS => ?_)
  exact hw_retv hx hb hr hlocks hW hS (by rw [hp2, hp, va_up4 hne, ex1, ex2]) d_Vs_putWhole_16
set_option maxHeartbeats 4000000 in
set_option maxRecDepth 100000 in
theorem c_Vs_marksFor (h0 va vb om im sz dp : Nat) (M : Nat → Option va_E) (hV : M h0 = some (.inr (7, [.ref va, .ref vb, .ref om, .ref im]))) (hdp : dp < 1000) : Met l y_Vs_marksFor (.code y_Vs_marksFor b_Vs_marksFor 2 (some (.object "QuantifierOut$Marks")) :: ww) ({ frames := 0, cells := 0, slots := 0, locals := 0 }) (hw_Pc D qcl (qty cI cJ cZ cN) [.ref h0, .int (nI dp)] M sz) (va_Qq (fun r M1 => r = some (if dp < 2 then im else om) ∧ M1 = M) (hw_B D qcl (qty cI cJ cZ cN) M sz) (hw_A M sz)) 0 0 (hw_A M sz) := by
  refine hw_met (by decide) (Nat.le_of_ble_eq_true rfl) ?_
  intro p e s m below meth c hx hb hr hml hown hlocks hnm hts hsz hX hW ls hl
  subst hsz
  have hA : ∀ q, s.heap.size ≤ q → hw_A M s.heap.size q := fun q h => Or.inr h
  have hS : va_S (hw_A M s.heap.size) s.heap s.heap [] := va_S.rf
  have hl : lv_has ls 2 [(0, .ref h0), (1, .int (nI dp))] := hl
  have hown : s.vm.findClass "QuantifierOut$Values" = some m.cls := hown
  refine lv_iload_n hx hb d_Vs_marksFor_0 rfl (lv_at hl 1 rfl) ?_
  refine lv_iconst (v := 2) hx hb d_Vs_marksFor_1 (by decide) ?_
  refine lv_icmp_ge (tgt := 12) hx hb d_Vs_marksFor_2 (by decide) (fun c_2 => ?_) (fun c_2 => ?_)
  · skip
    refine lv_aload_n hx hb d_Vs_marksFor_12 rfl (lv_at hl 0 rfl) ?_
    refine hw_get (own := "QuantifierOut$Values") (v := .ref om) hx hb hts i_Vs hown hW hV rfl 2 (by decide) (hts _ tw_60) (fun _ h9 => h9) rfl d_Vs_marksFor_13 ?_
    have h9 : ¬ dp < 2 := fun q => absurd ((nI_leI (a := 2) (by omega) (by omega)).mp c_2) (by omega)
    exact hw_reta hx hb hr (Or.inl ⟨_, rfl⟩) hlocks hW hS ⟨by rw [if_neg h9], rfl⟩ d_Vs_marksFor_16
  · skip
    refine lv_aload_n hx hb d_Vs_marksFor_5 rfl (lv_at hl 0 rfl) ?_
    refine hw_get (own := "QuantifierOut$Values") (v := .ref im) hx hb hts i_Vs hown hW hV rfl 3 (by decide) (hts _ tw_61) (fun _ h9 => h9) rfl d_Vs_marksFor_6 ?_
    refine lv_goto (tgt := 16) hx hb d_Vs_marksFor_9 (by decide) ?_
    have h9 : dp < 2 := by
      rcases Nat.lt_or_ge dp 2 with q | q
      · exact q
      · exact absurd ((nI_leI (a := 2) (by omega) (by omega)).mpr q) c_2
    exact hw_reta hx hb hr (Or.inl ⟨_, rfl⟩) hlocks hW hS ⟨by rw [if_pos h9], rfl⟩ d_Vs_marksFor_16
end G18
end
section
/-! Nodes: what each one means, how its cell lies, and what the marks of a row give -/
/-- the marks cover the lines, seen from the letter j -/
theorem ga_cov0 {F : Nat → Int32} {j o nl : Nat} {x y : Int} {n : Nat} {f g : Nat → Int64} {Ls : List (Int × Int × Int)} (hy : 0 < y) (hL : ∀ L ∈ Ls, ∃ t, t < nl ∧ L = ((F (3 * t + j)).toInt, (F (3 * t + o)).toInt, (F (3 * t + 2)).toInt)) (hv : ∀ t, t < nl → ga_v F j o x y n f g t) : qm_cov0 Ls (qm_fr x y) (fun m => ∃ i, i < n ∧ m = mk_v f g i) := by
  intro L hLm h1
  obtain ⟨t, ht, rfl⟩ := hL L hLm
  dsimp only at h1 ⊢
  have hd : (F (3 * t + j)).toInt * y ≠ 0 := fun q => (Int.mul_eq_zero.mp q).elim h1 (by omega)
  obtain ⟨i, hi, e⟩ := hv t ht hd
  refine ⟨_, ⟨i, hi, rfl⟩, ?_⟩
  rw [e]
  unfold qm_at
  dsimp only
  generalize (F (3 * t + j)).toInt = a at *
  generalize (F (3 * t + o)).toInt = b at *
  generalize (F (3 * t + 2)).toInt = c at *
  have hyq : (y : Rat) ≠ 0 := fun q => by have := Rat.intCast_eq_zero_iff.mp q; omega
  have haq : (a : Rat) ≠ 0 := fun q => h1 (Rat.intCast_eq_zero_iff.mp q)
  have k1 : (y : Rat) * qm_fr x y = (x : Rat) := qm_fr_mul hy
  have k2 : qm_fr (-(b * x + c * y)) (a * y) * ((a * y : Int) : Rat) = ((-(b * x + c * y) : Int) : Rat) := by
    unfold qm_fr
    exact Rat.div_mul_cancel (fun q => hd (Rat.intCast_eq_zero_iff.mp q))
  simp only [Rat.intCast_mul, Rat.intCast_neg, Rat.intCast_add] at k2
  have k3 : (y : Rat) * ((a : Rat) * qm_fr (-(b * x + c * y)) (a * y) + (b : Rat) * qm_fr x y + (c : Rat)) = 0 := by
    have : (y : Rat) * ((a : Rat) * qm_fr (-(b * x + c * y)) (a * y) + (b : Rat) * qm_fr x y + (c : Rat)) = qm_fr (-(b * x + c * y)) (a * y) * ((a : Rat) * (y : Rat)) + (b : Rat) * ((y : Rat) * qm_fr x y) + (c : Rat) * (y : Rat) := by grind
    rw [this, k1, k2]
    grind
  exact (Rat.mul_eq_zero.mp k3).resolve_left hyq
theorem ga_cov1 {F : Nat → Int32} {j o nl : Nat} {n : Nat} {f g : Nat → Int64} {Ls : List (Int × Int × Int)} (hL : ∀ L ∈ Ls, ∃ t, t < nl ∧ L = ((F (3 * t + j)).toInt, (F (3 * t + o)).toInt, (F (3 * t + 2)).toInt)) (hc : ∀ t r, t < nl → r < t → ga_c F j o n f g t r) : qm_cov1 Ls (fun m => ∃ i, i < n ∧ m = mk_v f g i) := by
  have root : ∀ (a b c a' b' c' : Int), a * b' - a' * b ≠ 0 → qm_D (a, b, c) (a', b', c') (qm_fr (-(c * b' - c' * b)) (a * b' - a' * b)) = 0 := by
    intro a b c a' b' c' hd
    have k2 : qm_fr (-(c * b' - c' * b)) (a * b' - a' * b) * ((a * b' - a' * b : Int) : Rat) = ((-(c * b' - c' * b) : Int) : Rat) := by
      unfold qm_fr
      exact Rat.div_mul_cancel (fun q => hd (Rat.intCast_eq_zero_iff.mp q))
    simp only [Rat.intCast_mul, Rat.intCast_neg, Rat.intCast_sub] at k2
    unfold qm_D qm_A
    dsimp only
    generalize qm_fr (-(c * b' - c' * b)) (a * b' - a' * b) = m at *
    grind
  intro L hLm M hMm h1
  obtain ⟨t, ht, rfl⟩ := hL L hLm
  obtain ⟨r, hr, rfl⟩ := hL M hMm
  dsimp only at h1
  rcases Nat.lt_trichotomy r t with q | q | q
  · have hd : (F (3 * t + j)).toInt * (F (3 * r + o)).toInt - (F (3 * r + j)).toInt * (F (3 * t + o)).toInt ≠ 0 := fun e => h1 (by rw [Int.mul_comm (F (3 * r + o)).toInt, Int.mul_comm (F (3 * t + o)).toInt]; exact e)
    obtain ⟨i, hi, e⟩ := hc t r ht q hd
    exact ⟨_, ⟨i, hi, rfl⟩, by rw [e]; exact root _ _ _ _ _ _ hd⟩
  · subst q
    exact absurd (by rw [Int.mul_comm]; omega) h1
  · have hd : (F (3 * r + j)).toInt * (F (3 * t + o)).toInt - (F (3 * t + j)).toInt * (F (3 * r + o)).toInt ≠ 0 := fun e => h1 (by rw [Int.mul_comm (F (3 * r + o)).toInt, Int.mul_comm (F (3 * t + o)).toInt]; omega)
    obtain ⟨i, hi, e⟩ := hc r t hr q hd
    refine ⟨_, ⟨i, hi, rfl⟩, ?_⟩
    rw [e]
    have h2 := root _ _ (F (3 * r + 2)).toInt _ _ (F (3 * t + 2)).toInt hd
    unfold qm_D at h2 ⊢
    dsimp only at h2 ⊢
    grind
/-- an int that tells a truth -/
def it_b (r : Int32) (p : Prop) : Prop := (r = 1 ∧ p) ∨ (r = 0 ∧ ¬ p)
/-- what a node is: atom op; both or either of two; not; some or every, of a letter -/
abbrev nk : Type := Nat ⊕ (Nat × Nat × Bool) ⊕ Nat ⊕ (Nat × Nat × Bool)
abbrev nq : Type := (Rat → Rat → Prop) × List (Int × Int × Int) × Bool × Bool × Nat × Nat × nk
abbrev nP (q : nq) : Rat → Rat → Prop := q.1
abbrev nL (q : nq) : List (Int × Int × Int) := q.2.1
abbrev nx (q : nq) : Bool := q.2.2.1
abbrev ny (q : nq) : Bool := q.2.2.2.1
abbrev nd (q : nq) : Nat := q.2.2.2.2.1
abbrev nr (q : nq) : Nat := q.2.2.2.2.2.1
abbrev nK (q : nq) : nk := q.2.2.2.2.2.2
def nk_neg (k : nk) : Nat := match k with
  | .inr (.inr (.inl _)) => 1
  | _ => 0
/-- the truth of a node made of others -/
def nk_ok (tb : Nat → Option nq) (q : nq) : Prop := match nK q with
  | .inl op => ∃ l, nL q = [l] ∧ (∀ x y, nP q x y ↔ qm_atom l op x y) ∧ op < 3 ∧ nx q = true ∧ ny q = true ∧ nd q = 0
  | .inr (.inl (a, b, k)) => ∃ q1 q2, tb a = some q1 ∧ tb b = some q2 ∧ nr q1 < nr q ∧ nr q2 < nr q ∧ nd q = max (nd q1) (nd q2) ∧ nL q = nL q1 ++ nL q2 ∧ (∀ x y, nP q x y ↔ if k = true then nP q1 x y ∧ nP q2 x y else nP q1 x y ∨ nP q2 x y)
  | .inr (.inr (.inl a)) => ∃ q1, tb a = some q1 ∧ nr q1 < nr q ∧ nd q = nd q1 ∧ nL q = nL q1 ∧ (∀ x y, nP q x y ↔ ¬ nP q1 x y)
  | .inr (.inr (.inr (j, a, k))) => ∃ q1, j < 2 ∧ tb a = some q1 ∧ nr q1 < nr q ∧ nd q = nd q1 + 1 ∧ nL q = nL q1 ∧ (∀ x y, nP q x y ↔ if k = true then (if j = 0 then ∀ u, nP q1 u y else ∀ u, nP q1 x u) else (if j = 0 then ∃ u, nP q1 u y else ∃ u, nP q1 x u))
def nq_ok (tb : Nat → Option nq) (q : nq) : Prop := nk_ok tb q ∧ 1 ≤ (nL q).length ∧ (nL q).length ≤ 6 ∧ nd q ≤ 2 ∧ nr q + 2 ≤ 2 * (nL q).length + 2 * nd q + nk_neg (nK q) ∧ (∀ l ∈ nL q, l.1.natAbs ≤ 5 ∧ l.2.1.natAbs ≤ 5 ∧ l.2.2.natAbs ≤ 5) ∧ qm_inv (nL q) (nd q) (nP q) ∧ (nx q = false → ∀ x x' y, nP q x y ↔ nP q x' y) ∧ (ny q = false → ∀ x y y', nP q x y ↔ nP q x y')
def bt (x : Int32) (i : Nat) : Bool := x.toBitVec.getLsbD i
theorem b_ext {x y : Int32} (h : ∀ i, i < 32 → bt x i = bt y i) : x = y := Int32.toBitVec_inj.mp (BitVec.eq_of_getLsbD_eq (fun i hi => h i hi))
theorem b_or (x y : Int32) (i : Nat) : bt (x ||| y) i = (bt x i || bt y i) := by unfold bt; rw [Int32.toBitVec_or, BitVec.getLsbD_or]
theorem b_and (x y : Int32) (i : Nat) : bt (x &&& y) i = (bt x i && bt y i) := by unfold bt; rw [Int32.toBitVec_and, BitVec.getLsbD_and]
theorem b_xor (x y : Int32) (i : Nat) : bt (x ^^^ y) i = (bt x i ^^ bt y i) := by unfold bt; rw [Int32.toBitVec_xor, BitVec.getLsbD_xor]
theorem b_big {x : Int32} {i : Nat} (h : 32 ≤ i) : bt x i = false := BitVec.getLsbD_of_ge _ _ h
theorem b_m1 : ∀ i, i < 32 → bt (-1) i = true := by decide +kernel
theorem b_0 (i : Nat) : bt 0 i = false := BitVec.getLsbD_zero
theorem s_l : ∀ n, n < 32 → ((nI n &&& 31).toBitVec.smod 32).toNat = n := by decide +kernel
theorem b_shl (n : Nat) (hn : n < 32) (x : Int32) {i : Nat} (hi : i < 32) : bt (x <<< (nI n &&& 31)) i = (decide (n ≤ i) && bt x (i - n)) := by
  unfold bt
  rw [Int32.toBitVec_shiftLeft]
  show (x.toBitVec <<< ((nI n &&& 31).toBitVec.smod 32).toNat).getLsbD i = _
  rw [s_l n hn, BitVec.getLsbD_shiftLeft]
  rcases Nat.lt_or_ge i n with h | h
  · simp [h, Nat.not_le.mpr h]
  · simp [hi, h, Nat.not_lt.mpr h]
theorem b_sshr (n : Nat) (hn : n < 32) (x : Int32) {i : Nat} (hi : i < 32) : bt (x >>> (nI n &&& 31)) i = if n + i < 32 then bt x (n + i) else bt x 31 := by
  unfold bt
  rw [Int32.toBitVec_shiftRight]
  show (x.toBitVec.sshiftRight ((nI n &&& 31).toBitVec.smod 32).toNat).getLsbD i = _
  rw [s_l n hn, BitVec.getLsbD_sshiftRight, BitVec.msb_eq_getLsbD_last]
  simp [hi]
/-- the truth at one of the 25 places; the 25 truths of a node, as the grid has them -/
def gP (P : Rat → Rat → Prop) (i : Nat) : Prop := P ((((i / 5 : Nat) : Int) - 2 : Int) : Rat) ((((i % 5 : Nat) : Int) - 2 : Int) : Rat)
def gp_ok (P : Rat → Rat → Prop) (k : Nat) (g : Int32) : Prop := (∀ i, i < k → (bt g i = true ↔ gP P i)) ∧ ∀ i, k ≤ i → i < 32 → bt g i = false
def gd_ok (P : Rat → Rat → Prop) (g : Int32) : Prop := gp_ok P 25 g
def nk_ci (k : nk) : Nat := match k with
  | .inl _ => 1
  | .inr (.inl _) => 4
  | .inr (.inr (.inl _)) => 3
  | .inr (.inr (.inr _)) => 6
def nk_ex (q : nq) : List Value := match nK q with
  | .inl op => [.int (Int32.ofInt ((nL q).headD (0, 0, 0)).1), .int (Int32.ofInt ((nL q).headD (0, 0, 0)).2.1), .int (Int32.ofInt ((nL q).headD (0, 0, 0)).2.2), .int (nI op)]
  | .inr (.inl (a, b, k)) => [.ref a, .ref b, .int (if k = true then 1 else 0)]
  | .inr (.inr (.inl a)) => [.ref a]
  | .inr (.inr (.inr (j, a, k))) => [.int (nI j), .ref a, .int (if k = true then 1 else 0)]
def nl_F (F : Nat → Int32) (L : List (Int × Int × Int)) : Prop := ∀ t l, L[t]? = some l → (F (3 * t)).toInt = l.1 ∧ (F (3 * t + 1)).toInt = l.2.1 ∧ (F (3 * t + 2)).toInt = l.2.2
def nq_cell (cI : ClassId) (M : Nat → Option va_E) (a : Nat) (q : nq) : Prop := ∃ (la : Nat) (gr : Int32) (F : Nat → Int32), nd_c M a (nk_ci (nK q)) (nd_fr (nx q) (ny q)) (nI (nd q)) la gr (nk_ex q) ∧ M la = some (.inl (cI, 3 * (nL q).length, .inl F)) ∧ nl_F F (nL q) ∧ (gr = -1 ∨ gd_ok (nP q) gr)
def tb_ok (cI : ClassId) (M : Nat → Option va_E) (tb : Nat → Option nq) : Prop := ∀ a q, tb a = some q → nq_cell cI M a q ∧ nq_ok tb q
/-- node cells and int arrays stay: then the table stands -/
theorem tb_kept {cI : ClassId} {M M1 : Nat → Option va_E} {tb : Nat → Option nq} (h : tb_ok cI M tb) (hk : ∀ a e, M a = some e → (∀ f, e ≠ .inr (2, f)) → (∀ c n f, e ≠ .inl (c, n, .inr (.inl f))) → M1 a = M a) : tb_ok cI M1 tb := by
  intro a q ha
  obtain ⟨⟨la, gr, F, ⟨h1, h2⟩, h3, h4, h5⟩, h6⟩ := h a q ha
  refine ⟨⟨la, gr, F, ⟨h1, ?_⟩, ?_, h4, h5⟩, h6⟩
  · rw [hk a _ h2 (fun f e => by simp only [Sum.inr.injEq, Prod.mk.injEq] at e; omega) (fun c n f e => by cases e)]
    exact h2
  · rw [hk la _ h3 (fun f e => by cases e) (fun c n f e => by simp at e)]
    exact h3
theorem nl_len {F : Nat → Int32} {L : List (Int × Int × Int)} (h : nl_F F L) (hb : ∀ l ∈ L, l.1.natAbs ≤ 5 ∧ l.2.1.natAbs ≤ 5 ∧ l.2.2.natAbs ≤ 5) : ∀ i, i < 3 * L.length → (F i).toInt.natAbs ≤ 5 := by
  intro i hi
  have ht : i / 3 < L.length := by omega
  obtain ⟨l, hl⟩ : ∃ l, L[i / 3]? = some l := ⟨_, List.getElem?_eq_getElem ht⟩
  obtain ⟨a, b, c⟩ := h _ _ hl
  obtain ⟨a2, b2, c2⟩ := hb l (List.mem_of_getElem? hl)
  rcases (show i = 3 * (i / 3) ∨ i = 3 * (i / 3) + 1 ∨ i = 3 * (i / 3) + 2 by omega) with e | e | e
  · rw [e, a]; exact a2
  · rw [e, b]; exact b2
  · rw [e, c]; exact c2
/-- the lines as the letter j sees them -/
def nl_j (j : Nat) (L : List (Int × Int × Int)) : List (Int × Int × Int) := if j = 0 then L else L.map qm_sw
theorem nl_jm {F : Nat → Int32} {L : List (Int × Int × Int)} (h : nl_F F L) {j o : Nat} (hjo : j + o = 1) : ∀ l ∈ nl_j j L, ∃ t, t < L.length ∧ l = ((F (3 * t + j)).toInt, (F (3 * t + o)).toInt, (F (3 * t + 2)).toInt) := by
  intro l hl
  unfold nl_j at hl
  rcases (show j = 0 ∨ j = 1 by omega) with e | e
  · subst e
    have e2 : o = 1 := by omega
    subst e2
    rw [if_pos rfl] at hl
    obtain ⟨t, ht⟩ := List.getElem?_of_mem hl
    obtain ⟨a, b, c⟩ := h t l ht
    exact ⟨t, (List.getElem?_eq_some_iff.mp ht).1, by rw [Nat.add_zero, a, b, c]⟩
  · subst e
    have e2 : o = 0 := by omega
    subst e2
    rw [if_neg (by decide)] at hl
    obtain ⟨l2, hl2, rfl⟩ := List.mem_map.mp hl
    obtain ⟨t, ht⟩ := List.getElem?_of_mem hl2
    obtain ⟨a, b, c⟩ := h t l2 ht
    exact ⟨t, (List.getElem?_eq_some_iff.mp ht).1, by show qm_sw l2 = ((F (3 * t + 1)).toInt, (F (3 * t)).toInt, (F (3 * t + 2)).toInt); rw [a, b, c]; rfl⟩
def nP_j (j : Nat) (P : Rat → Rat → Prop) (u w : Rat) : Prop := if j = 0 then P u w else P w u
theorem nP_jinv {L : List (Int × Int × Int)} {d : Nat} {P : Rat → Rat → Prop} (h : qm_inv L d P) (j : Nat) : qm_inv (nl_j j L) d (nP_j j P) := by
  by_cases e : j = 0
  · subst e
    exact h
  · unfold nl_j
    rw [if_neg e]
    intro x y x' y' hE
    unfold nP_j
    rw [if_neg e, if_neg e]
    exact qm_inv_sw h x y x' y' hE
/-- what gather's row gives: between its marks the truth of the body does not change -/
theorem ga_cell {F : Nat → Int32} {L : List (Int × Int × Int)} {d j o n : Nat} {x y : Int} {f g : Nat → Int64} {P : Rat → Rat → Prop} (hF : nl_F F L) (hjo : j + o = 1) (hy : 0 < y) (hi : qm_inv L d P) (hd : d ≤ 1) (hfr : (∀ u u' w, nP_j j P u w ↔ nP_j j P u' w) ∨ ((∀ t, t < L.length → ga_v F j o x y n f g t) ∧ (0 < d → ∀ t r, t < L.length → r < t → ga_c F j o n f g t r)))
    (s : Nat) (u u' : Rat) (hu : qi_at (mk_v f g) n s u) (hu' : qi_at (mk_v f g) n s u') : nP_j j P u (qm_fr x y) ↔ nP_j j P u' (qm_fr x y) := by
  rcases hfr with h0 | ⟨hv, hc⟩
  · exact h0 u u' _
  · exact qm_same (nP_jinv hi j) hd (ga_cov0 hy (nl_jm hF hjo) hv) (fun e => ga_cov1 (nl_jm hF hjo) (hc (by omega))) (fun m ⟨i, hi2, e⟩ => by rw [e]; exact qi_ss hu hu' i hi2)
end
section
/-! Atom.isTrueAt -/
def VB (d : Nat) : Nat := if d = 0 then 24021 else if d = 1 then 1201 else 60
def vx_b (fv gv : Nat → Int64) (d : Nat) : Prop := ∀ i, i < 2 → 0 < (gv i).toInt ∧ (gv i).toInt ≤ VB d ∧ (fv i).toInt.natAbs ≤ VB d
theorem VB_le (d : Nat) : VB d ≤ 24021 := by unfold VB; split; omega; split <;> omega
def vX (fv gv : Nat → Int64) : Rat := qm_fr (fv 0).toInt (gv 0).toInt
def vY (fv gv : Nat → Int64) : Rat := qm_fr (fv 1).toInt (gv 1).toInt
theorem at_sum {L : Int × Int × Int} {u d v e : Int} (hd : 0 < d) (he : 0 < e) {s : Int} (hs : s = L.1 * u * e + L.2.1 * v * d + L.2.2 * d * e) : (qm_at L (qm_fr u d) (qm_fr v e) = 0 ↔ s = 0) ∧ (qm_at L (qm_fr u d) (qm_fr v e) < 0 ↔ s < 0) ∧ (qm_at L (qm_fr u d) (qm_fr v e) ≤ 0 ↔ s ≤ 0) := by
  have h := qm_at_ss L hd he (u := u) (v := v)
  rw [← hs] at h
  exact ⟨h.2.trans Rat.intCast_eq_zero_iff, h.1.trans Rat.intCast_neg_iff, (qm_ss_le h).trans Rat.intCast_nonpos⟩
section G20
variable (l : Launch) (D : va_G) (cI cJ cZ cN : ClassId)
set_option maxHeartbeats 4000000 in
set_option maxRecDepth 100000 in
theorem c_At_isTrueAt (h0 sz la op v va vb om im d : Nat) (fr dp gr ca cb cc : Int32) (L : Int × Int × Int) (fv gv : Nat → Int64) (rm : Room) (M : Nat → Option va_E) (hat : M h0 = some (.inr (1, [.int fr, .int dp, .ref la, .int gr, .int ca, .int cb, .int cc, .int (nI op)]))) (ha : ca.toInt = L.1) (hb9 : cb.toInt = L.2.1) (hc9 : cc.toInt = L.2.2) (hL : L.1.natAbs ≤ 5 ∧ L.2.1.natAbs ≤ 5 ∧ L.2.2.natAbs ≤ 5) (hop : op < 3) (hV : vs_S cJ M v va vb om im fv gv) (hvb : vx_b fv gv d) (hrc : rm.cells = 0) (hrs : rm.slots = 0) : Met l y_At_isTrueAt (.code y_At_isTrueAt b_At_isTrueAt 8 (some .boolean) :: ww) (rm) (hw_Pc D qcl (qty cI cJ cZ cN) [.ref h0, .ref v] M sz) (va_Qi (fun r M1 => it_b r (qm_atom L op (vX fv gv) (vY fv gv)) ∧ M1 = M) (hw_B D qcl (qty cI cJ cZ cN) M sz) (hw_A M sz)) 0 0 (hw_A M sz) := by
  obtain ⟨hv, hva, hvb9⟩ := hV
  refine hw_met (by decide) (Nat.le_of_ble_eq_true rfl) ?_
  intro p e s m below meth c hx hb hr hml hown hlocks hnm hts hsz hX hW ls hl
  subst hsz
  have hA : ∀ q, s.heap.size ≤ q → hw_A M s.heap.size q := fun q h => Or.inr h
  have hS : va_S (hw_A M s.heap.size) s.heap s.heap [] := va_S.rf
  have hl : lv_has ls 8 [(0, .ref h0), (1, .ref v)] := hl
  have hown : s.vm.findClass "QuantifierOut$Atom" = some m.cls := hown
  refine lv_aload_n hx hb d_At_isTrueAt_0 rfl (lv_at hl 1 rfl) ?_
  refine hw_get (own := "QuantifierOut$Atom") (v := .ref vb) hx hb hts i_Vs hown hW hv rfl 1 (by decide) (hts _ tw_57) (fun _ h9 => h9) rfl d_At_isTrueAt_1 ?_
  refine lv_iconst (v := 0) hx hb d_At_isTrueAt_4 (by decide) ?_
  refine hw_lld hx hb hW 1 hvb9 rfl 0 rfl (by omega) (by decide) d_At_isTrueAt_5 ?_
  refine lv_topl (fun gx egx => ?_)
  refine lv_lstore_n (lv' := [(2, .long gx), (0, .ref h0), (1, .ref v)]) hx hb d_At_isTrueAt_6 rfl hl (by decide) rfl (fun ls hl => ?_)
  refine lv_aload_n hx hb d_At_isTrueAt_7 rfl (lv_at hl 2 rfl) ?_
  refine hw_get (own := "QuantifierOut$Atom") (v := .ref vb) hx hb hts i_Vs hown hW hv rfl 1 (by decide) (hts _ tw_57) (fun _ h9 => h9) rfl d_At_isTrueAt_8 ?_
  refine lv_iconst (v := 1) hx hb d_At_isTrueAt_11 (by decide) ?_
  refine hw_lld hx hb hW 1 hvb9 rfl 1 rfl (by omega) (by decide) d_At_isTrueAt_12 ?_
  refine lv_topl (fun gy egy => ?_)
  refine lv_lstore (lv' := [(4, .long gy), (2, .long gx), (0, .ref h0), (1, .ref v)]) hx hb d_At_isTrueAt_13 hl (by decide) rfl (fun ls hl => ?_)
  refine lv_aload_n hx hb d_At_isTrueAt_15 rfl (lv_at hl 2 rfl) ?_
  refine hw_get (own := "QuantifierOut$Atom") (v := .int ca) hx hb hts i_At hown hW hat rfl 4 (by decide) (hts _ tw_224) (fun _ h9 => h9) rfl d_At_isTrueAt_16 ?_
  obtain ⟨x1, ex1⟩ : ∃ y9 : Int64, y9 = (ca : Int32).toInt64 := ⟨_, rfl⟩
  refine lv_i2l (v := x1) hx hb d_At_isTrueAt_19 ex1.symm ?_
  refine lv_aload_n hx hb d_At_isTrueAt_20 rfl (lv_at hl 3 rfl) ?_
  refine hw_get (own := "QuantifierOut$Atom") (v := .ref va) hx hb hts i_Vs hown hW hv rfl 0 (by decide) (hts _ tw_54) (fun _ h9 => h9) rfl d_At_isTrueAt_21 ?_
  refine lv_iconst (v := 0) hx hb d_At_isTrueAt_24 (by decide) ?_
  refine hw_lld hx hb hW 1 hva rfl 0 rfl (by omega) (by decide) d_At_isTrueAt_25 ?_
  refine lv_topl (fun ux eux => ?_)
  refine lv_lmul hx hb d_At_isTrueAt_26 ?_
  refine lv_topl (fun x2 ex2 => ?_)
  refine lv_lload hx hb d_At_isTrueAt_27 (lv_at hl 0 rfl) ?_
  refine lv_lmul hx hb d_At_isTrueAt_29 ?_
  refine lv_topl (fun x3 ex3 => ?_)
  refine lv_aload_n hx hb d_At_isTrueAt_30 rfl (lv_at hl 2 rfl) ?_
  refine hw_get (own := "QuantifierOut$Atom") (v := .int cb) hx hb hts i_At hown hW hat rfl 5 (by decide) (hts _ tw_225) (fun _ h9 => h9) rfl d_At_isTrueAt_31 ?_
  obtain ⟨x4, ex4⟩ : ∃ y9 : Int64, y9 = (cb : Int32).toInt64 := ⟨_, rfl⟩
  refine lv_i2l (v := x4) hx hb d_At_isTrueAt_34 ex4.symm ?_
  refine lv_aload_n hx hb d_At_isTrueAt_35 rfl (lv_at hl 3 rfl) ?_
  refine hw_get (own := "QuantifierOut$Atom") (v := .ref va) hx hb hts i_Vs hown hW hv rfl 0 (by decide) (hts _ tw_54) (fun _ h9 => h9) rfl d_At_isTrueAt_36 ?_
  refine lv_iconst (v := 1) hx hb d_At_isTrueAt_39 (by decide) ?_
  refine hw_lld hx hb hW 1 hva rfl 1 rfl (by omega) (by decide) d_At_isTrueAt_40 ?_
  refine lv_topl (fun uy euy => ?_)
  refine lv_lmul hx hb d_At_isTrueAt_41 ?_
  refine lv_topl (fun x5 ex5 => ?_)
  refine lv_lload_n hx hb d_At_isTrueAt_42 rfl (lv_at hl 1 rfl) ?_
  refine lv_lmul hx hb d_At_isTrueAt_43 ?_
  refine lv_topl (fun x6 ex6 => ?_)
  refine lv_ladd hx hb d_At_isTrueAt_44 ?_
  refine lv_topl (fun x7 ex7 => ?_)
  refine lv_aload_n hx hb d_At_isTrueAt_45 rfl (lv_at hl 2 rfl) ?_
  refine hw_get (own := "QuantifierOut$Atom") (v := .int cc) hx hb hts i_At hown hW hat rfl 6 (by decide) (hts _ tw_226) (fun _ h9 => h9) rfl d_At_isTrueAt_46 ?_
  obtain ⟨x8, ex8⟩ : ∃ y9 : Int64, y9 = (cc : Int32).toInt64 := ⟨_, rfl⟩
  refine lv_i2l (v := x8) hx hb d_At_isTrueAt_49 ex8.symm ?_
  refine lv_lload_n hx hb d_At_isTrueAt_50 rfl (lv_at hl 1 rfl) ?_
  refine lv_lmul hx hb d_At_isTrueAt_51 ?_
  refine lv_topl (fun x9 ex9 => ?_)
  refine lv_lload hx hb d_At_isTrueAt_52 (lv_at hl 0 rfl) ?_
  refine lv_lmul hx hb d_At_isTrueAt_54 ?_
  refine lv_topl (fun x10 ex10 => ?_)
  refine lv_ladd hx hb d_At_isTrueAt_55 ?_
  refine lv_topl (fun x11 ex11 => ?_)
  refine lv_lstore (lv' := [(6, .long x11), (4, .long gy), (2, .long gx), (0, .ref h0), (1, .ref v)]) hx hb d_At_isTrueAt_56 hl (by decide) rfl (fun ls hl => ?_)
  refine lv_aload_n hx hb d_At_isTrueAt_58 rfl (lv_at hl 3 rfl) ?_
  refine hw_get (own := "QuantifierOut$Atom") (v := .int (nI op)) hx hb hts i_At hown hW hat rfl 7 (by decide) (hts _ tw_227) (fun _ h9 => h9) rfl d_At_isTrueAt_59 ?_
  have hvb0 := VB_le d
  obtain ⟨p1, p2, p3⟩ := hvb 0 (by omega); obtain ⟨p4, p5, p6⟩ := hvb 1 (by omega)
  obtain ⟨l1, l2, l3⟩ := hL
  have ta : x1.toInt = L.1 := by rw [ex1, nm_i2l, ha]
  have tb : x4.toInt = L.2.1 := by rw [ex4, nm_i2l, hb9]
  have tc : x8.toInt = L.2.2 := by rw [ex8, nm_i2l, hc9]
  have q1 : (fv 0).toInt.natAbs ≤ 24021 := by omega
  have q2 : (fv 1).toInt.natAbs ≤ 24021 := by omega
  have q3 : (gv 0).toInt.natAbs ≤ 24021 := by omega
  have q4 : (gv 1).toInt.natAbs ≤ 24021 := by omega
  have z1 := nm_mulb l1 q1
  have tx2 : x2.toInt = L.1 * (fv 0).toInt := by rw [ex2, nm_lmul (by rw [ta, eux]; omega), ta, eux]
  have z2 := nm_mulb z1 q4
  have tx3 : x3.toInt = L.1 * (fv 0).toInt * (gv 1).toInt := by rw [ex3, nm_lmul (by rw [tx2, egy]; omega), tx2, egy]
  have z3 := nm_mulb l2 q2
  have tx5 : x5.toInt = L.2.1 * (fv 1).toInt := by rw [ex5, nm_lmul (by rw [tb, euy]; omega), tb, euy]
  have z4 := nm_mulb z3 q3
  have tx6 : x6.toInt = L.2.1 * (fv 1).toInt * (gv 0).toInt := by rw [ex6, nm_lmul (by rw [tx5, egx]; omega), tx5, egx]
  have tx7 : x7.toInt = L.1 * (fv 0).toInt * (gv 1).toInt + L.2.1 * (fv 1).toInt * (gv 0).toInt := by rw [ex7, nm_ladd (by rw [tx3, tx6]; omega), tx3, tx6]
  have z5 := nm_mulb l3 q3
  have tx9 : x9.toInt = L.2.2 * (gv 0).toInt := by rw [ex9, nm_lmul (by rw [tc, egx]; omega), tc, egx]
  have z6 := nm_mulb z5 q4
  have tx10 : x10.toInt = L.2.2 * (gv 0).toInt * (gv 1).toInt := by rw [ex10, nm_lmul (by rw [tx9, egy]; omega), tx9, egy]
  have tx11 : x11.toInt = L.1 * (fv 0).toInt * (gv 1).toInt + L.2.1 * (fv 1).toInt * (gv 0).toInt + L.2.2 * (gv 0).toInt * (gv 1).toInt := by rw [ex11, nm_ladd (by rw [tx7, tx10]; omega), tx7, tx10]
  obtain ⟨r0, r1, r2⟩ := at_sum p1 p4 tx11
  have h00 : (0 : Int64).toInt = 0 := rfl
  rcases (show op = 0 ∨ op = 1 ∨ op = 2 by omega) with rfl | rfl | rfl
  · skip
    refine lv_lookup (off := 26) (tgt := 88) hx hb d_At_isTrueAt_62 (by decide) (by decide) (by decide) ?_
    refine lv_lload hx hb d_At_isTrueAt_88 (lv_at hl 0 rfl) ?_
    refine lv_lconst (v := 0) hx hb d_At_isTrueAt_90 (by decide) ?_
    refine W.lcmp hx hb d_At_isTrueAt_91 ?_
    refine lv_if_ne (tgt := 99) hx hb d_At_isTrueAt_92 (by decide) (fun c_l => ?_) (fun c_l => ?_)
    · skip
      first | rw [lg_cmp_eq] at c_l | rw [ne_eq, lg_cmp_eq] at c_l | simp only [ne_eq, lg_cmp_eq, not_not, Decidable.not_not] at c_l
      refine lv_iconst (v := 0) hx hb d_At_isTrueAt_99 (by decide) ?_
      refine hw_retz hx hb hr rfl hlocks hW hS ⟨Or.inr ⟨rfl, ?_⟩, rfl⟩ d_At_isTrueAt_100
      unfold qm_atom vX vY; rw [if_pos rfl]
      rw [nm_leq, h00] at c_l
      exact fun q => absurd (r0.mp q) (by omega)
    · skip
      first | rw [lg_cmp_eq] at c_l | rw [ne_eq, lg_cmp_eq] at c_l | simp only [ne_eq, lg_cmp_eq, not_not, Decidable.not_not] at c_l
      refine lv_iconst (v := 1) hx hb d_At_isTrueAt_95 (by decide) ?_
      refine lv_goto (tgt := 100) hx hb d_At_isTrueAt_96 (by decide) ?_
      refine hw_retz hx hb hr rfl hlocks hW hS ⟨Or.inl ⟨rfl, ?_⟩, rfl⟩ d_At_isTrueAt_100
      unfold qm_atom vX vY; rw [if_pos rfl]
      rw [nm_leq, h00] at c_l
      exact r0.mpr (by omega)
  · skip
    refine lv_lookup (off := 39) (tgt := 101) hx hb d_At_isTrueAt_62 (by decide) (by decide) (by decide) ?_
    refine lv_lload hx hb d_At_isTrueAt_101 (lv_at hl 0 rfl) ?_
    refine lv_lconst (v := 0) hx hb d_At_isTrueAt_103 (by decide) ?_
    refine W.lcmp hx hb d_At_isTrueAt_104 ?_
    refine lv_if_ge (tgt := 112) hx hb d_At_isTrueAt_105 (by decide) (fun c_l => ?_) (fun c_l => ?_)
    · skip
      rw [lg_cmp_ge] at c_l
      refine lv_iconst (v := 0) hx hb d_At_isTrueAt_112 (by decide) ?_
      refine hw_retz hx hb hr rfl hlocks hW hS ⟨Or.inr ⟨rfl, ?_⟩, rfl⟩ d_At_isTrueAt_113
      unfold qm_atom vX vY; rw [if_neg (by decide), if_pos rfl]
      rw [nm_lle, h00] at c_l
      exact fun q => absurd (r1.mp q) (by omega)
    · skip
      rw [lg_cmp_ge] at c_l
      refine lv_iconst (v := 1) hx hb d_At_isTrueAt_108 (by decide) ?_
      refine lv_goto (tgt := 113) hx hb d_At_isTrueAt_109 (by decide) ?_
      refine hw_retz hx hb hr rfl hlocks hW hS ⟨Or.inl ⟨rfl, ?_⟩, rfl⟩ d_At_isTrueAt_113
      unfold qm_atom vX vY; rw [if_neg (by decide), if_pos rfl]
      rw [nm_lle, h00] at c_l
      exact r1.mpr (by omega)
  · skip
    refine lv_lookup (off := 52) (tgt := 114) hx hb d_At_isTrueAt_62 (by decide) (by decide) (by decide) ?_
    refine lv_lload hx hb d_At_isTrueAt_114 (lv_at hl 0 rfl) ?_
    refine lv_lconst (v := 0) hx hb d_At_isTrueAt_116 (by decide) ?_
    refine W.lcmp hx hb d_At_isTrueAt_117 ?_
    refine lv_if_gt (tgt := 125) hx hb d_At_isTrueAt_118 (by decide) (fun c_l => ?_) (fun c_l => ?_)
    · skip
      rw [lg_cmp_gt] at c_l
      refine lv_iconst (v := 0) hx hb d_At_isTrueAt_125 (by decide) ?_
      refine hw_retz hx hb hr rfl hlocks hW hS ⟨Or.inr ⟨rfl, ?_⟩, rfl⟩ d_At_isTrueAt_126
      unfold qm_atom vX vY; rw [if_neg (by decide), if_neg (by decide)]
      rw [nm_llt, h00] at c_l
      exact fun q => absurd (r2.mp q) (by omega)
    · skip
      rw [lg_cmp_gt] at c_l
      refine lv_iconst (v := 1) hx hb d_At_isTrueAt_121 (by decide) ?_
      refine lv_goto (tgt := 126) hx hb d_At_isTrueAt_122 (by decide) ?_
      refine hw_retz hx hb hr rfl hlocks hW hS ⟨Or.inl ⟨rfl, ?_⟩, rfl⟩ d_At_isTrueAt_126
      unfold qm_atom vX vY; rw [if_neg (by decide), if_neg (by decide)]
      rw [nm_llt, h00] at c_l
      exact r2.mpr (by omega)
end G20
end
section
/-! Node.isTrueAt: what is claimed of every kind of node, and the call by the receiver's kind; Pair and Negation -/
def ev_S (cJ : ClassId) (M : Nat → Option va_E) (v va vb om oa ob im ia ib : Nat) (fv gv : Nat → Int64) : Prop := vs_S cJ M v va vb om im fv gv ∧ (∃ n f g, mk_S cJ M om oa ob n f g) ∧ ∃ n f g, mk_S cJ M im ia ib n f g
def ev_D (va vb om oa ob im ia ib : Nat) : Prop := va ≠ vb ∧ va ≠ oa ∧ va ≠ ob ∧ va ≠ ia ∧ va ≠ ib ∧ vb ≠ oa ∧ vb ≠ ob ∧ vb ≠ ia ∧ vb ≠ ib ∧ oa ≠ ob ∧ ia ≠ ib ∧ oa ≠ ia ∧ oa ≠ ib ∧ ob ≠ ia ∧ ob ≠ ib ∧ om ≠ im
/-- what a node of depth d may have written on -/
def it_fr (om oa ob im ia ib d : Nat) (M M1 : Nat → Option va_E) : Prop := ∀ q, (d = 0 ∨ (q ≠ im ∧ q ≠ ia ∧ q ≠ ib)) → (d < 2 ∨ (q ≠ om ∧ q ≠ oa ∧ q ≠ ob)) → M1 q = M q
theorem it_fr_rf {om oa ob im ia ib d : Nat} {M : Nat → Option va_E} : it_fr om oa ob im ia ib d M M := fun _ _ _ => rfl
theorem it_fr_tr {om oa ob im ia ib d d1 d2 : Nat} {M M1 M2 : Nat → Option va_E} (h1 : it_fr om oa ob im ia ib d1 M M1) (h2 : it_fr om oa ob im ia ib d2 M1 M2) (k1 : d1 ≤ d) (k2 : d2 ≤ d) : it_fr om oa ob im ia ib d M M2 := fun q a b =>
  (h2 q (a.imp (fun e => by omega) id) (b.imp (fun e => by omega) id)).trans (h1 q (a.imp (fun e => by omega) id) (b.imp (fun e => by omega) id))
theorem it_fr_tb {cI cJ : ClassId} {v va vb om oa ob im ia ib d : Nat} {fv gv : Nat → Int64} {M M1 : Nat → Option va_E} {tb : Nat → Option nq} (h : tb_ok cI M tb) (hE : ev_S cJ M v va vb om oa ob im ia ib fv gv) (hf : it_fr om oa ob im ia ib d M M1) : tb_ok cI M1 tb := by
  obtain ⟨-, ⟨n1, f1, g1, k1, k2, k3⟩, ⟨n2, f2, g2, m1, m2, m3⟩⟩ := hE
  refine tb_kept h (fun a e ha h1 h2 => hf a (Or.inr ⟨fun q => ?_, fun q => ?_, fun q => ?_⟩) (Or.inr ⟨fun q => ?_, fun q => ?_, fun q => ?_⟩))
  · subst q; exact h1 _ (Option.some.inj (ha.symm.trans m1))
  · subst q; exact h2 _ _ _ (Option.some.inj (ha.symm.trans m2))
  · subst q; exact h2 _ _ _ (Option.some.inj (ha.symm.trans m3))
  · subst q; exact h1 _ (Option.some.inj (ha.symm.trans k1))
  · subst q; exact h2 _ _ _ (Option.some.inj (ha.symm.trans k2))
  · subst q; exact h2 _ _ _ (Option.some.inj (ha.symm.trans k3))
def it_y (k : nk) : MethodName := match k with
  | .inl _ => y_At_isTrueAt
  | .inr (.inl _) => y_Pr_isTrueAt
  | .inr (.inr (.inl _)) => y_Ng_isTrueAt
  | .inr (.inr (.inr _)) => y_Qf_isTrueAt
def it_bc (k : nk) : ByteArray := match k with
  | .inl _ => b_At_isTrueAt
  | .inr (.inl _) => b_Pr_isTrueAt
  | .inr (.inr (.inl _)) => b_Ng_isTrueAt
  | .inr (.inr (.inr _)) => b_Qf_isTrueAt
def it_ml (k : nk) : Nat := match k with
  | .inl _ => 8
  | .inr (.inl _) => 2
  | .inr (.inr (.inl _)) => 2
  | .inr (.inr (.inr _)) => 9
def it_rm (N : Nat) : Room := { frames := N + 5, cells := 0, slots := 0, locals := 60 * N + 260 }
theorem it_ml_le (k : nk) : it_ml k ≤ 9 := by unfold it_ml; split <;> decide
def it_post (cJ : ClassId) (v va vb om oa ob im ia ib : Nat) (fv gv : Nat → Int64) (q : nq) (M : Nat → Option va_E) (r : Int32) (M1 : Nat → Option va_E) : Prop := it_b r (nP q (vX fv gv) (vY fv gv)) ∧ it_fr om oa ob im ia ib (nd q) M M1 ∧ ev_S cJ M1 v va vb om oa ob im ia ib fv gv
/-- every node of rank at most N keeps the contract of isTrueAt, by its own kind's method -/
def it_Met (l : Launch) (D : va_G) (cI cJ cZ cN : ClassId) (v va vb om oa ob im ia ib : Nat) (tb : Nat → Option nq) (N : Nat) : Prop :=
  ∀ a q, tb a = some q → nr q ≤ N → ∀ (M : Nat → Option va_E) (sz : Nat) (fv gv : Nat → Int64), tb_ok cI M tb → ev_S cJ M v va vb om oa ob im ia ib fv gv → vx_b fv gv (nd q) →
    Met l (it_y (nK q)) (.code (it_y (nK q)) (it_bc (nK q)) (it_ml (nK q)) (some .boolean) :: ww) (it_rm N) (hw_Pc D qcl (qty cI cJ cZ cN) [.ref a, .ref v] M sz) (va_Qi (it_post cJ v va vb om oa ob im ia ib fv gv q M) (hw_B D qcl (qty cI cJ cZ cN) M sz) (hw_A M sz)) 0 0 (hw_A M sz)
section G21
section
variable {p : Program} {l : Launch} {e : Env} {R : Room} {s : State} {m : MethodId} {args : Array Value} {below : List Frame} {meth : Method} {c : Code} {H : Heap} {locs : List Loc} {cells slots : Nat} {Q : State → Prop}
variable {cc : ByteArray} {pc : Nat} {ls : Array Slot} {rest : List Value} {D : va_G} {A : Nat → Prop} {tys : List (ClassId × FieldType)} {M : Nat → Option va_E}
theorem it_run (n : Nat) (hn1 : n = 1) {k : nk} {nL index : Nat} {rm : Room} {Qc : Array Value → State → Outcome → State → Prop} {free : Addr → Prop} {own : String} {b v : Nat} {fs : List Value} {st0 : List Value}
    (hx : p.tables.exec = Jvm.exec) (hb : c.code = cc) (hml : c.maxLocals = nL) (hown : s.vm.findClass own = some m.cls) (hts : ∀ w ∈ ww, w.before args s = true) (hX : hw_X s) (hW : hw_W D qcl tys A M s H) (hl : ls.size = nL)
    (hM : Met l (it_y k) (.code (it_y k) (it_bc k) (it_ml k) (some .boolean) :: ww) rm (hw_Pc D qcl tys [.ref b, .ref v] M H.size) Qc 0 0 free)
    (hbM : M b = some (.inr (nk_ci k, fs)))
    (w1 : Cond.methodLink own index ⟨"QuantifierOut$Node", "isTrueAt", "(LQuantifierOut$Values;)Z"⟩ ∈ ww)
    (hrc : rm.cells = 0) (hrs : rm.slots = 0) (hR : rm.frames + 1 ≤ R.frames ∧ 8 + (9 + 11) + rm.locals ≤ R.locals) (hst : st0 = .ref v :: .ref b :: rest) (hrw : (rest.map fun v => v.category).sum ≤ 8)
    (hdg : decode cc pc = .ok (.invokevirtual index, 3)) (hf : cells ≤ R.cells ∧ slots ≤ R.slots) :
    va_Run p l e R s m args below meth c H locs cells slots 0 0 (F0 m pc ls st0) rest (Qc [Value.ref b, Value.ref v].toArray) free := by
  subst hn1
  have hdecl : va_Decl s ⟨"QuantifierOut$Node", "isTrueAt", "(LQuantifierOut$Values;)Z"⟩ := va_Decl.abs (hX.1 _ (by decide))
  have hk := it_ml_le k
  have hR2 : ∀ z, z ≤ 9 → rm.frames + 1 ≤ R.frames ∧ 8 + (z + 11) + rm.locals ≤ R.locals := fun z hz => ⟨hR.1, by omega⟩
  match k, hM, hbM with
  | .inl _, hM, hbM => exact hw_runU (n := 1) (C := "QuantifierOut$Atom") (As := [.ref v]) hx hb hml hown hts hX hW hl hM hbM rfl hdecl w1 tw_453 tw_454 tw_455 tw_12 tw_456 (by decide +kernel) hrc hrs (hR2 8 (by decide)) rfl hst hrw hdg hf
  | .inr (.inl _), hM, hbM => exact hw_runU (n := 1) (C := "QuantifierOut$Pair") (As := [.ref v]) hx hb hml hown hts hX hW hl hM hbM rfl hdecl w1 tw_453 tw_499 tw_461 tw_14 tw_462 (by decide +kernel) hrc hrs (hR2 2 (by decide)) rfl hst hrw hdg hf
  | .inr (.inr (.inl _)), hM, hbM => exact hw_runU (n := 1) (C := "QuantifierOut$Negation") (As := [.ref v]) hx hb hml hown hts hX hW hl hM hbM rfl hdecl w1 tw_453 tw_457 tw_458 tw_17 tw_459 (by decide +kernel) hrc hrs (hR2 2 (by decide)) rfl hst hrw hdg hf
  | .inr (.inr (.inr _)), hM, hbM => exact hw_runU (n := 1) (C := "QuantifierOut$Quantified") (As := [.ref v]) hx hb hml hown hts hX hW hl hM hbM rfl hdecl w1 tw_453 tw_500 tw_464 tw_18 tw_465 (by decide +kernel) hrc hrs (hR2 9 (by decide)) rfl hst hrw hdg hf
end
theorem it_b1 {r : Int32} {p : Prop} (h : it_b r p) (hr : ¬ r = 0) : p := by
  rcases h with ⟨_, h⟩ | ⟨h, _⟩
  · exact h
  · exact absurd h hr
theorem it_b0 {r : Int32} {p : Prop} (h : it_b r p) (hr : r = 0) : ¬ p := by
  rcases h with ⟨h, _⟩ | ⟨_, h⟩
  · rw [hr] at h; exact absurd h (by decide)
  · exact h
theorem VB_mono {a b : Nat} (h : a ≤ b) : VB b ≤ VB a := by
  unfold VB
  by_cases h1 : b = 0
  · rw [if_pos h1, if_pos (by omega)]; omega
  · rw [if_neg h1]
    by_cases h2 : a = 0
    · rw [if_pos h2]; split <;> omega
    · rw [if_neg h2]
      by_cases h3 : b = 1
      · rw [if_pos h3, if_pos (by omega)]; omega
      · rw [if_neg h3]; split <;> omega
theorem vx_b_mono {fv gv : Nat → Int64} {a b : Nat} (h : a ≤ b) (k : vx_b fv gv b) : vx_b fv gv a := fun i hi => by
  have := VB_mono h
  obtain ⟨h1, h2, h3⟩ := k i hi
  exact ⟨h1, by omega, by omega⟩
variable (l : Launch) (D : va_G) (cI cJ cZ cN : ClassId) (v va vb om oa ob im ia ib : Nat) (tb : Nat → Option nq)
set_option maxHeartbeats 4000000 in
set_option maxRecDepth 100000 in
theorem c_Ng_isTrueAt (N : Nat) (ih : it_Met l D cI cJ cZ cN v va vb om oa ob im ia ib tb N) (h0 : Nat) (q : nq) (hq : tb h0 = some q) (hN : nr q ≤ N + 1) (M : Nat → Option va_E) (sz : Nat) (fv gv : Nat → Int64) (hT : tb_ok cI M tb) (hE : ev_S cJ M v va vb om oa ob im ia ib fv gv) (hb9 : vx_b fv gv (nd q)) (a : Nat) (hK : nK q = .inr (.inr (.inl a))) : Met l y_Ng_isTrueAt (.code y_Ng_isTrueAt b_Ng_isTrueAt 2 (some .boolean) :: ww) (it_rm (N + 1)) (hw_Pc D qcl (qty cI cJ cZ cN) [.ref h0, .ref v] M sz) (va_Qi (it_post cJ v va vb om oa ob im ia ib fv gv q M) (hw_B D qcl (qty cI cJ cZ cN) M sz) (hw_A M sz)) 0 0 (hw_A M sz) := by
  obtain ⟨⟨la, gr, F, ⟨_, hc⟩, hla, hF, hg⟩, hok⟩ := hT h0 q hq
  have hk := hok.1
  unfold nk_ok at hk
  unfold nk_ex nk_ci at hc
  rw [hK] at hk hc
  dsimp only at hk hc
  obtain ⟨q1, h1, h2, h3, h4, h5⟩ := hk
  refine hw_met (by decide) (Nat.le_of_ble_eq_true rfl) ?_
  intro p e s m below meth c hx hb hr hml hown hlocks hnm hts hsz hX hW ls hl
  subst hsz
  have hA : ∀ q, s.heap.size ≤ q → hw_A M s.heap.size q := fun q h => Or.inr h
  have hS : va_S (hw_A M s.heap.size) s.heap s.heap [] := va_S.rf
  have hl : lv_has ls 2 [(0, .ref h0), (1, .ref v)] := hl
  have hown : s.vm.findClass "QuantifierOut$Negation" = some m.cls := hown
  refine lv_aload_n hx hb d_Ng_isTrueAt_0 rfl (lv_at hl 0 rfl) ?_
  refine hw_get (own := "QuantifierOut$Negation") (v := .ref a) hx hb hts i_Ng hown hW hc rfl 4 (by decide) (hts _ tw_368) (fun _ h9 => h9) rfl d_Ng_isTrueAt_1 ?_
  refine lv_aload_n hx hb d_Ng_isTrueAt_4 rfl (lv_at hl 1 rfl) ?_
  obtain ⟨⟨la_a, gr_a, F_a, hc_a, _⟩, _⟩ := hT a q1 h1
  refine hw_calli (it_run 1 rfl (own := "QuantifierOut$Negation") (rest := []) hx hb hml hown hts hX hW hl.1 (ih a q1 h1 (by omega) M _ fv gv hT hE (vx_b_mono (by omega) hb9)) hc_a.2 tw_460 rfl rfl ⟨by show N + 5 + 1 ≤ N + 1 + 5; omega, by show 8 + (9 + 11) + (60 * N + 260) ≤ 60 * (N + 1) + 260; omega⟩ rfl (Nat.le_of_ble_eq_true rfl) d_Ng_isTrueAt_5 ⟨Nat.le_refl 0, Nat.le_refl 0⟩) hW hS hA (fun r1 M1 H locs hp hz hW hS => ?_)
  obtain ⟨p1, p2, p3⟩ := hp
  refine lv_if_ne (tgt := 15) hx hb d_Ng_isTrueAt_8 (by decide) (fun c_8 => ?_) (fun c_8 => ?_)
  · skip
    refine lv_iconst (v := 0) hx hb d_Ng_isTrueAt_15 (by decide) ?_
    exact hw_retz hx hb hr rfl hlocks hW hS ⟨Or.inr ⟨rfl, fun z => (h5 _ _).mp z (it_b1 p1 c_8)⟩, by rw [h3]; exact p2, p3⟩ d_Ng_isTrueAt_16
  · skip
    refine lv_iconst (v := 1) hx hb d_Ng_isTrueAt_11 (by decide) ?_
    refine lv_goto (tgt := 16) hx hb d_Ng_isTrueAt_12 (by decide) ?_
    exact hw_retz hx hb hr rfl hlocks hW hS ⟨Or.inl ⟨rfl, (h5 _ _).mpr (it_b0 p1 c_8)⟩, by rw [h3]; exact p2, p3⟩ d_Ng_isTrueAt_16
set_option maxHeartbeats 4000000 in
set_option maxRecDepth 100000 in
theorem c_Pr_isTrueAt (N : Nat) (ih : it_Met l D cI cJ cZ cN v va vb om oa ob im ia ib tb N) (h0 : Nat) (q : nq) (hq : tb h0 = some q) (hN : nr q ≤ N + 1) (M : Nat → Option va_E) (sz : Nat) (fv gv : Nat → Int64) (hT : tb_ok cI M tb) (hE : ev_S cJ M v va vb om oa ob im ia ib fv gv) (hb9 : vx_b fv gv (nd q)) (a b : Nat) (kk : Bool) (hK : nK q = .inr (.inl (a, b, kk))) : Met l y_Pr_isTrueAt (.code y_Pr_isTrueAt b_Pr_isTrueAt 2 (some .boolean) :: ww) (it_rm (N + 1)) (hw_Pc D qcl (qty cI cJ cZ cN) [.ref h0, .ref v] M sz) (va_Qi (it_post cJ v va vb om oa ob im ia ib fv gv q M) (hw_B D qcl (qty cI cJ cZ cN) M sz) (hw_A M sz)) 0 0 (hw_A M sz) := by
  obtain ⟨⟨la, gr, F, ⟨hci, hc⟩, hla, hF, hg⟩, hok⟩ := hT h0 q hq
  have hk := hok.1
  unfold nk_ok at hk
  unfold nk_ex nk_ci at hc
  rw [hK] at hk hc
  dsimp only at hk hc
  obtain ⟨q1, q2, h1, h2, h3, h4, h5, h6, h7⟩ := hk
  have hd1 : nd q1 ≤ nd q := by rw [h5]; exact Nat.le_max_left _ _
  have hd2 : nd q2 ≤ nd q := by rw [h5]; exact Nat.le_max_right _ _
  refine hw_met (by decide) (Nat.le_of_ble_eq_true rfl) ?_
  intro p e s m below meth c hx hb hr hml hown hlocks hnm hts hsz hX hW ls hl
  subst hsz
  have hA : ∀ q, s.heap.size ≤ q → hw_A M s.heap.size q := fun q h => Or.inr h
  have hS : va_S (hw_A M s.heap.size) s.heap s.heap [] := va_S.rf
  have hl : lv_has ls 2 [(0, .ref h0), (1, .ref v)] := hl
  have hown : s.vm.findClass "QuantifierOut$Pair" = some m.cls := hown
  refine lv_aload_n hx hb d_Pr_isTrueAt_0 rfl (lv_at hl 0 rfl) ?_
  refine hw_get (own := "QuantifierOut$Pair") (v := .int (if kk = true then 1 else 0)) hx hb hts i_Pr hown hW hc rfl 6 (by decide) (hts _ tw_326) (fun _ h9 => h9) rfl d_Pr_isTrueAt_1 ?_
  refine lv_if_eq (tgt := 35) hx hb d_Pr_isTrueAt_4 (by decide) (fun c_4 => ?_) (fun c_4 => ?_)
  · skip
    have hkk : kk = false := by cases kk; rfl; exact absurd c_4 (by decide)
    have h7 : ∀ x y, nP q x y ↔ nP q1 x y ∨ nP q2 x y := fun x y => by rw [h7 x y, hkk, if_neg (by decide)]
    refine lv_aload_n hx hb d_Pr_isTrueAt_35 rfl (lv_at hl 0 rfl) ?_
    refine hw_get (own := "QuantifierOut$Pair") (v := .ref a) hx hb hts i_Pr hown hW hc rfl 4 (by decide) (hts _ tw_324) (fun _ h9 => h9) rfl d_Pr_isTrueAt_36 ?_
    refine lv_aload_n hx hb d_Pr_isTrueAt_39 rfl (lv_at hl 1 rfl) ?_
    obtain ⟨⟨la_a, gr_a, F_a, hc_a, _⟩, _⟩ := hT a q1 h1
    refine hw_calli (it_run 1 rfl (own := "QuantifierOut$Pair") (rest := []) hx hb hml hown hts hX hW hl.1 (ih a q1 h1 (by omega) M _ fv gv hT hE (vx_b_mono hd1 hb9)) hc_a.2 tw_463 rfl rfl ⟨by show N + 5 + 1 ≤ N + 1 + 5; omega, by show 8 + (9 + 11) + (60 * N + 260) ≤ 60 * (N + 1) + 260; omega⟩ rfl (Nat.le_of_ble_eq_true rfl) d_Pr_isTrueAt_40 ⟨Nat.le_refl 0, Nat.le_refl 0⟩) hW hS hA (fun r1 M1 H locs hp hz hW hS => ?_)
    obtain ⟨p1, p2, p3⟩ := hp
    refine lv_if_ne (tgt := 57) hx hb d_Pr_isTrueAt_43 (by decide) (fun c_43 => ?_) (fun c_43 => ?_)
    · skip
      refine lv_iconst (v := 1) hx hb d_Pr_isTrueAt_57 (by decide) ?_
      refine lv_goto (tgt := 62) hx hb d_Pr_isTrueAt_58 (by decide) ?_
      exact hw_retz hx hb hr rfl hlocks hW hS ⟨Or.inl ⟨rfl, (h7 _ _).mpr (Or.inl (it_b1 p1 c_43))⟩, it_fr_tr p2 it_fr_rf hd1 hd1, p3⟩ d_Pr_isTrueAt_62
    · skip
      have hT1 := it_fr_tb hT hE p2
      obtain ⟨⟨la1, gr1, F1, ⟨_, hc1⟩, _⟩, _⟩ := hT1 h0 q hq
      unfold nk_ex nk_ci at hc1
      rw [hK] at hc1
      dsimp only at hc1
      refine lv_aload_n hx hb d_Pr_isTrueAt_46 rfl (lv_at hl 0 rfl) ?_
      refine hw_get (own := "QuantifierOut$Pair") (v := .ref b) hx hb hts i_Pr hown hW hc1 rfl 5 (by decide) (hts _ tw_325) (fun _ h9 => h9) rfl d_Pr_isTrueAt_47 ?_
      refine lv_aload_n hx hb d_Pr_isTrueAt_50 rfl (lv_at hl 1 rfl) ?_
      obtain ⟨⟨la_b, gr_b, F_b, hc_b, _⟩, _⟩ := hT1 b q2 h2
      refine hw_calli (it_run 1 rfl (own := "QuantifierOut$Pair") (rest := []) hx hb hml hown hts hX hW hl.1 (ih b q2 h2 (by omega) M1 _ fv gv hT1 p3 (vx_b_mono hd2 hb9)) hc_b.2 tw_463 rfl rfl ⟨by show N + 5 + 1 ≤ N + 1 + 5; omega, by show 8 + (9 + 11) + (60 * N + 260) ≤ 60 * (N + 1) + 260; omega⟩ rfl (Nat.le_of_ble_eq_true rfl) d_Pr_isTrueAt_51 ⟨Nat.le_refl 0, Nat.le_refl 0⟩) hW hS hA (fun r2 M2 H locs hp2 hz hW hS => ?_)
      obtain ⟨s1, s2, s3⟩ := hp2
      refine lv_if_eq (tgt := 61) hx hb d_Pr_isTrueAt_54 (by decide) (fun c_54 => ?_) (fun c_54 => ?_)
      · skip
        refine lv_iconst (v := 0) hx hb d_Pr_isTrueAt_61 (by decide) ?_
        exact hw_retz hx hb hr rfl hlocks hW hS ⟨Or.inr ⟨rfl, fun z => ((h7 _ _).mp z).elim (it_b0 p1 c_43) (it_b0 s1 c_54)⟩, it_fr_tr p2 s2 hd1 hd2, s3⟩ d_Pr_isTrueAt_62
      · skip
        refine lv_iconst (v := 1) hx hb d_Pr_isTrueAt_57 (by decide) ?_
        refine lv_goto (tgt := 62) hx hb d_Pr_isTrueAt_58 (by decide) ?_
        exact hw_retz hx hb hr rfl hlocks hW hS ⟨Or.inl ⟨rfl, (h7 _ _).mpr (Or.inr (it_b1 s1 c_54))⟩, it_fr_tr p2 s2 hd1 hd2, s3⟩ d_Pr_isTrueAt_62
  · skip
    have hkk : kk = true := by cases kk; exact absurd rfl c_4; rfl
    have h7 : ∀ x y, nP q x y ↔ nP q1 x y ∧ nP q2 x y := fun x y => by rw [h7 x y, hkk, if_pos rfl]
    refine lv_aload_n hx hb d_Pr_isTrueAt_7 rfl (lv_at hl 0 rfl) ?_
    refine hw_get (own := "QuantifierOut$Pair") (v := .ref a) hx hb hts i_Pr hown hW hc rfl 4 (by decide) (hts _ tw_324) (fun _ h9 => h9) rfl d_Pr_isTrueAt_8 ?_
    refine lv_aload_n hx hb d_Pr_isTrueAt_11 rfl (lv_at hl 1 rfl) ?_
    obtain ⟨⟨la_a, gr_a, F_a, hc_a, _⟩, _⟩ := hT a q1 h1
    refine hw_calli (it_run 1 rfl (own := "QuantifierOut$Pair") (rest := []) hx hb hml hown hts hX hW hl.1 (ih a q1 h1 (by omega) M _ fv gv hT hE (vx_b_mono hd1 hb9)) hc_a.2 tw_463 rfl rfl ⟨by show N + 5 + 1 ≤ N + 1 + 5; omega, by show 8 + (9 + 11) + (60 * N + 260) ≤ 60 * (N + 1) + 260; omega⟩ rfl (Nat.le_of_ble_eq_true rfl) d_Pr_isTrueAt_12 ⟨Nat.le_refl 0, Nat.le_refl 0⟩) hW hS hA (fun r1 M1 H locs hp hz hW hS => ?_)
    obtain ⟨p1, p2, p3⟩ := hp
    refine lv_if_eq (tgt := 33) hx hb d_Pr_isTrueAt_15 (by decide) (fun c_15 => ?_) (fun c_15 => ?_)
    · skip
      refine lv_iconst (v := 0) hx hb d_Pr_isTrueAt_33 (by decide) ?_
      exact hw_retz hx hb hr rfl hlocks hW hS ⟨Or.inr ⟨rfl, fun z => it_b0 p1 c_15 ((h7 _ _).mp z).1⟩, it_fr_tr p2 it_fr_rf hd1 hd1, p3⟩ d_Pr_isTrueAt_34
    · skip
      have hT1 := it_fr_tb hT hE p2
      obtain ⟨⟨la1, gr1, F1, ⟨_, hc1⟩, _⟩, _⟩ := hT1 h0 q hq
      unfold nk_ex nk_ci at hc1
      rw [hK] at hc1
      dsimp only at hc1
      refine lv_aload_n hx hb d_Pr_isTrueAt_18 rfl (lv_at hl 0 rfl) ?_
      refine hw_get (own := "QuantifierOut$Pair") (v := .ref b) hx hb hts i_Pr hown hW hc1 rfl 5 (by decide) (hts _ tw_325) (fun _ h9 => h9) rfl d_Pr_isTrueAt_19 ?_
      refine lv_aload_n hx hb d_Pr_isTrueAt_22 rfl (lv_at hl 1 rfl) ?_
      obtain ⟨⟨la_b, gr_b, F_b, hc_b, _⟩, _⟩ := hT1 b q2 h2
      refine hw_calli (it_run 1 rfl (own := "QuantifierOut$Pair") (rest := []) hx hb hml hown hts hX hW hl.1 (ih b q2 h2 (by omega) M1 _ fv gv hT1 p3 (vx_b_mono hd2 hb9)) hc_b.2 tw_463 rfl rfl ⟨by show N + 5 + 1 ≤ N + 1 + 5; omega, by show 8 + (9 + 11) + (60 * N + 260) ≤ 60 * (N + 1) + 260; omega⟩ rfl (Nat.le_of_ble_eq_true rfl) d_Pr_isTrueAt_23 ⟨Nat.le_refl 0, Nat.le_refl 0⟩) hW hS hA (fun r2 M2 H locs hp2 hz hW hS => ?_)
      obtain ⟨s1, s2, s3⟩ := hp2
      refine lv_if_eq (tgt := 33) hx hb d_Pr_isTrueAt_26 (by decide) (fun c_26 => ?_) (fun c_26 => ?_)
      · skip
        refine lv_iconst (v := 0) hx hb d_Pr_isTrueAt_33 (by decide) ?_
        exact hw_retz hx hb hr rfl hlocks hW hS ⟨Or.inr ⟨rfl, fun z => it_b0 s1 c_26 ((h7 _ _).mp z).2⟩, it_fr_tr p2 s2 hd1 hd2, s3⟩ d_Pr_isTrueAt_34
      · skip
        refine lv_iconst (v := 1) hx hb d_Pr_isTrueAt_29 (by decide) ?_
        refine lv_goto (tgt := 34) hx hb d_Pr_isTrueAt_30 (by decide) ?_
        exact hw_retz hx hb hr rfl hlocks hW hS ⟨Or.inl ⟨rfl, (h7 _ _).mpr ⟨it_b1 p1 c_15, it_b1 s1 c_26⟩⟩, it_fr_tr p2 s2 hd1 hd2, s3⟩ d_Pr_isTrueAt_34
end G21
end
section
/-! Quantified.isTrueAt -/
theorem uL_id (f : Nat → Int64) (k : Nat) : vp_updL f k (f k) = f := by
  funext i
  unfold vp_updL
  split
  · rename_i h; rw [h]
  · rfl
theorem uL_uL (f : Nat → Int64) (k : Nat) (x y : Int64) : vp_updL (vp_updL f k x) k y = vp_updL f k y := by
  funext i
  unfold vp_updL
  split <;> rfl
theorem qf_XY {fv gv : Nat → Int64} {j o : Nat} {x y : Int64} (hjo : j + o = 1) (P : Rat → Rat → Prop) : P (vX (vp_updL fv j x) (vp_updL gv j y)) (vY (vp_updL fv j x) (vp_updL gv j y)) ↔ nP_j j P (qm_fr x.toInt y.toInt) (qm_fr (fv o).toInt (gv o).toInt) := by
  rcases (show j = 0 ∨ j = 1 by omega) with e | e
  · subst e
    have e2 : o = 1 := by omega
    subst e2
    exact Iff.rfl
  · subst e
    have e2 : o = 0 := by omega
    subst e2
    exact Iff.rfl
theorem qf_P {fv gv : Nat → Int64} {j o : Nat} {kk : Bool} {P P1 : Rat → Rat → Prop} (hjo : j + o = 1) (h : ∀ x y, P x y ↔ if kk = true then (if j = 0 then ∀ u, P1 u y else ∀ u, P1 x u) else (if j = 0 then ∃ u, P1 u y else ∃ u, P1 x u)) : P (vX fv gv) (vY fv gv) ↔ if kk = true then ∀ u, nP_j j P1 u (qm_fr (fv o).toInt (gv o).toInt) else ∃ u, nP_j j P1 u (qm_fr (fv o).toInt (gv o).toInt) := by
  rw [h]
  rcases (show j = 0 ∨ j = 1 by omega) with e | e
  · subst e
    have e2 : o = 1 := by omega
    subst e2
    cases kk <;> exact Iff.rfl
  · subst e
    have e2 : o = 0 := by omega
    subst e2
    cases kk <;> exact Iff.rfl
def qf_I (M : Nat → Rat) (n : Nat) (B : Rat → Prop) (kk : Bool) (tr : Int32) (s : Nat) : Prop := (tr = (if kk = true then 1 else 0) ∧ ∀ s', s' < s → ∀ u, qi_at M n s' u → (B u ↔ kk = true)) ∨ (¬ tr = (if kk = true then 1 else 0) ∧ (tr = 0 ∨ tr = 1) ∧ ∃ u, ¬ (B u ↔ kk = true))
theorem qf_end {M : Nat → Rat} {n : Nat} {B : Rat → Prop} {kk : Bool} {tr : Int32} {s : Nat} (hi : qm_inc M n) (h : qf_I M n B kk tr s) (hx : s = 2 * n + 1 ∨ ¬ tr = (if kk = true then 1 else 0)) : it_b tr (if kk = true then ∀ u, B u else ∃ u, B u) := by
  rcases h with ⟨h1, h2⟩ | ⟨h1, h2, u, h3⟩
  · rcases hx with hx | hx
    · have all : ∀ u, (B u ↔ kk = true) := fun u => by
        obtain ⟨s', hs, hu⟩ := qi_ex hi u
        exact h2 s' (by omega) u hu
      cases kk
      · exact Or.inr ⟨h1, fun ⟨u, hu⟩ => absurd ((all u).mp hu) (by decide)⟩
      · exact Or.inl ⟨h1, fun u => (all u).mpr rfl⟩
    · exact absurd h1 hx
  · cases kk
    · refine Or.inl ⟨h2.resolve_left (fun q => h1 (by rw [q]; rfl)), u, ?_⟩
      exact Classical.byContradiction fun q => h3 ⟨fun z => absurd z q, fun z => by cases z⟩
    · exact Or.inr ⟨h2.resolve_right (fun q => h1 (by rw [q]; rfl)), fun z => h3 ⟨fun _ => rfl, fun _ => z u⟩⟩
theorem qf_step {M : Nat → Rat} {n : Nat} {B : Rat → Prop} {kk : Bool} {tr r : Int32} {s : Nat} {u0 : Rat} (h : qf_I M n B kk tr s) (ht : tr = (if kk = true then 1 else 0)) (hu : qi_at M n s u0) (hr : it_b r (B u0)) (hc : ∀ u, qi_at M n s u → (B u ↔ B u0)) : qf_I M n B kk r (s + 1) := by
  rcases h with ⟨h1, h2⟩ | ⟨h1, _⟩
  · by_cases hq : r = (if kk = true then 1 else 0)
    · refine Or.inl ⟨hq, fun s' hs u hu' => ?_⟩
      rcases Nat.lt_or_ge s' s with c | c
      · exact h2 s' c u hu'
      · have e : s' = s := by omega
        subst e
        rw [hc u hu']
        cases kk
        · exact ⟨fun z => absurd z (it_b0 hr hq), fun z => by cases z⟩
        · exact ⟨fun _ => rfl, fun _ => it_b1 hr (by rw [hq]; decide)⟩
    · refine Or.inr ⟨hq, ?_, u0, fun z => ?_⟩
      · rcases hr with ⟨a, _⟩ | ⟨a, _⟩
        · exact Or.inr a
        · exact Or.inl a
      · rcases hr with ⟨a, b⟩ | ⟨a, b⟩
        · exact hq (by rw [a, if_pos (z.mp b)])
        · refine hq ?_
          rw [a, if_neg (fun w => b (z.mpr w))]
  · exact absurd ht h1
theorem nar01 {r : Int32} (h : r = 0 ∨ r = 1) : narrow .boolean (.int r) = .int r := by
  rcases h with h | h <;> rw [h] <;> rfl
/-- a contract with a weaker end -/
theorem it_weak {l : Launch} {y : MethodName} {ws : List Cond} {rm : Room} {Pc : Array Value → State → Prop} {S : Type} {post post2 : Int32 → S → Prop} {B : S → State → Prop} {A : Nat → Prop} {mc ms : Nat} {free : Addr → Prop} (h : Met l y ws rm Pc (va_Qi post B A) mc ms free) (hw : ∀ r u, post r u → post2 r u) : Met l y ws rm Pc (va_Qi post2 B A) mc ms free := by
  intro p e ha hc hk s m args below hf happ hP hK
  obtain ⟨n, o, h1, h2, h3, ⟨⟨⟨r, u, e1, e2, e3⟩, h5⟩, h6⟩⟩ := h p e ha hc hk s m args below hf happ hP hK
  exact ⟨n, o, h1, h2, h3, ⟨⟨r, u, e1, hw r u e2, e3⟩, h5⟩, h6⟩
section G22
variable (l : Launch) (D : va_G) (cI cJ cZ cN : ClassId) (v va vb om oa ob im ia ib : Nat) (tb : Nat → Option nq)
set_option maxHeartbeats 4000000 in
set_option maxRecDepth 100000 in
theorem c_Qf_isTrueAt (N : Nat) (ih : it_Met l D cI cJ cZ cN v va vb om oa ob im ia ib tb N) (h0 : Nat) (q : nq) (hq : tb h0 = some q) (hN : nr q ≤ N + 1) (M : Nat → Option va_E) (sz : Nat) (fv gv : Nat → Int64) (hT : tb_ok cI M tb) (hE : ev_S cJ M v va vb om oa ob im ia ib fv gv) (hb9 : vx_b fv gv (nd q)) (j a : Nat) (kk : Bool) (hK : nK q = .inr (.inr (.inr (j, a, kk)))) (hD : ev_D va vb om oa ob im ia ib) : Met l y_Qf_isTrueAt (.code y_Qf_isTrueAt b_Qf_isTrueAt 9 (some .boolean) :: ww) (it_rm (N + 1)) (hw_Pc D qcl (qty cI cJ cZ cN) [.ref h0, .ref v] M sz) (va_Qi (it_post cJ v va vb om oa ob im ia ib fv gv q M) (hw_B D qcl (qty cI cJ cZ cN) M sz) (hw_A M sz)) 0 0 (hw_A M sz) := by
  obtain ⟨⟨la, gr, F, ⟨hci, hc⟩, hla, hF, hg⟩, hok⟩ := hT h0 q hq
  have hk := hok.1
  unfold nk_ok at hk
  unfold nk_ex nk_ci at hc
  rw [hK] at hk hc
  dsimp only at hk hc
  obtain ⟨q1, hj, h1, h2, h3, h4, h5⟩ := hk
  obtain ⟨⟨la1, gr1, F1, hnd1, hla1, hF1, _⟩, hok1⟩ := hT a q1 h1
  obtain ⟨_, b1, b2, b3, b4, b5, b6, b7, b8⟩ := id hok1
  have hdq : nd q ≤ 2 := hok.2.2.2.1
  obtain ⟨o, hjo⟩ : ∃ o, j + o = 1 := ⟨1 - j, by omega⟩
  obtain ⟨hV, ⟨n8, f8, g8, hmo⟩, ⟨n9, f9, g9, hmi⟩⟩ := id hE
  obtain ⟨d1, d2, d3, d4, d5, d6, d7, d8, d9, d10, d11, d12, d13, d14, d15, d16⟩ := id hD
  have nv1 : v ≠ va := hw_ne hV.1 hV.2.1 (by simp)
  have nv2 : v ≠ vb := hw_ne hV.1 hV.2.2 (by simp)
  have nh_va : h0 ≠ va := hw_ne hc hV.2.1 (by simp)
  have nh_vb : h0 ≠ vb := hw_ne hc hV.2.2 (by simp)
  have nh_om : h0 ≠ om := hw_ne hc hmo.1 (by simp)
  have nv_om : v ≠ om := hw_ne hV.1 hmo.1 (by simp)
  have nh_oa : h0 ≠ oa := hw_ne hc hmo.2.1 (by simp)
  have nv_oa : v ≠ oa := hw_ne hV.1 hmo.2.1 (by simp)
  have nh_ob : h0 ≠ ob := hw_ne hc hmo.2.2 (by simp)
  have nv_ob : v ≠ ob := hw_ne hV.1 hmo.2.2 (by simp)
  have nh_im : h0 ≠ im := hw_ne hc hmi.1 (by simp)
  have nv_im : v ≠ im := hw_ne hV.1 hmi.1 (by simp)
  have nh_ia : h0 ≠ ia := hw_ne hc hmi.2.1 (by simp)
  have nv_ia : v ≠ ia := hw_ne hV.1 hmi.2.1 (by simp)
  have nh_ib : h0 ≠ ib := hw_ne hc hmi.2.2 (by simp)
  have nv_ib : v ≠ ib := hw_ne hV.1 hmi.2.2 (by simp)
  have n_om_va : om ≠ va := hw_ne hmo.1 hV.2.1 (by simp)
  have n_om_vb : om ≠ vb := hw_ne hmo.1 hV.2.2 (by simp)
  have n_om_oa : om ≠ oa := hw_ne hmo.1 hmo.2.1 (by simp)
  have n_om_ob : om ≠ ob := hw_ne hmo.1 hmo.2.2 (by simp)
  have n_om_ia : om ≠ ia := hw_ne hmo.1 hmi.2.1 (by simp)
  have n_om_ib : om ≠ ib := hw_ne hmo.1 hmi.2.2 (by simp)
  have n_im_va : im ≠ va := hw_ne hmi.1 hV.2.1 (by simp)
  have n_im_vb : im ≠ vb := hw_ne hmi.1 hV.2.2 (by simp)
  have n_im_oa : im ≠ oa := hw_ne hmi.1 hmo.2.1 (by simp)
  have n_im_ob : im ≠ ob := hw_ne hmi.1 hmo.2.2 (by simp)
  have n_im_ia : im ≠ ia := hw_ne hmi.1 hmi.2.1 (by simp)
  have n_im_ib : im ≠ ib := hw_ne hmi.1 hmi.2.2 (by simp)
  have hbo := hb9 o (by omega); have hbj := hb9 j hj
  have hfree : (if j = 0 then nx q1 else ny q1) = false → ∀ u u2 w9, nP_j j (nP q1) u w9 ↔ nP_j j (nP q1) u2 w9 := by
    intro hf u u2 w9
    unfold nP_j
    by_cases e : j = 0
    · rw [if_pos e] at hf; rw [if_pos e, if_pos e]; exact b7 hf u u2 w9
    · rw [if_neg e] at hf; rw [if_neg e, if_neg e]; exact b8 hf w9 u u2
  have hv0 := hV.1; have hva0 := hV.2.1; have hvb0 := hV.2.2
  refine hw_met (by decide) (Nat.le_of_ble_eq_true rfl) ?_
  intro p e s m below meth c hx hb hr hml hown hlocks hnm hts hsz hX hW ls hl
  subst hsz
  have hA : ∀ q, s.heap.size ≤ q → hw_A M s.heap.size q := fun q h => Or.inr h
  have hS : va_S (hw_A M s.heap.size) s.heap s.heap [] := va_S.rf
  have hl : lv_has ls 9 [(0, .ref h0), (1, .ref v)] := hl
  have hown : s.vm.findClass "QuantifierOut$Quantified" = some m.cls := hown
  obtain ⟨Q9, hQ9⟩ : ∃ X : State → Prop, X = MQ below (va_Qi (it_post cJ v va vb om oa ob im ia ib fv gv q M) (hw_B D qcl (qty cI cJ cZ cN) M s.heap.size) (hw_A M s.heap.size)) [.ref h0, .ref v].toArray s 0 0 (hw_A M s.heap.size) := ⟨_, rfl⟩
  rw [← hQ9]
  refine lv_aload_n hx hb d_Qf_isTrueAt_0 rfl (lv_at hl 1 rfl) ?_
  refine hw_get (own := "QuantifierOut$Quantified") (v := .ref va) hx hb hts i_Vs hown hW hv0 rfl 0 (by decide) (hts _ tw_53) (fun _ h9 => h9) rfl d_Qf_isTrueAt_1 ?_
  refine lv_aload_n hx hb d_Qf_isTrueAt_4 rfl (lv_at hl 0 rfl) ?_
  refine hw_get (own := "QuantifierOut$Quantified") (v := .int (nI j)) hx hb hts i_Qf hown hW hc rfl 4 (by decide) (hts _ tw_395) (fun _ h9 => h9) rfl d_Qf_isTrueAt_5 ?_
  refine hw_lld hx hb hW 1 hva0 rfl j rfl hj (by decide) d_Qf_isTrueAt_8 ?_
  refine lv_topl (fun fj efj => ?_)
  refine lv_lstore_n (lv' := [(2, .long fj), (0, .ref h0), (1, .ref v)]) hx hb d_Qf_isTrueAt_9 rfl hl (by decide) rfl (fun ls hl => ?_)
  refine lv_aload_n hx hb d_Qf_isTrueAt_10 rfl (lv_at hl 2 rfl) ?_
  refine hw_get (own := "QuantifierOut$Quantified") (v := .ref vb) hx hb hts i_Vs hown hW hv0 rfl 1 (by decide) (hts _ tw_58) (fun _ h9 => h9) rfl d_Qf_isTrueAt_11 ?_
  refine lv_aload_n hx hb d_Qf_isTrueAt_14 rfl (lv_at hl 1 rfl) ?_
  refine hw_get (own := "QuantifierOut$Quantified") (v := .int (nI j)) hx hb hts i_Qf hown hW hc rfl 4 (by decide) (hts _ tw_395) (fun _ h9 => h9) rfl d_Qf_isTrueAt_15 ?_
  refine hw_lld hx hb hW 1 hvb0 rfl j rfl hj (by decide) d_Qf_isTrueAt_18 ?_
  refine lv_topl (fun gj egj => ?_)
  refine lv_lstore (lv' := [(4, .long gj), (2, .long fj), (0, .ref h0), (1, .ref v)]) hx hb d_Qf_isTrueAt_19 hl (by decide) rfl (fun ls hl => ?_)
  refine lv_aload_n hx hb d_Qf_isTrueAt_21 rfl (lv_at hl 3 rfl) ?_
  refine lv_aload_n hx hb d_Qf_isTrueAt_22 rfl (lv_at hl 2 rfl) ?_
  refine hw_get (own := "QuantifierOut$Quantified") (v := .int (nI (nd q))) hx hb hts i_Qf hown hW hc rfl 1 (by decide) (hts _ tw_237) (fun x9 h9 => u_same (hts _ tw_238) x9 h9) rfl d_Qf_isTrueAt_23 ?_
  have hdlt : nd q < 1000 := by omega
  refine hw_callq (hw_runV (n := 1) (own := "QuantifierOut$Quantified") (As := [.int (nI (nd q))]) (rest := []) hx hb hml hown hts hX hW hl.1 (c_Vs_marksFor l D cI cJ cZ cN v va vb om im _ (nd q) M hv0 hdlt) hv0 rfl tw_466 tw_467 tw_468 tw_2 tw_469 (by decide +kernel) rfl rfl ⟨by show 0 + 1 ≤ N + 1 + 5; omega, by show 8 + (2 + 11 + 0) ≤ 60 * (N + 1) + 260; omega⟩ rfl rfl (Nat.le_of_ble_eq_true rfl) d_Qf_isTrueAt_26 ⟨Nat.le_refl 0, Nat.le_refl 0⟩) hW hS hA (fun rm9 Mq H locs hp hz hW hS => ?_)
  obtain ⟨er9, eM9⟩ := hp
  rw [eM9] at hW
  rcases (show nd q1 = 0 ∨ nd q1 = 1 by omega) with hd1 | hd1
  · skip
    have hdq2 : nd q = 1 := by omega
    have hVB : VB (nd q) = 1201 := by rw [hdq2]; rfl
    have hVB1 : VB (nd q1) = 24021 := by rw [hd1]; rfl
    rw [if_pos (by omega)] at er9
    subst er9
    refine lv_astore (lv' := [(6, .ref im), (4, .long gj), (2, .long fj), (0, .ref h0), (1, .ref v)]) hx hb d_Qf_isTrueAt_29 hl (by decide) rfl (fun ls hl => ?_)
    refine lv_aload hx hb d_Qf_isTrueAt_31 (lv_at hl 0 rfl) ?_
    refine lv_aload_n hx hb d_Qf_isTrueAt_33 rfl (lv_at hl 3 rfl) ?_
    refine hw_get (own := "QuantifierOut$Quantified") (v := .ref a) hx hb hts i_Qf hown hW hc rfl 5 (by decide) (hts _ tw_396) (fun _ h9 => h9) rfl d_Qf_isTrueAt_34 ?_
    refine lv_aload_n hx hb d_Qf_isTrueAt_37 rfl (lv_at hl 3 rfl) ?_
    refine hw_get (own := "QuantifierOut$Quantified") (v := .int (nI j)) hx hb hts i_Qf hown hW hc rfl 4 (by decide) (hts _ tw_395) (fun _ h9 => h9) rfl d_Qf_isTrueAt_38 ?_
    refine lv_aload_n hx hb d_Qf_isTrueAt_41 rfl (lv_at hl 4 rfl) ?_
    obtain ⟨B9, hB9⟩ : ∃ B9 : Nat, B9 = 10 * VB (nd q) := ⟨_, rfl⟩
    refine hw_callv (hw_runV (n := 3) (own := "QuantifierOut$Quantified") (As := [.ref a, .int (nI j), .ref v]) (rest := []) hx hb hml hown hts hX hW hl.1 (c_Mk_gather l D cI cJ cZ cN im ia ib n9 B9 (VB (nd q)) _ la1 (nL q1).length (nd q1) j o v va vb om im a (nk_ci (nK q1)) (nx q1) (ny q1) gr1 (nk_ex q1) f9 g9 fv gv F1 M hmi d11 (by omega) (by omega) hnd1 (by omega) hla1 b2 hjo (nl_len hF1 b5) hV hbo.2.2 (by have := hbo.1; have := hbo.2.1; omega) (by omega) d4 d5 d8 d9) hmi.1 rfl tw_470 tw_471 tw_472 tw_3 tw_473 (by decide +kernel) rfl rfl ⟨by show 3 + 1 ≤ N + 1 + 5; omega, by show 8 + (7 + 11 + 140) ≤ 60 * (N + 1) + 260; omega⟩ rfl rfl (Nat.le_of_ble_eq_true rfl) d_Qf_isTrueAt_42 ⟨Nat.le_refl 0, Nat.le_refl 0⟩) hW hS hA (fun Mg H locs hp hz hW hS => ?_)
    obtain ⟨n, f, g, hmk, hfg, hn21, hro, hnf, hcv⟩ := hp
    have hcell := ga_cell (j := j) (o := o) (x := (fv o).toInt) (y := (gv o).toInt) (n := n) (f := f) (g := g) hF1 hjo hbo.1 b6 (by omega) (by
      cases hq9 : (if j = 0 then nx q1 else ny q1)
      · exact Or.inl (hfree hq9)
      · exact Or.inr (hcv hq9))
    have fin : ∀ (sN : Nat) (H : Heap) (locs : List Loc) (M2 : Nat → Option va_E) (x y : Int64) (tr : Int32) (ls : Array Slot), hw_W D qcl (qty cI cJ cZ cN) (hw_A M s.heap.size) M2 s H → va_S (hw_A M s.heap.size) s.heap H locs → (∀ r9, r9 ≠ im → r9 ≠ ia → r9 ≠ ib → r9 ≠ va → r9 ≠ vb → M2 r9 = M r9) → mk_S cJ M2 im ia ib n f g → vs_S cJ M2 v va vb om im (vp_updL fv j x) (vp_updL gv j y) → (∃ n f g, mk_S cJ M2 om oa ob n f g) → it_b tr (nP q (vX fv gv) (vY fv gv)) → lv_has ls 9 [(8, .int (nI sN)), (7, .int tr), (6, .ref im), (4, .long gj), (2, .long fj), (0, .ref h0), (1, .ref v)] → W p l e (it_rm (N + 1)) s m [.ref h0, .ref v].toArray below meth c H locs 0 0 Q9 (F0 m 101 ls []) := by
      intro sN H locs M2 x y tr ls hW hS hfr hmk2 hV2 hO2 hres hl
      have hc2 : M2 h0 = some (.inr (6, [.int (nd_fr (nx q) (ny q)), .int (nI (nd q)), .ref la, .int gr, .int (nI j), .ref a, .int (if kk = true then 1 else 0)])) := (hfr h0 nh_im nh_ia nh_ib nh_va nh_vb).trans hc
      refine lv_aload_n hx hb d_Qf_isTrueAt_101 rfl (lv_at hl 6 rfl) ?_
      refine lv_aload_n hx hb d_Qf_isTrueAt_102 rfl (lv_at hl 5 rfl) ?_
      refine hw_get (own := "QuantifierOut$Quantified") (v := .int (nI j)) hx hb hts i_Qf hown hW hc2 rfl 4 (by decide) (hts _ tw_395) (fun _ h9 => h9) rfl d_Qf_isTrueAt_103 ?_
      refine lv_lload_n hx hb d_Qf_isTrueAt_106 rfl (lv_at hl 4 rfl) ?_
      refine lv_lload hx hb d_Qf_isTrueAt_107 (lv_at hl 3 rfl) ?_
      refine hw_callv (hw_runV (n := 3) (own := "QuantifierOut$Quantified") (As := [.int (nI j), .long fj, .long gj]) (rest := []) hx hb hml hown hts hX hW hl.1 (c_Vs_put l D cI cJ cZ cN v va vb om im _ j (vp_updL fv j x) (vp_updL gv j y) (nI j) fj gj M2 hV2.1 hV2.2.1 hV2.2.2 d1 rfl hj) hV2.1 rfl tw_498 tw_448 tw_449 tw_2 tw_450 (by decide +kernel) rfl rfl ⟨by show 0 + 1 ≤ N + 1 + 5; omega, by show 8 + (6 + 11 + 0) ≤ 60 * (N + 1) + 260; omega⟩ rfl rfl (Nat.le_of_ble_eq_true rfl) d_Qf_isTrueAt_109 ⟨Nat.le_refl 0, Nat.le_refl 0⟩) hW hS hA (fun M5 H locs hp hz hW hS => ?_)
      rw [uL_uL, uL_uL, efj, egj, uL_id, uL_id] at hp
      refine lv_iload hx hb d_Qf_isTrueAt_112 (lv_at hl 1 rfl) ?_
      rw [hQ9]
      have hM5 : ∀ r9, r9 ≠ va → r9 ≠ vb → M5 r9 = M2 r9 := fun r9 e1 e2 => by rw [hp, va_up_ne _ _ e2, va_up_ne _ _ e1]
      have h5a : M5 va = M va := by rw [hp, va_up_ne _ _ d1, va_up_self]; exact hV.2.1.symm
      have h5b : M5 vb = M vb := by rw [hp, va_up_self]; exact hV.2.2.symm
      have hV5 : vs_S cJ M5 v va vb om im fv gv := ⟨(hM5 v nv1 nv2).trans hV2.1, h5a.trans hV.2.1, h5b.trans hV.2.2⟩
      obtain ⟨n7, f7, g7, hO3⟩ := hO2
      have h01 : tr = 0 ∨ tr = 1 := by rcases hres with ⟨z, _⟩ | ⟨z, _⟩; exact Or.inr z; exact Or.inl z
      refine hw_retz hx hb hr (nar01 h01) hlocks hW hS ⟨hres, fun r9 c1 c2 => ?_, ⟨hV5, ⟨n7, f7, g7, ⟨(hM5 om n_om_va n_om_vb).trans hO3.1, (hM5 oa (Ne.symm d2) (Ne.symm d6)).trans hO3.2.1, (hM5 ob (Ne.symm d3) (Ne.symm d7)).trans hO3.2.2⟩⟩, ⟨n, f, g, ⟨(hM5 im n_im_va n_im_vb).trans hmk2.1, (hM5 ia (Ne.symm d4) (Ne.symm d8)).trans hmk2.2.1, (hM5 ib (Ne.symm d5) (Ne.symm d9)).trans hmk2.2.2⟩⟩⟩⟩ d_Qf_isTrueAt_114
      by_cases ea : r9 = va
      · rw [ea]; exact h5a
      by_cases eb : r9 = vb
      · rw [eb]; exact h5b
      rw [hdq2] at c1 c2
      have c1 := c1.resolve_left (by omega)
      exact (hM5 r9 ea eb).trans (hfr r9 c1.1 c1.2.1 c1.2.2 ea eb)
    have loop : ∀ (z sN : Nat), sN ≤ 2 * n + 1 → 2 * n + 2 ≤ sN + z → ∀ (H : Heap) (locs : List Loc) (M2 : Nat → Option va_E) (x y : Int64) (tr : Int32) (ls : Array Slot), hw_W D qcl (qty cI cJ cZ cN) (hw_A M s.heap.size) M2 s H → va_S (hw_A M s.heap.size) s.heap H locs → (∀ r9, r9 ≠ im → r9 ≠ ia → r9 ≠ ib → r9 ≠ va → r9 ≠ vb → M2 r9 = M r9) → mk_S cJ M2 im ia ib n f g → vs_S cJ M2 v va vb om im (vp_updL fv j x) (vp_updL gv j y) → (∃ n f g, mk_S cJ M2 om oa ob n f g) → qf_I (mk_v f g) n (fun u => nP_j j (nP q1) u (qm_fr (fv o).toInt (gv o).toInt)) kk tr sN → lv_has ls 9 [(8, .int (nI sN)), (7, .int tr), (6, .ref im), (4, .long gj), (2, .long fj), (0, .ref h0), (1, .ref v)] → W p l e (it_rm (N + 1)) s m [.ref h0, .ref v].toArray below meth c H locs 0 0 Q9 (F0 m 54 ls []) := by
      intro z
      induction z with
      | zero => intro sN e1 e2; exact absurd e2 (by omega)
      | succ z ihz =>
        intro sN hsN hz9 H locs M2 x y tr ls hW hS hfr hmk2 hV2 hO2 hI hl
        have hc2 : M2 h0 = some (.inr (6, [.int (nd_fr (nx q) (ny q)), .int (nI (nd q)), .ref la, .int gr, .int (nI j), .ref a, .int (if kk = true then 1 else 0)])) := (hfr h0 nh_im nh_ia nh_ib nh_va nh_vb).trans hc
        refine lv_iload hx hb d_Qf_isTrueAt_54 (lv_at hl 0 rfl) ?_
        refine lv_aload hx hb d_Qf_isTrueAt_56 (lv_at hl 2 rfl) ?_
        refine hw_calli (hw_runV (n := 0) (own := "QuantifierOut$Quantified") (As := []) (rest := [.int (nI sN)]) hx hb hml hown hts hX hW hl.1 (c_Mk_stops l D cI cJ cZ cN im ia ib n _ M2 hmk2.1 (by omega)) hmk2.1 rfl tw_488 tw_489 tw_490 tw_3 tw_491 (by decide +kernel) rfl rfl ⟨by show 0 + 1 ≤ N + 1 + 5; omega, by show 8 + (1 + 11 + 0) ≤ 60 * (N + 1) + 260; omega⟩ rfl rfl (Nat.le_of_ble_eq_true rfl) d_Qf_isTrueAt_58 ⟨Nat.le_refl 0, Nat.le_refl 0⟩) hW hS hA (fun st9 M3 H locs hp hz hW hS => ?_)
        obtain ⟨est, eM3⟩ := hp
        rw [eM3] at hW
        subst est
        refine lv_icmp_ge (tgt := 101) hx hb d_Qf_isTrueAt_61 (by decide) (fun c_61 => ?_) (fun c_61 => ?_)
        · skip
          have hge : 2 * n + 1 ≤ sN := (nI_leI (by omega) (by omega)).mp c_61
          refine fin sN H locs M2 x y tr ls hW hS hfr hmk2 hV2 hO2 ?_ hl
          rw [qf_P hjo h5]
          exact qf_end hro.2 hI (Or.inl (by omega))
        · skip
          have hlt : sN < 2 * n + 1 := by
            rcases Nat.lt_or_ge sN (2 * n + 1) with e9 | e9
            · exact e9
            · exact absurd ((nI_leI (by omega) (by omega)).mpr e9) c_61
          refine lv_iload hx hb d_Qf_isTrueAt_64 (lv_at hl 1 rfl) ?_
          refine lv_aload_n hx hb d_Qf_isTrueAt_66 rfl (lv_at hl 5 rfl) ?_
          refine hw_get (own := "QuantifierOut$Quantified") (v := .int (if kk = true then 1 else 0)) hx hb hts i_Qf hown hW hc2 rfl 6 (by decide) (hts _ tw_397) (fun _ h9 => h9) rfl d_Qf_isTrueAt_67 ?_
          refine lv_icmp_ne (tgt := 101) hx hb d_Qf_isTrueAt_70 (by decide) (fun c_70 => ?_) (fun c_70 => ?_)
          · skip
            refine fin sN H locs M2 x y tr ls hW hS hfr hmk2 hV2 hO2 ?_ hl
            rw [qf_P hjo h5]
            exact qf_end hro.2 hI (Or.inr c_70)
          · skip
            refine lv_aload hx hb d_Qf_isTrueAt_73 (lv_at hl 2 rfl) ?_
            refine lv_iload hx hb d_Qf_isTrueAt_75 (lv_at hl 0 rfl) ?_
            refine lv_aload_n hx hb d_Qf_isTrueAt_77 rfl (lv_at hl 5 rfl) ?_
            refine hw_get (own := "QuantifierOut$Quantified") (v := .int (nI j)) hx hb hts i_Qf hown hW hc2 rfl 4 (by decide) (hts _ tw_395) (fun _ h9 => h9) rfl d_Qf_isTrueAt_78 ?_
            refine lv_aload_n hx hb d_Qf_isTrueAt_81 rfl (lv_at hl 6 rfl) ?_
            refine hw_callv (hw_runV (n := 3) (own := "QuantifierOut$Quantified") (As := [.int (nI sN), .int (nI j), .ref v]) (rest := []) hx hb hml hown hts hX hW hl.1 (c_Mk_moveTo l D cI cJ cZ cN im ia ib n B9 _ sN j v va vb om im f g (vp_updL fv j x) (vp_updL gv j y) M2 hmk2 hn21 hro (by omega) hlt hj hV2 d1) hmk2.1 rfl tw_492 tw_493 tw_494 tw_3 tw_495 (by decide +kernel) rfl rfl ⟨by show 1 + 1 ≤ N + 1 + 5; omega, by show 8 + (5 + 11 + 30) ≤ 60 * (N + 1) + 260; omega⟩ rfl rfl (Nat.le_of_ble_eq_true rfl) d_Qf_isTrueAt_82 ⟨Nat.le_refl 0, Nat.le_refl 0⟩) hW hS hA (fun M3 H locs hp hz hW hS => ?_)
            obtain ⟨x3, y3, eM3, hmo3⟩ := hp
            rw [uL_uL, uL_uL] at eM3
            have hM3 : ∀ r9, r9 ≠ va → r9 ≠ vb → M3 r9 = M2 r9 := fun r9 e1 e2 => by rw [eM3, va_up_ne _ _ e2, va_up_ne _ _ e1]
            have hV3 : vs_S cJ M3 v va vb om im (vp_updL fv j x3) (vp_updL gv j y3) := ⟨(hM3 v nv1 nv2).trans hV2.1, by rw [eM3, va_up_ne _ _ d1, va_up_self], by rw [eM3, va_up_self]⟩
            have hmk3 : mk_S cJ M3 im ia ib n f g := ⟨(hM3 im n_im_va n_im_vb).trans hmk2.1, (hM3 ia (Ne.symm d4) (Ne.symm d8)).trans hmk2.2.1, (hM3 ib (Ne.symm d5) (Ne.symm d9)).trans hmk2.2.2⟩
            obtain ⟨n7, f7, g7, hO3⟩ := hO2
            have hO4 : ∃ n f g, mk_S cJ M3 om oa ob n f g := ⟨n7, f7, g7, ⟨(hM3 om n_om_va n_om_vb).trans hO3.1, (hM3 oa (Ne.symm d2) (Ne.symm d6)).trans hO3.2.1, (hM3 ob (Ne.symm d3) (Ne.symm d7)).trans hO3.2.2⟩⟩
            have hfr3 : ∀ r9, r9 ≠ im → r9 ≠ ia → r9 ≠ ib → r9 ≠ va → r9 ≠ vb → M3 r9 = M r9 := fun r9 e0 e1 e2 e3 e4 => (hM3 r9 e3 e4).trans (hfr r9 e0 e1 e2 e3 e4)
            have hE3 : ev_S cJ M3 v va vb om oa ob im ia ib (vp_updL fv j x3) (vp_updL gv j y3) := ⟨hV3, hO4, ⟨n, f, g, hmk3⟩⟩
            have hT3 : tb_ok cI M3 tb := tb_kept hT (fun a9 e9 ha9 k1 k2 => hfr3 a9 (fun z9 => k1 _ (Option.some.inj (ha9.symm.trans (z9 ▸ hmi.1)))) (fun z9 => k2 _ _ _ (Option.some.inj (ha9.symm.trans (z9 ▸ hmi.2.1)))) (fun z9 => k2 _ _ _ (Option.some.inj (ha9.symm.trans (z9 ▸ hmi.2.2)))) (fun z9 => k2 _ _ _ (Option.some.inj (ha9.symm.trans (z9 ▸ hV.2.1)))) (fun z9 => k2 _ _ _ (Option.some.inj (ha9.symm.trans (z9 ▸ hV.2.2)))))
            have hc3 : M3 h0 = some (.inr (6, [.int (nd_fr (nx q) (ny q)), .int (nI (nd q)), .ref la, .int gr, .int (nI j), .ref a, .int (if kk = true then 1 else 0)])) := (hfr3 h0 nh_im nh_ia nh_ib nh_va nh_vb).trans hc
            have hb3 : vx_b (vp_updL fv j x3) (vp_updL gv j y3) (nd q1) := by
              intro i hi
              by_cases e : i = j
              · subst e; rw [pk_uLs, pk_uLs]; exact ⟨hmo3.1, by have := hmo3.2.1; omega, by have := hmo3.2.2.1; omega⟩
              · rw [pk_uLn e, pk_uLn e]; have := hb9 i hi; exact ⟨this.1, by omega, by omega⟩
            refine lv_aload_n hx hb d_Qf_isTrueAt_85 rfl (lv_at hl 5 rfl) ?_
            refine hw_get (own := "QuantifierOut$Quantified") (v := .ref a) hx hb hts i_Qf hown hW hc3 rfl 5 (by decide) (hts _ tw_396) (fun _ h9 => h9) rfl d_Qf_isTrueAt_86 ?_
            refine lv_aload_n hx hb d_Qf_isTrueAt_89 rfl (lv_at hl 6 rfl) ?_
            obtain ⟨⟨la_a, gr_a, F_a, hc_a, _⟩, _⟩ := hT3 a q1 h1
            refine hw_calli (it_run 1 rfl (own := "QuantifierOut$Quantified") (rest := []) hx hb hml hown hts hX hW hl.1 (ih a q1 h1 (by omega) M3 _ (vp_updL fv j x3) (vp_updL gv j y3) hT3 hE3 hb3) hc_a.2 tw_497 rfl rfl ⟨by show N + 5 + 1 ≤ N + 1 + 5; omega, by show 8 + (9 + 11) + (60 * N + 260) ≤ 60 * (N + 1) + 260; omega⟩ rfl (Nat.le_of_ble_eq_true rfl) d_Qf_isTrueAt_90 ⟨Nat.le_refl 0, Nat.le_refl 0⟩) hW hS hA (fun r3 M4 H locs hp3 hz hW hS => ?_)
            obtain ⟨p1, p2, p3⟩ := hp3
            rw [qf_XY hjo (nP q1)] at p1
            refine lv_istore (lv' := [(7, .int r3), (8, .int (nI sN)), (6, .ref im), (4, .long gj), (2, .long fj), (0, .ref h0), (1, .ref v)]) hx hb d_Qf_isTrueAt_93 hl (by decide) rfl (fun ls hl => ?_)
            obtain ⟨s9, es9⟩ : ∃ y9 : Int32, y9 = (nI sN) + Int32.ofInt (1) := ⟨_, rfl⟩
            refine lv_iinc (v := s9) (lv' := [(8, .int s9), (7, .int r3), (6, .ref im), (4, .long gj), (2, .long fj), (0, .ref h0), (1, .ref v)]) hx hb d_Qf_isTrueAt_95 hl (k := 1) rfl es9.symm (by decide) rfl (fun ls hl => ?_)
            have es : s9 = nI (sN + 1) := by rw [es9]; exact nI_add sN 1
            subst es
            refine lv_goto (tgt := 54) hx hb d_Qf_isTrueAt_98 (by decide) ?_
            have hM4 : M4 = M3 := funext fun r9 => p2 r9 (Or.inl hd1) (Or.inl (by omega))
            rw [hM4] at hW
            refine ihz (sN + 1) (by omega) (by omega) H locs M3 x3 y3 r3 ls hW hS hfr3 hmk3 hV3 hO4 (qf_step hI c_70 hmo3.2.2.2 p1 (fun u hu => hcell sN u _ hu hmo3.2.2.2)) (lv_sub hl [0, 1, 2, 3, 4, 5, 6] rfl)
    have hfrg : ∀ r9, r9 ≠ im → r9 ≠ ia → r9 ≠ ib → r9 ≠ va → r9 ≠ vb → Mg r9 = M r9 := fun r9 e0 e1 e2 e3 e4 => hfg r9 e0 e1 e2
    have hcg : Mg h0 = some (.inr (6, [.int (nd_fr (nx q) (ny q)), .int (nI (nd q)), .ref la, .int gr, .int (nI j), .ref a, .int (if kk = true then 1 else 0)])) := (hfrg h0 nh_im nh_ia nh_ib nh_va nh_vb).trans hc
    have hVg : vs_S cJ Mg v va vb om im (vp_updL fv j (fv j)) (vp_updL gv j (gv j)) := by
      rw [uL_id, uL_id]
      exact ⟨(hfg v nv_im nv_ia nv_ib).trans hV.1, (hfg va (Ne.symm n_im_va) d4 d5).trans hV.2.1, (hfg vb (Ne.symm n_im_vb) d8 d9).trans hV.2.2⟩
    refine lv_aload_n hx hb d_Qf_isTrueAt_45 rfl (lv_at hl 3 rfl) ?_
    refine hw_get (own := "QuantifierOut$Quantified") (v := .int (if kk = true then 1 else 0)) hx hb hts i_Qf hown hW hcg rfl 6 (by decide) (hts _ tw_397) (fun _ h9 => h9) rfl d_Qf_isTrueAt_46 ?_
    refine lv_istore (lv' := [(7, .int (if kk = true then 1 else 0)), (6, .ref im), (4, .long gj), (2, .long fj), (0, .ref h0), (1, .ref v)]) hx hb d_Qf_isTrueAt_49 hl (by decide) rfl (fun ls hl => ?_)
    refine lv_iconst (v := 0) hx hb d_Qf_isTrueAt_51 (by decide) ?_
    refine lv_istore (lv' := [(8, .int 0), (7, .int (if kk = true then 1 else 0)), (6, .ref im), (4, .long gj), (2, .long fj), (0, .ref h0), (1, .ref v)]) hx hb d_Qf_isTrueAt_52 hl (by decide) rfl (fun ls hl => ?_)
    exact loop (2 * n + 2) 0 (by omega) (by omega) H locs Mg (fv j) (gv j) (if kk = true then 1 else 0) ls hW hS hfrg hmk hVg ⟨n8, f8, g8, (hfg om d16 n_om_ia n_om_ib).trans hmo.1, (hfg oa (Ne.symm n_im_oa) d12 d13).trans hmo.2.1, (hfg ob (Ne.symm n_im_ob) d14 d15).trans hmo.2.2⟩ (Or.inl ⟨rfl, fun s9 h9 => absurd h9 (Nat.not_lt_zero s9)⟩) (lv_sub hl [0, 1, 2, 3, 4, 5, 6] rfl)
  · skip
    have hdq2 : nd q = 2 := by omega
    have hVB : VB (nd q) = 60 := by rw [hdq2]; rfl
    have hVB1 : VB (nd q1) = 1201 := by rw [hd1]; rfl
    rw [if_neg (by omega)] at er9
    subst er9
    refine lv_astore (lv' := [(6, .ref om), (4, .long gj), (2, .long fj), (0, .ref h0), (1, .ref v)]) hx hb d_Qf_isTrueAt_29 hl (by decide) rfl (fun ls hl => ?_)
    refine lv_aload hx hb d_Qf_isTrueAt_31 (lv_at hl 0 rfl) ?_
    refine lv_aload_n hx hb d_Qf_isTrueAt_33 rfl (lv_at hl 3 rfl) ?_
    refine hw_get (own := "QuantifierOut$Quantified") (v := .ref a) hx hb hts i_Qf hown hW hc rfl 5 (by decide) (hts _ tw_396) (fun _ h9 => h9) rfl d_Qf_isTrueAt_34 ?_
    refine lv_aload_n hx hb d_Qf_isTrueAt_37 rfl (lv_at hl 3 rfl) ?_
    refine hw_get (own := "QuantifierOut$Quantified") (v := .int (nI j)) hx hb hts i_Qf hown hW hc rfl 4 (by decide) (hts _ tw_395) (fun _ h9 => h9) rfl d_Qf_isTrueAt_38 ?_
    refine lv_aload_n hx hb d_Qf_isTrueAt_41 rfl (lv_at hl 4 rfl) ?_
    obtain ⟨B9, hB9⟩ : ∃ B9 : Nat, B9 = 10 * VB (nd q) := ⟨_, rfl⟩
    refine hw_callv (hw_runV (n := 3) (own := "QuantifierOut$Quantified") (As := [.ref a, .int (nI j), .ref v]) (rest := []) hx hb hml hown hts hX hW hl.1 (c_Mk_gather l D cI cJ cZ cN om oa ob n8 B9 (VB (nd q)) _ la1 (nL q1).length (nd q1) j o v va vb om im a (nk_ci (nK q1)) (nx q1) (ny q1) gr1 (nk_ex q1) f8 g8 fv gv F1 M hmo d10 (by omega) (by omega) hnd1 (by omega) hla1 b2 hjo (nl_len hF1 b5) hV hbo.2.2 (by have := hbo.1; have := hbo.2.1; omega) (by omega) d2 d3 d6 d7) hmo.1 rfl tw_470 tw_471 tw_472 tw_3 tw_473 (by decide +kernel) rfl rfl ⟨by show 3 + 1 ≤ N + 1 + 5; omega, by show 8 + (7 + 11 + 140) ≤ 60 * (N + 1) + 260; omega⟩ rfl rfl (Nat.le_of_ble_eq_true rfl) d_Qf_isTrueAt_42 ⟨Nat.le_refl 0, Nat.le_refl 0⟩) hW hS hA (fun Mg H locs hp hz hW hS => ?_)
    obtain ⟨n, f, g, hmk, hfg, hn21, hro, hnf, hcv⟩ := hp
    have hcell := ga_cell (j := j) (o := o) (x := (fv o).toInt) (y := (gv o).toInt) (n := n) (f := f) (g := g) hF1 hjo hbo.1 b6 (by omega) (by
      cases hq9 : (if j = 0 then nx q1 else ny q1)
      · exact Or.inl (hfree hq9)
      · exact Or.inr (hcv hq9))
    have fin : ∀ (sN : Nat) (H : Heap) (locs : List Loc) (M2 : Nat → Option va_E) (x y : Int64) (tr : Int32) (ls : Array Slot), hw_W D qcl (qty cI cJ cZ cN) (hw_A M s.heap.size) M2 s H → va_S (hw_A M s.heap.size) s.heap H locs → (∀ r9, r9 ≠ om → r9 ≠ oa → r9 ≠ ob → r9 ≠ im → r9 ≠ ia → r9 ≠ ib → r9 ≠ va → r9 ≠ vb → M2 r9 = M r9) → mk_S cJ M2 om oa ob n f g → vs_S cJ M2 v va vb om im (vp_updL fv j x) (vp_updL gv j y) → (∃ n f g, mk_S cJ M2 im ia ib n f g) → it_b tr (nP q (vX fv gv) (vY fv gv)) → lv_has ls 9 [(8, .int (nI sN)), (7, .int tr), (6, .ref om), (4, .long gj), (2, .long fj), (0, .ref h0), (1, .ref v)] → W p l e (it_rm (N + 1)) s m [.ref h0, .ref v].toArray below meth c H locs 0 0 Q9 (F0 m 101 ls []) := by
      intro sN H locs M2 x y tr ls hW hS hfr hmk2 hV2 hO2 hres hl
      have hc2 : M2 h0 = some (.inr (6, [.int (nd_fr (nx q) (ny q)), .int (nI (nd q)), .ref la, .int gr, .int (nI j), .ref a, .int (if kk = true then 1 else 0)])) := (hfr h0 nh_om nh_oa nh_ob nh_im nh_ia nh_ib nh_va nh_vb).trans hc
      refine lv_aload_n hx hb d_Qf_isTrueAt_101 rfl (lv_at hl 6 rfl) ?_
      refine lv_aload_n hx hb d_Qf_isTrueAt_102 rfl (lv_at hl 5 rfl) ?_
      refine hw_get (own := "QuantifierOut$Quantified") (v := .int (nI j)) hx hb hts i_Qf hown hW hc2 rfl 4 (by decide) (hts _ tw_395) (fun _ h9 => h9) rfl d_Qf_isTrueAt_103 ?_
      refine lv_lload_n hx hb d_Qf_isTrueAt_106 rfl (lv_at hl 4 rfl) ?_
      refine lv_lload hx hb d_Qf_isTrueAt_107 (lv_at hl 3 rfl) ?_
      refine hw_callv (hw_runV (n := 3) (own := "QuantifierOut$Quantified") (As := [.int (nI j), .long fj, .long gj]) (rest := []) hx hb hml hown hts hX hW hl.1 (c_Vs_put l D cI cJ cZ cN v va vb om im _ j (vp_updL fv j x) (vp_updL gv j y) (nI j) fj gj M2 hV2.1 hV2.2.1 hV2.2.2 d1 rfl hj) hV2.1 rfl tw_498 tw_448 tw_449 tw_2 tw_450 (by decide +kernel) rfl rfl ⟨by show 0 + 1 ≤ N + 1 + 5; omega, by show 8 + (6 + 11 + 0) ≤ 60 * (N + 1) + 260; omega⟩ rfl rfl (Nat.le_of_ble_eq_true rfl) d_Qf_isTrueAt_109 ⟨Nat.le_refl 0, Nat.le_refl 0⟩) hW hS hA (fun M5 H locs hp hz hW hS => ?_)
      rw [uL_uL, uL_uL, efj, egj, uL_id, uL_id] at hp
      refine lv_iload hx hb d_Qf_isTrueAt_112 (lv_at hl 1 rfl) ?_
      rw [hQ9]
      have hM5 : ∀ r9, r9 ≠ va → r9 ≠ vb → M5 r9 = M2 r9 := fun r9 e1 e2 => by rw [hp, va_up_ne _ _ e2, va_up_ne _ _ e1]
      have h5a : M5 va = M va := by rw [hp, va_up_ne _ _ d1, va_up_self]; exact hV.2.1.symm
      have h5b : M5 vb = M vb := by rw [hp, va_up_self]; exact hV.2.2.symm
      have hV5 : vs_S cJ M5 v va vb om im fv gv := ⟨(hM5 v nv1 nv2).trans hV2.1, h5a.trans hV.2.1, h5b.trans hV.2.2⟩
      obtain ⟨n7, f7, g7, hO3⟩ := hO2
      have h01 : tr = 0 ∨ tr = 1 := by rcases hres with ⟨z, _⟩ | ⟨z, _⟩; exact Or.inr z; exact Or.inl z
      refine hw_retz hx hb hr (nar01 h01) hlocks hW hS ⟨hres, fun r9 c1 c2 => ?_, ⟨hV5, ⟨n, f, g, ⟨(hM5 om n_om_va n_om_vb).trans hmk2.1, (hM5 oa (Ne.symm d2) (Ne.symm d6)).trans hmk2.2.1, (hM5 ob (Ne.symm d3) (Ne.symm d7)).trans hmk2.2.2⟩⟩, ⟨n7, f7, g7, ⟨(hM5 im n_im_va n_im_vb).trans hO3.1, (hM5 ia (Ne.symm d4) (Ne.symm d8)).trans hO3.2.1, (hM5 ib (Ne.symm d5) (Ne.symm d9)).trans hO3.2.2⟩⟩⟩⟩ d_Qf_isTrueAt_114
      by_cases ea : r9 = va
      · rw [ea]; exact h5a
      by_cases eb : r9 = vb
      · rw [eb]; exact h5b
      rw [hdq2] at c1 c2
      have c1 := c1.resolve_left (by omega)
      have c2 := c2.resolve_left (by omega)
      exact (hM5 r9 ea eb).trans (hfr r9 c2.1 c2.2.1 c2.2.2 c1.1 c1.2.1 c1.2.2 ea eb)
    have loop : ∀ (z sN : Nat), sN ≤ 2 * n + 1 → 2 * n + 2 ≤ sN + z → ∀ (H : Heap) (locs : List Loc) (M2 : Nat → Option va_E) (x y : Int64) (tr : Int32) (ls : Array Slot), hw_W D qcl (qty cI cJ cZ cN) (hw_A M s.heap.size) M2 s H → va_S (hw_A M s.heap.size) s.heap H locs → (∀ r9, r9 ≠ om → r9 ≠ oa → r9 ≠ ob → r9 ≠ im → r9 ≠ ia → r9 ≠ ib → r9 ≠ va → r9 ≠ vb → M2 r9 = M r9) → mk_S cJ M2 om oa ob n f g → vs_S cJ M2 v va vb om im (vp_updL fv j x) (vp_updL gv j y) → (∃ n f g, mk_S cJ M2 im ia ib n f g) → qf_I (mk_v f g) n (fun u => nP_j j (nP q1) u (qm_fr (fv o).toInt (gv o).toInt)) kk tr sN → lv_has ls 9 [(8, .int (nI sN)), (7, .int tr), (6, .ref om), (4, .long gj), (2, .long fj), (0, .ref h0), (1, .ref v)] → W p l e (it_rm (N + 1)) s m [.ref h0, .ref v].toArray below meth c H locs 0 0 Q9 (F0 m 54 ls []) := by
      intro z
      induction z with
      | zero => intro sN e1 e2; exact absurd e2 (by omega)
      | succ z ihz =>
        intro sN hsN hz9 H locs M2 x y tr ls hW hS hfr hmk2 hV2 hO2 hI hl
        have hc2 : M2 h0 = some (.inr (6, [.int (nd_fr (nx q) (ny q)), .int (nI (nd q)), .ref la, .int gr, .int (nI j), .ref a, .int (if kk = true then 1 else 0)])) := (hfr h0 nh_om nh_oa nh_ob nh_im nh_ia nh_ib nh_va nh_vb).trans hc
        refine lv_iload hx hb d_Qf_isTrueAt_54 (lv_at hl 0 rfl) ?_
        refine lv_aload hx hb d_Qf_isTrueAt_56 (lv_at hl 2 rfl) ?_
        refine hw_calli (hw_runV (n := 0) (own := "QuantifierOut$Quantified") (As := []) (rest := [.int (nI sN)]) hx hb hml hown hts hX hW hl.1 (c_Mk_stops l D cI cJ cZ cN om oa ob n _ M2 hmk2.1 (by omega)) hmk2.1 rfl tw_488 tw_489 tw_490 tw_3 tw_491 (by decide +kernel) rfl rfl ⟨by show 0 + 1 ≤ N + 1 + 5; omega, by show 8 + (1 + 11 + 0) ≤ 60 * (N + 1) + 260; omega⟩ rfl rfl (Nat.le_of_ble_eq_true rfl) d_Qf_isTrueAt_58 ⟨Nat.le_refl 0, Nat.le_refl 0⟩) hW hS hA (fun st9 M3 H locs hp hz hW hS => ?_)
        obtain ⟨est, eM3⟩ := hp
        rw [eM3] at hW
        subst est
        refine lv_icmp_ge (tgt := 101) hx hb d_Qf_isTrueAt_61 (by decide) (fun c_61 => ?_) (fun c_61 => ?_)
        · skip
          have hge : 2 * n + 1 ≤ sN := (nI_leI (by omega) (by omega)).mp c_61
          refine fin sN H locs M2 x y tr ls hW hS hfr hmk2 hV2 hO2 ?_ hl
          rw [qf_P hjo h5]
          exact qf_end hro.2 hI (Or.inl (by omega))
        · skip
          have hlt : sN < 2 * n + 1 := by
            rcases Nat.lt_or_ge sN (2 * n + 1) with e9 | e9
            · exact e9
            · exact absurd ((nI_leI (by omega) (by omega)).mpr e9) c_61
          refine lv_iload hx hb d_Qf_isTrueAt_64 (lv_at hl 1 rfl) ?_
          refine lv_aload_n hx hb d_Qf_isTrueAt_66 rfl (lv_at hl 5 rfl) ?_
          refine hw_get (own := "QuantifierOut$Quantified") (v := .int (if kk = true then 1 else 0)) hx hb hts i_Qf hown hW hc2 rfl 6 (by decide) (hts _ tw_397) (fun _ h9 => h9) rfl d_Qf_isTrueAt_67 ?_
          refine lv_icmp_ne (tgt := 101) hx hb d_Qf_isTrueAt_70 (by decide) (fun c_70 => ?_) (fun c_70 => ?_)
          · skip
            refine fin sN H locs M2 x y tr ls hW hS hfr hmk2 hV2 hO2 ?_ hl
            rw [qf_P hjo h5]
            exact qf_end hro.2 hI (Or.inr c_70)
          · skip
            refine lv_aload hx hb d_Qf_isTrueAt_73 (lv_at hl 2 rfl) ?_
            refine lv_iload hx hb d_Qf_isTrueAt_75 (lv_at hl 0 rfl) ?_
            refine lv_aload_n hx hb d_Qf_isTrueAt_77 rfl (lv_at hl 5 rfl) ?_
            refine hw_get (own := "QuantifierOut$Quantified") (v := .int (nI j)) hx hb hts i_Qf hown hW hc2 rfl 4 (by decide) (hts _ tw_395) (fun _ h9 => h9) rfl d_Qf_isTrueAt_78 ?_
            refine lv_aload_n hx hb d_Qf_isTrueAt_81 rfl (lv_at hl 6 rfl) ?_
            refine hw_callv (hw_runV (n := 3) (own := "QuantifierOut$Quantified") (As := [.int (nI sN), .int (nI j), .ref v]) (rest := []) hx hb hml hown hts hX hW hl.1 (c_Mk_moveTo l D cI cJ cZ cN om oa ob n B9 _ sN j v va vb om im f g (vp_updL fv j x) (vp_updL gv j y) M2 hmk2 hn21 hro (by omega) hlt hj hV2 d1) hmk2.1 rfl tw_492 tw_493 tw_494 tw_3 tw_495 (by decide +kernel) rfl rfl ⟨by show 1 + 1 ≤ N + 1 + 5; omega, by show 8 + (5 + 11 + 30) ≤ 60 * (N + 1) + 260; omega⟩ rfl rfl (Nat.le_of_ble_eq_true rfl) d_Qf_isTrueAt_82 ⟨Nat.le_refl 0, Nat.le_refl 0⟩) hW hS hA (fun M3 H locs hp hz hW hS => ?_)
            obtain ⟨x3, y3, eM3, hmo3⟩ := hp
            rw [uL_uL, uL_uL] at eM3
            have hM3 : ∀ r9, r9 ≠ va → r9 ≠ vb → M3 r9 = M2 r9 := fun r9 e1 e2 => by rw [eM3, va_up_ne _ _ e2, va_up_ne _ _ e1]
            have hV3 : vs_S cJ M3 v va vb om im (vp_updL fv j x3) (vp_updL gv j y3) := ⟨(hM3 v nv1 nv2).trans hV2.1, by rw [eM3, va_up_ne _ _ d1, va_up_self], by rw [eM3, va_up_self]⟩
            have hmk3 : mk_S cJ M3 om oa ob n f g := ⟨(hM3 om n_om_va n_om_vb).trans hmk2.1, (hM3 oa (Ne.symm d2) (Ne.symm d6)).trans hmk2.2.1, (hM3 ob (Ne.symm d3) (Ne.symm d7)).trans hmk2.2.2⟩
            obtain ⟨n7, f7, g7, hO3⟩ := hO2
            have hO4 : ∃ n f g, mk_S cJ M3 im ia ib n f g := ⟨n7, f7, g7, ⟨(hM3 im n_im_va n_im_vb).trans hO3.1, (hM3 ia (Ne.symm d4) (Ne.symm d8)).trans hO3.2.1, (hM3 ib (Ne.symm d5) (Ne.symm d9)).trans hO3.2.2⟩⟩
            have hfr3 : ∀ r9, r9 ≠ om → r9 ≠ oa → r9 ≠ ob → r9 ≠ im → r9 ≠ ia → r9 ≠ ib → r9 ≠ va → r9 ≠ vb → M3 r9 = M r9 := fun r9 e0 e1 e2 e3 e4 e5 e6 e7 => (hM3 r9 e6 e7).trans (hfr r9 e0 e1 e2 e3 e4 e5 e6 e7)
            have hE3 : ev_S cJ M3 v va vb om oa ob im ia ib (vp_updL fv j x3) (vp_updL gv j y3) := ⟨hV3, ⟨n, f, g, hmk3⟩, hO4⟩
            have hT3 : tb_ok cI M3 tb := tb_kept hT (fun a9 e9 ha9 k1 k2 => hfr3 a9 (fun z9 => k1 _ (Option.some.inj (ha9.symm.trans (z9 ▸ hmo.1)))) (fun z9 => k2 _ _ _ (Option.some.inj (ha9.symm.trans (z9 ▸ hmo.2.1)))) (fun z9 => k2 _ _ _ (Option.some.inj (ha9.symm.trans (z9 ▸ hmo.2.2)))) (fun z9 => k1 _ (Option.some.inj (ha9.symm.trans (z9 ▸ hmi.1)))) (fun z9 => k2 _ _ _ (Option.some.inj (ha9.symm.trans (z9 ▸ hmi.2.1)))) (fun z9 => k2 _ _ _ (Option.some.inj (ha9.symm.trans (z9 ▸ hmi.2.2)))) (fun z9 => k2 _ _ _ (Option.some.inj (ha9.symm.trans (z9 ▸ hV.2.1)))) (fun z9 => k2 _ _ _ (Option.some.inj (ha9.symm.trans (z9 ▸ hV.2.2)))))
            have hc3 : M3 h0 = some (.inr (6, [.int (nd_fr (nx q) (ny q)), .int (nI (nd q)), .ref la, .int gr, .int (nI j), .ref a, .int (if kk = true then 1 else 0)])) := (hfr3 h0 nh_om nh_oa nh_ob nh_im nh_ia nh_ib nh_va nh_vb).trans hc
            have hb3 : vx_b (vp_updL fv j x3) (vp_updL gv j y3) (nd q1) := by
              intro i hi
              by_cases e : i = j
              · subst e; rw [pk_uLs, pk_uLs]; exact ⟨hmo3.1, by have := hmo3.2.1; omega, by have := hmo3.2.2.1; omega⟩
              · rw [pk_uLn e, pk_uLn e]; have := hb9 i hi; exact ⟨this.1, by omega, by omega⟩
            refine lv_aload_n hx hb d_Qf_isTrueAt_85 rfl (lv_at hl 5 rfl) ?_
            refine hw_get (own := "QuantifierOut$Quantified") (v := .ref a) hx hb hts i_Qf hown hW hc3 rfl 5 (by decide) (hts _ tw_396) (fun _ h9 => h9) rfl d_Qf_isTrueAt_86 ?_
            refine lv_aload_n hx hb d_Qf_isTrueAt_89 rfl (lv_at hl 6 rfl) ?_
            obtain ⟨⟨la_a, gr_a, F_a, hc_a, _⟩, _⟩ := hT3 a q1 h1
            refine hw_calli (it_run 1 rfl (own := "QuantifierOut$Quantified") (rest := []) hx hb hml hown hts hX hW hl.1 (ih a q1 h1 (by omega) M3 _ (vp_updL fv j x3) (vp_updL gv j y3) hT3 hE3 hb3) hc_a.2 tw_497 rfl rfl ⟨by show N + 5 + 1 ≤ N + 1 + 5; omega, by show 8 + (9 + 11) + (60 * N + 260) ≤ 60 * (N + 1) + 260; omega⟩ rfl (Nat.le_of_ble_eq_true rfl) d_Qf_isTrueAt_90 ⟨Nat.le_refl 0, Nat.le_refl 0⟩) hW hS hA (fun r3 M4 H locs hp3 hz hW hS => ?_)
            obtain ⟨p1, p2, p3⟩ := hp3
            rw [qf_XY hjo (nP q1)] at p1
            refine lv_istore (lv' := [(7, .int r3), (8, .int (nI sN)), (6, .ref om), (4, .long gj), (2, .long fj), (0, .ref h0), (1, .ref v)]) hx hb d_Qf_isTrueAt_93 hl (by decide) rfl (fun ls hl => ?_)
            obtain ⟨s9, es9⟩ : ∃ y9 : Int32, y9 = (nI sN) + Int32.ofInt (1) := ⟨_, rfl⟩
            refine lv_iinc (v := s9) (lv' := [(8, .int s9), (7, .int r3), (6, .ref om), (4, .long gj), (2, .long fj), (0, .ref h0), (1, .ref v)]) hx hb d_Qf_isTrueAt_95 hl (k := 1) rfl es9.symm (by decide) rfl (fun ls hl => ?_)
            have es : s9 = nI (sN + 1) := by rw [es9]; exact nI_add sN 1
            subst es
            refine lv_goto (tgt := 54) hx hb d_Qf_isTrueAt_98 (by decide) ?_
            have hq4 : ∀ r9, r9 ≠ im → r9 ≠ ia → r9 ≠ ib → M4 r9 = M3 r9 := fun r9 e1 e2 e3 => p2 r9 (Or.inr ⟨e1, e2, e3⟩) (Or.inl (by omega))
            have hmk4 : mk_S cJ M4 om oa ob n f g := ⟨(hq4 om d16 n_om_ia n_om_ib).trans hmk3.1, (hq4 oa (Ne.symm n_im_oa) d12 d13).trans hmk3.2.1, (hq4 ob (Ne.symm n_im_ob) d14 d15).trans hmk3.2.2⟩
            have hfr4 : ∀ r9, r9 ≠ om → r9 ≠ oa → r9 ≠ ob → r9 ≠ im → r9 ≠ ia → r9 ≠ ib → r9 ≠ va → r9 ≠ vb → M4 r9 = M r9 := fun r9 e0 e1 e2 e3 e4 e5 e6 e7 => (hq4 r9 e3 e4 e5).trans (hfr3 r9 e0 e1 e2 e3 e4 e5 e6 e7)
            refine ihz (sN + 1) (by omega) (by omega) H locs M4 x3 y3 r3 ls hW hS hfr4 hmk4 p3.1 p3.2.2 (qf_step hI c_70 hmo3.2.2.2 p1 (fun u hu => hcell sN u _ hu hmo3.2.2.2)) (lv_sub hl [0, 1, 2, 3, 4, 5, 6] rfl)
    have hfrg : ∀ r9, r9 ≠ om → r9 ≠ oa → r9 ≠ ob → r9 ≠ im → r9 ≠ ia → r9 ≠ ib → r9 ≠ va → r9 ≠ vb → Mg r9 = M r9 := fun r9 e0 e1 e2 e3 e4 e5 e6 e7 => hfg r9 e0 e1 e2
    have hcg : Mg h0 = some (.inr (6, [.int (nd_fr (nx q) (ny q)), .int (nI (nd q)), .ref la, .int gr, .int (nI j), .ref a, .int (if kk = true then 1 else 0)])) := (hfrg h0 nh_om nh_oa nh_ob nh_im nh_ia nh_ib nh_va nh_vb).trans hc
    have hVg : vs_S cJ Mg v va vb om im (vp_updL fv j (fv j)) (vp_updL gv j (gv j)) := by
      rw [uL_id, uL_id]
      exact ⟨(hfg v nv_om nv_oa nv_ob).trans hV.1, (hfg va (Ne.symm n_om_va) d2 d3).trans hV.2.1, (hfg vb (Ne.symm n_om_vb) d6 d7).trans hV.2.2⟩
    refine lv_aload_n hx hb d_Qf_isTrueAt_45 rfl (lv_at hl 3 rfl) ?_
    refine hw_get (own := "QuantifierOut$Quantified") (v := .int (if kk = true then 1 else 0)) hx hb hts i_Qf hown hW hcg rfl 6 (by decide) (hts _ tw_397) (fun _ h9 => h9) rfl d_Qf_isTrueAt_46 ?_
    refine lv_istore (lv' := [(7, .int (if kk = true then 1 else 0)), (6, .ref om), (4, .long gj), (2, .long fj), (0, .ref h0), (1, .ref v)]) hx hb d_Qf_isTrueAt_49 hl (by decide) rfl (fun ls hl => ?_)
    refine lv_iconst (v := 0) hx hb d_Qf_isTrueAt_51 (by decide) ?_
    refine lv_istore (lv' := [(8, .int 0), (7, .int (if kk = true then 1 else 0)), (6, .ref om), (4, .long gj), (2, .long fj), (0, .ref h0), (1, .ref v)]) hx hb d_Qf_isTrueAt_52 hl (by decide) rfl (fun ls hl => ?_)
    exact loop (2 * n + 2) 0 (by omega) (by omega) H locs Mg (fv j) (gv j) (if kk = true then 1 else 0) ls hW hS hfrg hmk hVg ⟨n9, f9, g9, (hfg im (Ne.symm d16) n_im_oa n_im_ob).trans hmi.1, (hfg ia (Ne.symm n_om_ia) (Ne.symm d12) (Ne.symm d14)).trans hmi.2.1, (hfg ib (Ne.symm n_om_ib) (Ne.symm d13) (Ne.symm d15)).trans hmi.2.2⟩ (Or.inl ⟨rfl, fun s9 h9 => absurd h9 (Nat.not_lt_zero s9)⟩) (lv_sub hl [0, 1, 2, 3, 4, 5, 6] rfl)
/-- every node keeps the contract -/
theorem it_all (hD : ev_D va vb om oa ob im ia ib) (N : Nat) : it_Met l D cI cJ cZ cN v va vb om oa ob im ia ib tb N := by
  have hat : ∀ (N : Nat) (a : Nat) (q : nq) (op : Nat), nK q = .inl op → tb a = some q → ∀ (M : Nat → Option va_E) (sz : Nat) (fv gv : Nat → Int64), tb_ok cI M tb → ev_S cJ M v va vb om oa ob im ia ib fv gv → vx_b fv gv (nd q) → Met l (it_y (nK q)) (.code (it_y (nK q)) (it_bc (nK q)) (it_ml (nK q)) (some .boolean) :: ww) (it_rm N) (hw_Pc D qcl (qty cI cJ cZ cN) [.ref a, .ref v] M sz) (va_Qi (it_post cJ v va vb om oa ob im ia ib fv gv q M) (hw_B D qcl (qty cI cJ cZ cN) M sz) (hw_A M sz)) 0 0 (hw_A M sz) := by
    intro N a q op hK ha M sz fv gv hT hE hb
    obtain ⟨⟨la, gr, F, ⟨hci, hc⟩, hla, hF, hg⟩, hok⟩ := hT a q ha
    have hk := hok.1
    unfold nk_ok at hk
    unfold nk_ex nk_ci at hc
    rw [hK] at hk hc
    dsimp only at hk hc
    obtain ⟨l0, h1, h2, h3, h4, h5, h6⟩ := hk
    have hb5 := hok.2.2.2.2.2.1 l0 (by rw [h1]; exact List.mem_singleton.mpr rfl)
    rw [h1] at hc
    have hi : ∀ z : Int, z.natAbs ≤ 5 → (Int32.ofInt z).toInt = z := fun z hz => by
      rw [Int32.toInt_ofInt]
      exact nm_b32 (by omega)
    have key := c_At_isTrueAt l D cI cJ cZ cN a sz la op v va vb om im (nd q) _ _ gr _ _ _ l0 fv gv (it_rm N) M hc (hi _ hb5.1) (hi _ hb5.2.1) (hi _ hb5.2.2) hb5 h3 hE.1 hb rfl rfl
    have hpost : (fun (r : Int32) (M1 : Nat → Option va_E) => it_b r (qm_atom l0 op (vX fv gv) (vY fv gv)) ∧ M1 = M) = (fun r M1 => it_b r (qm_atom l0 op (vX fv gv) (vY fv gv)) ∧ M1 = M) := rfl
    rw [hK]
    refine it_weak key (fun r M1 h => ⟨?_, ?_, ?_⟩)
    · have h9 := h.1
      unfold it_b at h9 ⊢
      rw [h2]
      exact h9
    · rw [h.2]; exact it_fr_rf
    · rw [h.2]; exact hE
  induction N with
  | zero =>
    intro a q ha hN M sz fv gv hT hE hb
    match hK : nK q with
    | .inl op => rw [← hK]; exact hat 0 a q op hK ha M sz fv gv hT hE hb
    | .inr (.inl (x, y, k)) =>
      have hk := (hT a q ha).2.1
      unfold nk_ok at hk
      rw [hK] at hk
      obtain ⟨q1, q2, _, _, h, _⟩ := hk
      omega
    | .inr (.inr (.inl x)) =>
      have hk := (hT a q ha).2.1
      unfold nk_ok at hk
      rw [hK] at hk
      obtain ⟨q1, _, h, _⟩ := hk
      omega
    | .inr (.inr (.inr (j, x, k))) =>
      have hk := (hT a q ha).2.1
      unfold nk_ok at hk
      rw [hK] at hk
      obtain ⟨q1, _, _, h, _⟩ := hk
      omega
  | succ N ih =>
    intro a q ha hN M sz fv gv hT hE hb
    match hK : nK q with
    | .inl op => rw [← hK]; exact hat (N + 1) a q op hK ha M sz fv gv hT hE hb
    | .inr (.inl (x, y, k)) => exact c_Pr_isTrueAt l D cI cJ cZ cN v va vb om oa ob im ia ib tb N ih a q ha hN M sz fv gv hT hE hb x y k hK
    | .inr (.inr (.inl x)) => exact c_Ng_isTrueAt l D cI cJ cZ cN v va vb om oa ob im ia ib tb N ih a q ha hN M sz fv gv hT hE hb x hK
    | .inr (.inr (.inr (j, x, k))) => exact c_Qf_isTrueAt l D cI cJ cZ cN v va vb om oa ob im ia ib tb N ih a q ha hN M sz fv gv hT hE hb j x k hK hD
end G22
end
section
/-! Pieces.find -/
/-- the set of a node with one free letter -/
def nS (q : nq) (u : Rat) : Prop := nP_j (if nx q = true then 0 else 1) (nP q) u 0
def pj_I (t : Nat → Prop) (m : Nat) (fs ls : Nat → Nat) (s : Nat) (ip : Int32) : Prop := qi_runs t m fs ls s ∧ (∀ k, k < m → 2 * k ≤ fs k) ∧ ((ip = 1 ∧ 0 < m ∧ ls (m - 1) + 1 = s) ∨ (ip = 0 ∧ (0 < m → ls (m - 1) + 1 < s ∧ ¬ t (ls (m - 1) + 1))))
theorem pj_0 (t : Nat → Prop) (fs ls : Nat → Nat) : pj_I t 0 fs ls 0 0 := ⟨⟨fun k h => absurd h (Nat.not_lt_zero k), fun j h => absurd h (Nat.not_lt_zero j), fun i k _ h => absurd h (Nat.not_lt_zero k)⟩, fun k h => absurd h (Nat.not_lt_zero k), Or.inr ⟨rfl, fun h => absurd h (Nat.lt_irrefl 0)⟩⟩
theorem pj_no {t : Nat → Prop} {m : Nat} {fs ls : Nat → Nat} {s : Nat} {ip : Int32} (h : pj_I t m fs ls s ip) (ht : ¬ t s) : pj_I t m fs ls (s + 1) 0 := by
  obtain ⟨⟨r1, r2, r3⟩, h2, h3⟩ := h
  refine ⟨⟨fun k hk => ⟨(r1 k hk).1, by have := (r1 k hk).2.1; omega, (r1 k hk).2.2⟩, fun j hj htj => ?_, r3⟩, h2, Or.inr ⟨rfl, fun hm => ?_⟩⟩
  · rcases Nat.lt_or_ge j s with c | c
    · exact r2 j c htj
    · have e : j = s := by omega
      subst e
      exact absurd htj ht
  · rcases h3 with ⟨_, _, e⟩ | ⟨_, e⟩
    · rw [e]; exact ⟨by omega, ht⟩
    · exact ⟨by have := (e hm).1; omega, (e hm).2⟩
theorem pj_in {t : Nat → Prop} {m : Nat} {fs ls : Nat → Nat} {s : Nat} {ip : Int32} (h : pj_I t m fs ls s ip) (ht : t s) (hi : ¬ ip = 0) : 0 < m ∧ pj_I t m fs (va_up ls (m - 1) s) (s + 1) 1 := by
  obtain ⟨⟨r1, r2, r3⟩, h2, h3⟩ := h
  have us : va_up ls (m - 1) s (m - 1) = s := va_up_self _ _ _
  have un : ∀ k, k ≠ m - 1 → va_up ls (m - 1) s k = ls k := fun k hk => va_up_ne _ _ hk
  rcases h3 with ⟨_, hm, e⟩ | ⟨e, _⟩
  · refine ⟨hm, ⟨fun k hk => ?_, fun j hj htj => ?_, fun i k hik hk => ?_⟩, h2, Or.inl ⟨rfl, hm, by rw [us]⟩⟩
    · by_cases c : k = m - 1
      · obtain ⟨a, b, d⟩ := r1 k hk
        rw [c, us]
        rw [c] at a b d
        refine ⟨by omega, by omega, fun j j1 j2 => ?_⟩
        rcases Nat.lt_or_ge j s with q | q
        · exact d j j1 (by omega)
        · rw [show j = s by omega]; exact ht
      · rw [un k c]
        obtain ⟨a, b, d⟩ := r1 k hk
        exact ⟨a, by omega, d⟩
    · rcases Nat.lt_or_ge j s with q | q
      · obtain ⟨k, hk, a, b⟩ := r2 j q htj
        refine ⟨k, hk, a, ?_⟩
        by_cases c : k = m - 1
        · rw [c, us]; omega
        · rw [un k c]; exact b
      · refine ⟨m - 1, by omega, ?_, by rw [us]; omega⟩
        have := (r1 (m - 1) (by omega)).1
        omega
    · rw [un i (by omega)]
      exact r3 i k hik hk
  · exact absurd e hi
theorem pj_new {t : Nat → Prop} {m : Nat} {fs ls : Nat → Nat} {s : Nat} {ip : Int32} (h : pj_I t m fs ls s ip) (ht : t s) (hi : ip = 0) : 2 * m ≤ s ∧ pj_I t (m + 1) (va_up fs m s) (va_up ls m s) (s + 1) 1 := by
  obtain ⟨⟨r1, r2, r3⟩, h2, h3⟩ := h
  have us : va_up ls m s m = s := va_up_self _ _ _
  have un : ∀ k, k ≠ m → va_up ls m s k = ls k := fun k hk => va_up_ne _ _ hk
  have vs : va_up fs m s m = s := va_up_self _ _ _
  have vn : ∀ k, k ≠ m → va_up fs m s k = fs k := fun k hk => va_up_ne _ _ hk
  rcases h3 with ⟨e, _⟩ | ⟨_, e⟩
  · rw [hi] at e; exact absurd e (by decide)
  · have hms : 2 * m ≤ s := by
      rcases Nat.eq_zero_or_pos m with q | q
      · omega
      · have a := (e q).1
        have b := (r1 (m - 1) (by omega)).1
        have c := h2 (m - 1) (by omega)
        omega
    refine ⟨hms, ⟨fun k hk => ?_, fun j hj htj => ?_, fun i k hik hk => ?_⟩, fun k hk => ?_, Or.inl ⟨rfl, by omega, by rw [show m + 1 - 1 = m by omega, us]⟩⟩
    · by_cases c : k = m
      · rw [c, us, vs]
        exact ⟨Nat.le_refl s, by omega, fun j j1 j2 => by rw [show j = s by omega]; exact ht⟩
      · rw [un k c, vn k c]
        obtain ⟨a, b, d⟩ := r1 k (by omega)
        exact ⟨a, by omega, d⟩
    · rcases Nat.lt_or_ge j s with q | q
      · obtain ⟨k, hk, a, b⟩ := r2 j q htj
        exact ⟨k, by omega, by rw [vn k (by omega)]; exact a, by rw [un k (by omega)]; exact b⟩
      · exact ⟨m, by omega, by rw [vs]; omega, by rw [us]; omega⟩
    · rw [un i (by omega)]
      by_cases c : k = m
      · rw [c, vs]
        rcases Nat.lt_or_ge i (m - 1) with q | q
        · have a := r3 i (m - 1) q (by omega)
          have b := (r1 (m - 1) (by omega)).1
          have d := (e (by omega)).1
          exact ⟨by omega, a.2⟩
        · rw [show i = m - 1 by omega]
          exact e (by omega)
      · rw [vn k c]
        exact r3 i k hik (by omega)
    · by_cases c : k = m
      · rw [c, vs]; exact hms
      · rw [vn k c]; exact h2 k (by omega)
/-- the row of pieces belongs to the node q -/
def pc_R (q : nq) (n : Nat) (f g : Nat → Int64) (m : Nat) (Ff Fl : Nat → Int32) : Prop := n ≤ 21 ∧ mk_row f g n 50 ∧ m ≤ 22 ∧ ∃ fs ls : Nat → Nat, (∀ k, k < m → Ff k = nI (fs k) ∧ Fl k = nI (ls k) ∧ fs k ≤ ls k ∧ ls k < 2 * n + 1) ∧ qp_sys (nS q) m (fun k => qi_L (mk_v f g) (fs k)) (fun k => qi_R (mk_v f g) n (ls k))
def pc_S (cI cJ : ClassId) (M : Nat → Option va_E) (h mk ka kb fa la : Nat) (ow : Option Nat) (n : Nat) (f g : Nat → Int64) (m : Nat) (Ff Fl : Nat → Int32) : Prop := M h = some (.inr (5, [.ref mk, .ref fa, .ref la, .int (nI m), va_rf ow])) ∧ mk_S cJ M mk ka kb n f g ∧ M fa = some (.inl (cI, 22, .inl Ff)) ∧ M la = some (.inl (cI, 22, .inl Fl))
/-- .. and what it says is true, if it is anybody's -/
def pc_ok (cI cJ : ClassId) (M : Nat → Option va_E) (tb : Nat → Option nq) (h mk ka kb fa la : Nat) (ow : Option Nat) : Prop := ∃ (n : Nat) (f g : Nat → Int64) (m : Nat) (Ff Fl : Nat → Int32), pc_S cI cJ M h mk ka kb fa la ow n f g m Ff Fl ∧ ∀ a, ow = some a → ∃ q, tb a = some q ∧ pc_R q n f g m Ff Fl
/-- the row's cells are apart from the others -/
def pc_D (va vb om oa ob im ia ib mk ka kb fa la : Nat) : Prop := ka ≠ kb ∧ va ≠ ka ∧ va ≠ kb ∧ vb ≠ ka ∧ vb ≠ kb ∧ oa ≠ ka ∧ oa ≠ kb ∧ ob ≠ ka ∧ ob ≠ kb ∧ ia ≠ ka ∧ ia ≠ kb ∧ ib ≠ ka ∧ ib ≠ kb ∧ om ≠ mk ∧ im ≠ mk ∧ fa ≠ la
theorem qi_stx {M : Nat → Rat} {n : Nat} (hi : qm_inc M n) : ∃ st, qm_stops M n st := by
  have h : ∀ s, ∃ x, s < 2 * n + 1 → qi_at M n s x := fun s => by
    by_cases hs : s < 2 * n + 1
    · rcases Nat.mod_two_eq_zero_or_one s with e | e
      · obtain ⟨v, h1, h2⟩ := qm_between ((List.range (s / 2)).map M) (((List.range n).filter (fun j => decide (s / 2 ≤ j))).map M) (by
          intro a ha b hb
          obtain ⟨i, hi1, rfl⟩ := List.mem_map.mp ha
          obtain ⟨j, hj1, rfl⟩ := List.mem_map.mp hb
          obtain ⟨hj1, hj2⟩ := List.mem_filter.mp hj1
          have := List.mem_range.mp hi1
          have := List.mem_range.mp hj1
          have := of_decide_eq_true hj2
          exact hi i j (by omega) (by omega))
        refine ⟨v, fun _ => Or.inr ⟨s / 2, by omega, by omega, fun j hj => h1 _ (List.mem_map.mpr ⟨j, List.mem_range.mpr hj, rfl⟩), fun j hj hn => h2 _ (List.mem_map.mpr ⟨j, List.mem_filter.mpr ⟨List.mem_range.mpr hn, decide_eq_true hj⟩, rfl⟩)⟩⟩
      · exact ⟨M (s / 2), fun _ => Or.inl ⟨s / 2, by omega, by omega, rfl⟩⟩
    · exact ⟨0, fun h => absurd h hs⟩
  obtain ⟨st, hst⟩ := Classical.axiomOfChoice h
  refine ⟨st, fun k hk => ⟨fun hkn => ?_, fun j hj => ?_, fun j h1 h2 => ?_⟩⟩
  · rcases hst (2 * k + 1) (by omega) with ⟨i, i1, i2, i3⟩ | ⟨i, i1, i2, _⟩
    · rw [i3, show i = k by omega]
    · omega
  · rcases hst (2 * k) (by omega) with ⟨i, i1, i2, i3⟩ | ⟨i, i1, i2, i3, i4⟩
    · omega
    · exact i3 j (by omega)
  · rcases hst (2 * k) (by omega) with ⟨i, i1, i2, i3⟩ | ⟨i, i1, i2, i3, i4⟩
    · omega
    · exact i4 j (by omega) h2
section G23
variable (l : Launch) (D : va_G) (cI cJ cZ cN : ClassId) (v va vb om oa ob im ia ib : Nat) (tb : Nat → Option nq)
set_option maxHeartbeats 4000000 in
set_option maxRecDepth 100000 in
theorem c_Pc_find (h0 mk ka kb fa la a sz : Nat) (ow : Option Nat) (q : nq) (hq : tb a = some q) (fv gv : Nat → Int64) (M : Nat → Option va_E) (hT : tb_ok cI M tb) (hE : ev_S cJ M v va vb om oa ob im ia ib fv gv) (hD : ev_D va vb om oa ob im ia ib) (hD2 : pc_D va vb om oa ob im ia ib mk ka kb fa la) (hP : pc_ok cI cJ M tb h0 mk ka kb fa la ow) (hla9 : ∀ a2 q2 la2 gr ex ci, tb a2 = some q2 → nd_c M a2 ci (nd_fr (nx q2) (ny q2)) (nI (nd q2)) la2 gr ex → la2 ≠ fa ∧ la2 ≠ la) (hd : nd q ≤ 1) (hxy : nx q ≠ ny q) : Met l y_Pc_find (.code y_Pc_find b_Pc_find 7 none :: ww) ({ frames := 25, cells := 0, slots := 0, locals := 1400 }) (hw_Pc D qcl (qty cI cJ cZ cN) [.ref h0, .ref a, .ref v] M sz) (va_Qv (fun M1 => (∃ fv2 gv2, ev_S cJ M1 v va vb om oa ob im ia ib fv2 gv2) ∧ pc_ok cI cJ M1 tb h0 mk ka kb fa la (some a) ∧ ∀ r9, r9 ≠ h0 → r9 ≠ mk → r9 ≠ ka → r9 ≠ kb → r9 ≠ fa → r9 ≠ la → r9 ≠ va → r9 ≠ vb → r9 ≠ im → r9 ≠ ia → r9 ≠ ib → M1 r9 = M r9) (hw_B D qcl (qty cI cJ cZ cN) M sz) (hw_A M sz)) 0 0 (hw_A M sz) := by
  obtain ⟨n0, f0, g0, m0, Ff0, Fl0, ⟨hc, hmk0, hfa0, hla0⟩, hR⟩ := id hP
  obtain ⟨⟨lq, gr, F, hnd, hlq, hF, hg⟩, hok⟩ := hT a q hq
  obtain ⟨_, b1, b2, b3, b4, b5, b6, b7, b8⟩ := id hok
  obtain ⟨hV, ⟨n8, f8, g8, hmo⟩, ⟨n9, f9, g9, hmi⟩⟩ := id hE
  obtain ⟨d1, d2, d3, d4, d5, d6, d7, d8, d9, d10, d11, d12, d13, d14, d15, d16⟩ := id hD
  obtain ⟨e1, e2, e3, e4, e5, e6, e7, e8, e9, e10, e11, e12, e13, e14, e15, e16⟩ := id hD2
  have hc00 := hc
  have hlqf := hla9 a q lq gr _ _ hq hnd
  have u_h0_mk : h0 ≠ mk := hw_ne hc hmk0.1 (by simp)
  have u_h0_ka : h0 ≠ ka := hw_ne hc hmk0.2.1 (by simp)
  have u_h0_kb : h0 ≠ kb := hw_ne hc hmk0.2.2 (by simp)
  have u_h0_fa : h0 ≠ fa := hw_ne hc hfa0 (by simp)
  have u_h0_la : h0 ≠ la := hw_ne hc hla0 (by simp)
  have u_h0_v : h0 ≠ v := hw_ne hc hV.1 (by simp)
  have u_h0_va : h0 ≠ va := hw_ne hc hV.2.1 (by simp)
  have u_h0_vb : h0 ≠ vb := hw_ne hc hV.2.2 (by simp)
  have u_h0_om : h0 ≠ om := hw_ne hc hmo.1 (by simp)
  have u_h0_oa : h0 ≠ oa := hw_ne hc hmo.2.1 (by simp)
  have u_h0_ob : h0 ≠ ob := hw_ne hc hmo.2.2 (by simp)
  have u_h0_im : h0 ≠ im := hw_ne hc hmi.1 (by simp)
  have u_h0_ia : h0 ≠ ia := hw_ne hc hmi.2.1 (by simp)
  have u_h0_ib : h0 ≠ ib := hw_ne hc hmi.2.2 (by simp)
  have u_h0_lq : h0 ≠ lq := hw_ne hc hlq (by simp)
  have u_mk_ka : mk ≠ ka := hw_ne hmk0.1 hmk0.2.1 (by simp)
  have u_mk_kb : mk ≠ kb := hw_ne hmk0.1 hmk0.2.2 (by simp)
  have u_mk_fa : mk ≠ fa := hw_ne hmk0.1 hfa0 (by simp)
  have u_mk_la : mk ≠ la := hw_ne hmk0.1 hla0 (by simp)
  have u_mk_v : mk ≠ v := hw_ne hmk0.1 hV.1 (by simp)
  have u_mk_va : mk ≠ va := hw_ne hmk0.1 hV.2.1 (by simp)
  have u_mk_vb : mk ≠ vb := hw_ne hmk0.1 hV.2.2 (by simp)
  have u_mk_oa : mk ≠ oa := hw_ne hmk0.1 hmo.2.1 (by simp)
  have u_mk_ob : mk ≠ ob := hw_ne hmk0.1 hmo.2.2 (by simp)
  have u_mk_ia : mk ≠ ia := hw_ne hmk0.1 hmi.2.1 (by simp)
  have u_mk_ib : mk ≠ ib := hw_ne hmk0.1 hmi.2.2 (by simp)
  have u_mk_lq : mk ≠ lq := hw_ne hmk0.1 hlq (by simp)
  have u_ka_fa : ka ≠ fa := hw_ne hmk0.2.1 hfa0 (by simp)
  have u_ka_la : ka ≠ la := hw_ne hmk0.2.1 hla0 (by simp)
  have u_ka_v : ka ≠ v := hw_ne hmk0.2.1 hV.1 (by simp)
  have u_ka_om : ka ≠ om := hw_ne hmk0.2.1 hmo.1 (by simp)
  have u_ka_im : ka ≠ im := hw_ne hmk0.2.1 hmi.1 (by simp)
  have u_ka_lq : ka ≠ lq := hw_ne hmk0.2.1 hlq (by simp)
  have u_kb_fa : kb ≠ fa := hw_ne hmk0.2.2 hfa0 (by simp)
  have u_kb_la : kb ≠ la := hw_ne hmk0.2.2 hla0 (by simp)
  have u_kb_v : kb ≠ v := hw_ne hmk0.2.2 hV.1 (by simp)
  have u_kb_om : kb ≠ om := hw_ne hmk0.2.2 hmo.1 (by simp)
  have u_kb_im : kb ≠ im := hw_ne hmk0.2.2 hmi.1 (by simp)
  have u_kb_lq : kb ≠ lq := hw_ne hmk0.2.2 hlq (by simp)
  have u_fa_v : fa ≠ v := hw_ne hfa0 hV.1 (by simp)
  have u_fa_va : fa ≠ va := hw_ne hfa0 hV.2.1 (by simp)
  have u_fa_vb : fa ≠ vb := hw_ne hfa0 hV.2.2 (by simp)
  have u_fa_om : fa ≠ om := hw_ne hfa0 hmo.1 (by simp)
  have u_fa_oa : fa ≠ oa := hw_ne hfa0 hmo.2.1 (by simp)
  have u_fa_ob : fa ≠ ob := hw_ne hfa0 hmo.2.2 (by simp)
  have u_fa_im : fa ≠ im := hw_ne hfa0 hmi.1 (by simp)
  have u_fa_ia : fa ≠ ia := hw_ne hfa0 hmi.2.1 (by simp)
  have u_fa_ib : fa ≠ ib := hw_ne hfa0 hmi.2.2 (by simp)
  have u_la_v : la ≠ v := hw_ne hla0 hV.1 (by simp)
  have u_la_va : la ≠ va := hw_ne hla0 hV.2.1 (by simp)
  have u_la_vb : la ≠ vb := hw_ne hla0 hV.2.2 (by simp)
  have u_la_om : la ≠ om := hw_ne hla0 hmo.1 (by simp)
  have u_la_oa : la ≠ oa := hw_ne hla0 hmo.2.1 (by simp)
  have u_la_ob : la ≠ ob := hw_ne hla0 hmo.2.2 (by simp)
  have u_la_im : la ≠ im := hw_ne hla0 hmi.1 (by simp)
  have u_la_ia : la ≠ ia := hw_ne hla0 hmi.2.1 (by simp)
  have u_la_ib : la ≠ ib := hw_ne hla0 hmi.2.2 (by simp)
  have u_v_va : v ≠ va := hw_ne hV.1 hV.2.1 (by simp)
  have u_v_vb : v ≠ vb := hw_ne hV.1 hV.2.2 (by simp)
  have u_v_om : v ≠ om := hw_ne hV.1 hmo.1 (by simp)
  have u_v_oa : v ≠ oa := hw_ne hV.1 hmo.2.1 (by simp)
  have u_v_ob : v ≠ ob := hw_ne hV.1 hmo.2.2 (by simp)
  have u_v_im : v ≠ im := hw_ne hV.1 hmi.1 (by simp)
  have u_v_ia : v ≠ ia := hw_ne hV.1 hmi.2.1 (by simp)
  have u_v_ib : v ≠ ib := hw_ne hV.1 hmi.2.2 (by simp)
  have u_v_lq : v ≠ lq := hw_ne hV.1 hlq (by simp)
  have u_va_om : va ≠ om := hw_ne hV.2.1 hmo.1 (by simp)
  have u_va_im : va ≠ im := hw_ne hV.2.1 hmi.1 (by simp)
  have u_va_lq : va ≠ lq := hw_ne hV.2.1 hlq (by simp)
  have u_vb_om : vb ≠ om := hw_ne hV.2.2 hmo.1 (by simp)
  have u_vb_im : vb ≠ im := hw_ne hV.2.2 hmi.1 (by simp)
  have u_vb_lq : vb ≠ lq := hw_ne hV.2.2 hlq (by simp)
  have u_om_oa : om ≠ oa := hw_ne hmo.1 hmo.2.1 (by simp)
  have u_om_ob : om ≠ ob := hw_ne hmo.1 hmo.2.2 (by simp)
  have u_om_ia : om ≠ ia := hw_ne hmo.1 hmi.2.1 (by simp)
  have u_om_ib : om ≠ ib := hw_ne hmo.1 hmi.2.2 (by simp)
  have u_om_lq : om ≠ lq := hw_ne hmo.1 hlq (by simp)
  have u_oa_im : oa ≠ im := hw_ne hmo.2.1 hmi.1 (by simp)
  have u_oa_lq : oa ≠ lq := hw_ne hmo.2.1 hlq (by simp)
  have u_ob_im : ob ≠ im := hw_ne hmo.2.2 hmi.1 (by simp)
  have u_ob_lq : ob ≠ lq := hw_ne hmo.2.2 hlq (by simp)
  have u_im_ia : im ≠ ia := hw_ne hmi.1 hmi.2.1 (by simp)
  have u_im_ib : im ≠ ib := hw_ne hmi.1 hmi.2.2 (by simp)
  have u_im_lq : im ≠ lq := hw_ne hmi.1 hlq (by simp)
  have u_ia_lq : ia ≠ lq := hw_ne hmi.2.1 hlq (by simp)
  have u_ib_lq : ib ≠ lq := hw_ne hmi.2.2 hlq (by simp)
  have u_a_h0 : a ≠ h0 := by rcases hnd with ⟨k9, hnd⟩; exact hw_ne hnd hc (by intro z9; simp only [Sum.inr.injEq, Prod.mk.injEq] at z9; omega)
  have u_a_mk : a ≠ mk := by rcases hnd with ⟨k9, hnd⟩; exact hw_ne hnd hmk0.1 (by intro z9; simp only [Sum.inr.injEq, Prod.mk.injEq] at z9; omega)
  have u_a_ka : a ≠ ka := hw_ne hnd.2 hmk0.2.1 (by simp)
  have u_a_kb : a ≠ kb := hw_ne hnd.2 hmk0.2.2 (by simp)
  have u_a_fa : a ≠ fa := hw_ne hnd.2 hfa0 (by simp)
  have u_a_la : a ≠ la := hw_ne hnd.2 hla0 (by simp)
  have u_a_v : a ≠ v := by rcases hnd with ⟨k9, hnd⟩; exact hw_ne hnd hV.1 (by intro z9; simp only [Sum.inr.injEq, Prod.mk.injEq] at z9; omega)
  have u_a_va : a ≠ va := hw_ne hnd.2 hV.2.1 (by simp)
  have u_a_vb : a ≠ vb := hw_ne hnd.2 hV.2.2 (by simp)
  have u_a_om : a ≠ om := by rcases hnd with ⟨k9, hnd⟩; exact hw_ne hnd hmo.1 (by intro z9; simp only [Sum.inr.injEq, Prod.mk.injEq] at z9; omega)
  have u_a_oa : a ≠ oa := hw_ne hnd.2 hmo.2.1 (by simp)
  have u_a_ob : a ≠ ob := hw_ne hnd.2 hmo.2.2 (by simp)
  have u_a_im : a ≠ im := by rcases hnd with ⟨k9, hnd⟩; exact hw_ne hnd hmi.1 (by intro z9; simp only [Sum.inr.injEq, Prod.mk.injEq] at z9; omega)
  have u_a_ia : a ≠ ia := hw_ne hnd.2 hmi.2.1 (by simp)
  have u_a_ib : a ≠ ib := hw_ne hnd.2 hmi.2.2 (by simp)
  have u_a_lq : a ≠ lq := hw_ne hnd.2 hlq (by simp)
  refine hw_met (by decide) (Nat.le_of_ble_eq_true rfl) ?_
  intro p e s m below meth c hx hb hr hml hown hlocks hnm hts hsz hX hW ls hl
  subst hsz
  have hA : ∀ q, s.heap.size ≤ q → hw_A M s.heap.size q := fun q h => Or.inr h
  have hS : va_S (hw_A M s.heap.size) s.heap s.heap [] := va_S.rf
  have hl : lv_has ls 7 [(0, .ref h0), (1, .ref a), (2, .ref v)] := hl
  have hown : s.vm.findClass "QuantifierOut$Pieces" = some m.cls := hown
  obtain ⟨Q9, hQ9⟩ : ∃ X : State → Prop, X = MQ below (va_Qv (fun M1 => (∃ fv2 gv2, ev_S cJ M1 v va vb om oa ob im ia ib fv2 gv2) ∧ pc_ok cI cJ M1 tb h0 mk ka kb fa la (some a) ∧ ∀ r9, r9 ≠ h0 → r9 ≠ mk → r9 ≠ ka → r9 ≠ kb → r9 ≠ fa → r9 ≠ la → r9 ≠ va → r9 ≠ vb → r9 ≠ im → r9 ≠ ia → r9 ≠ ib → M1 r9 = M r9) (hw_B D qcl (qty cI cJ cZ cN) M s.heap.size) (hw_A M s.heap.size)) [.ref h0, .ref a, .ref v].toArray s 0 0 (hw_A M s.heap.size) := ⟨_, rfl⟩
  rw [← hQ9]
  refine lv_aload_n hx hb d_Pc_find_0 rfl (lv_at hl 1 rfl) ?_
  refine lv_aload_n hx hb d_Pc_find_1 rfl (lv_at hl 0 rfl) ?_
  refine hw_get (own := "QuantifierOut$Pieces") (v := va_rf ow) hx hb hts i_Pc hown hW hc rfl 4 (by decide) (hts _ tw_84) (fun _ h9 => h9) rfl d_Pc_find_2 ?_
  refine lv_acmp_ne (rx := some a) (ry := ow) (tgt := 9) hx hb d_Pc_find_5 (by decide) (fun c_5 => ?_) (fun c_5 => ?_)
  · skip
    refine lv_aload_n hx hb d_Pc_find_9 rfl (lv_at hl 0 rfl) ?_
    refine lv_aload_n hx hb d_Pc_find_10 rfl (lv_at hl 1 rfl) ?_
    refine hw_put (own := "QuantifierOut$Pieces") (v := .ref a) (ty := .object "QuantifierOut$Node") hx hb hts i_Pc ft_Pc tk_Pc n_Pc hown hW hS hc rfl 4 (by decide) (hts _ tw_84) (fun _ h9 => h9) rfl (tk_Pc 4 (by decide)) rfl rfl (Nat.le_of_ble_eq_true rfl) d_Pc_find_11 (fun H locs hW hS => ?_)
    have hW : hw_W D qcl (qty cI cJ cZ cN) _ (va_up M h0 (some (.inr (5, [.ref mk, .ref fa, .ref la, .int (nI m0), .ref a])))) s H := hW
    generalize hMw1 : va_up M h0 (some (.inr (5, [.ref mk, .ref fa, .ref la, .int (nI m0), .ref a]))) = Mw1 at hW
    have hc : Mw1 h0 = some (.inr (5, [.ref mk, .ref fa, .ref la, .int (nI m0), .ref a])) := by rw [← hMw1]; exact va_up_self _ _ _
    refine lv_aload_n hx hb d_Pc_find_14 rfl (lv_at hl 0 rfl) ?_
    refine lv_iconst (v := 0) hx hb d_Pc_find_15 (by decide) ?_
    refine hw_put (own := "QuantifierOut$Pieces") (v := .int 0) (ty := .int) hx hb hts i_Pc ft_Pc tk_Pc n_Pc hown hW hS hc rfl 3 (by decide) (hts _ tw_82) (fun _ h9 => h9) rfl (tk_Pc 3 (by decide)) rfl rfl (Nat.le_of_ble_eq_true rfl) d_Pc_find_16 (fun H locs hW hS => ?_)
    have hW : hw_W D qcl (qty cI cJ cZ cN) _ (va_up Mw1 h0 (some (.inr (5, [.ref mk, .ref fa, .ref la, .int 0, .ref a])))) s H := hW
    generalize hMw2 : va_up Mw1 h0 (some (.inr (5, [.ref mk, .ref fa, .ref la, .int 0, .ref a]))) = Mw2 at hW
    have hc : Mw2 h0 = some (.inr (5, [.ref mk, .ref fa, .ref la, .int 0, .ref a])) := by rw [← hMw2]; exact va_up_self _ _ _
    refine lv_aload_n hx hb d_Pc_find_19 rfl (lv_at hl 1 rfl) ?_
    refine lv_iconst (v := 0) hx hb d_Pc_find_20 (by decide) ?_
    have fr2 : ∀ r9, r9 ≠ h0 → Mw2 r9 = M r9 := fun r9 z1 => by rw [← hMw2, va_up_ne _ _ z1, ← hMw1, va_up_ne _ _ z1]
    have hnd2 : nd_c Mw2 a (nk_ci (nK q)) (nd_fr (nx q) (ny q)) (nI (nd q)) lq gr (nk_ex q) := ⟨hnd.1, (fr2 a u_a_h0).trans hnd.2⟩
    refine hw_calli (nd_runF (n := 1) (own := "QuantifierOut$Pieces") (As := [.int 0]) (rest := []) hx hb hml hown hts hX hW hl.1 (c_Nd_isFree l D cI cJ cZ cN a (nk_ci (nK q)) lq 0 _ (nx q) (ny q) (nI (nd q)) gr (nk_ex q) Mw2 hnd2 (by omega)) hnd2 tw_525 tw_425 tw_426 tw_427 tw_428 tw_429 tw_424 tw_11 tw_430 (by decide +kernel) rfl rfl ⟨by decide, by decide⟩ rfl rfl (Nat.le_of_ble_eq_true rfl) d_Pc_find_21 ⟨by decide, by decide⟩) hW hS hA (fun rf Mf H locs hp hz hW hS => ?_)
    obtain ⟨erf, eMf⟩ := hp
    rw [eMf] at hW
    rw [if_pos rfl] at erf
    have rest : ∀ (j o : Nat) (H : Heap) (locs : List Loc) (ls : Array Slot), j + o = 1 → j = (if nx q = true then 0 else 1) → hw_W D qcl (qty cI cJ cZ cN) (hw_A M s.heap.size) Mw2 s H → va_S (hw_A M s.heap.size) s.heap H locs → lv_has ls 7 [(0, .ref h0), (1, .ref a), (2, .ref v)] → W p l e ({ frames := 25, cells := 0, slots := 0, locals := 1400 }) s m [.ref h0, .ref a, .ref v].toArray below meth c H locs 0 0 Q9 (F0 m 32 ls [.int (nI j)]) := by
      intro j o H locs ls hjo hjd hW hS hl
      refine lv_istore_n (lv' := [(3, .int (nI j)), (0, .ref h0), (1, .ref a), (2, .ref v)]) hx hb d_Pc_find_32 rfl hl (by decide) rfl (fun ls hl => ?_)
      refine lv_aload_n hx hb d_Pc_find_33 rfl (lv_at hl 3 rfl) ?_
      refine lv_iconst (v := 0) hx hb d_Pc_find_34 (by decide) ?_
      refine lv_iconst (v := 0) hx hb d_Pc_find_35 (by decide) ?_
      have hV2 : vs_S cJ Mw2 v va vb om im fv gv := ⟨(fr2 v (Ne.symm u_h0_v)).trans hV.1, (fr2 va (Ne.symm u_h0_va)).trans hV.2.1, (fr2 vb (Ne.symm u_h0_vb)).trans hV.2.2⟩
      refine hw_callv (hw_runV (n := 2) (own := "QuantifierOut$Pieces") (As := [.int 0, .int 0]) (rest := []) hx hb hml hown hts hX hW hl.1 (c_Vs_putWhole l D cI cJ cZ cN v va vb om im _ fv gv 0 0 Mw2 hV2 d1) hV2.1 rfl tw_526 tw_444 tw_445 tw_2 tw_446 (by decide +kernel) rfl rfl ⟨by decide, by decide⟩ rfl rfl (Nat.le_of_ble_eq_true rfl) d_Pc_find_36 ⟨by decide, by decide⟩) hW hS hA (fun M3 H locs hp hz hW hS => ?_)
      have h0l : (0 : Int32).toInt64 = 0 := rfl
      rw [h0l] at hp
      obtain ⟨fw, hfw⟩ : ∃ X, X = vp_updL (vp_updL fv 0 0) 1 0 := ⟨_, rfl⟩
      obtain ⟨gw, hgw⟩ : ∃ X, X = vp_updL (vp_updL gv 0 1) 1 1 := ⟨_, rfl⟩
      rw [← hfw, ← hgw] at hp
      have hw0 : ∀ i, i < 2 → fw i = 0 ∧ gw i = 1 := by
        intro i hi
        rw [hfw, hgw]
        rcases (show i = 0 ∨ i = 1 by omega) with z | z <;> subst z <;> exact ⟨rfl, rfl⟩
      have fr3 : ∀ r9, r9 ≠ h0 → r9 ≠ va → r9 ≠ vb → M3 r9 = M r9 := fun r9 z1 z2 z3 => by rw [hp, va_up_ne _ _ z3, va_up_ne _ _ z2]; exact fr2 r9 z1
      have hc3 : M3 h0 = some (.inr (5, [.ref mk, .ref fa, .ref la, .int 0, va_rf (some a)])) := by rw [hp, va_up_ne _ _ u_h0_vb, va_up_ne _ _ u_h0_va, ← hMw2]; exact va_up_self _ _ _
      have hV3 : vs_S cJ M3 v va vb om im fw gw := ⟨(fr3 v (Ne.symm u_h0_v) u_v_va u_v_vb).trans hV.1, by rw [hp, va_up_ne _ _ d1, va_up_self], by rw [hp, va_up_self]⟩
      have hmk3 : mk_S cJ M3 mk ka kb n0 f0 g0 := ⟨(fr3 mk (Ne.symm u_h0_mk) u_mk_va u_mk_vb).trans hmk0.1, (fr3 ka (Ne.symm u_h0_ka) (Ne.symm e2) (Ne.symm e4)).trans hmk0.2.1, (fr3 kb (Ne.symm u_h0_kb) (Ne.symm e3) (Ne.symm e5)).trans hmk0.2.2⟩
      have hnd3 : nd_c M3 a (nk_ci (nK q)) (nd_fr (nx q) (ny q)) (nI (nd q)) lq gr (nk_ex q) := ⟨hnd.1, (fr3 a u_a_h0 u_a_va u_a_vb).trans hnd.2⟩
      have hlq3 : M3 lq = some (.inl (cI, 3 * (nL q).length, .inl F)) := (fr3 lq (Ne.symm u_h0_lq) (Ne.symm u_va_lq) (Ne.symm u_vb_lq)).trans hlq
      obtain ⟨wo1, wo2⟩ := hw0 o (by omega)
      refine lv_aload_n hx hb d_Pc_find_39 rfl (lv_at hl 1 rfl) ?_
      refine hw_get (own := "QuantifierOut$Pieces") (v := .ref mk) hx hb hts i_Pc hown hW hc3 rfl 0 (by decide) (hts _ tw_79) (fun _ h9 => h9) rfl d_Pc_find_40 ?_
      refine lv_aload_n hx hb d_Pc_find_43 rfl (lv_at hl 2 rfl) ?_
      refine lv_iload_n hx hb d_Pc_find_44 rfl (lv_at hl 0 rfl) ?_
      refine lv_aload_n hx hb d_Pc_find_45 rfl (lv_at hl 3 rfl) ?_
      refine hw_callv (hw_runV (n := 3) (own := "QuantifierOut$Pieces") (As := [.ref a, .int (nI j), .ref v]) (rest := []) hx hb hml hown hts hX hW hl.1 (c_Mk_gather l D cI cJ cZ cN mk ka kb n0 50 1 _ lq (nL q).length (nd q) j o v va vb om im a (nk_ci (nK q)) (nx q) (ny q) gr (nk_ex q) f0 g0 fw gw F M3 hmk3 e1 (by omega) (by omega) hnd3 (by omega) hlq3 b2 hjo (nl_len hF b5) hV3 (by rw [wo1]; decide) (by rw [wo2]; decide) (by omega) e2 e3 e4 e5) hmk3.1 rfl tw_527 tw_471 tw_472 tw_3 tw_473 (by decide +kernel) rfl rfl ⟨by decide, by decide⟩ rfl rfl (Nat.le_of_ble_eq_true rfl) d_Pc_find_46 ⟨by decide, by decide⟩) hW hS hA (fun Mg H locs hp hz hW hS => ?_)
      obtain ⟨n, f, g, hmk, hfg, hn21, hro, hnf, hcv⟩ := hp
      rw [wo1, wo2] at hcv
      have h1l : (1 : Int64).toInt = 1 := rfl
      have h0i : (0 : Int64).toInt = 0 := rfl
      rw [h1l, h0i] at hcv
      have hfree : (if j = 0 then nx q else ny q) = true := by
        cases hnx : nx q
        · rw [hnx] at hjd hxy; rw [if_neg (by decide)] at hjd; rw [hjd, if_neg (by decide)]; cases hny : ny q; exact absurd hny.symm hxy; rfl
        · rw [hnx, if_pos rfl] at hjd; rw [hjd, if_pos rfl]
      have hq0 : qm_fr 0 1 = 0 := by rw [qm_fr_int]; rfl
      have hcell := ga_cell (j := j) (o := o) (x := 0) (y := 1) (n := n) (f := f) (g := g) hF hjo (by decide) b6 hd (Or.inr (hcv hfree))
      rw [hq0] at hcell
      have hnS : ∀ u, nS q u ↔ nP_j j (nP q) u 0 := fun u => by unfold nS; rw [← hjd]
      obtain ⟨tt, htt⟩ : ∃ t : Nat → Prop, t = fun s9 => ∃ u, qi_at (mk_v f g) n s9 u ∧ nS q u := ⟨_, rfl⟩
      have htS : ∀ s9 u, qi_at (mk_v f g) n s9 u → (nS q u ↔ tt s9) := by
        intro s9 u hu
        rw [htt]
        refine ⟨fun z => ⟨u, hu, z⟩, fun ⟨u2, hu2, z⟩ => ?_⟩
        rw [hnS] at z ⊢
        exact (hcell s9 u u2 hu hu2).mpr z
      have loop : ∀ (z sN : Nat), sN ≤ 2 * n + 1 → 2 * n + 2 ≤ sN + z → ∀ (H : Heap) (locs : List Loc) (M2 : Nat → Option va_E) (x y : Int64) (ip : Int32) (mm : Nat) (Ff Fl : Nat → Int32) (fs lS : Nat → Nat) (ls : Array Slot), hw_W D qcl (qty cI cJ cZ cN) (hw_A M s.heap.size) M2 s H → va_S (hw_A M s.heap.size) s.heap H locs → (∀ r9, r9 ≠ h0 → r9 ≠ mk → r9 ≠ ka → r9 ≠ kb → r9 ≠ fa → r9 ≠ la → r9 ≠ va → r9 ≠ vb → r9 ≠ im → r9 ≠ ia → r9 ≠ ib → M2 r9 = M r9) → pc_S cI cJ M2 h0 mk ka kb fa la (some a) n f g mm Ff Fl → vs_S cJ M2 v va vb om im (vp_updL fw j x) (vp_updL gw j y) → (∃ n f g, mk_S cJ M2 im ia ib n f g) → (∀ k, k < mm → Ff k = nI (fs k) ∧ Fl k = nI (lS k)) → pj_I tt mm fs lS sN ip → lv_has ls 7 [(5, .int (nI sN)), (4, .int ip), (3, .int (nI j)), (0, .ref h0), (1, .ref a), (2, .ref v)] → W p l e ({ frames := 25, cells := 0, slots := 0, locals := 1400 }) s m [.ref h0, .ref a, .ref v].toArray below meth c H locs 0 0 Q9 (F0 m 55 ls []) := by
        intro z
        induction z with
        | zero => intro sN z1 z2; exact absurd z2 (by omega)
        | succ z ihz =>
          intro sN hsN hz9 H locs M2 x y ip mm Ff Fl fs lS ls hW hS hfr hpc hV2 hI2 hFs hJ hl
          obtain ⟨hc2, hmk2, hfa2, hla2⟩ := id hpc
          have hm2 : ∀ k, k < mm → 2 * k ≤ 2 * n := fun k hk => by have h7 := hJ.2.1 k hk; have h8 := hJ.1.1 k hk; omega
          have hm22 : mm ≤ 22 := by rcases Nat.eq_zero_or_pos mm with z1 | z1; omega; have := hm2 (mm - 1) (by omega); omega
          refine lv_iload hx hb d_Pc_find_55 (lv_at hl 0 rfl) ?_
          refine lv_aload_n hx hb d_Pc_find_57 rfl (lv_at hl 3 rfl) ?_
          refine hw_get (own := "QuantifierOut$Pieces") (v := .ref mk) hx hb hts i_Pc hown hW hc2 rfl 0 (by decide) (hts _ tw_79) (fun _ h9 => h9) rfl d_Pc_find_58 ?_
          refine hw_calli (hw_runV (n := 0) (own := "QuantifierOut$Pieces") (As := []) (rest := [.int (nI sN)]) hx hb hml hown hts hX hW hl.1 (c_Mk_stops l D cI cJ cZ cN mk ka kb n _ M2 hmk2.1 (by omega)) hmk2.1 rfl tw_528 tw_489 tw_490 tw_3 tw_491 (by decide +kernel) rfl rfl ⟨by decide, by decide⟩ rfl rfl (Nat.le_of_ble_eq_true rfl) d_Pc_find_61 ⟨by decide, by decide⟩) hW hS hA (fun st9 M3 H locs hp hz hW hS => ?_)
          obtain ⟨est, eM3⟩ := hp
          rw [eM3] at hW
          subst est
          refine lv_icmp_ge (tgt := 160) hx hb d_Pc_find_64 (by decide) (fun c_64 => ?_) (fun c_64 => ?_)
          · skip
            have hge : 2 * n + 1 ≤ sN := (nI_leI (by omega) (by omega)).mp c_64
            have hse : sN = 2 * n + 1 := by omega
            subst hse
            rw [hQ9]
            obtain ⟨st, hst⟩ := qi_stx hro.2
            refine hw_retv hx hb hr hlocks hW hS ⟨⟨_, _, hV2, ⟨n8, f8, g8, (hfr om (Ne.symm u_h0_om) e14 (Ne.symm u_ka_om) (Ne.symm u_kb_om) (Ne.symm u_fa_om) (Ne.symm u_la_om) (Ne.symm u_va_om) (Ne.symm u_vb_om) d16 u_om_ia u_om_ib).trans hmo.1, (hfr oa (Ne.symm u_h0_oa) (Ne.symm u_mk_oa) e6 e7 (Ne.symm u_fa_oa) (Ne.symm u_la_oa) (Ne.symm d2) (Ne.symm d6) u_oa_im d12 d13).trans hmo.2.1, (hfr ob (Ne.symm u_h0_ob) (Ne.symm u_mk_ob) e8 e9 (Ne.symm u_fa_ob) (Ne.symm u_la_ob) (Ne.symm d3) (Ne.symm d7) u_ob_im d14 d15).trans hmo.2.2⟩, hI2⟩, ⟨n, f, g, mm, Ff, Fl, hpc, fun a9 ha9 => ?_⟩, hfr⟩ d_Pc_find_160
            cases ha9
            exact ⟨q, hq, hn21, hro, hm22, fs, lS, fun k9 hk9 => ⟨(hFs k9 hk9).1, (hFs k9 hk9).2, (hJ.1.1 k9 hk9).1, (hJ.1.1 k9 hk9).2.1⟩, qi_sys hro.2 hst hJ.1 (fun s9 _ u hu => htS s9 u hu)⟩
          · skip
            have hlt : sN < 2 * n + 1 := by
              rcases Nat.lt_or_ge sN (2 * n + 1) with z9 | z9
              · exact z9
              · exact absurd ((nI_leI (by omega) (by omega)).mpr z9) c_64
            refine lv_aload_n hx hb d_Pc_find_67 rfl (lv_at hl 3 rfl) ?_
            refine hw_get (own := "QuantifierOut$Pieces") (v := .ref mk) hx hb hts i_Pc hown hW hc2 rfl 0 (by decide) (hts _ tw_79) (fun _ h9 => h9) rfl d_Pc_find_68 ?_
            refine lv_iload hx hb d_Pc_find_71 (lv_at hl 0 rfl) ?_
            refine lv_iload_n hx hb d_Pc_find_73 rfl (lv_at hl 2 rfl) ?_
            refine lv_aload_n hx hb d_Pc_find_74 rfl (lv_at hl 5 rfl) ?_
            refine hw_callv (hw_runV (n := 3) (own := "QuantifierOut$Pieces") (As := [.int (nI sN), .int (nI j), .ref v]) (rest := []) hx hb hml hown hts hX hW hl.1 (c_Mk_moveTo l D cI cJ cZ cN mk ka kb n 50 _ sN j v va vb om im f g (vp_updL fw j x) (vp_updL gw j y) M2 hmk2 hn21 hro (by omega) hlt (by omega) hV2 d1) hmk2.1 rfl tw_529 tw_493 tw_494 tw_3 tw_495 (by decide +kernel) rfl rfl ⟨by decide, by decide⟩ rfl rfl (Nat.le_of_ble_eq_true rfl) d_Pc_find_75 ⟨by decide, by decide⟩) hW hS hA (fun M3 H locs hp hz hW hS => ?_)
            obtain ⟨xq3, yq3, eM3, hmo3⟩ := hp
            rw [uL_uL, uL_uL] at eM3
            have hM3 : ∀ r9, r9 ≠ va → r9 ≠ vb → M3 r9 = M2 r9 := fun r9 z1 z2 => by rw [eM3, va_up_ne _ _ z2, va_up_ne _ _ z1]
            have hV3 : vs_S cJ M3 v va vb om im (vp_updL fw j xq3) (vp_updL gw j yq3) := ⟨(hM3 v u_v_va u_v_vb).trans hV2.1, by rw [eM3, va_up_ne _ _ d1, va_up_self], by rw [eM3, va_up_self]⟩
            have hpc3 : pc_S cI cJ M3 h0 mk ka kb fa la (some a) n f g mm Ff Fl := ⟨(hM3 h0 u_h0_va u_h0_vb).trans hc2, ⟨(hM3 mk u_mk_va u_mk_vb).trans hmk2.1, (hM3 ka (Ne.symm e2) (Ne.symm e4)).trans hmk2.2.1, (hM3 kb (Ne.symm e3) (Ne.symm e5)).trans hmk2.2.2⟩, (hM3 fa u_fa_va u_fa_vb).trans hfa2, (hM3 la u_la_va u_la_vb).trans hla2⟩
            obtain ⟨n7, f7, g7, hI3⟩ := hI2
            have hI4 : mk_S cJ M3 im ia ib n7 f7 g7 := ⟨(hM3 im (Ne.symm u_va_im) (Ne.symm u_vb_im)).trans hI3.1, (hM3 ia (Ne.symm d4) (Ne.symm d8)).trans hI3.2.1, (hM3 ib (Ne.symm d5) (Ne.symm d9)).trans hI3.2.2⟩
            have hfr3 : ∀ r9, r9 ≠ h0 → r9 ≠ mk → r9 ≠ ka → r9 ≠ kb → r9 ≠ fa → r9 ≠ la → r9 ≠ va → r9 ≠ vb → r9 ≠ im → r9 ≠ ia → r9 ≠ ib → M3 r9 = M r9 := fun r9 z0 z1 z2 z3 z4 z5 z6 z7 z8 z9 z10 => (hM3 r9 z6 z7).trans (hfr r9 z0 z1 z2 z3 z4 z5 z6 z7 z8 z9 z10)
            have hE3 : ev_S cJ M3 v va vb om oa ob im ia ib (vp_updL fw j xq3) (vp_updL gw j yq3) := ⟨hV3, ⟨n8, f8, g8, (hfr3 om (Ne.symm u_h0_om) e14 (Ne.symm u_ka_om) (Ne.symm u_kb_om) (Ne.symm u_fa_om) (Ne.symm u_la_om) (Ne.symm u_va_om) (Ne.symm u_vb_om) d16 u_om_ia u_om_ib).trans hmo.1, (hfr3 oa (Ne.symm u_h0_oa) (Ne.symm u_mk_oa) e6 e7 (Ne.symm u_fa_oa) (Ne.symm u_la_oa) (Ne.symm d2) (Ne.symm d6) u_oa_im d12 d13).trans hmo.2.1, (hfr3 ob (Ne.symm u_h0_ob) (Ne.symm u_mk_ob) e8 e9 (Ne.symm u_fa_ob) (Ne.symm u_la_ob) (Ne.symm d3) (Ne.symm d7) u_ob_im d14 d15).trans hmo.2.2⟩, ⟨n7, f7, g7, hI4⟩⟩
            have hT3 : tb_ok cI M3 tb := by
              intro a2 q2 ha2
              obtain ⟨⟨la2, gr2, F2, k1, k2, k3, k4⟩, k5⟩ := hT a2 q2 ha2
              have hl2 := hla9 a2 q2 la2 gr2 _ _ ha2 k1
              have k6 : ∀ x9 y9 z9, M x9 = some (.inr (y9, z9)) → (y9 = 5 ∨ y9 = 2 ∨ y9 = 7) → a2 ≠ x9 := fun x9 y9 z9 w1 w2 w3 => by subst w3; have := Option.some.inj (w1.symm.trans k1.2); simp only [Sum.inr.injEq, Prod.mk.injEq] at this; have := k1.1; omega
              refine ⟨⟨la2, gr2, F2, ⟨k1.1, (hfr3 a2 (k6 _ _ _ hc00 (by omega)) (k6 _ _ _ hmk0.1 (by omega)) (hw_ne k1.2 hmk0.2.1 (by simp)) (hw_ne k1.2 hmk0.2.2 (by simp)) (hw_ne k1.2 hfa0 (by simp)) (hw_ne k1.2 hla0 (by simp)) (hw_ne k1.2 hV.2.1 (by simp)) (hw_ne k1.2 hV.2.2 (by simp)) (k6 _ _ _ hmi.1 (by omega)) (hw_ne k1.2 hmi.2.1 (by simp)) (hw_ne k1.2 hmi.2.2 (by simp))).trans k1.2⟩, ?_, k3, k4⟩, k5⟩
              exact (hfr3 la2 (hw_ne k2 hc00 (by simp)) (hw_ne k2 hmk0.1 (by simp)) (hw_ne k2 hmk0.2.1 (by simp)) (hw_ne k2 hmk0.2.2 (by simp)) hl2.1 hl2.2 (hw_ne k2 hV.2.1 (by simp)) (hw_ne k2 hV.2.2 (by simp)) (hw_ne k2 hmi.1 (by simp)) (hw_ne k2 hmi.2.1 (by simp)) (hw_ne k2 hmi.2.2 (by simp))).trans k2
            have hb3 : vx_b (vp_updL fw j xq3) (vp_updL gw j yq3) (nd q) := by
              intro i hi
              have hvv := VB_mono hd
              have hv1 : VB 1 = 1201 := rfl
              by_cases z1 : i = j
              · subst z1; rw [pk_uLs, pk_uLs]; exact ⟨hmo3.1, by have := hmo3.2.1; omega, by have := hmo3.2.2.1; omega⟩
              · rw [pk_uLn z1, pk_uLn z1, (hw0 i hi).1, (hw0 i hi).2, h1l, h0i]; exact ⟨by omega, by omega, by omega⟩
            refine lv_aload_n hx hb d_Pc_find_78 rfl (lv_at hl 4 rfl) ?_
            refine lv_aload_n hx hb d_Pc_find_79 rfl (lv_at hl 5 rfl) ?_
            obtain ⟨⟨la_a, gr_a, F_a, hc_a, _⟩, _⟩ := hT3 a q hq
            have hrk : nr q ≤ 15 := by have : nk_neg (nK q) ≤ 1 := by { unfold nk_neg; split <;> omega }; omega
            refine hw_calli (it_run 1 rfl (own := "QuantifierOut$Pieces") (rest := []) hx hb hml hown hts hX hW hl.1 (it_all l D cI cJ cZ cN v va vb om oa ob im ia ib tb hD 15 a q hq hrk M3 _ (vp_updL fw j xq3) (vp_updL gw j yq3) hT3 hE3 hb3) hc_a.2 tw_530 rfl rfl ⟨by decide, by decide⟩ rfl (Nat.le_of_ble_eq_true rfl) d_Pc_find_80 ⟨Nat.le_refl 0, Nat.le_refl 0⟩) hW hS hA (fun r3 M4 H locs hp3 hz hW hS => ?_)
            obtain ⟨p1, p2, p3⟩ := hp3
            rw [qf_XY hjo (nP q), (hw0 o (by omega)).1, (hw0 o (by omega)).2, h1l, h0i, hq0] at p1
            have htr : it_b r3 (tt sN) := by
              have h7 := (hnS _).symm.trans (htS sN _ hmo3.2.2.2)
              rcases p1 with ⟨z1, z2⟩ | ⟨z1, z2⟩
              · exact Or.inl ⟨z1, h7.mp z2⟩
              · exact Or.inr ⟨z1, fun z => z2 (h7.mpr z)⟩
            have hq4 : ∀ r9, r9 ≠ im → r9 ≠ ia → r9 ≠ ib → M4 r9 = M3 r9 := fun r9 z1 z2 z3 => p2 r9 (Or.inr ⟨z1, z2, z3⟩) (Or.inl (by omega))
            have hpc4 : pc_S cI cJ M4 h0 mk ka kb fa la (some a) n f g mm Ff Fl := ⟨(hq4 h0 u_h0_im u_h0_ia u_h0_ib).trans hpc3.1, ⟨(hq4 mk (Ne.symm e15) u_mk_ia u_mk_ib).trans hpc3.2.1.1, (hq4 ka u_ka_im (Ne.symm e10) (Ne.symm e12)).trans hpc3.2.1.2.1, (hq4 kb u_kb_im (Ne.symm e11) (Ne.symm e13)).trans hpc3.2.1.2.2⟩, (hq4 fa u_fa_im u_fa_ia u_fa_ib).trans hpc3.2.2.1, (hq4 la u_la_im u_la_ia u_la_ib).trans hpc3.2.2.2⟩
            have hfr4 : ∀ r9, r9 ≠ h0 → r9 ≠ mk → r9 ≠ ka → r9 ≠ kb → r9 ≠ fa → r9 ≠ la → r9 ≠ va → r9 ≠ vb → r9 ≠ im → r9 ≠ ia → r9 ≠ ib → M4 r9 = M r9 := fun r9 z0 z1 z2 z3 z4 z5 z6 z7 z8 z9 z10 => (hq4 r9 z8 z9 z10).trans (hfr3 r9 z0 z1 z2 z3 z4 z5 z6 z7 z8 z9 z10)
            have again : ∀ (H : Heap) (locs : List Loc) (M2 : Nat → Option va_E) (mm : Nat) (Ff Fl : Nat → Int32) (fs lS : Nat → Nat) (ls : Array Slot), hw_W D qcl (qty cI cJ cZ cN) (hw_A M s.heap.size) M2 s H → va_S (hw_A M s.heap.size) s.heap H locs → (∀ r9, r9 ≠ h0 → r9 ≠ mk → r9 ≠ ka → r9 ≠ kb → r9 ≠ fa → r9 ≠ la → r9 ≠ va → r9 ≠ vb → r9 ≠ im → r9 ≠ ia → r9 ≠ ib → M2 r9 = M r9) → pc_S cI cJ M2 h0 mk ka kb fa la (some a) n f g mm Ff Fl → vs_S cJ M2 v va vb om im (vp_updL fw j xq3) (vp_updL gw j yq3) → (∃ n f g, mk_S cJ M2 im ia ib n f g) → (∀ k, k < mm → Ff k = nI (fs k) ∧ Fl k = nI (lS k)) → pj_I tt mm fs lS (sN + 1) r3 → lv_has ls 7 [(6, .int r3), (5, .int (nI sN)), (4, .int ip), (3, .int (nI j)), (0, .ref h0), (1, .ref a), (2, .ref v)] → W p l e ({ frames := 25, cells := 0, slots := 0, locals := 1400 }) s m [.ref h0, .ref a, .ref v].toArray below meth c H locs 0 0 Q9 (F0 m 150 ls []) := by
              intro H locs M2 mm Ff Fl fs lS ls hW hS hfr hpc hV2 hI2 hFs hJ hl
              refine lv_iload hx hb d_Pc_find_150 (lv_at hl 0 rfl) ?_
              refine lv_istore (lv' := [(4, .int r3), (6, .int r3), (5, .int (nI sN)), (3, .int (nI j)), (0, .ref h0), (1, .ref a), (2, .ref v)]) hx hb d_Pc_find_152 hl (by decide) rfl (fun ls hl => ?_)
              obtain ⟨s9, es9⟩ : ∃ y9 : Int32, y9 = (nI sN) + Int32.ofInt (1) := ⟨_, rfl⟩
              refine lv_iinc (v := s9) (lv' := [(5, .int s9), (4, .int r3), (6, .int r3), (3, .int (nI j)), (0, .ref h0), (1, .ref a), (2, .ref v)]) hx hb d_Pc_find_154 hl (k := 2) rfl es9.symm (by decide) rfl (fun ls hl => ?_)
              have es : s9 = nI (sN + 1) := by rw [es9]; exact nI_add sN 1
              subst es
              refine lv_goto (tgt := 55) hx hb d_Pc_find_157 (by decide) ?_
              exact ihz (sN + 1) (by omega) (by omega) H locs M2 xq3 yq3 r3 mm Ff Fl fs lS ls hW hS hfr hpc hV2 hI2 hFs hJ (lv_sub hl [0, 1, 3, 4, 5, 6] rfl)
            refine lv_istore (lv' := [(6, .int r3), (5, .int (nI sN)), (4, .int ip), (3, .int (nI j)), (0, .ref h0), (1, .ref a), (2, .ref v)]) hx hb d_Pc_find_83 hl (by decide) rfl (fun ls hl => ?_)
            refine lv_iload hx hb d_Pc_find_85 (lv_at hl 0 rfl) ?_
            refine lv_if_eq (tgt := 125) hx hb d_Pc_find_87 (by decide) (fun c_87 => ?_) (fun c_87 => ?_)
            · skip
              refine lv_iload hx hb d_Pc_find_125 (lv_at hl 0 rfl) ?_
              refine lv_if_eq (tgt := 150) hx hb d_Pc_find_127 (by decide) (fun c_127 => ?_) (fun c_127 => ?_)
              · skip
                exact again H locs M4 mm Ff Fl fs lS ls hW hS hfr4 hpc4 p3.1 p3.2.2 hFs (by rw [c_87]; exact pj_no hJ (it_b0 htr c_87)) (lv_sub hl [0, 1, 2, 3, 4, 5, 6] rfl)
              · skip
                exact absurd c_87 c_127
            · skip
              have ht := it_b1 htr c_87
              have er3 : r3 = 1 := by rcases htr with ⟨z1, _⟩ | ⟨z1, _⟩; exact z1; exact absurd z1 c_87
              refine lv_iload hx hb d_Pc_find_90 (lv_at hl 2 rfl) ?_
              refine lv_if_ne (tgt := 125) hx hb d_Pc_find_92 (by decide) (fun c_92 => ?_) (fun c_92 => ?_)
              · skip
                obtain ⟨hmp, hJ2⟩ := pj_in hJ ht c_92
                have hk4 := hpc4.1; have hl4 := hpc4.2.2.2
                refine lv_iload hx hb d_Pc_find_125 (lv_at hl 0 rfl) ?_
                refine lv_if_eq (tgt := 150) hx hb d_Pc_find_127 (by decide) (fun c_127 => ?_) (fun c_127 => ?_)
                · skip
                  exact absurd c_127 c_87
                · skip
                  refine lv_aload_n hx hb d_Pc_find_130 rfl (lv_at hl 4 rfl) ?_
                  refine hw_get (own := "QuantifierOut$Pieces") (v := .int (nI mm)) hx hb hts i_Pc hown hW hk4 rfl 3 (by decide) (hts _ tw_82) (fun _ h9 => h9) rfl d_Pc_find_131 ?_
                  refine lv_if_le (tgt := 150) hx hb d_Pc_find_134 (by decide) (fun c_134 => ?_) (fun c_134 => ?_)
                  · skip
                    exact absurd c_134 (nI_nle hmp (by omega))
                  · skip
                    refine lv_aload_n hx hb d_Pc_find_137 rfl (lv_at hl 4 rfl) ?_
                    refine hw_get (own := "QuantifierOut$Pieces") (v := .ref la) hx hb hts i_Pc hown hW hk4 rfl 2 (by decide) (hts _ tw_81) (fun _ h9 => h9) rfl d_Pc_find_138 ?_
                    refine lv_aload_n hx hb d_Pc_find_141 rfl (lv_at hl 4 rfl) ?_
                    refine hw_get (own := "QuantifierOut$Pieces") (v := .int (nI mm)) hx hb hts i_Pc hown hW hk4 rfl 3 (by decide) (hts _ tw_82) (fun _ h9 => h9) rfl d_Pc_find_142 ?_
                    refine lv_iconst (v := 1) hx hb d_Pc_find_145 (by decide) ?_
                    refine lv_isub hx hb d_Pc_find_146 ?_
                    refine lv_topi (fun x3 ex3 => ?_)
                    refine lv_iload hx hb d_Pc_find_147 (lv_at hl 1 rfl) ?_
                    refine hw_ist hx hb hW hS 0 hl4 rfl (mm - 1) (by rw [ex3, show mm = mm - 1 + 1 by omega]; exact nI_pred (mm - 1)) (by omega) (by decide) d_Pc_find_149 (fun H locs hW hS => ?_)
                    have hW : hw_W D qcl (qty cI cJ cZ cN) _ (va_up M4 la (some (.inl (cI, 22, .inl (upd Fl (mm - 1) (nI sN)))))) s H := hW
                    generalize hMw4 : va_up M4 la (some (.inl (cI, 22, .inl (upd Fl (mm - 1) (nI sN))))) = Mw4 at hW
                    have n_h0_la : h0 ≠ la := (hw_ne hk4 hl4 (by simp))
                    have hk4 : Mw4 h0 = some (.inr (5, [.ref mk, .ref fa, .ref la, .int (nI mm), va_rf (some a)])) := by rw [← hMw4, va_up_ne _ _ n_h0_la]; exact hk4
                    have hl4 : Mw4 la = some (.inl (cI, 22, .inl (upd Fl (mm - 1) (nI sN)))) := by rw [← hMw4]; exact va_up_self _ _ _
                    have g9 : ∀ r9, r9 ≠ la → Mw4 r9 = M4 r9 := fun r9 z1 => by rw [← hMw4, va_up_ne _ _ z1]
                    have hpc9 : pc_S cI cJ Mw4 h0 mk ka kb fa la (some a) n f g mm Ff (upd Fl (mm - 1) (nI sN)) := ⟨hk4, ⟨(g9 mk u_mk_la).trans hpc4.2.1.1, (g9 ka u_ka_la).trans hpc4.2.1.2.1, (g9 kb u_kb_la).trans hpc4.2.1.2.2⟩, (g9 fa e16).trans hpc4.2.2.1, hl4⟩
                    have hV9 : vs_S cJ Mw4 v va vb om im (vp_updL fw j xq3) (vp_updL gw j yq3) := ⟨(g9 v (Ne.symm u_la_v)).trans p3.1.1, (g9 va (Ne.symm u_la_va)).trans p3.1.2.1, (g9 vb (Ne.symm u_la_vb)).trans p3.1.2.2⟩
                    obtain ⟨n6, f6, g6, hI6⟩ := p3.2.2
                    have hI9 : ∃ n f g, mk_S cJ Mw4 im ia ib n f g := ⟨n6, f6, g6, (g9 im (Ne.symm u_la_im)).trans hI6.1, (g9 ia (Ne.symm u_la_ia)).trans hI6.2.1, (g9 ib (Ne.symm u_la_ib)).trans hI6.2.2⟩
                    have hfr9 : ∀ r9, r9 ≠ h0 → r9 ≠ mk → r9 ≠ ka → r9 ≠ kb → r9 ≠ fa → r9 ≠ la → r9 ≠ va → r9 ≠ vb → r9 ≠ im → r9 ≠ ia → r9 ≠ ib → Mw4 r9 = M r9 := fun r9 z0 z1 z2 z3 z4 z5 z6 z7 z8 z9 z10 => (g9 r9 z5).trans (hfr4 r9 z0 z1 z2 z3 z4 z5 z6 z7 z8 z9 z10)
                    refine again H locs Mw4 mm Ff (upd Fl (mm - 1) (nI sN)) fs (va_up lS (mm - 1) sN) ls hW hS hfr9 hpc9 hV9 hI9 (fun k9 hk9 => ?_) (by rw [er3]; exact hJ2) (lv_sub hl [0, 1, 2, 3, 4, 5, 6] rfl)
                    have h7 := hFs k9 hk9
                    by_cases z1 : k9 = mm - 1
                    · rw [z1] at h7 ⊢; rw [pk_us, va_up_self]; exact ⟨h7.1, rfl⟩
                    · rw [pk_un z1, va_up_ne _ _ z1]; exact h7
              · skip
                have c_92 := c_92
                obtain ⟨hms, hJ2⟩ := pj_new hJ ht c_92
                have hk4 := hpc4.1; have hf4 := hpc4.2.2.1; have hl4 := hpc4.2.2.2
                refine lv_aload_n hx hb d_Pc_find_95 rfl (lv_at hl 4 rfl) ?_
                refine hw_get (own := "QuantifierOut$Pieces") (v := .int (nI mm)) hx hb hts i_Pc hown hW hk4 rfl 3 (by decide) (hts _ tw_82) (fun _ h9 => h9) rfl d_Pc_find_96 ?_
                refine lv_bipush (v := 22) hx hb d_Pc_find_99 (by decide) ?_
                refine lv_icmp_ge (tgt := 125) hx hb d_Pc_find_101 (by decide) (fun c_101 => ?_) (fun c_101 => ?_)
                · skip
                  exact absurd ((nI_leI (a := 22) (by omega) (by omega)).mp c_101) (by omega)
                · skip
                  refine lv_aload_n hx hb d_Pc_find_104 rfl (lv_at hl 4 rfl) ?_
                  refine hw_get (own := "QuantifierOut$Pieces") (v := .ref fa) hx hb hts i_Pc hown hW hk4 rfl 1 (by decide) (hts _ tw_80) (fun _ h9 => h9) rfl d_Pc_find_105 ?_
                  refine lv_aload_n hx hb d_Pc_find_108 rfl (lv_at hl 4 rfl) ?_
                  refine hw_get (own := "QuantifierOut$Pieces") (v := .int (nI mm)) hx hb hts i_Pc hown hW hk4 rfl 3 (by decide) (hts _ tw_82) (fun _ h9 => h9) rfl d_Pc_find_109 ?_
                  refine lv_iload hx hb d_Pc_find_112 (lv_at hl 1 rfl) ?_
                  refine hw_ist hx hb hW hS 0 hf4 rfl mm rfl (by omega) (by decide) d_Pc_find_114 (fun H locs hW hS => ?_)
                  have hW : hw_W D qcl (qty cI cJ cZ cN) _ (va_up M4 fa (some (.inl (cI, 22, .inl (upd Ff mm (nI sN)))))) s H := hW
                  generalize hMw5 : va_up M4 fa (some (.inl (cI, 22, .inl (upd Ff mm (nI sN))))) = Mw5 at hW
                  have n_h0_fa : h0 ≠ fa := (hw_ne hk4 hf4 (by simp))
                  have hk4 : Mw5 h0 = some (.inr (5, [.ref mk, .ref fa, .ref la, .int (nI mm), va_rf (some a)])) := by rw [← hMw5, va_up_ne _ _ n_h0_fa]; exact hk4
                  have hl4 : Mw5 la = some (.inl (cI, 22, .inl Fl)) := by rw [← hMw5, va_up_ne _ _ (Ne.symm e16)]; exact hl4
                  have hf4 : Mw5 fa = some (.inl (cI, 22, .inl (upd Ff mm (nI sN)))) := by rw [← hMw5]; exact va_up_self _ _ _
                  refine lv_aload_n hx hb d_Pc_find_115 rfl (lv_at hl 4 rfl) ?_
                  refine lv_dup hx hb d_Pc_find_116 rfl ?_
                  refine hw_get (own := "QuantifierOut$Pieces") (v := .int (nI mm)) hx hb hts i_Pc hown hW hk4 rfl 3 (by decide) (hts _ tw_82) (fun _ h9 => h9) rfl d_Pc_find_117 ?_
                  refine lv_iconst (v := 1) hx hb d_Pc_find_120 (by decide) ?_
                  refine lv_iadd hx hb d_Pc_find_121 ?_
                  refine lv_topi (fun x6 ex6 => ?_)
                  refine hw_put (own := "QuantifierOut$Pieces") (v := .int x6) (ty := .int) hx hb hts i_Pc ft_Pc tk_Pc n_Pc hown hW hS hk4 rfl 3 (by decide) (hts _ tw_82) (fun _ h9 => h9) rfl (tk_Pc 3 (by decide)) rfl rfl (Nat.le_of_ble_eq_true rfl) d_Pc_find_122 (fun H locs hW hS => ?_)
                  have hW : hw_W D qcl (qty cI cJ cZ cN) _ (va_up Mw5 h0 (some (.inr (5, [.ref mk, .ref fa, .ref la, .int x6, va_rf (some a)])))) s H := hW
                  generalize hMw7 : va_up Mw5 h0 (some (.inr (5, [.ref mk, .ref fa, .ref la, .int x6, va_rf (some a)]))) = Mw7 at hW
                  have n_la_h0 : la ≠ h0 := (hw_ne hl4 hk4 (by simp))
                  have hl4 : Mw7 la = some (.inl (cI, 22, .inl Fl)) := by rw [← hMw7, va_up_ne _ _ n_la_h0]; exact hl4
                  have hf4 : Mw7 fa = some (.inl (cI, 22, .inl (upd Ff mm (nI sN)))) := by rw [← hMw7, va_up_ne _ _ (Ne.symm n_h0_fa)]; exact hf4
                  have hk4 : Mw7 h0 = some (.inr (5, [.ref mk, .ref fa, .ref la, .int x6, va_rf (some a)])) := by rw [← hMw7]; exact va_up_self _ _ _
                  refine lv_iload hx hb d_Pc_find_125 (lv_at hl 0 rfl) ?_
                  have esz : x6 = nI (mm + 1) := by rw [ex6]; exact nI_1 mm
                  refine lv_if_eq (tgt := 150) hx hb d_Pc_find_127 (by decide) (fun c_127 => ?_) (fun c_127 => ?_)
                  · skip
                    exact absurd c_127 c_87
                  · skip
                    refine lv_aload_n hx hb d_Pc_find_130 rfl (lv_at hl 4 rfl) ?_
                    refine hw_get (own := "QuantifierOut$Pieces") (v := .int x6) hx hb hts i_Pc hown hW hk4 rfl 3 (by decide) (hts _ tw_82) (fun _ h9 => h9) rfl d_Pc_find_131 ?_
                    refine lv_if_le (tgt := 150) hx hb d_Pc_find_134 (by decide) (fun c_134 => ?_) (fun c_134 => ?_)
                    · skip
                      exact absurd c_134 (by rw [esz]; exact nI_nle (by omega) (by omega))
                    · skip
                      refine lv_aload_n hx hb d_Pc_find_137 rfl (lv_at hl 4 rfl) ?_
                      refine hw_get (own := "QuantifierOut$Pieces") (v := .ref la) hx hb hts i_Pc hown hW hk4 rfl 2 (by decide) (hts _ tw_81) (fun _ h9 => h9) rfl d_Pc_find_138 ?_
                      refine lv_aload_n hx hb d_Pc_find_141 rfl (lv_at hl 4 rfl) ?_
                      refine hw_get (own := "QuantifierOut$Pieces") (v := .int x6) hx hb hts i_Pc hown hW hk4 rfl 3 (by decide) (hts _ tw_82) (fun _ h9 => h9) rfl d_Pc_find_142 ?_
                      refine lv_iconst (v := 1) hx hb d_Pc_find_145 (by decide) ?_
                      refine lv_isub hx hb d_Pc_find_146 ?_
                      refine lv_topi (fun x8 ex8 => ?_)
                      refine lv_iload hx hb d_Pc_find_147 (lv_at hl 1 rfl) ?_
                      refine hw_ist hx hb hW hS 0 hl4 rfl mm (by rw [ex8, esz]; exact nI_pred mm) (by omega) (by decide) d_Pc_find_149 (fun H locs hW hS => ?_)
                      have hW : hw_W D qcl (qty cI cJ cZ cN) _ (va_up Mw7 la (some (.inl (cI, 22, .inl (upd Fl mm (nI sN)))))) s H := hW
                      generalize hMw9 : va_up Mw7 la (some (.inl (cI, 22, .inl (upd Fl mm (nI sN))))) = Mw9 at hW
                      have hf4 : Mw9 fa = some (.inl (cI, 22, .inl (upd Ff mm (nI sN)))) := by rw [← hMw9, va_up_ne _ _ e16]; exact hf4
                      have hk4 : Mw9 h0 = some (.inr (5, [.ref mk, .ref fa, .ref la, .int x6, va_rf (some a)])) := by rw [← hMw9, va_up_ne _ _ (Ne.symm n_la_h0)]; exact hk4
                      have hl4 : Mw9 la = some (.inl (cI, 22, .inl (upd Fl mm (nI sN)))) := by rw [← hMw9]; exact va_up_self _ _ _
                      have g9 : ∀ r9, r9 ≠ la → r9 ≠ h0 → r9 ≠ fa → Mw9 r9 = M4 r9 := fun r9 z1 z2 z3 => by rw [← hMw9, va_up_ne _ _ z1, ← hMw7, va_up_ne _ _ z2, ← hMw5, va_up_ne _ _ z3]
                      rw [esz] at hk4
                      have hpc9 : pc_S cI cJ Mw9 h0 mk ka kb fa la (some a) n f g (mm + 1) (upd Ff mm (nI sN)) (upd Fl mm (nI sN)) := ⟨hk4, ⟨(g9 mk u_mk_la (Ne.symm u_h0_mk) u_mk_fa).trans hpc4.2.1.1, (g9 ka u_ka_la (Ne.symm u_h0_ka) u_ka_fa).trans hpc4.2.1.2.1, (g9 kb u_kb_la (Ne.symm u_h0_kb) u_kb_fa).trans hpc4.2.1.2.2⟩, hf4, hl4⟩
                      have hV9 : vs_S cJ Mw9 v va vb om im (vp_updL fw j xq3) (vp_updL gw j yq3) := ⟨(g9 v (Ne.symm u_la_v) (Ne.symm u_h0_v) (Ne.symm u_fa_v)).trans p3.1.1, (g9 va (Ne.symm u_la_va) (Ne.symm u_h0_va) (Ne.symm u_fa_va)).trans p3.1.2.1, (g9 vb (Ne.symm u_la_vb) (Ne.symm u_h0_vb) (Ne.symm u_fa_vb)).trans p3.1.2.2⟩
                      obtain ⟨n6, f6, g6, hI6⟩ := p3.2.2
                      have hI9 : ∃ n f g, mk_S cJ Mw9 im ia ib n f g := ⟨n6, f6, g6, (g9 im (Ne.symm u_la_im) (Ne.symm u_h0_im) (Ne.symm u_fa_im)).trans hI6.1, (g9 ia (Ne.symm u_la_ia) (Ne.symm u_h0_ia) (Ne.symm u_fa_ia)).trans hI6.2.1, (g9 ib (Ne.symm u_la_ib) (Ne.symm u_h0_ib) (Ne.symm u_fa_ib)).trans hI6.2.2⟩
                      have hfr9 : ∀ r9, r9 ≠ h0 → r9 ≠ mk → r9 ≠ ka → r9 ≠ kb → r9 ≠ fa → r9 ≠ la → r9 ≠ va → r9 ≠ vb → r9 ≠ im → r9 ≠ ia → r9 ≠ ib → Mw9 r9 = M r9 := fun r9 z0 z1 z2 z3 z4 z5 z6 z7 z8 z9 z10 => (g9 r9 z5 z0 z4).trans (hfr4 r9 z0 z1 z2 z3 z4 z5 z6 z7 z8 z9 z10)
                      refine again H locs Mw9 (mm + 1) (upd Ff mm (nI sN)) (upd Fl mm (nI sN)) (va_up fs mm sN) (va_up lS mm sN) ls hW hS hfr9 hpc9 hV9 hI9 (fun k9 hk9 => ?_) (by rw [er3]; exact hJ2) (lv_sub hl [0, 1, 2, 3, 4, 5, 6] rfl)
                      by_cases z1 : k9 = mm
                      · rw [z1, pk_us, pk_us, va_up_self, va_up_self]; exact ⟨rfl, rfl⟩
                      · rw [pk_un z1, pk_un z1, va_up_ne _ _ z1, va_up_ne _ _ z1]; exact hFs k9 (by omega)
      have hfrg : ∀ r9, r9 ≠ h0 → r9 ≠ mk → r9 ≠ ka → r9 ≠ kb → r9 ≠ fa → r9 ≠ la → r9 ≠ va → r9 ≠ vb → r9 ≠ im → r9 ≠ ia → r9 ≠ ib → Mg r9 = M r9 := fun r9 z0 z1 z2 z3 z4 z5 z6 z7 z8 z9 z10 => (hfg r9 z1 z2 z3).trans (fr3 r9 z0 z6 z7)
      have hcg : Mg h0 = some (.inr (5, [.ref mk, .ref fa, .ref la, .int 0, va_rf (some a)])) := (hfg h0 u_h0_mk u_h0_ka u_h0_kb).trans hc3
      have hpcg : pc_S cI cJ Mg h0 mk ka kb fa la (some a) n f g 0 Ff0 Fl0 := ⟨hcg, hmk, (hfg fa (Ne.symm u_mk_fa) (Ne.symm u_ka_fa) (Ne.symm u_kb_fa)).trans ((fr3 fa (Ne.symm u_h0_fa) u_fa_va u_fa_vb).trans hfa0), (hfg la (Ne.symm u_mk_la) (Ne.symm u_ka_la) (Ne.symm u_kb_la)).trans ((fr3 la (Ne.symm u_h0_la) u_la_va u_la_vb).trans hla0)⟩
      have hVg : vs_S cJ Mg v va vb om im (vp_updL fw j (fw j)) (vp_updL gw j (gw j)) := by
        rw [uL_id, uL_id]
        exact ⟨(hfg v (Ne.symm u_mk_v) (Ne.symm u_ka_v) (Ne.symm u_kb_v)).trans hV3.1, (hfg va (Ne.symm u_mk_va) e2 e3).trans hV3.2.1, (hfg vb (Ne.symm u_mk_vb) e4 e5).trans hV3.2.2⟩
      refine lv_iconst (v := 0) hx hb d_Pc_find_49 (by decide) ?_
      refine lv_istore (lv' := [(4, .int 0), (3, .int (nI j)), (0, .ref h0), (1, .ref a), (2, .ref v)]) hx hb d_Pc_find_50 hl (by decide) rfl (fun ls hl => ?_)
      refine lv_iconst (v := 0) hx hb d_Pc_find_52 (by decide) ?_
      refine lv_istore (lv' := [(5, .int 0), (4, .int 0), (3, .int (nI j)), (0, .ref h0), (1, .ref a), (2, .ref v)]) hx hb d_Pc_find_53 hl (by decide) rfl (fun ls hl => ?_)
      exact loop (2 * n + 2) 0 (by omega) (by omega) H locs Mg (fw j) (gw j) 0 0 Ff0 Fl0 (fun _ => 0) (fun _ => 0) ls hW hS hfrg hpcg hVg ⟨n9, f9, g9, (hfg im e15 (Ne.symm u_ka_im) (Ne.symm u_kb_im)).trans ((fr3 im (Ne.symm u_h0_im) (Ne.symm u_va_im) (Ne.symm u_vb_im)).trans hmi.1), (hfg ia (Ne.symm u_mk_ia) e10 e11).trans ((fr3 ia (Ne.symm u_h0_ia) (Ne.symm d4) (Ne.symm d8)).trans hmi.2.1), (hfg ib (Ne.symm u_mk_ib) e12 e13).trans ((fr3 ib (Ne.symm u_h0_ib) (Ne.symm d5) (Ne.symm d9)).trans hmi.2.2)⟩ (fun k9 hk9 => absurd hk9 (Nat.not_lt_zero k9)) (pj_0 tt _ _) (lv_sub hl [0, 1, 2, 3, 4, 5] rfl)
    refine lv_if_eq (tgt := 31) hx hb d_Pc_find_24 (by decide) (fun c_24 => ?_) (fun c_24 => ?_)
    · skip
      refine lv_iconst (v := 1) hx hb d_Pc_find_31 (by decide) ?_
      have hnx : nx q = false := by cases hz : nx q; rfl; rw [hz] at erf; rw [c_24] at erf; exact absurd erf (by decide)
      exact rest 1 0 H locs ls rfl (by rw [hnx]; rfl) hW hS (lv_sub hl [0, 1, 2] rfl)
    · skip
      refine lv_iconst (v := 0) hx hb d_Pc_find_27 (by decide) ?_
      refine lv_goto (tgt := 32) hx hb d_Pc_find_28 (by decide) ?_
      have hnx : nx q = true := by cases hz : nx q; rw [hz] at erf; exact absurd erf c_24; rfl
      exact rest 0 1 H locs ls rfl (by rw [hnx]; rfl) hW hS (lv_sub hl [0, 1, 2] rfl)
  · skip
    rw [hQ9]
    exact hw_retv hx hb hr hlocks hW hS ⟨⟨fv, gv, hE⟩, by rw [c_5]; exact hP, fun _ _ _ _ _ _ _ _ _ _ _ _ => rfl⟩ d_Pc_find_8
end G23
end
section
/-! Marks.divisorOf, lowestAbove, lowestBelow; Pieces.partOfEnd -/
theorem fr_num {u d : Int} (hd : 0 < d) : (qm_fr u d).num = u / (Int.gcd d u : Int) ∧ ((qm_fr u d).den : Int) = d / (Int.gcd d u : Int) := by
  have e : qm_fr u d = Rat.divInt u d := by unfold qm_fr; rw [Rat.divInt_eq_div]
  rw [e, Rat.num_divInt, Rat.den_divInt, Int.sign_eq_one_of_pos hd, Int.one_mul, if_neg (by omega)]
  refine ⟨rfl, ?_⟩
  rw [Int.natCast_ediv, Int.natAbs_of_nonneg (by omega)]
/-- one end of a piece, in the document's three parts -/
def pe_v (o : Option (Rat × Bool)) (pt : Nat) : Int := match o with
  | none => if pt = 2 then 1 else 0
  | some (x, b) => if pt = 0 then (if b = true then 2 else 1) else if pt = 1 then x.num else (x.den : Int)
theorem lx_div {x y : Int64} (hy : 0 < y.toInt) (hd : y.toInt ∣ x.toInt) : (x / y).toInt = x.toInt / y.toInt := by
  rw [Int64.toInt_div, Int.tdiv_eq_ediv_of_dvd hd]
  have h1 := x.toInt_lt
  have h2 := x.le_toInt
  have h3 : (x.toInt / y.toInt).natAbs ≤ x.toInt.natAbs := Int.natAbs_ediv_le_natAbs _ _
  by_cases e : y.toInt = 1
  · rw [e, Int.ediv_one]; exact Int.bmod_eq_of_le (by omega) (by omega)
  · have h4 : (x.toInt / y.toInt).natAbs ≤ 4611686018427387904 := by
      obtain ⟨c, hc⟩ := hd
      rw [hc, Int.mul_ediv_cancel_left _ (by omega)]
      have h5 : (y.toInt * c).natAbs = y.toInt.natAbs * c.natAbs := Int.natAbs_mul _ _
      have h6 : 2 * c.natAbs ≤ y.toInt.natAbs * c.natAbs := Nat.mul_le_mul_right _ (by omega)
      rw [← hc] at h5
      omega
    exact Int.bmod_eq_of_le (by omega) (by omega)
section G24
variable (l : Launch) (D : va_G) (cI cJ cZ cN : ClassId)
set_option maxHeartbeats 4000000 in
set_option maxRecDepth 100000 in
theorem c_Mk_divisorOf (h0 ma mb n i sz : Nat) (f g : Nat → Int64) (M : Nat → Option va_E) (hM : mk_S cJ M h0 ma mb n f g) (hn : n ≤ 21) (hr9 : mk_row f g n 50) (hi : i < n) : Met l y_Mk_divisorOf (.code y_Mk_divisorOf b_Mk_divisorOf 9 (some .long) :: ww) ({ frames := 1, cells := 0, slots := 0, locals := 40 }) (hw_Pc D qcl (qty cI cJ cZ cN) [.ref h0, .int (nI i)] M sz) (va_Ql (fun r M1 => r = lN (Int.gcd (g i).toInt (f i).toInt) ∧ M1 = M) (hw_B D qcl (qty cI cJ cZ cN) M sz) (hw_A M sz)) 0 0 (hw_A M sz) := by
  obtain ⟨hM1, hM2, hM3⟩ := hM
  obtain ⟨b1, b2, b3⟩ := hr9.1 i hi
  have eG : g i = lN (g i).toInt.toNat := Int64.toInt_inj.mp (by rw [pk_lT (by omega)]; omega)
  have eF : (if 0 < f i then f i else - f i) = lN (f i).toInt.natAbs := Int64.toInt_inj.mp (by rw [pk_lT (by omega)]; split <;> rename_i z1 <;> rw [nm_llt] at z1 <;> rw [show (0 : Int64).toInt = 0 from rfl] at z1; omega; rw [nm_lneg (by omega)]; omega)
  refine hw_met (by decide) (Nat.le_of_ble_eq_true rfl) ?_
  intro p e s m below meth c hx hb hr hml hown hlocks hnm hts hsz hX hW ls hl
  subst hsz
  have hA : ∀ q, s.heap.size ≤ q → hw_A M s.heap.size q := fun q h => Or.inr h
  have hS : va_S (hw_A M s.heap.size) s.heap s.heap [] := va_S.rf
  have hl : lv_has ls 9 [(0, .ref h0), (1, .int (nI i))] := hl
  have hown : s.vm.findClass "QuantifierOut$Marks" = some m.cls := hown
  obtain ⟨Q9, hQ9⟩ : ∃ X : State → Prop, X = MQ below (va_Ql (fun r M1 => r = lN (Int.gcd (g i).toInt (f i).toInt) ∧ M1 = M) (hw_B D qcl (qty cI cJ cZ cN) M s.heap.size) (hw_A M s.heap.size)) [.ref h0, .int (nI i)].toArray s 0 0 (hw_A M s.heap.size) := ⟨_, rfl⟩
  rw [← hQ9]
  refine lv_aload_n hx hb d_Mk_divisorOf_0 rfl (lv_at hl 0 rfl) ?_
  refine hw_get (own := "QuantifierOut$Marks") (v := .ref mb) hx hb hts i_Mk hown hW hM1 rfl 1 (by decide) (hts _ tw_42) (fun _ h9 => h9) rfl d_Mk_divisorOf_1 ?_
  refine lv_iload_n hx hb d_Mk_divisorOf_4 rfl (lv_at hl 1 rfl) ?_
  refine hw_lld hx hb hW 1 hM3 rfl i rfl (by omega) (by decide) d_Mk_divisorOf_5 ?_
  rw [eG]
  refine lv_lstore_n (lv' := [(2, .long (lN (g i).toInt.toNat)), (0, .ref h0), (1, .int (nI i))]) hx hb d_Mk_divisorOf_6 rfl hl (by decide) rfl (fun ls hl => ?_)
  refine lv_aload_n hx hb d_Mk_divisorOf_7 rfl (lv_at hl 1 rfl) ?_
  refine hw_get (own := "QuantifierOut$Marks") (v := .ref ma) hx hb hts i_Mk hown hW hM1 rfl 0 (by decide) (hts _ tw_41) (fun _ h9 => h9) rfl d_Mk_divisorOf_8 ?_
  refine lv_iload_n hx hb d_Mk_divisorOf_11 rfl (lv_at hl 2 rfl) ?_
  refine hw_lld hx hb hW 1 hM2 rfl i rfl (by omega) (by decide) d_Mk_divisorOf_12 ?_
  refine va_mabs_long (own := "QuantifierOut$Marks") (x := (f i)) hx hb (by rw [hml]; exact hl.1.symm) hown (hts _ tw_554) (hts _ tw_555) (hts _ tw_15) (hts _ tw_556) (by decide) (by decide) (by decide) (by decide) d_Mk_divisorOf_13 ?_
  rw [eF]
  refine lv_lstore (lv' := [(4, .long (lN (f i).toInt.natAbs)), (2, .long (lN (g i).toInt.toNat)), (0, .ref h0), (1, .int (nI i))]) hx hb d_Mk_divisorOf_16 hl (by decide) rfl (fun ls hl => ?_)
  refine lv_iconst (v := 0) hx hb d_Mk_divisorOf_18 (by decide) ?_
  refine lv_istore (lv' := [(6, .int 0), (4, .long (lN (f i).toInt.natAbs)), (2, .long (lN (g i).toInt.toNat)), (0, .ref h0), (1, .int (nI i))]) hx hb d_Mk_divisorOf_19 hl (by decide) rfl (fun ls hl => ?_)
  have loop : ∀ (z k S G : Nat), S ≤ z → k + S ≤ 50 → G ≤ 50 → 0 < G → Nat.gcd G S = Int.gcd (g i).toInt (f i).toInt → ∀ (ls : Array Slot), lv_has ls 9 [(6, .int (nI k)), (4, .long (lN S)), (2, .long (lN G)), (0, .ref h0), (1, .int (nI i))] → W p l e ({ frames := 1, cells := 0, slots := 0, locals := 40 }) s m [.ref h0, .int (nI i)].toArray below meth c s.heap [] 0 0 Q9 (F0 m 21 ls []) := by
    intro z
    induction z with
    | zero =>
      intro k S G hS9 hk9 hG9 hG0 hgcd ls hl
      refine lv_iload hx hb d_Mk_divisorOf_21 (lv_at hl 0 rfl) ?_
      refine lv_bipush (v := 100) hx hb d_Mk_divisorOf_23 (by decide) ?_
      refine lv_icmp_ge (tgt := 54) hx hb d_Mk_divisorOf_25 (by decide) (fun c_25 => ?_) (fun c_25 => ?_)
      · skip
        exact absurd ((nI_leI (a := 100) (by omega) (by omega)).mp c_25) (by omega)
      · skip
        refine lv_lload hx hb d_Mk_divisorOf_28 (lv_at hl 1 rfl) ?_
        refine lv_lconst (v := 0) hx hb d_Mk_divisorOf_30 (by decide) ?_
        refine W.lcmp hx hb d_Mk_divisorOf_31 ?_
        refine lv_if_eq (tgt := 54) hx hb d_Mk_divisorOf_32 (by decide) (fun c_31 => ?_) (fun c_31 => ?_)
        · skip
          rw [lg_cmp_eq] at c_31
          have hS0 : S = 0 := (pk_lEQ (b := 0) (by omega) (by omega)).mp c_31
          subst hS0
          refine lv_lload_n hx hb d_Mk_divisorOf_54 rfl (lv_at hl 2 rfl) ?_
          refine lv_lconst (v := 1) hx hb d_Mk_divisorOf_55 (by decide) ?_
          refine va_mmax_long (own := "QuantifierOut$Marks") (x := (lN G)) (y := 1) hx hb (by rw [hml]; exact hl.1.symm) hown (hts _ tw_557) (hts _ tw_558) (hts _ tw_15) (hts _ tw_559) (by decide) (by decide) (by decide) (by decide) d_Mk_divisorOf_56 ?_
          rw [hQ9]
          have hG1 : (if (1 : Int64) < lN G then lN G else 1) = lN G := by split; rfl; rename_i z1; exact Int64.toInt_inj.mp (by rw [nm_llt, pk_lT (by omega)] at z1; rw [pk_lT (by omega)]; have : (1 : Int64).toInt = 1 := rfl; omega)
          exact hw_retl hx hb hr hlocks hW hS ⟨by rw [hG1, ← hgcd, Nat.gcd_zero_right], rfl⟩ d_Mk_divisorOf_59
        · skip
          rw [lg_cmp_eq] at c_31
          have hS0 : 0 < S := Nat.pos_of_ne_zero (fun z9 => c_31 (by rw [z9]; rfl))
          exact absurd hS0 (by omega)
    | succ z ihz =>
      intro k S G hS9 hk9 hG9 hG0 hgcd ls hl
      refine lv_iload hx hb d_Mk_divisorOf_21 (lv_at hl 0 rfl) ?_
      refine lv_bipush (v := 100) hx hb d_Mk_divisorOf_23 (by decide) ?_
      refine lv_icmp_ge (tgt := 54) hx hb d_Mk_divisorOf_25 (by decide) (fun c_25 => ?_) (fun c_25 => ?_)
      · skip
        exact absurd ((nI_leI (a := 100) (by omega) (by omega)).mp c_25) (by omega)
      · skip
        refine lv_lload hx hb d_Mk_divisorOf_28 (lv_at hl 1 rfl) ?_
        refine lv_lconst (v := 0) hx hb d_Mk_divisorOf_30 (by decide) ?_
        refine W.lcmp hx hb d_Mk_divisorOf_31 ?_
        refine lv_if_eq (tgt := 54) hx hb d_Mk_divisorOf_32 (by decide) (fun c_31 => ?_) (fun c_31 => ?_)
        · skip
          rw [lg_cmp_eq] at c_31
          have hS0 : S = 0 := (pk_lEQ (b := 0) (by omega) (by omega)).mp c_31
          subst hS0
          refine lv_lload_n hx hb d_Mk_divisorOf_54 rfl (lv_at hl 2 rfl) ?_
          refine lv_lconst (v := 1) hx hb d_Mk_divisorOf_55 (by decide) ?_
          refine va_mmax_long (own := "QuantifierOut$Marks") (x := (lN G)) (y := 1) hx hb (by rw [hml]; exact hl.1.symm) hown (hts _ tw_557) (hts _ tw_558) (hts _ tw_15) (hts _ tw_559) (by decide) (by decide) (by decide) (by decide) d_Mk_divisorOf_56 ?_
          rw [hQ9]
          have hG1 : (if (1 : Int64) < lN G then lN G else 1) = lN G := by split; rfl; rename_i z1; exact Int64.toInt_inj.mp (by rw [nm_llt, pk_lT (by omega)] at z1; rw [pk_lT (by omega)]; have : (1 : Int64).toInt = 1 := rfl; omega)
          exact hw_retl hx hb hr hlocks hW hS ⟨by rw [hG1, ← hgcd, Nat.gcd_zero_right], rfl⟩ d_Mk_divisorOf_59
        · skip
          rw [lg_cmp_eq] at c_31
          have hS0 : 0 < S := Nat.pos_of_ne_zero (fun z9 => c_31 (by rw [z9]; rfl))
          refine lv_lload_n hx hb d_Mk_divisorOf_35 rfl (lv_at hl 2 rfl) ?_
          refine lv_lload hx hb d_Mk_divisorOf_36 (lv_at hl 1 rfl) ?_
          refine lv_lrem hx hb d_Mk_divisorOf_38 c_31 ?_
          refine lv_topl (fun rs ers => ?_)
          have ers2 : rs = lN (G % S) := by rw [ers]; exact pk_lRem (by omega) hS0 (by omega)
          rw [ers2]
          refine lv_lstore (lv' := [(7, .long (lN (G % S))), (6, .int (nI k)), (4, .long (lN S)), (2, .long (lN G)), (0, .ref h0), (1, .int (nI i))]) hx hb d_Mk_divisorOf_39 hl (by decide) rfl (fun ls hl => ?_)
          refine lv_lload hx hb d_Mk_divisorOf_41 (lv_at hl 2 rfl) ?_
          refine lv_lstore_n (lv' := [(2, .long (lN S)), (7, .long (lN (G % S))), (6, .int (nI k)), (4, .long (lN S)), (0, .ref h0), (1, .int (nI i))]) hx hb d_Mk_divisorOf_43 rfl hl (by decide) rfl (fun ls hl => ?_)
          refine lv_lload hx hb d_Mk_divisorOf_44 (lv_at hl 1 rfl) ?_
          refine lv_lstore (lv' := [(4, .long (lN (G % S))), (2, .long (lN S)), (7, .long (lN (G % S))), (6, .int (nI k)), (0, .ref h0), (1, .int (nI i))]) hx hb d_Mk_divisorOf_46 hl (by decide) rfl (fun ls hl => ?_)
          obtain ⟨k9, ek9⟩ : ∃ y9 : Int32, y9 = (nI k) + Int32.ofInt (1) := ⟨_, rfl⟩
          refine lv_iinc (v := k9) (lv' := [(6, .int k9), (4, .long (lN (G % S))), (2, .long (lN S)), (7, .long (lN (G % S))), (0, .ref h0), (1, .int (nI i))]) hx hb d_Mk_divisorOf_48 hl (k := 3) rfl ek9.symm (by decide) rfl (fun ls hl => ?_)
          have ek : k9 = nI (k + 1) := by rw [ek9]; exact nI_add k 1
          subst ek
          refine lv_goto (tgt := 21) hx hb d_Mk_divisorOf_51 (by decide) ?_
          have hlt := Nat.mod_lt G hS0
          exact ihz (k + 1) (G % S) S (by omega) (by omega) (by omega) hS0 (by rw [← hgcd, Nat.gcd_comm S, ← Nat.gcd_rec, Nat.gcd_comm]) ls (lv_sub hl [0, 1, 2, 4, 5] rfl)
  exact loop (f i).toInt.natAbs 0 _ (g i).toInt.toNat (by omega) (by omega) (by omega) (by omega) (by rw [show Int.gcd (g i).toInt (f i).toInt = Nat.gcd (g i).toInt.natAbs (f i).toInt.natAbs from rfl]; congr 1; omega) ls (lv_sub hl [0, 1, 2, 3, 4] rfl)
set_option maxHeartbeats 4000000 in
set_option maxRecDepth 100000 in
theorem c_Mk_lowestAbove (h0 ma mb n i sz : Nat) (f g : Nat → Int64) (M : Nat → Option va_E) (hM : mk_S cJ M h0 ma mb n f g) (hn : n ≤ 21) (hr9 : mk_row f g n 50) (hi : i < n) : Met l y_Mk_lowestAbove (.code y_Mk_lowestAbove b_Mk_lowestAbove 2 (some .long) :: ww) ({ frames := 2, cells := 0, slots := 0, locals := 80 }) (hw_Pc D qcl (qty cI cJ cZ cN) [.ref h0, .int (nI i)] M sz) (va_Ql (fun r M1 => r.toInt = ((mk_v f g i).num : Int) ∧ M1 = M) (hw_B D qcl (qty cI cJ cZ cN) M sz) (hw_A M sz)) 0 0 (hw_A M sz) := by
  obtain ⟨hM1, hM2, hM3⟩ := id hM
  obtain ⟨b1, b2, b3⟩ := hr9.1 i hi
  refine hw_met (by decide) (Nat.le_of_ble_eq_true rfl) ?_
  intro p e s m below meth c hx hb hr hml hown hlocks hnm hts hsz hX hW ls hl
  subst hsz
  have hA : ∀ q, s.heap.size ≤ q → hw_A M s.heap.size q := fun q h => Or.inr h
  have hS : va_S (hw_A M s.heap.size) s.heap s.heap [] := va_S.rf
  have hl : lv_has ls 2 [(0, .ref h0), (1, .int (nI i))] := hl
  have hown : s.vm.findClass "QuantifierOut$Marks" = some m.cls := hown
  refine lv_aload_n hx hb d_Mk_lowestAbove_0 rfl (lv_at hl 0 rfl) ?_
  refine hw_get (own := "QuantifierOut$Marks") (v := .ref ma) hx hb hts i_Mk hown hW hM1 rfl 0 (by decide) (hts _ tw_41) (fun _ h9 => h9) rfl d_Mk_lowestAbove_1 ?_
  refine lv_iload_n hx hb d_Mk_lowestAbove_4 rfl (lv_at hl 1 rfl) ?_
  refine hw_lld hx hb hW 1 hM2 rfl i rfl (by omega) (by decide) d_Mk_lowestAbove_5 ?_
  refine lv_aload_n hx hb d_Mk_lowestAbove_6 rfl (lv_at hl 0 rfl) ?_
  refine lv_iload_n hx hb d_Mk_lowestAbove_7 rfl (lv_at hl 1 rfl) ?_
  refine hw_calll (hw_runV (n := 1) (own := "QuantifierOut$Marks") (As := [.int (nI i)]) (rest := [.long (f i)]) hx hb hml hown hts hX hW hl.1 (c_Mk_divisorOf l D cI cJ cZ cN h0 ma mb n i _ f g M hM hn hr9 hi) hM1 rfl tw_550 tw_552 ts_10 tw_3 tw_553 (by decide +kernel) rfl rfl ⟨by decide, by decide⟩ rfl rfl (Nat.le_of_ble_eq_true rfl) d_Mk_lowestAbove_8 ⟨by decide, by decide⟩) hW hS hA (fun dv M2 H locs hp hz hW hS => ?_)
  obtain ⟨ed, eM⟩ := hp
  rw [eM] at hW
  have hg0 : 0 < Int.gcd (g i).toInt (f i).toInt := Int.gcd_pos_of_ne_zero_left _ (by omega)
  have hgl : Int.gcd (g i).toInt (f i).toInt ≤ 50 := by have := Int.gcd_le_natAbs_left (b := (f i).toInt) (show (g i).toInt ≠ 0 by omega); omega
  have hdT : dv.toInt = (Int.gcd (g i).toInt (f i).toInt : Int) := by rw [ed, pk_lT (by omega)]
  refine lv_ldiv hx hb d_Mk_lowestAbove_11 (fun z9 => by rw [z9, show (0 : Int64).toInt = 0 from rfl] at hdT; omega) ?_
  refine lv_topl (fun rq erq => ?_)
  refine hw_retl hx hb hr hlocks hW hS ⟨?_, rfl⟩ d_Mk_lowestAbove_12
  rw [erq, lx_div (by rw [hdT]; omega) (by rw [hdT]; exact Int.gcd_dvd_right ..), hdT]
  exact (fr_num b1).1.symm
set_option maxHeartbeats 4000000 in
set_option maxRecDepth 100000 in
theorem c_Mk_lowestBelow (h0 ma mb n i sz : Nat) (f g : Nat → Int64) (M : Nat → Option va_E) (hM : mk_S cJ M h0 ma mb n f g) (hn : n ≤ 21) (hr9 : mk_row f g n 50) (hi : i < n) : Met l y_Mk_lowestBelow (.code y_Mk_lowestBelow b_Mk_lowestBelow 2 (some .long) :: ww) ({ frames := 2, cells := 0, slots := 0, locals := 80 }) (hw_Pc D qcl (qty cI cJ cZ cN) [.ref h0, .int (nI i)] M sz) (va_Ql (fun r M1 => r.toInt = ((mk_v f g i).den : Int) ∧ M1 = M) (hw_B D qcl (qty cI cJ cZ cN) M sz) (hw_A M sz)) 0 0 (hw_A M sz) := by
  obtain ⟨hM1, hM2, hM3⟩ := id hM
  obtain ⟨b1, b2, b3⟩ := hr9.1 i hi
  refine hw_met (by decide) (Nat.le_of_ble_eq_true rfl) ?_
  intro p e s m below meth c hx hb hr hml hown hlocks hnm hts hsz hX hW ls hl
  subst hsz
  have hA : ∀ q, s.heap.size ≤ q → hw_A M s.heap.size q := fun q h => Or.inr h
  have hS : va_S (hw_A M s.heap.size) s.heap s.heap [] := va_S.rf
  have hl : lv_has ls 2 [(0, .ref h0), (1, .int (nI i))] := hl
  have hown : s.vm.findClass "QuantifierOut$Marks" = some m.cls := hown
  refine lv_aload_n hx hb d_Mk_lowestBelow_0 rfl (lv_at hl 0 rfl) ?_
  refine hw_get (own := "QuantifierOut$Marks") (v := .ref mb) hx hb hts i_Mk hown hW hM1 rfl 1 (by decide) (hts _ tw_42) (fun _ h9 => h9) rfl d_Mk_lowestBelow_1 ?_
  refine lv_iload_n hx hb d_Mk_lowestBelow_4 rfl (lv_at hl 1 rfl) ?_
  refine hw_lld hx hb hW 1 hM3 rfl i rfl (by omega) (by decide) d_Mk_lowestBelow_5 ?_
  refine lv_aload_n hx hb d_Mk_lowestBelow_6 rfl (lv_at hl 0 rfl) ?_
  refine lv_iload_n hx hb d_Mk_lowestBelow_7 rfl (lv_at hl 1 rfl) ?_
  refine hw_calll (hw_runV (n := 1) (own := "QuantifierOut$Marks") (As := [.int (nI i)]) (rest := [.long (g i)]) hx hb hml hown hts hX hW hl.1 (c_Mk_divisorOf l D cI cJ cZ cN h0 ma mb n i _ f g M hM hn hr9 hi) hM1 rfl tw_550 tw_552 ts_10 tw_3 tw_553 (by decide +kernel) rfl rfl ⟨by decide, by decide⟩ rfl rfl (Nat.le_of_ble_eq_true rfl) d_Mk_lowestBelow_8 ⟨by decide, by decide⟩) hW hS hA (fun dv M2 H locs hp hz hW hS => ?_)
  obtain ⟨ed, eM⟩ := hp
  rw [eM] at hW
  have hg0 : 0 < Int.gcd (g i).toInt (f i).toInt := Int.gcd_pos_of_ne_zero_left _ (by omega)
  have hgl : Int.gcd (g i).toInt (f i).toInt ≤ 50 := by have := Int.gcd_le_natAbs_left (b := (f i).toInt) (show (g i).toInt ≠ 0 by omega); omega
  have hdT : dv.toInt = (Int.gcd (g i).toInt (f i).toInt : Int) := by rw [ed, pk_lT (by omega)]
  refine lv_ldiv hx hb d_Mk_lowestBelow_11 (fun z9 => by rw [z9, show (0 : Int64).toInt = 0 from rfl] at hdT; omega) ?_
  refine lv_topl (fun rq erq => ?_)
  refine hw_retl hx hb hr hlocks hW hS ⟨?_, rfl⟩ d_Mk_lowestBelow_12
  rw [erq, lx_div (by rw [hdT]; omega) (by rw [hdT]; exact Int.gcd_dvd_left ..), hdT]
  exact (fr_num b1).2.symm
set_option maxHeartbeats 4000000 in
set_option maxRecDepth 100000 in
theorem c_Pc_partOfEnd (h0 mk ka kb fa la n mm k sd pt fs lS sz : Nat) (ow : Option Nat) (f g : Nat → Int64) (Ff Fl : Nat → Int32) (M : Nat → Option va_E) (hP : pc_S cI cJ M h0 mk ka kb fa la ow n f g mm Ff Fl) (hn : n ≤ 21) (hr9 : mk_row f g n 50) (hk : k < mm) (hm : mm ≤ 22) (hf : Ff k = nI fs) (hl9 : Fl k = nI lS) (hf2 : fs < 2 * n + 1) (hl2 : lS < 2 * n + 1) (hsd : sd < 2) (hpt : pt < 3) : Met l y_Pc_partOfEnd (.code y_Pc_partOfEnd b_Pc_partOfEnd 8 (some .long) :: ww) ({ frames := 3, cells := 0, slots := 0, locals := 120 }) (hw_Pc D qcl (qty cI cJ cZ cN) [.ref h0, .int (nI k), .int (nI sd), .int (nI pt)] M sz) (va_Ql (fun r M1 => r.toInt = pe_v (if sd = 0 then qi_L (mk_v f g) fs else qi_R (mk_v f g) n lS) pt ∧ M1 = M) (hw_B D qcl (qty cI cJ cZ cN) M sz) (hw_A M sz)) 0 0 (hw_A M sz) := by
  obtain ⟨hc, hmk, hfa, hla⟩ := id hP
  refine hw_met (by decide) (Nat.le_of_ble_eq_true rfl) ?_
  intro p e s m below meth c hx hb hr hml hown hlocks hnm hts hsz hX hW ls hl
  subst hsz
  have hA : ∀ q, s.heap.size ≤ q → hw_A M s.heap.size q := fun q h => Or.inr h
  have hS : va_S (hw_A M s.heap.size) s.heap s.heap [] := va_S.rf
  have hl : lv_has ls 8 [(0, .ref h0), (1, .int (nI k)), (2, .int (nI sd)), (3, .int (nI pt))] := hl
  have hown : s.vm.findClass "QuantifierOut$Pieces" = some m.cls := hown
  obtain ⟨Q9, hQ9⟩ : ∃ X : State → Prop, X = MQ below (va_Ql (fun r M1 => r.toInt = pe_v (if sd = 0 then qi_L (mk_v f g) fs else qi_R (mk_v f g) n lS) pt ∧ M1 = M) (hw_B D qcl (qty cI cJ cZ cN) M s.heap.size) (hw_A M s.heap.size)) [.ref h0, .int (nI k), .int (nI sd), .int (nI pt)].toArray s 0 0 (hw_A M s.heap.size) := ⟨_, rfl⟩
  rw [← hQ9]
  rcases (show sd = 0 ∨ sd = 1 by omega) with rfl | rfl
  · skip
    have rest : fs ≠ 0 → ∀ (H : Heap) (locs : List Loc) (ls : Array Slot), hw_W D qcl (qty cI cJ cZ cN) (hw_A M s.heap.size) M s H → va_S (hw_A M s.heap.size) s.heap H locs → lv_has ls 8 [(4, .int (nI fs)), (0, .ref h0), (1, .int (nI k)), (2, .int (nI 0)), (3, .int (nI pt))] → W p l e ({ frames := 3, cells := 0, slots := 0, locals := 120 }) s m [.ref h0, .int (nI k), .int (nI 0), .int (nI pt)].toArray below meth c H locs 0 0 Q9 (F0 m 75 ls []) := by
      intro hne H locs ls hW hS hl
      refine lv_iload hx hb d_Pc_partOfEnd_75 (lv_at hl 0 rfl) ?_
      refine lv_iconst (v := 2) hx hb d_Pc_partOfEnd_77 (by decide) ?_
      refine lv_irem hx hb d_Pc_partOfEnd_78 (by decide) ?_
      refine lv_topi (fun rm erm => ?_)
      have erm2 : rm = nI (fs % 2) := by rw [erm]; exact pk_rem (a := fs) (d := 2) (by omega) (by omega) (by omega)
      refine lv_iconst (v := 1) hx hb d_Pc_partOfEnd_79 (by decide) ?_
      refine lv_icmp_ne (tgt := 87) hx hb d_Pc_partOfEnd_80 (by decide) (fun c_80 => ?_) (fun c_80 => ?_)
      · skip
        have hb2 : ¬ fs % 2 = 1 := fun z9 => c_80 (by rw [erm2, z9]; rfl)
        have hv : qi_L (mk_v f g) fs = some (mk_v f g (fs / 2 - 1), false) := by unfold qi_L; rw [if_neg hne, if_neg hb2]
        refine lv_iconst (v := 0) hx hb d_Pc_partOfEnd_87 (by decide) ?_
        refine lv_istore (lv' := [(6, .int 0), (4, .int (nI fs)), (0, .ref h0), (1, .int (nI k)), (2, .int (nI 0)), (3, .int (nI pt))]) hx hb d_Pc_partOfEnd_88 hl (by decide) rfl (fun ls hl => ?_)
        refine lv_iload_n hx hb d_Pc_partOfEnd_90 rfl (lv_at hl 5 rfl) ?_
        refine lv_if_ne (tgt := 107) hx hb d_Pc_partOfEnd_91 (by decide) (fun c_91 => ?_) (fun c_91 => ?_)
        · skip
          have hp0 : pt ≠ 0 := fun z9 => c_91 (by rw [z9]; rfl)
          refine lv_iload hx hb d_Pc_partOfEnd_107 (lv_at hl 0 rfl) ?_
          refine lv_if_ne (tgt := 117) hx hb d_Pc_partOfEnd_109 (by decide) (fun c_109 => ?_) (fun c_109 => ?_)
          · skip
            exact absurd rfl c_109
          · skip
            refine lv_iload_n hx hb d_Pc_partOfEnd_112 rfl (lv_at hl 4 rfl) ?_
            refine lv_iconst (v := 1) hx hb d_Pc_partOfEnd_113 (by decide) ?_
            refine lv_icmp_ne (tgt := 124) hx hb d_Pc_partOfEnd_114 (by decide) (fun c_114 => ?_) (fun c_114 => ?_)
            · skip
              refine lv_iload hx hb d_Pc_partOfEnd_124 (lv_at hl 1 rfl) ?_
              refine lv_iconst (v := 2) hx hb d_Pc_partOfEnd_126 (by decide) ?_
              refine lv_idiv hx hb d_Pc_partOfEnd_127 (by decide) ?_
              refine lv_topi (fun dq edq => ?_)
              have edq2 : dq = nI (fs / 2) := by rw [edq]; exact pk_div (a := fs) (d := 2) (by omega) (by omega) (by omega)
              subst edq2
              refine lv_iconst (v := 1) hx hb d_Pc_partOfEnd_128 (by decide) ?_
              refine lv_isub hx hb d_Pc_partOfEnd_129 ?_
              refine lv_topi (fun x1 ex1 => ?_)
              have emk : x1 = nI (fs / 2 - 1) := by rw [ex1, show fs / 2 = fs / 2 - 1 + 1 by omega]; exact nI_pred (fs / 2 - 1)
              rw [emk]
              refine lv_istore (lv' := [(7, .int (nI (fs / 2 - 1))), (6, .int 0), (4, .int (nI fs)), (0, .ref h0), (1, .int (nI k)), (2, .int (nI 0)), (3, .int (nI pt))]) hx hb d_Pc_partOfEnd_130 hl (by decide) rfl (fun ls hl => ?_)
              refine lv_iload_n hx hb d_Pc_partOfEnd_132 rfl (lv_at hl 6 rfl) ?_
              refine lv_iconst (v := 1) hx hb d_Pc_partOfEnd_133 (by decide) ?_
              refine lv_icmp_ne (tgt := 149) hx hb d_Pc_partOfEnd_134 (by decide) (fun c_134 => ?_) (fun c_134 => ?_)
              · skip
                have hp1 : pt ≠ 1 := fun z9 => c_134 (by rw [z9]; rfl)
                have hp1 : pt = 2 := by omega
                refine lv_aload_n hx hb d_Pc_partOfEnd_149 rfl (lv_at hl 3 rfl) ?_
                refine hw_get (own := "QuantifierOut$Pieces") (v := .ref mk) hx hb hts i_Pc hown hW hc rfl 0 (by decide) (hts _ tw_79) (fun _ h9 => h9) rfl d_Pc_partOfEnd_150 ?_
                refine lv_iload hx hb d_Pc_partOfEnd_153 (lv_at hl 0 rfl) ?_
                refine hw_calll (hw_runV (n := 1) (own := "QuantifierOut$Pieces") (As := [.int (nI (fs / 2 - 1))]) (rest := []) hx hb hml hown hts hX hW hl.1 (c_Mk_lowestBelow l D cI cJ cZ cN mk ka kb n (fs / 2 - 1) _ f g M hmk hn hr9 (by omega)) hmk.1 rfl tw_560 tw_561 tw_562 tw_3 tw_563 (by decide +kernel) rfl rfl ⟨by decide, by decide⟩ rfl rfl (Nat.le_of_ble_eq_true rfl) d_Pc_partOfEnd_155 ⟨by decide, by decide⟩) hW hS hA (fun rv M2 H locs hp hz hW hS => ?_)
                obtain ⟨ev, eM⟩ := hp
                rw [eM] at hW
                rw [hQ9]
                exact hw_retl hx hb hr hlocks hW hS ⟨by rw [if_pos rfl, hv, ev, hp1]; rfl, rfl⟩ d_Pc_partOfEnd_158
              · skip
                have hp1 : pt = 1 := (nI_eq (b := 1) (by omega) (by omega)).mp c_134
                refine lv_aload_n hx hb d_Pc_partOfEnd_137 rfl (lv_at hl 3 rfl) ?_
                refine hw_get (own := "QuantifierOut$Pieces") (v := .ref mk) hx hb hts i_Pc hown hW hc rfl 0 (by decide) (hts _ tw_79) (fun _ h9 => h9) rfl d_Pc_partOfEnd_138 ?_
                refine lv_iload hx hb d_Pc_partOfEnd_141 (lv_at hl 0 rfl) ?_
                refine hw_calll (hw_runV (n := 1) (own := "QuantifierOut$Pieces") (As := [.int (nI (fs / 2 - 1))]) (rest := []) hx hb hml hown hts hX hW hl.1 (c_Mk_lowestAbove l D cI cJ cZ cN mk ka kb n (fs / 2 - 1) _ f g M hmk hn hr9 (by omega)) hmk.1 rfl tw_546 tw_547 tw_548 tw_3 tw_549 (by decide +kernel) rfl rfl ⟨by decide, by decide⟩ rfl rfl (Nat.le_of_ble_eq_true rfl) d_Pc_partOfEnd_143 ⟨by decide, by decide⟩) hW hS hA (fun rv M2 H locs hp hz hW hS => ?_)
                obtain ⟨ev, eM⟩ := hp
                rw [eM] at hW
                refine lv_goto (tgt := 158) hx hb d_Pc_partOfEnd_146 (by decide) ?_
                rw [hQ9]
                exact hw_retl hx hb hr hlocks hW hS ⟨by rw [if_pos rfl, hv, ev, hp1]; rfl, rfl⟩ d_Pc_partOfEnd_158
            · skip
              exact absurd c_114 (by decide)
        · skip
          have hp0 : pt = 0 := (nI_eq (b := 0) (by omega) (by omega)).mp c_91
          subst hp0
          refine lv_iload hx hb d_Pc_partOfEnd_94 (lv_at hl 0 rfl) ?_
          refine lv_if_eq (tgt := 105) hx hb d_Pc_partOfEnd_96 (by decide) (fun c_96 => ?_) (fun c_96 => ?_)
          · skip
            refine lv_lconst (v := 1) hx hb d_Pc_partOfEnd_105 (by decide) ?_
            rw [hQ9]
            exact hw_retl hx hb hr hlocks hW hS ⟨by rw [if_pos rfl, hv]; rfl, rfl⟩ d_Pc_partOfEnd_106
          · skip
            exact absurd rfl c_96
      · skip
        have hb2 : fs % 2 = 1 := by rw [erm2] at c_80; exact (nI_eq (b := 1) (by omega) (by omega)).mp c_80
        have hv : qi_L (mk_v f g) fs = some (mk_v f g (fs / 2), true) := by unfold qi_L; rw [if_neg hne, if_pos hb2]
        refine lv_iconst (v := 1) hx hb d_Pc_partOfEnd_83 (by decide) ?_
        refine lv_goto (tgt := 88) hx hb d_Pc_partOfEnd_84 (by decide) ?_
        refine lv_istore (lv' := [(6, .int 1), (4, .int (nI fs)), (0, .ref h0), (1, .int (nI k)), (2, .int (nI 0)), (3, .int (nI pt))]) hx hb d_Pc_partOfEnd_88 hl (by decide) rfl (fun ls hl => ?_)
        refine lv_iload_n hx hb d_Pc_partOfEnd_90 rfl (lv_at hl 5 rfl) ?_
        refine lv_if_ne (tgt := 107) hx hb d_Pc_partOfEnd_91 (by decide) (fun c_91 => ?_) (fun c_91 => ?_)
        · skip
          have hp0 : pt ≠ 0 := fun z9 => c_91 (by rw [z9]; rfl)
          refine lv_iload hx hb d_Pc_partOfEnd_107 (lv_at hl 0 rfl) ?_
          refine lv_if_ne (tgt := 117) hx hb d_Pc_partOfEnd_109 (by decide) (fun c_109 => ?_) (fun c_109 => ?_)
          · skip
            refine lv_iload hx hb d_Pc_partOfEnd_117 (lv_at hl 1 rfl) ?_
            refine lv_iconst (v := 2) hx hb d_Pc_partOfEnd_119 (by decide) ?_
            refine lv_idiv hx hb d_Pc_partOfEnd_120 (by decide) ?_
            refine lv_topi (fun dq edq => ?_)
            have edq2 : dq = nI (fs / 2) := by rw [edq]; exact pk_div (a := fs) (d := 2) (by omega) (by omega) (by omega)
            subst edq2
            refine lv_goto (tgt := 130) hx hb d_Pc_partOfEnd_121 (by decide) ?_
            refine lv_istore (lv' := [(7, .int (nI (fs / 2))), (6, .int 1), (4, .int (nI fs)), (0, .ref h0), (1, .int (nI k)), (2, .int (nI 0)), (3, .int (nI pt))]) hx hb d_Pc_partOfEnd_130 hl (by decide) rfl (fun ls hl => ?_)
            refine lv_iload_n hx hb d_Pc_partOfEnd_132 rfl (lv_at hl 6 rfl) ?_
            refine lv_iconst (v := 1) hx hb d_Pc_partOfEnd_133 (by decide) ?_
            refine lv_icmp_ne (tgt := 149) hx hb d_Pc_partOfEnd_134 (by decide) (fun c_134 => ?_) (fun c_134 => ?_)
            · skip
              have hp1 : pt ≠ 1 := fun z9 => c_134 (by rw [z9]; rfl)
              have hp1 : pt = 2 := by omega
              refine lv_aload_n hx hb d_Pc_partOfEnd_149 rfl (lv_at hl 3 rfl) ?_
              refine hw_get (own := "QuantifierOut$Pieces") (v := .ref mk) hx hb hts i_Pc hown hW hc rfl 0 (by decide) (hts _ tw_79) (fun _ h9 => h9) rfl d_Pc_partOfEnd_150 ?_
              refine lv_iload hx hb d_Pc_partOfEnd_153 (lv_at hl 0 rfl) ?_
              refine hw_calll (hw_runV (n := 1) (own := "QuantifierOut$Pieces") (As := [.int (nI (fs / 2))]) (rest := []) hx hb hml hown hts hX hW hl.1 (c_Mk_lowestBelow l D cI cJ cZ cN mk ka kb n (fs / 2) _ f g M hmk hn hr9 (by omega)) hmk.1 rfl tw_560 tw_561 tw_562 tw_3 tw_563 (by decide +kernel) rfl rfl ⟨by decide, by decide⟩ rfl rfl (Nat.le_of_ble_eq_true rfl) d_Pc_partOfEnd_155 ⟨by decide, by decide⟩) hW hS hA (fun rv M2 H locs hp hz hW hS => ?_)
              obtain ⟨ev, eM⟩ := hp
              rw [eM] at hW
              rw [hQ9]
              exact hw_retl hx hb hr hlocks hW hS ⟨by rw [if_pos rfl, hv, ev, hp1]; rfl, rfl⟩ d_Pc_partOfEnd_158
            · skip
              have hp1 : pt = 1 := (nI_eq (b := 1) (by omega) (by omega)).mp c_134
              refine lv_aload_n hx hb d_Pc_partOfEnd_137 rfl (lv_at hl 3 rfl) ?_
              refine hw_get (own := "QuantifierOut$Pieces") (v := .ref mk) hx hb hts i_Pc hown hW hc rfl 0 (by decide) (hts _ tw_79) (fun _ h9 => h9) rfl d_Pc_partOfEnd_138 ?_
              refine lv_iload hx hb d_Pc_partOfEnd_141 (lv_at hl 0 rfl) ?_
              refine hw_calll (hw_runV (n := 1) (own := "QuantifierOut$Pieces") (As := [.int (nI (fs / 2))]) (rest := []) hx hb hml hown hts hX hW hl.1 (c_Mk_lowestAbove l D cI cJ cZ cN mk ka kb n (fs / 2) _ f g M hmk hn hr9 (by omega)) hmk.1 rfl tw_546 tw_547 tw_548 tw_3 tw_549 (by decide +kernel) rfl rfl ⟨by decide, by decide⟩ rfl rfl (Nat.le_of_ble_eq_true rfl) d_Pc_partOfEnd_143 ⟨by decide, by decide⟩) hW hS hA (fun rv M2 H locs hp hz hW hS => ?_)
              obtain ⟨ev, eM⟩ := hp
              rw [eM] at hW
              refine lv_goto (tgt := 158) hx hb d_Pc_partOfEnd_146 (by decide) ?_
              rw [hQ9]
              exact hw_retl hx hb hr hlocks hW hS ⟨by rw [if_pos rfl, hv, ev, hp1]; rfl, rfl⟩ d_Pc_partOfEnd_158
          · skip
            exact absurd c_109 (by decide)
        · skip
          have hp0 : pt = 0 := (nI_eq (b := 0) (by omega) (by omega)).mp c_91
          subst hp0
          refine lv_iload hx hb d_Pc_partOfEnd_94 (lv_at hl 0 rfl) ?_
          refine lv_if_eq (tgt := 105) hx hb d_Pc_partOfEnd_96 (by decide) (fun c_96 => ?_) (fun c_96 => ?_)
          · skip
            exact absurd c_96 (by decide)
          · skip
            refine lv_ldc2 (own := "QuantifierOut$Pieces") (v := 2) hx hb hown (hts _ tw_545) d_Pc_partOfEnd_99 ?_
            refine lv_goto (tgt := 106) hx hb d_Pc_partOfEnd_102 (by decide) ?_
            rw [hQ9]
            exact hw_retl hx hb hr hlocks hW hS ⟨by rw [if_pos rfl, hv]; rfl, rfl⟩ d_Pc_partOfEnd_106
    refine lv_iload_n hx hb d_Pc_partOfEnd_0 rfl (lv_at hl 2 rfl) ?_
    refine lv_if_ne (tgt := 13) hx hb d_Pc_partOfEnd_1 (by decide) (fun c_1 => ?_) (fun c_1 => ?_)
    · skip
      exact absurd rfl c_1
    · skip
      refine lv_aload_n hx hb d_Pc_partOfEnd_4 rfl (lv_at hl 0 rfl) ?_
      refine hw_get (own := "QuantifierOut$Pieces") (v := .ref fa) hx hb hts i_Pc hown hW hc rfl 1 (by decide) (hts _ tw_80) (fun _ h9 => h9) rfl d_Pc_partOfEnd_5 ?_
      refine lv_iload_n hx hb d_Pc_partOfEnd_8 rfl (lv_at hl 1 rfl) ?_
      refine hw_ild hx hb hW 0 hfa rfl k rfl (by omega) (by decide) d_Pc_partOfEnd_9 ?_
      rw [hf]
      refine lv_goto (tgt := 19) hx hb d_Pc_partOfEnd_10 (by decide) ?_
      refine lv_istore (lv' := [(4, .int (nI fs)), (0, .ref h0), (1, .int (nI k)), (2, .int (nI 0)), (3, .int (nI pt))]) hx hb d_Pc_partOfEnd_19 hl (by decide) rfl (fun ls hl => ?_)
      refine lv_iload_n hx hb d_Pc_partOfEnd_21 rfl (lv_at hl 3 rfl) ?_
      refine lv_if_ne (tgt := 38) hx hb d_Pc_partOfEnd_22 (by decide) (fun c_22 => ?_) (fun c_22 => ?_)
      · skip
        exact absurd rfl c_22
      · skip
        refine lv_iload hx hb d_Pc_partOfEnd_25 (lv_at hl 0 rfl) ?_
        refine lv_if_ne (tgt := 34) hx hb d_Pc_partOfEnd_27 (by decide) (fun c_27 => ?_) (fun c_27 => ?_)
        · skip
          have hne : fs ≠ 0 := fun z9 => c_27 (by rw [z9]; rfl)
          refine lv_iconst (v := 0) hx hb d_Pc_partOfEnd_34 (by decide) ?_
          refine lv_goto (tgt := 57) hx hb d_Pc_partOfEnd_35 (by decide) ?_
          refine lv_istore (lv' := [(5, .int 0), (4, .int (nI fs)), (0, .ref h0), (1, .int (nI k)), (2, .int (nI 0)), (3, .int (nI pt))]) hx hb d_Pc_partOfEnd_57 hl (by decide) rfl (fun ls hl => ?_)
          refine lv_iload hx hb d_Pc_partOfEnd_59 (lv_at hl 0 rfl) ?_
          refine lv_if_eq (tgt := 75) hx hb d_Pc_partOfEnd_61 (by decide) (fun c_61 => ?_) (fun c_61 => ?_)
          · skip
            exact rest hne _ _ ls hW hS (lv_sub hl [1, 2, 3, 4, 5] rfl)
          · skip
            exact absurd rfl c_61
        · skip
          have hne0 : fs = 0 := (nI_eq (b := 0) (by omega) (by omega)).mp c_27
          have hv : qi_L (mk_v f g) fs = none := by unfold qi_L; rw [if_pos hne0]
          refine lv_iconst (v := 1) hx hb d_Pc_partOfEnd_30 (by decide) ?_
          refine lv_goto (tgt := 57) hx hb d_Pc_partOfEnd_31 (by decide) ?_
          refine lv_istore (lv' := [(5, .int 1), (4, .int (nI fs)), (0, .ref h0), (1, .int (nI k)), (2, .int (nI 0)), (3, .int (nI pt))]) hx hb d_Pc_partOfEnd_57 hl (by decide) rfl (fun ls hl => ?_)
          refine lv_iload hx hb d_Pc_partOfEnd_59 (lv_at hl 0 rfl) ?_
          refine lv_if_eq (tgt := 75) hx hb d_Pc_partOfEnd_61 (by decide) (fun c_61 => ?_) (fun c_61 => ?_)
          · skip
            exact absurd c_61 (by decide)
          · skip
            refine lv_iload_n hx hb d_Pc_partOfEnd_64 rfl (lv_at hl 5 rfl) ?_
            refine lv_iconst (v := 2) hx hb d_Pc_partOfEnd_65 (by decide) ?_
            refine lv_icmp_ne (tgt := 73) hx hb d_Pc_partOfEnd_66 (by decide) (fun c_66 => ?_) (fun c_66 => ?_)
            · skip
              have hp2 : pt ≠ 2 := fun z9 => c_66 (by rw [z9]; rfl)
              refine lv_lconst (v := 0) hx hb d_Pc_partOfEnd_73 (by decide) ?_
              rw [hQ9]
              exact hw_retl hx hb hr hlocks hW hS ⟨by rw [if_pos rfl, hv]; unfold pe_v; rw [if_neg hp2]; rfl, rfl⟩ d_Pc_partOfEnd_74
            · skip
              have hp2 : pt = 2 := (nI_eq (b := 2) (by omega) (by omega)).mp c_66
              refine lv_lconst (v := 1) hx hb d_Pc_partOfEnd_69 (by decide) ?_
              refine lv_goto (tgt := 74) hx hb d_Pc_partOfEnd_70 (by decide) ?_
              rw [hQ9]
              exact hw_retl hx hb hr hlocks hW hS ⟨by rw [if_pos rfl, hv, hp2]; rfl, rfl⟩ d_Pc_partOfEnd_74
  · skip
    have rest : lS ≠ 2 * n → ∀ (H : Heap) (locs : List Loc) (ls : Array Slot), hw_W D qcl (qty cI cJ cZ cN) (hw_A M s.heap.size) M s H → va_S (hw_A M s.heap.size) s.heap H locs → lv_has ls 8 [(4, .int (nI lS)), (0, .ref h0), (1, .int (nI k)), (2, .int (nI 1)), (3, .int (nI pt))] → W p l e ({ frames := 3, cells := 0, slots := 0, locals := 120 }) s m [.ref h0, .int (nI k), .int (nI 1), .int (nI pt)].toArray below meth c H locs 0 0 Q9 (F0 m 75 ls []) := by
      intro hne H locs ls hW hS hl
      refine lv_iload hx hb d_Pc_partOfEnd_75 (lv_at hl 0 rfl) ?_
      refine lv_iconst (v := 2) hx hb d_Pc_partOfEnd_77 (by decide) ?_
      refine lv_irem hx hb d_Pc_partOfEnd_78 (by decide) ?_
      refine lv_topi (fun rm erm => ?_)
      have erm2 : rm = nI (lS % 2) := by rw [erm]; exact pk_rem (a := lS) (d := 2) (by omega) (by omega) (by omega)
      refine lv_iconst (v := 1) hx hb d_Pc_partOfEnd_79 (by decide) ?_
      refine lv_icmp_ne (tgt := 87) hx hb d_Pc_partOfEnd_80 (by decide) (fun c_80 => ?_) (fun c_80 => ?_)
      · skip
        have hb2 : ¬ lS % 2 = 1 := fun z9 => c_80 (by rw [erm2, z9]; rfl)
        have hv : qi_R (mk_v f g) n lS = some (mk_v f g (lS / 2), false) := by unfold qi_R; rw [if_neg hne, if_neg hb2]
        refine lv_iconst (v := 0) hx hb d_Pc_partOfEnd_87 (by decide) ?_
        refine lv_istore (lv' := [(6, .int 0), (4, .int (nI lS)), (0, .ref h0), (1, .int (nI k)), (2, .int (nI 1)), (3, .int (nI pt))]) hx hb d_Pc_partOfEnd_88 hl (by decide) rfl (fun ls hl => ?_)
        refine lv_iload_n hx hb d_Pc_partOfEnd_90 rfl (lv_at hl 5 rfl) ?_
        refine lv_if_ne (tgt := 107) hx hb d_Pc_partOfEnd_91 (by decide) (fun c_91 => ?_) (fun c_91 => ?_)
        · skip
          have hp0 : pt ≠ 0 := fun z9 => c_91 (by rw [z9]; rfl)
          refine lv_iload hx hb d_Pc_partOfEnd_107 (lv_at hl 0 rfl) ?_
          refine lv_if_ne (tgt := 117) hx hb d_Pc_partOfEnd_109 (by decide) (fun c_109 => ?_) (fun c_109 => ?_)
          · skip
            exact absurd rfl c_109
          · skip
            refine lv_iload_n hx hb d_Pc_partOfEnd_112 rfl (lv_at hl 4 rfl) ?_
            refine lv_iconst (v := 1) hx hb d_Pc_partOfEnd_113 (by decide) ?_
            refine lv_icmp_ne (tgt := 124) hx hb d_Pc_partOfEnd_114 (by decide) (fun c_114 => ?_) (fun c_114 => ?_)
            · skip
              exact absurd rfl c_114
            · skip
              refine lv_iload hx hb d_Pc_partOfEnd_117 (lv_at hl 1 rfl) ?_
              refine lv_iconst (v := 2) hx hb d_Pc_partOfEnd_119 (by decide) ?_
              refine lv_idiv hx hb d_Pc_partOfEnd_120 (by decide) ?_
              refine lv_topi (fun dq edq => ?_)
              have edq2 : dq = nI (lS / 2) := by rw [edq]; exact pk_div (a := lS) (d := 2) (by omega) (by omega) (by omega)
              subst edq2
              refine lv_goto (tgt := 130) hx hb d_Pc_partOfEnd_121 (by decide) ?_
              refine lv_istore (lv' := [(7, .int (nI (lS / 2))), (6, .int 0), (4, .int (nI lS)), (0, .ref h0), (1, .int (nI k)), (2, .int (nI 1)), (3, .int (nI pt))]) hx hb d_Pc_partOfEnd_130 hl (by decide) rfl (fun ls hl => ?_)
              refine lv_iload_n hx hb d_Pc_partOfEnd_132 rfl (lv_at hl 6 rfl) ?_
              refine lv_iconst (v := 1) hx hb d_Pc_partOfEnd_133 (by decide) ?_
              refine lv_icmp_ne (tgt := 149) hx hb d_Pc_partOfEnd_134 (by decide) (fun c_134 => ?_) (fun c_134 => ?_)
              · skip
                have hp1 : pt ≠ 1 := fun z9 => c_134 (by rw [z9]; rfl)
                have hp1 : pt = 2 := by omega
                refine lv_aload_n hx hb d_Pc_partOfEnd_149 rfl (lv_at hl 3 rfl) ?_
                refine hw_get (own := "QuantifierOut$Pieces") (v := .ref mk) hx hb hts i_Pc hown hW hc rfl 0 (by decide) (hts _ tw_79) (fun _ h9 => h9) rfl d_Pc_partOfEnd_150 ?_
                refine lv_iload hx hb d_Pc_partOfEnd_153 (lv_at hl 0 rfl) ?_
                refine hw_calll (hw_runV (n := 1) (own := "QuantifierOut$Pieces") (As := [.int (nI (lS / 2))]) (rest := []) hx hb hml hown hts hX hW hl.1 (c_Mk_lowestBelow l D cI cJ cZ cN mk ka kb n (lS / 2) _ f g M hmk hn hr9 (by omega)) hmk.1 rfl tw_560 tw_561 tw_562 tw_3 tw_563 (by decide +kernel) rfl rfl ⟨by decide, by decide⟩ rfl rfl (Nat.le_of_ble_eq_true rfl) d_Pc_partOfEnd_155 ⟨by decide, by decide⟩) hW hS hA (fun rv M2 H locs hp hz hW hS => ?_)
                obtain ⟨ev, eM⟩ := hp
                rw [eM] at hW
                rw [hQ9]
                exact hw_retl hx hb hr hlocks hW hS ⟨by rw [if_neg (by decide), hv, ev, hp1]; rfl, rfl⟩ d_Pc_partOfEnd_158
              · skip
                have hp1 : pt = 1 := (nI_eq (b := 1) (by omega) (by omega)).mp c_134
                refine lv_aload_n hx hb d_Pc_partOfEnd_137 rfl (lv_at hl 3 rfl) ?_
                refine hw_get (own := "QuantifierOut$Pieces") (v := .ref mk) hx hb hts i_Pc hown hW hc rfl 0 (by decide) (hts _ tw_79) (fun _ h9 => h9) rfl d_Pc_partOfEnd_138 ?_
                refine lv_iload hx hb d_Pc_partOfEnd_141 (lv_at hl 0 rfl) ?_
                refine hw_calll (hw_runV (n := 1) (own := "QuantifierOut$Pieces") (As := [.int (nI (lS / 2))]) (rest := []) hx hb hml hown hts hX hW hl.1 (c_Mk_lowestAbove l D cI cJ cZ cN mk ka kb n (lS / 2) _ f g M hmk hn hr9 (by omega)) hmk.1 rfl tw_546 tw_547 tw_548 tw_3 tw_549 (by decide +kernel) rfl rfl ⟨by decide, by decide⟩ rfl rfl (Nat.le_of_ble_eq_true rfl) d_Pc_partOfEnd_143 ⟨by decide, by decide⟩) hW hS hA (fun rv M2 H locs hp hz hW hS => ?_)
                obtain ⟨ev, eM⟩ := hp
                rw [eM] at hW
                refine lv_goto (tgt := 158) hx hb d_Pc_partOfEnd_146 (by decide) ?_
                rw [hQ9]
                exact hw_retl hx hb hr hlocks hW hS ⟨by rw [if_neg (by decide), hv, ev, hp1]; rfl, rfl⟩ d_Pc_partOfEnd_158
        · skip
          have hp0 : pt = 0 := (nI_eq (b := 0) (by omega) (by omega)).mp c_91
          subst hp0
          refine lv_iload hx hb d_Pc_partOfEnd_94 (lv_at hl 0 rfl) ?_
          refine lv_if_eq (tgt := 105) hx hb d_Pc_partOfEnd_96 (by decide) (fun c_96 => ?_) (fun c_96 => ?_)
          · skip
            refine lv_lconst (v := 1) hx hb d_Pc_partOfEnd_105 (by decide) ?_
            rw [hQ9]
            exact hw_retl hx hb hr hlocks hW hS ⟨by rw [if_neg (by decide), hv]; rfl, rfl⟩ d_Pc_partOfEnd_106
          · skip
            exact absurd rfl c_96
      · skip
        have hb2 : lS % 2 = 1 := by rw [erm2] at c_80; exact (nI_eq (b := 1) (by omega) (by omega)).mp c_80
        have hv : qi_R (mk_v f g) n lS = some (mk_v f g (lS / 2), true) := by unfold qi_R; rw [if_neg hne, if_pos hb2]
        refine lv_iconst (v := 1) hx hb d_Pc_partOfEnd_83 (by decide) ?_
        refine lv_goto (tgt := 88) hx hb d_Pc_partOfEnd_84 (by decide) ?_
        refine lv_istore (lv' := [(6, .int 1), (4, .int (nI lS)), (0, .ref h0), (1, .int (nI k)), (2, .int (nI 1)), (3, .int (nI pt))]) hx hb d_Pc_partOfEnd_88 hl (by decide) rfl (fun ls hl => ?_)
        refine lv_iload_n hx hb d_Pc_partOfEnd_90 rfl (lv_at hl 5 rfl) ?_
        refine lv_if_ne (tgt := 107) hx hb d_Pc_partOfEnd_91 (by decide) (fun c_91 => ?_) (fun c_91 => ?_)
        · skip
          have hp0 : pt ≠ 0 := fun z9 => c_91 (by rw [z9]; rfl)
          refine lv_iload hx hb d_Pc_partOfEnd_107 (lv_at hl 0 rfl) ?_
          refine lv_if_ne (tgt := 117) hx hb d_Pc_partOfEnd_109 (by decide) (fun c_109 => ?_) (fun c_109 => ?_)
          · skip
            refine lv_iload hx hb d_Pc_partOfEnd_117 (lv_at hl 1 rfl) ?_
            refine lv_iconst (v := 2) hx hb d_Pc_partOfEnd_119 (by decide) ?_
            refine lv_idiv hx hb d_Pc_partOfEnd_120 (by decide) ?_
            refine lv_topi (fun dq edq => ?_)
            have edq2 : dq = nI (lS / 2) := by rw [edq]; exact pk_div (a := lS) (d := 2) (by omega) (by omega) (by omega)
            subst edq2
            refine lv_goto (tgt := 130) hx hb d_Pc_partOfEnd_121 (by decide) ?_
            refine lv_istore (lv' := [(7, .int (nI (lS / 2))), (6, .int 1), (4, .int (nI lS)), (0, .ref h0), (1, .int (nI k)), (2, .int (nI 1)), (3, .int (nI pt))]) hx hb d_Pc_partOfEnd_130 hl (by decide) rfl (fun ls hl => ?_)
            refine lv_iload_n hx hb d_Pc_partOfEnd_132 rfl (lv_at hl 6 rfl) ?_
            refine lv_iconst (v := 1) hx hb d_Pc_partOfEnd_133 (by decide) ?_
            refine lv_icmp_ne (tgt := 149) hx hb d_Pc_partOfEnd_134 (by decide) (fun c_134 => ?_) (fun c_134 => ?_)
            · skip
              have hp1 : pt ≠ 1 := fun z9 => c_134 (by rw [z9]; rfl)
              have hp1 : pt = 2 := by omega
              refine lv_aload_n hx hb d_Pc_partOfEnd_149 rfl (lv_at hl 3 rfl) ?_
              refine hw_get (own := "QuantifierOut$Pieces") (v := .ref mk) hx hb hts i_Pc hown hW hc rfl 0 (by decide) (hts _ tw_79) (fun _ h9 => h9) rfl d_Pc_partOfEnd_150 ?_
              refine lv_iload hx hb d_Pc_partOfEnd_153 (lv_at hl 0 rfl) ?_
              refine hw_calll (hw_runV (n := 1) (own := "QuantifierOut$Pieces") (As := [.int (nI (lS / 2))]) (rest := []) hx hb hml hown hts hX hW hl.1 (c_Mk_lowestBelow l D cI cJ cZ cN mk ka kb n (lS / 2) _ f g M hmk hn hr9 (by omega)) hmk.1 rfl tw_560 tw_561 tw_562 tw_3 tw_563 (by decide +kernel) rfl rfl ⟨by decide, by decide⟩ rfl rfl (Nat.le_of_ble_eq_true rfl) d_Pc_partOfEnd_155 ⟨by decide, by decide⟩) hW hS hA (fun rv M2 H locs hp hz hW hS => ?_)
              obtain ⟨ev, eM⟩ := hp
              rw [eM] at hW
              rw [hQ9]
              exact hw_retl hx hb hr hlocks hW hS ⟨by rw [if_neg (by decide), hv, ev, hp1]; rfl, rfl⟩ d_Pc_partOfEnd_158
            · skip
              have hp1 : pt = 1 := (nI_eq (b := 1) (by omega) (by omega)).mp c_134
              refine lv_aload_n hx hb d_Pc_partOfEnd_137 rfl (lv_at hl 3 rfl) ?_
              refine hw_get (own := "QuantifierOut$Pieces") (v := .ref mk) hx hb hts i_Pc hown hW hc rfl 0 (by decide) (hts _ tw_79) (fun _ h9 => h9) rfl d_Pc_partOfEnd_138 ?_
              refine lv_iload hx hb d_Pc_partOfEnd_141 (lv_at hl 0 rfl) ?_
              refine hw_calll (hw_runV (n := 1) (own := "QuantifierOut$Pieces") (As := [.int (nI (lS / 2))]) (rest := []) hx hb hml hown hts hX hW hl.1 (c_Mk_lowestAbove l D cI cJ cZ cN mk ka kb n (lS / 2) _ f g M hmk hn hr9 (by omega)) hmk.1 rfl tw_546 tw_547 tw_548 tw_3 tw_549 (by decide +kernel) rfl rfl ⟨by decide, by decide⟩ rfl rfl (Nat.le_of_ble_eq_true rfl) d_Pc_partOfEnd_143 ⟨by decide, by decide⟩) hW hS hA (fun rv M2 H locs hp hz hW hS => ?_)
              obtain ⟨ev, eM⟩ := hp
              rw [eM] at hW
              refine lv_goto (tgt := 158) hx hb d_Pc_partOfEnd_146 (by decide) ?_
              rw [hQ9]
              exact hw_retl hx hb hr hlocks hW hS ⟨by rw [if_neg (by decide), hv, ev, hp1]; rfl, rfl⟩ d_Pc_partOfEnd_158
          · skip
            exact absurd c_109 (by decide)
        · skip
          have hp0 : pt = 0 := (nI_eq (b := 0) (by omega) (by omega)).mp c_91
          subst hp0
          refine lv_iload hx hb d_Pc_partOfEnd_94 (lv_at hl 0 rfl) ?_
          refine lv_if_eq (tgt := 105) hx hb d_Pc_partOfEnd_96 (by decide) (fun c_96 => ?_) (fun c_96 => ?_)
          · skip
            exact absurd c_96 (by decide)
          · skip
            refine lv_ldc2 (own := "QuantifierOut$Pieces") (v := 2) hx hb hown (hts _ tw_545) d_Pc_partOfEnd_99 ?_
            refine lv_goto (tgt := 106) hx hb d_Pc_partOfEnd_102 (by decide) ?_
            rw [hQ9]
            exact hw_retl hx hb hr hlocks hW hS ⟨by rw [if_neg (by decide), hv]; rfl, rfl⟩ d_Pc_partOfEnd_106
    refine lv_iload_n hx hb d_Pc_partOfEnd_0 rfl (lv_at hl 2 rfl) ?_
    refine lv_if_ne (tgt := 13) hx hb d_Pc_partOfEnd_1 (by decide) (fun c_1 => ?_) (fun c_1 => ?_)
    · skip
      refine lv_aload_n hx hb d_Pc_partOfEnd_13 rfl (lv_at hl 0 rfl) ?_
      refine hw_get (own := "QuantifierOut$Pieces") (v := .ref la) hx hb hts i_Pc hown hW hc rfl 2 (by decide) (hts _ tw_81) (fun _ h9 => h9) rfl d_Pc_partOfEnd_14 ?_
      refine lv_iload_n hx hb d_Pc_partOfEnd_17 rfl (lv_at hl 1 rfl) ?_
      refine hw_ild hx hb hW 0 hla rfl k rfl (by omega) (by decide) d_Pc_partOfEnd_18 ?_
      rw [hl9]
      refine lv_istore (lv' := [(4, .int (nI lS)), (0, .ref h0), (1, .int (nI k)), (2, .int (nI 1)), (3, .int (nI pt))]) hx hb d_Pc_partOfEnd_19 hl (by decide) rfl (fun ls hl => ?_)
      refine lv_iload_n hx hb d_Pc_partOfEnd_21 rfl (lv_at hl 3 rfl) ?_
      refine lv_if_ne (tgt := 38) hx hb d_Pc_partOfEnd_22 (by decide) (fun c_22 => ?_) (fun c_22 => ?_)
      · skip
        refine lv_iload hx hb d_Pc_partOfEnd_38 (lv_at hl 0 rfl) ?_
        refine lv_aload_n hx hb d_Pc_partOfEnd_40 rfl (lv_at hl 1 rfl) ?_
        refine hw_get (own := "QuantifierOut$Pieces") (v := .ref mk) hx hb hts i_Pc hown hW hc rfl 0 (by decide) (hts _ tw_79) (fun _ h9 => h9) rfl d_Pc_partOfEnd_41 ?_
        refine hw_calli (hw_runV (n := 0) (own := "QuantifierOut$Pieces") (As := []) (rest := [.int (nI lS)]) hx hb hml hown hts hX hW hl.1 (c_Mk_stops l D cI cJ cZ cN mk ka kb n _ M hmk.1 (by omega)) hmk.1 rfl tw_528 tw_489 tw_490 tw_3 tw_491 (by decide +kernel) rfl rfl ⟨by decide, by decide⟩ rfl rfl (Nat.le_of_ble_eq_true rfl) d_Pc_partOfEnd_44 ⟨by decide, by decide⟩) hW hS hA (fun st9 M3 H locs hp hz hW hS => ?_)
        obtain ⟨est, eM3⟩ := hp
        rw [eM3] at hW
        subst est
        refine lv_iconst (v := 1) hx hb d_Pc_partOfEnd_47 (by decide) ?_
        refine lv_isub hx hb d_Pc_partOfEnd_48 ?_
        refine lv_topi (fun x2 ex2 => ?_)
        have ex9 : x2 = nI (2 * n) := by rw [ex2]; exact nI_pred (2 * n)
        rw [ex9]
        refine lv_icmp_ne (tgt := 56) hx hb d_Pc_partOfEnd_49 (by decide) (fun c_49 => ?_) (fun c_49 => ?_)
        · skip
          have hne : lS ≠ 2 * n := fun z9 => c_49 (by rw [z9])
          refine lv_iconst (v := 0) hx hb d_Pc_partOfEnd_56 (by decide) ?_
          refine lv_istore (lv' := [(5, .int 0), (4, .int (nI lS)), (0, .ref h0), (1, .int (nI k)), (2, .int (nI 1)), (3, .int (nI pt))]) hx hb d_Pc_partOfEnd_57 hl (by decide) rfl (fun ls hl => ?_)
          refine lv_iload hx hb d_Pc_partOfEnd_59 (lv_at hl 0 rfl) ?_
          refine lv_if_eq (tgt := 75) hx hb d_Pc_partOfEnd_61 (by decide) (fun c_61 => ?_) (fun c_61 => ?_)
          · skip
            exact rest hne _ _ ls hW hS (lv_sub hl [1, 2, 3, 4, 5] rfl)
          · skip
            exact absurd rfl c_61
        · skip
          have hne0 : lS = 2 * n := (nI_eq (by omega) (by omega)).mp c_49
          have hv : qi_R (mk_v f g) n lS = none := by unfold qi_R; rw [if_pos hne0]
          refine lv_iconst (v := 1) hx hb d_Pc_partOfEnd_52 (by decide) ?_
          refine lv_goto (tgt := 57) hx hb d_Pc_partOfEnd_53 (by decide) ?_
          refine lv_istore (lv' := [(5, .int 1), (4, .int (nI lS)), (0, .ref h0), (1, .int (nI k)), (2, .int (nI 1)), (3, .int (nI pt))]) hx hb d_Pc_partOfEnd_57 hl (by decide) rfl (fun ls hl => ?_)
          refine lv_iload hx hb d_Pc_partOfEnd_59 (lv_at hl 0 rfl) ?_
          refine lv_if_eq (tgt := 75) hx hb d_Pc_partOfEnd_61 (by decide) (fun c_61 => ?_) (fun c_61 => ?_)
          · skip
            exact absurd c_61 (by decide)
          · skip
            refine lv_iload_n hx hb d_Pc_partOfEnd_64 rfl (lv_at hl 5 rfl) ?_
            refine lv_iconst (v := 2) hx hb d_Pc_partOfEnd_65 (by decide) ?_
            refine lv_icmp_ne (tgt := 73) hx hb d_Pc_partOfEnd_66 (by decide) (fun c_66 => ?_) (fun c_66 => ?_)
            · skip
              have hp2 : pt ≠ 2 := fun z9 => c_66 (by rw [z9]; rfl)
              refine lv_lconst (v := 0) hx hb d_Pc_partOfEnd_73 (by decide) ?_
              rw [hQ9]
              exact hw_retl hx hb hr hlocks hW hS ⟨by rw [if_neg (by decide), hv]; unfold pe_v; rw [if_neg hp2]; rfl, rfl⟩ d_Pc_partOfEnd_74
            · skip
              have hp2 : pt = 2 := (nI_eq (b := 2) (by omega) (by omega)).mp c_66
              refine lv_lconst (v := 1) hx hb d_Pc_partOfEnd_69 (by decide) ?_
              refine lv_goto (tgt := 74) hx hb d_Pc_partOfEnd_70 (by decide) ?_
              rw [hQ9]
              exact hw_retl hx hb hr hlocks hW hS ⟨by rw [if_neg (by decide), hv, hp2]; rfl, rfl⟩ d_Pc_partOfEnd_74
      · skip
        exact absurd c_22 (by decide)
    · skip
      exact absurd c_1 (by decide)
end G24
end
section
/-! Node.grid, findGrid -/
theorem gd_ne {P : Rat → Rat → Prop} {g : Int32} (h : gd_ok P g) : ¬ g = -1 := fun e => by
  have h1 := h.2 31 (by omega) (by omega)
  rw [e, b_m1 31 (by omega)] at h1
  cases h1
theorem gp_0 (P : Rat → Rat → Prop) : gp_ok P 0 0 := ⟨fun i h => absurd h (Nat.not_lt_zero i), fun i _ _ => b_0 i⟩
theorem bt_1 : ∀ i, i < 32 → bt 1 i = decide (i = 0) := by decide +kernel
theorem bt_one (k : Nat) (hk : k < 32) {i : Nat} (hi : i < 32) : bt ((1 : Int32) <<< (nI k &&& 31)) i = decide (i = k) := by
  rw [b_shl k hk 1 hi]
  by_cases h : k ≤ i
  · rw [decide_eq_true h, Bool.true_and, bt_1 (i - k) (by omega)]
    by_cases e : i = k
    · rw [decide_eq_true e, decide_eq_true (by omega)]
    · rw [decide_eq_false e, decide_eq_false (by omega)]
  · rw [decide_eq_false h, Bool.false_and, decide_eq_false (by omega)]
theorem gp_yes {P : Rat → Rat → Prop} {k : Nat} {g : Int32} (h : gp_ok P k g) (hk : k < 25) (hp : gP P k) : gp_ok P (k + 1) (g ||| ((1 : Int32) <<< (nI k &&& 31))) := by
  refine ⟨fun i hi => ?_, fun i h1 h2 => ?_⟩
  · rw [b_or, bt_one k (by omega) (by omega)]
    by_cases e : i = k
    · rw [decide_eq_true e, Bool.or_true, e]; exact ⟨fun _ => hp, fun _ => rfl⟩
    · rw [decide_eq_false e, Bool.or_false]; exact h.1 i (by omega)
  · rw [b_or, bt_one k (by omega) h2, h.2 i (by omega) h2, decide_eq_false (by omega)]; rfl
theorem gp_no {P : Rat → Rat → Prop} {k : Nat} {g : Int32} (h : gp_ok P k g) (hk : k < 25) (hp : ¬ gP P k) : gp_ok P (k + 1) g := by
  refine ⟨fun i hi => ?_, fun i h1 h2 => h.2 i (by omega) h2⟩
  by_cases e : i = k
  · rw [e, h.2 k (Nat.le_refl k) (by omega)]; exact ⟨fun z => (by cases z), fun z => absurd z hp⟩
  · exact h.1 i (by omega)
theorem bt_rd (g : Int32) (k : Nat) (hk : k < 32) : ((g >>> (nI k &&& 31)) &&& 1) = if bt g k = true then 1 else 0 := by
  apply b_ext
  intro i hi
  rw [b_and, b_sshr k hk g hi, bt_1 i hi]
  by_cases e : i = 0
  · subst e
    rw [decide_eq_true rfl, Bool.and_true, Nat.add_zero, if_pos hk]
    cases bt g k
    · rw [if_neg (by decide), b_0]
    · rw [if_pos rfl]; rfl
  · rw [decide_eq_false e, Bool.and_false]
    split
    · rw [bt_1 i hi, decide_eq_false e]
    · rw [b_0]
theorem gd_and {P P1 P2 : Rat → Rat → Prop} {g1 g2 : Int32} (h1 : gd_ok P1 g1) (h2 : gd_ok P2 g2) (h : ∀ x y, P x y ↔ P1 x y ∧ P2 x y) : gd_ok P (g1 &&& g2) := by
  refine ⟨fun i hi => ?_, fun i a b => ?_⟩
  · rw [b_and, Bool.and_eq_true, h1.1 i hi, h2.1 i hi]; exact (h _ _).symm
  · rw [b_and, h1.2 i a b]; rfl
theorem gd_or {P P1 P2 : Rat → Rat → Prop} {g1 g2 : Int32} (h1 : gd_ok P1 g1) (h2 : gd_ok P2 g2) (h : ∀ x y, P x y ↔ P1 x y ∨ P2 x y) : gd_ok P (g1 ||| g2) := by
  refine ⟨fun i hi => ?_, fun i a b => ?_⟩
  · rw [b_or, Bool.or_eq_true, h1.1 i hi, h2.1 i hi]; exact (h _ _).symm
  · rw [b_or, h1.2 i a b, h2.2 i a b]; rfl
theorem bt_wg : ∀ i, i < 32 → bt 33554431 i = decide (i < 25) := by decide +kernel
theorem gd_not {P P1 : Rat → Rat → Prop} {g1 : Int32} (h1 : gd_ok P1 g1) (h : ∀ x y, P x y ↔ ¬ P1 x y) : gd_ok P (33554431 &&& (g1 ^^^ (-1))) := by
  refine ⟨fun i hi => ?_, fun i a b => ?_⟩
  · rw [b_and, b_xor, b_m1 i (by omega), bt_wg i (by omega), decide_eq_true hi, Bool.true_and, Bool.xor_true]
    have h2 : gP P i ↔ ¬ gP P1 i := h _ _
    rw [h2, ← h1.1 i hi]
    cases bt g1 i <;> simp
  · rw [b_and, bt_wg i b, decide_eq_false (by omega)]; rfl
theorem gd_eq {P1 P2 : Rat → Rat → Prop} {g1 g2 : Int32} (h1 : gd_ok P1 g1) (h2 : gd_ok P2 g2) : g1 = g2 ↔ ∀ i, i < 25 → (gP P1 i ↔ gP P2 i) := by
  constructor
  · intro e i hi
    rw [← h1.1 i hi, ← h2.1 i hi, e]
  · intro h
    refine b_ext fun i hi => ?_
    rcases Nat.lt_or_ge i 25 with c | c
    · have := (h1.1 i c).trans ((h i c).trans (h2.1 i c).symm)
      cases e1 : bt g1 i <;> cases e2 : bt g2 i <;> simp_all
    · rw [h1.2 i c hi, h2.2 i c hi]
/-- what may have changed: the values, the marks, and the grids of nodes -/
def gd_fr (va vb om oa ob im ia ib : Nat) (tb : Nat → Option nq) (M M1 : Nat → Option va_E) : Prop := (∀ x, tb x = none → x ≠ va → x ≠ vb → x ≠ om → x ≠ oa → x ≠ ob → x ≠ im → x ≠ ia → x ≠ ib → M1 x = M x) ∧ ∀ x q ci fs, tb x = some q → M x = some (.inr (ci, fs)) → ∃ g : Int32, M1 x = some (.inr (ci, fs.set 3 (.int g)))
theorem gd_fr_tr {va vb om oa ob im ia ib : Nat} {tb : Nat → Option nq} {M M1 M2 : Nat → Option va_E} (h1 : gd_fr va vb om oa ob im ia ib tb M M1) (h2 : gd_fr va vb om oa ob im ia ib tb M1 M2) : gd_fr va vb om oa ob im ia ib tb M M2 := by
  refine ⟨fun x a b c d e f g h i => (h2.1 x a b c d e f g h i).trans (h1.1 x a b c d e f g h i), fun x q ci fs hx hm => ?_⟩
  obtain ⟨g1, k1⟩ := h1.2 x q ci fs hx hm
  obtain ⟨g2, k2⟩ := h2.2 x q ci _ hx k1
  exact ⟨g2, by rw [k2, List.set_set]⟩
theorem gd_tb_none {cI : ClassId} {M : Nat → Option va_E} {tb : Nat → Option nq} (hT : tb_ok cI M tb) {x : Nat} (h : ∀ ci fs, M x = some (.inr (ci, fs)) → ci ≠ 1 ∧ ci ≠ 3 ∧ ci ≠ 4 ∧ ci ≠ 6) : tb x = none := by
  cases e : tb x with
  | none => rfl
  | some q =>
    obtain ⟨⟨la, gr, F, ⟨h1, h2⟩, _⟩, _⟩ := hT x q e
    have := h _ _ h2
    omega
theorem gd_fr_of {cI cJ : ClassId} {v va vb om oa ob im ia ib : Nat} {fv gv : Nat → Int64} {M M1 : Nat → Option va_E} {tb : Nat → Option nq} (hT : tb_ok cI M tb) (hE : ev_S cJ M v va vb om oa ob im ia ib fv gv) (h : ∀ x, x ≠ va → x ≠ vb → x ≠ om → x ≠ oa → x ≠ ob → x ≠ im → x ≠ ia → x ≠ ib → M1 x = M x) : gd_fr va vb om oa ob im ia ib tb M M1 ∧ tb_ok cI M1 tb := by
  obtain ⟨⟨j1, j2, j3⟩, ⟨n1, f1, g1, k1, k2, k3⟩, ⟨n2, f2, g2, m1, m2, m3⟩⟩ := hE
  refine ⟨⟨fun x _ b c d e f g h9 i => h x b c d e f g h9 i, fun x q ci fs hx hm => ?_⟩, tb_kept hT (fun a e ha h1 h2 => h a ?_ ?_ ?_ ?_ ?_ ?_ ?_ ?_)⟩
  · obtain ⟨⟨la, gr, F, ⟨a1, a2⟩, _⟩, _⟩ := hT x q hx
    have hn : ∀ y e, M y = some e → (e = .inl (cJ, 2, .inr (.inl fv)) ∨ (∃ c n f, e = .inl (c, n, .inr (.inl f))) ∨ ∃ z, e = .inr (2, z)) → x ≠ y := fun y e h8 h9 e9 => by
      subst e9
      rw [a2] at h8
      have e5 := Option.some.inj h8
      rcases h9 with h9 | ⟨_, _, _, h9⟩ | ⟨z, h9⟩
      · rw [h9] at e5; cases e5
      · rw [h9] at e5; cases e5
      · rw [h9] at e5; simp only [Sum.inr.injEq, Prod.mk.injEq] at e5; omega
    refine ⟨gr, ?_⟩
    rw [h x (hn _ _ j2 (Or.inr (Or.inl ⟨_, _, _, rfl⟩))) (hn _ _ j3 (Or.inr (Or.inl ⟨_, _, _, rfl⟩))) (hn _ _ k1 (Or.inr (Or.inr ⟨_, rfl⟩))) (hn _ _ k2 (Or.inr (Or.inl ⟨_, _, _, rfl⟩))) (hn _ _ k3 (Or.inr (Or.inl ⟨_, _, _, rfl⟩))) (hn _ _ m1 (Or.inr (Or.inr ⟨_, rfl⟩))) (hn _ _ m2 (Or.inr (Or.inl ⟨_, _, _, rfl⟩))) (hn _ _ m3 (Or.inr (Or.inl ⟨_, _, _, rfl⟩))), hm]
    rw [a2] at hm
    have e5 := Option.some.inj hm
    simp only [Sum.inr.injEq, Prod.mk.injEq] at e5
    obtain ⟨e6, e7⟩ := e5
    rw [← e7]
    rfl
  · intro z; subst z; exact h2 _ _ _ (Option.some.inj (ha.symm.trans j2))
  · intro z; subst z; exact h2 _ _ _ (Option.some.inj (ha.symm.trans j3))
  · intro z; subst z; exact h1 _ (Option.some.inj (ha.symm.trans k1))
  · intro z; subst z; exact h2 _ _ _ (Option.some.inj (ha.symm.trans k2))
  · intro z; subst z; exact h2 _ _ _ (Option.some.inj (ha.symm.trans k3))
  · intro z; subst z; exact h1 _ (Option.some.inj (ha.symm.trans m1))
  · intro z; subst z; exact h2 _ _ _ (Option.some.inj (ha.symm.trans m2))
  · intro z; subst z; exact h2 _ _ _ (Option.some.inj (ha.symm.trans m3))
def gd_post (cI cJ : ClassId) (v va vb om oa ob im ia ib : Nat) (tb : Nat → Option nq) (q : nq) (M : Nat → Option va_E) (r : Int32) (M1 : Nat → Option va_E) : Prop := gd_ok (nP q) r ∧ gd_fr va vb om oa ob im ia ib tb M M1 ∧ tb_ok cI M1 tb ∧ ∃ fv gv, ev_S cJ M1 v va vb om oa ob im ia ib fv gv
def gd_rm (N : Nat) : Room := { frames := 2 * N + 25, cells := 0, slots := 0, locals := 60 * N + 1400 }
def fg_rm (N : Nat) : Room := { frames := 2 * N + 24, cells := 0, slots := 0, locals := 60 * N + 1370 }
def gd_Met (l : Launch) (D : va_G) (cI cJ cZ cN : ClassId) (v va vb om oa ob im ia ib : Nat) (tb : Nat → Option nq) (N : Nat) : Prop :=
  ∀ a q, tb a = some q → nr q ≤ N → ∀ (M : Nat → Option va_E) (sz : Nat) (fv gv : Nat → Int64), tb_ok cI M tb → ev_S cJ M v va vb om oa ob im ia ib fv gv →
    Met l y_Nd_grid (.code y_Nd_grid b_Nd_grid 2 (some .int) :: ww) (gd_rm N) (hw_Pc D qcl (qty cI cJ cZ cN) [.ref a, .ref v] M sz) (va_Qi (gd_post cI cJ v va vb om oa ob im ia ib tb q M) (hw_B D qcl (qty cI cJ cZ cN) M sz) (hw_A M sz)) 0 0 (hw_A M sz)
def fg_y (k : nk) : MethodName := match k with
  | .inl _ => y_Nd_findGrid
  | .inr (.inl _) => y_Pr_findGrid
  | .inr (.inr (.inl _)) => y_Ng_findGrid
  | .inr (.inr (.inr _)) => y_Nd_findGrid
def fg_bc (k : nk) : ByteArray := match k with
  | .inl _ => b_Nd_findGrid
  | .inr (.inl _) => b_Pr_findGrid
  | .inr (.inr (.inl _)) => b_Ng_findGrid
  | .inr (.inr (.inr _)) => b_Nd_findGrid
def fg_ml (k : nk) : Nat := match k with
  | .inl _ => 8
  | .inr (.inl _) => 4
  | .inr (.inr (.inl _)) => 2
  | .inr (.inr (.inr _)) => 8
theorem fg_ml_le (k : nk) : fg_ml k ≤ 8 := by unfold fg_ml; split <;> decide
section G25
section
variable {p : Program} {l : Launch} {e : Env} {R : Room} {s : State} {m : MethodId} {args : Array Value} {below : List Frame} {meth : Method} {c : Code} {H : Heap} {locs : List Loc} {cells slots : Nat} {Q : State → Prop}
variable {cc : ByteArray} {pc : Nat} {ls : Array Slot} {rest : List Value} {D : va_G} {A : Nat → Prop} {tys : List (ClassId × FieldType)} {M : Nat → Option va_E} {H0 : Heap} {a : Nat}
theorem fg_run {k : nk} {nL index : Nat} {rm : Room} {Qc : Array Value → State → Outcome → State → Prop} {free : Addr → Prop} {own : String} {b v : Nat} {fs : List Value} {st0 : List Value}
    (hx : p.tables.exec = Jvm.exec) (hb : c.code = cc) (hml : c.maxLocals = nL) (hown : s.vm.findClass own = some m.cls) (hts : ∀ w ∈ ww, w.before args s = true) (hX : hw_X s) (hW : hw_W D qcl tys A M s H) (hl : ls.size = nL)
    (hM : Met l (fg_y k) (.code (fg_y k) (fg_bc k) (fg_ml k) (some .int) :: ww) rm (hw_Pc D qcl tys [.ref b, .ref v] M H.size) Qc 0 0 free)
    (hbM : M b = some (.inr (nk_ci k, fs)))
    (w1 : Cond.methodLink own index y_Nd_findGrid ∈ ww)
    (hrc : rm.cells = 0) (hrs : rm.slots = 0) (hR : rm.frames + 1 ≤ R.frames ∧ 8 + (8 + 11) + rm.locals ≤ R.locals) (hst : st0 = .ref v :: .ref b :: rest) (hrw : (rest.map fun v => v.category).sum ≤ 8)
    (hdg : decode cc pc = .ok (.invokevirtual index, 3)) (hf : cells ≤ R.cells ∧ slots ≤ R.slots) :
    va_Run p l e R s m args below meth c H locs cells slots 0 0 (F0 m pc ls st0) rest (Qc [Value.ref b, Value.ref v].toArray) free := by
  have hdecl : va_Decl s y_Nd_findGrid := va_Decl.of (hts _ tw_580) (hts _ tw_593)
  have hR2 : ∀ z, z ≤ 8 → rm.frames + 1 ≤ R.frames ∧ 8 + (z + 11) + rm.locals ≤ R.locals := fun z hz => ⟨hR.1, by omega⟩
  match k, hM, hbM with
  | .inl _, hM, hbM => exact hw_runU (n := 1) (C := "QuantifierOut$Atom") (As := [.ref v]) hx hb hml hown hts hX hW hl hM hbM rfl hdecl w1 tw_581 tw_582 tw_580 tw_11 tw_593 (by decide +kernel) hrc hrs (hR2 8 (by decide)) rfl hst hrw hdg hf
  | .inr (.inl _), hM, hbM => exact hw_runU (n := 1) (C := "QuantifierOut$Pair") (As := [.ref v]) hx hb hml hown hts hX hW hl hM hbM rfl hdecl w1 tw_581 tw_588 tw_589 tw_14 tw_590 (by decide +kernel) hrc hrs (hR2 4 (by decide)) rfl hst hrw hdg hf
  | .inr (.inr (.inl _)), hM, hbM => exact hw_runU (n := 1) (C := "QuantifierOut$Negation") (As := [.ref v]) hx hb hml hown hts hX hW hl hM hbM rfl hdecl w1 tw_581 tw_583 tw_584 tw_17 tw_585 (by decide +kernel) hrc hrs (hR2 2 (by decide)) rfl hst hrw hdg hf
  | .inr (.inr (.inr _)), hM, hbM => exact hw_runU (n := 1) (C := "QuantifierOut$Quantified") (As := [.ref v]) hx hb hml hown hts hX hW hl hM hbM rfl hdecl w1 tw_581 tw_592 tw_580 tw_11 tw_593 (by decide +kernel) hrc hrs (hR2 8 (by decide)) rfl hst hrw hdg hf
theorem nd_put3 (hexec : p.tables.exec = Jvm.exec) (hb : c.code = cc) {own : String} {index : Nat} (hts : ∀ w ∈ ww, w.before args s = true) (hown : s.vm.findClass own = some m.cls) (hW : hw_W D qcl tys A M s H) (hS : va_S A H0 H locs) {ci la : Nat} {fr dp gr v : Int32} {ex : List Value} (he : nd_c M a ci fr dp la gr ex) (hlink : Cond.fieldLink own index "QuantifierOut$Node" "grid" "I" ∈ ww) (hdg : decode cc pc = .ok (.putfield index, 3))
    (kk : ∀ (H1 : Heap) (locs1 : List Loc), hw_W D qcl tys A (va_up M a (some (.inr (ci, .int fr :: .int dp :: .ref la :: .int v :: ex)))) s H1 → va_S A H0 H1 locs1 → W p l e R s m args below meth c H1 locs1 cells slots Q (F0 m (pc + 3) ls rest)) : W p l e R s m args below meth c H locs cells slots Q (F0 m pc ls (.int v :: .ref a :: rest)) := by
  obtain ⟨hci, he⟩ := he
  have hlen : 3 < (Value.int fr :: .int dp :: .ref la :: .int gr :: ex).length := by show 3 < ex.length + 1 + 1 + 1 + 1; omega
  rcases hci with rfl | rfl | rfl | rfl
  · exact hw_put (ty := .int) (C := "QuantifierOut$Atom") (T := F_At) (N := 8) hexec hb hts i_At ft_At tk_At n_At hown hW hS he rfl 3 (by decide) (hts _ hlink) (fun _ h9 => h9) rfl (tk_At 3 (by decide)) rfl rfl hlen hdg kk
  · exact hw_put (ty := .int) (C := "QuantifierOut$Negation") (T := F_Ng) (N := 5) hexec hb hts i_Ng ft_Ng tk_Ng n_Ng hown hW hS he rfl 3 (by decide) (hts _ hlink) (fun _ h9 => h9) rfl (tk_Ng 3 (by decide)) rfl rfl hlen hdg kk
  · exact hw_put (ty := .int) (C := "QuantifierOut$Pair") (T := F_Pr) (N := 7) hexec hb hts i_Pr ft_Pr tk_Pr n_Pr hown hW hS he rfl 3 (by decide) (hts _ hlink) (fun _ h9 => h9) rfl (tk_Pr 3 (by decide)) rfl rfl hlen hdg kk
  · exact hw_put (ty := .int) (C := "QuantifierOut$Quantified") (T := F_Qf) (N := 7) hexec hb hts i_Qf ft_Qf tk_Qf n_Qf hown hW hS he rfl 3 (by decide) (hts _ hlink) (fun _ h9 => h9) rfl (tk_Qf 3 (by decide)) rfl rfl hlen hdg kk
end
variable (l : Launch) (D : va_G) (cI cJ cZ cN : ClassId) (v va vb om oa ob im ia ib : Nat) (tb : Nat → Option nq)
set_option maxHeartbeats 4000000 in
set_option maxRecDepth 100000 in
theorem c_Ng_findGrid (N : Nat) (ih : gd_Met l D cI cJ cZ cN v va vb om oa ob im ia ib tb N) (h0 : Nat) (q : nq) (hq : tb h0 = some q) (M : Nat → Option va_E) (sz : Nat) (fv gv : Nat → Int64) (hT : tb_ok cI M tb) (hE : ev_S cJ M v va vb om oa ob im ia ib fv gv) (hN : nr q ≤ N + 1) (a : Nat) (hK : nK q = .inr (.inr (.inl a))) : Met l y_Ng_findGrid (.code y_Ng_findGrid b_Ng_findGrid 2 (some .int) :: ww) (fg_rm (N + 1)) (hw_Pc D qcl (qty cI cJ cZ cN) [.ref h0, .ref v] M sz) (va_Qi (gd_post cI cJ v va vb om oa ob im ia ib tb q M) (hw_B D qcl (qty cI cJ cZ cN) M sz) (hw_A M sz)) 0 0 (hw_A M sz) := by
  obtain ⟨⟨la, gr, F, ⟨_, hc⟩, hla, hF, hg⟩, hok⟩ := hT h0 q hq
  have hk := hok.1
  unfold nk_ok at hk
  unfold nk_ex nk_ci at hc
  rw [hK] at hk hc
  dsimp only at hk hc
  obtain ⟨q1, h1, h2, h3, h4, h5⟩ := hk
  refine hw_met (by decide) (Nat.le_of_ble_eq_true rfl) ?_
  intro p e s m below meth c hx hb hr hml hown hlocks hnm hts hsz hX hW ls hl
  subst hsz
  have hA : ∀ q, s.heap.size ≤ q → hw_A M s.heap.size q := fun q h => Or.inr h
  have hS : va_S (hw_A M s.heap.size) s.heap s.heap [] := va_S.rf
  have hl : lv_has ls 2 [(0, .ref h0), (1, .ref v)] := hl
  have hown : s.vm.findClass "QuantifierOut$Negation" = some m.cls := hown
  refine lv_ldc (own := "QuantifierOut$Negation") (v := 33554431) hx hb hown (hts _ tw_586) d_Ng_findGrid_0 ?_
  refine lv_aload_n hx hb d_Ng_findGrid_2 rfl (lv_at hl 0 rfl) ?_
  refine hw_get (own := "QuantifierOut$Negation") (v := .ref a) hx hb hts i_Ng hown hW hc rfl 4 (by decide) (hts _ tw_368) (fun _ h9 => h9) rfl d_Ng_findGrid_3 ?_
  refine lv_aload_n hx hb d_Ng_findGrid_6 rfl (lv_at hl 1 rfl) ?_
  obtain ⟨⟨la_a, gr_a, F_a, hc_a, _⟩, _⟩ := hT a q1 h1
  refine hw_calli (nd_runF (n := 1) (own := "QuantifierOut$Negation") (As := [.ref v]) (rest := [.int 33554431]) hx hb hml hown hts hX hW hl.1 (ih a q1 h1 (by omega) M _ _ _ hT hE) hc_a tw_587 tw_573 tw_574 tw_575 tw_576 tw_577 tw_572 tw_11 tw_578 (by decide +kernel) rfl rfl ⟨by show 2 * N + 25 + 1 ≤ 2 * (N + 1) + 24; omega, by show 8 + (2 + 11) + (60 * N + 1400) ≤ 60 * (N + 1) + 1370; omega⟩ rfl rfl (Nat.le_of_ble_eq_true rfl) d_Ng_findGrid_7 ⟨Nat.le_refl 0, Nat.le_refl 0⟩) hW hS hA (fun r1 M1 H locs hp hz hW hS => ?_)
  obtain ⟨p1, p2, p3, p4⟩ := hp
  refine lv_iconst (v := (-1)) hx hb d_Ng_findGrid_10 (by decide) ?_
  refine lv_ixor hx hb d_Ng_findGrid_11 ?_
  refine lv_topi (fun x1 ex1 => ?_)
  refine lv_iand hx hb d_Ng_findGrid_12 ?_
  refine lv_topi (fun x2 ex2 => ?_)
  refine hw_reti hx hb hr hlocks hW hS ⟨?_, p2, p3, p4⟩ d_Ng_findGrid_13
  rw [ex2, ex1]
  exact gd_not p1 h5
set_option maxHeartbeats 4000000 in
set_option maxRecDepth 100000 in
theorem c_Pr_findGrid (N : Nat) (ih : gd_Met l D cI cJ cZ cN v va vb om oa ob im ia ib tb N) (h0 : Nat) (q : nq) (hq : tb h0 = some q) (M : Nat → Option va_E) (sz : Nat) (fv gv : Nat → Int64) (hT : tb_ok cI M tb) (hE : ev_S cJ M v va vb om oa ob im ia ib fv gv) (hN : nr q ≤ N + 1) (a b : Nat) (kk : Bool) (hK : nK q = .inr (.inl (a, b, kk))) : Met l y_Pr_findGrid (.code y_Pr_findGrid b_Pr_findGrid 4 (some .int) :: ww) (fg_rm (N + 1)) (hw_Pc D qcl (qty cI cJ cZ cN) [.ref h0, .ref v] M sz) (va_Qi (gd_post cI cJ v va vb om oa ob im ia ib tb q M) (hw_B D qcl (qty cI cJ cZ cN) M sz) (hw_A M sz)) 0 0 (hw_A M sz) := by
  obtain ⟨⟨la, gr, F, ⟨hci, hc⟩, hla, hF, hg⟩, hok⟩ := hT h0 q hq
  have hk := hok.1
  unfold nk_ok at hk
  unfold nk_ex nk_ci at hc
  rw [hK] at hk hc
  dsimp only at hk hc
  obtain ⟨q1, q2, h1, h2, h3, h4, h5, h6, h7⟩ := hk
  refine hw_met (by decide) (Nat.le_of_ble_eq_true rfl) ?_
  intro p e s m below meth c hx hb hr hml hown hlocks hnm hts hsz hX hW ls hl
  subst hsz
  have hA : ∀ q, s.heap.size ≤ q → hw_A M s.heap.size q := fun q h => Or.inr h
  have hS : va_S (hw_A M s.heap.size) s.heap s.heap [] := va_S.rf
  have hl : lv_has ls 4 [(0, .ref h0), (1, .ref v)] := hl
  have hown : s.vm.findClass "QuantifierOut$Pair" = some m.cls := hown
  refine lv_aload_n hx hb d_Pr_findGrid_0 rfl (lv_at hl 0 rfl) ?_
  refine hw_get (own := "QuantifierOut$Pair") (v := .ref a) hx hb hts i_Pr hown hW hc rfl 4 (by decide) (hts _ tw_324) (fun _ h9 => h9) rfl d_Pr_findGrid_1 ?_
  refine lv_aload_n hx hb d_Pr_findGrid_4 rfl (lv_at hl 1 rfl) ?_
  obtain ⟨⟨la_a, gr_a, F_a, hc_a, _⟩, _⟩ := hT a q1 h1
  refine hw_calli (nd_runF (n := 1) (own := "QuantifierOut$Pair") (As := [.ref v]) (rest := []) hx hb hml hown hts hX hW hl.1 (ih a q1 h1 (by omega) M _ _ _ hT hE) hc_a tw_591 tw_573 tw_574 tw_575 tw_576 tw_577 tw_572 tw_11 tw_578 (by decide +kernel) rfl rfl ⟨by show 2 * N + 25 + 1 ≤ 2 * (N + 1) + 24; omega, by show 8 + (2 + 11) + (60 * N + 1400) ≤ 60 * (N + 1) + 1370; omega⟩ rfl rfl (Nat.le_of_ble_eq_true rfl) d_Pr_findGrid_5 ⟨Nat.le_refl 0, Nat.le_refl 0⟩) hW hS hA (fun r1 M1 H locs hp hz hW hS => ?_)
  obtain ⟨p1, p2, p3, fv1, gv1, p4⟩ := hp
  obtain ⟨g1, hc1⟩ := p2.2 h0 q _ _ hq hc
  have hc1 : M1 h0 = some (.inr (4, [.int (nd_fr (nx q) (ny q)), .int (nI (nd q)), .ref la, .int g1, .ref a, .ref b, .int (if kk = true then 1 else 0)])) := hc1
  refine lv_istore_n (lv' := [(2, .int r1), (0, .ref h0), (1, .ref v)]) hx hb d_Pr_findGrid_8 rfl hl (by decide) rfl (fun ls hl => ?_)
  refine lv_aload_n hx hb d_Pr_findGrid_9 rfl (lv_at hl 1 rfl) ?_
  refine hw_get (own := "QuantifierOut$Pair") (v := .ref b) hx hb hts i_Pr hown hW hc1 rfl 5 (by decide) (hts _ tw_325) (fun _ h9 => h9) rfl d_Pr_findGrid_10 ?_
  refine lv_aload_n hx hb d_Pr_findGrid_13 rfl (lv_at hl 2 rfl) ?_
  obtain ⟨⟨la_b, gr_b, F_b, hc_b, _⟩, _⟩ := p3 b q2 h2
  refine hw_calli (nd_runF (n := 1) (own := "QuantifierOut$Pair") (As := [.ref v]) (rest := []) hx hb hml hown hts hX hW hl.1 (ih b q2 h2 (by omega) M1 _ _ _ p3 p4) hc_b tw_591 tw_573 tw_574 tw_575 tw_576 tw_577 tw_572 tw_11 tw_578 (by decide +kernel) rfl rfl ⟨by show 2 * N + 25 + 1 ≤ 2 * (N + 1) + 24; omega, by show 8 + (2 + 11) + (60 * N + 1400) ≤ 60 * (N + 1) + 1370; omega⟩ rfl rfl (Nat.le_of_ble_eq_true rfl) d_Pr_findGrid_14 ⟨Nat.le_refl 0, Nat.le_refl 0⟩) hW hS hA (fun r2 M2 H locs hp hz hW hS => ?_)
  obtain ⟨s1, s2, s3, s4⟩ := hp
  obtain ⟨g2, hc2⟩ := s2.2 h0 q _ _ hq hc1
  have hc2 : M2 h0 = some (.inr (4, [.int (nd_fr (nx q) (ny q)), .int (nI (nd q)), .ref la, .int g2, .ref a, .ref b, .int (if kk = true then 1 else 0)])) := hc2
  refine lv_istore_n (lv' := [(3, .int r2), (2, .int r1), (0, .ref h0), (1, .ref v)]) hx hb d_Pr_findGrid_17 rfl hl (by decide) rfl (fun ls hl => ?_)
  refine lv_aload_n hx hb d_Pr_findGrid_18 rfl (lv_at hl 2 rfl) ?_
  refine hw_get (own := "QuantifierOut$Pair") (v := .int (if kk = true then 1 else 0)) hx hb hts i_Pr hown hW hc2 rfl 6 (by decide) (hts _ tw_326) (fun _ h9 => h9) rfl d_Pr_findGrid_19 ?_
  refine lv_if_eq (tgt := 31) hx hb d_Pr_findGrid_22 (by decide) (fun c_22 => ?_) (fun c_22 => ?_)
  · skip
    have hkk : kk = false := by cases kk; rfl; exact absurd c_22 (by decide)
    have h7 : ∀ x y, nP q x y ↔ nP q1 x y ∨ nP q2 x y := fun x y => by rw [h7 x y, hkk, if_neg (by decide)]
    refine lv_iload_n hx hb d_Pr_findGrid_31 rfl (lv_at hl 1 rfl) ?_
    refine lv_iload_n hx hb d_Pr_findGrid_32 rfl (lv_at hl 0 rfl) ?_
    refine lv_ior hx hb d_Pr_findGrid_33 ?_
    refine lv_topi (fun x1 ex1 => ?_)
    refine hw_reti hx hb hr hlocks hW hS ⟨?_, gd_fr_tr p2 s2, s3, s4⟩ d_Pr_findGrid_34
    rw [ex1]
    exact gd_or p1 s1 h7
  · skip
    have hkk : kk = true := by cases kk; exact absurd rfl c_22; rfl
    have h7 : ∀ x y, nP q x y ↔ nP q1 x y ∧ nP q2 x y := fun x y => by rw [h7 x y, hkk, if_pos rfl]
    refine lv_iload_n hx hb d_Pr_findGrid_25 rfl (lv_at hl 1 rfl) ?_
    refine lv_iload_n hx hb d_Pr_findGrid_26 rfl (lv_at hl 0 rfl) ?_
    refine lv_iand hx hb d_Pr_findGrid_27 ?_
    refine lv_topi (fun x2 ex2 => ?_)
    refine lv_goto (tgt := 34) hx hb d_Pr_findGrid_28 (by decide) ?_
    refine hw_reti hx hb hr hlocks hW hS ⟨?_, gd_fr_tr p2 s2, s3, s4⟩ d_Pr_findGrid_34
    rw [ex2]
    exact gd_and p1 s1 h7
set_option maxHeartbeats 4000000 in
set_option maxRecDepth 100000 in
theorem c_Nd_findGrid (N : Nat) (h0 : Nat) (q : nq) (hq : tb h0 = some q) (M : Nat → Option va_E) (sz : Nat) (fv gv : Nat → Int64) (hT : tb_ok cI M tb) (hE : ev_S cJ M v va vb om oa ob im ia ib fv gv) (hD : ev_D va vb om oa ob im ia ib) : Met l y_Nd_findGrid (.code y_Nd_findGrid b_Nd_findGrid 8 (some .int) :: ww) (fg_rm N) (hw_Pc D qcl (qty cI cJ cZ cN) [.ref h0, .ref v] M sz) (va_Qi (gd_post cI cJ v va vb om oa ob im ia ib tb q M) (hw_B D qcl (qty cI cJ cZ cN) M sz) (hw_A M sz)) 0 0 (hw_A M sz) := by
  obtain ⟨⟨la0, gr0, F0_, hc, hla, hF, hg⟩, hok⟩ := hT h0 q hq
  obtain ⟨_, b1, b2, b3, b4, b5, b6, b7, b8⟩ := id hok
  have hrk : nr q ≤ 15 := by have : nk_neg (nK q) ≤ 1 := by { unfold nk_neg; split <;> omega }; omega
  refine hw_met (by decide) (Nat.le_of_ble_eq_true rfl) ?_
  intro p e s m below meth c hx hb hr hml hown hlocks hnm hts hsz hX hW ls hl
  subst hsz
  have hA : ∀ q, s.heap.size ≤ q → hw_A M s.heap.size q := fun q h => Or.inr h
  have hS : va_S (hw_A M s.heap.size) s.heap s.heap [] := va_S.rf
  have hl : lv_has ls 8 [(0, .ref h0), (1, .ref v)] := hl
  have hown : s.vm.findClass "QuantifierOut$Node" = some m.cls := hown
  obtain ⟨Q9, hQ9⟩ : ∃ X : State → Prop, X = MQ below (va_Qi (gd_post cI cJ v va vb om oa ob im ia ib tb q M) (hw_B D qcl (qty cI cJ cZ cN) M s.heap.size) (hw_A M s.heap.size)) [.ref h0, .ref v].toArray s 0 0 (hw_A M s.heap.size) := ⟨_, rfl⟩
  rw [← hQ9]
  refine lv_iconst (v := 0) hx hb d_Nd_findGrid_0 (by decide) ?_
  refine lv_istore_n (lv' := [(2, .int 0), (0, .ref h0), (1, .ref v)]) hx hb d_Nd_findGrid_1 rfl hl (by decide) rfl (fun ls hl => ?_)
  refine lv_iconst (v := 0) hx hb d_Nd_findGrid_2 (by decide) ?_
  refine lv_istore_n (lv' := [(3, .int 0), (2, .int 0), (0, .ref h0), (1, .ref v)]) hx hb d_Nd_findGrid_3 rfl hl (by decide) rfl (fun ls hl => ?_)
  have loop : ∀ (z pl : Nat), pl + z = 25 → ∀ (H : Heap) (locs : List Loc) (M2 : Nat → Option va_E) (f2 g2 : Nat → Int64) (fo : Int32) (ls : Array Slot), hw_W D qcl (qty cI cJ cZ cN) (hw_A M s.heap.size) M2 s H → va_S (hw_A M s.heap.size) s.heap H locs → (∀ x, x ≠ va → x ≠ vb → x ≠ om → x ≠ oa → x ≠ ob → x ≠ im → x ≠ ia → x ≠ ib → M2 x = M x) → ev_S cJ M2 v va vb om oa ob im ia ib f2 g2 → gp_ok (nP q) pl fo → lv_has ls 8 [(3, .int (nI pl)), (2, .int fo), (0, .ref h0), (1, .ref v)] → W p l e (fg_rm N) s m [.ref h0, .ref v].toArray below meth c H locs 0 0 Q9 (F0 m 4 ls []) := by
    intro z
    induction z with
    | zero =>
      intro pl hz H locs M2 f2 g2 fo ls hW hS hfr hE2 hgp hl
      have hpl : pl = 25 := by omega
      subst hpl
      refine lv_iload_n hx hb d_Nd_findGrid_4 rfl (lv_at hl 0 rfl) ?_
      refine lv_bipush (v := 25) hx hb d_Nd_findGrid_5 (by decide) ?_
      refine lv_icmp_ge (tgt := 117) hx hb d_Nd_findGrid_7 (by decide) (fun c_7 => ?_) (fun c_7 => ?_)
      · skip
        refine lv_iload_n hx hb d_Nd_findGrid_117 rfl (lv_at hl 1 rfl) ?_
        rw [hQ9]
        obtain ⟨k1, k2⟩ := gd_fr_of hT hE hfr
        exact hw_reti hx hb hr hlocks hW hS ⟨hgp, k1, k2, f2, g2, hE2⟩ d_Nd_findGrid_118
      · skip
        exact absurd (nI_le (Nat.le_refl 25) (by omega)) c_7
    | succ z ihz =>
      intro pl hz H locs M2 f2 g2 fo ls hW hS hfr hE2 hgp hl
      refine lv_iload_n hx hb d_Nd_findGrid_4 rfl (lv_at hl 0 rfl) ?_
      refine lv_bipush (v := 25) hx hb d_Nd_findGrid_5 (by decide) ?_
      refine lv_icmp_ge (tgt := 117) hx hb d_Nd_findGrid_7 (by decide) (fun c_7 => ?_) (fun c_7 => ?_)
      · skip
        exact absurd c_7 (nI_ge (b := 25) (by omega) (by omega))
      · skip
        obtain ⟨hgf, hT2⟩ := gd_fr_of hT hE hfr
        obtain ⟨⟨la2, gr2, F2, hc2, hla2, _⟩, _⟩ := hT2 h0 q hq
        have again : ∀ (H : Heap) (locs : List Loc) (M2 : Nat → Option va_E) (f2 g2 : Nat → Int64) (fo : Int32) (ls : Array Slot), hw_W D qcl (qty cI cJ cZ cN) (hw_A M s.heap.size) M2 s H → va_S (hw_A M s.heap.size) s.heap H locs → (∀ x, x ≠ va → x ≠ vb → x ≠ om → x ≠ oa → x ≠ ob → x ≠ im → x ≠ ia → x ≠ ib → M2 x = M x) → ev_S cJ M2 v va vb om oa ob im ia ib f2 g2 → gp_ok (nP q) (pl + 1) fo → lv_has ls 8 [(3, .int (nI pl)), (2, .int fo), (0, .ref h0), (1, .ref v)] → W p l e (fg_rm N) s m [.ref h0, .ref v].toArray below meth c H locs 0 0 Q9 (F0 m 111 ls []) := by
          intro H locs M2 f2 g2 fo ls hW hS hfr hE2 hgp hl
          obtain ⟨k9, ek9⟩ : ∃ y9 : Int32, y9 = (nI pl) + Int32.ofInt (1) := ⟨_, rfl⟩
          refine lv_iinc (v := k9) (lv' := [(3, .int k9), (2, .int fo), (0, .ref h0), (1, .ref v)]) hx hb d_Nd_findGrid_111 hl (k := 0) rfl ek9.symm (by decide) rfl (fun ls hl => ?_)
          have ek : k9 = nI (pl + 1) := by rw [ek9]; exact nI_add pl 1
          subst ek
          refine lv_goto (tgt := 4) hx hb d_Nd_findGrid_114 (by decide) ?_
          exact ihz (pl + 1) (by omega) H locs M2 f2 g2 fo ls hW hS hfr hE2 hgp (lv_sub hl [0, 1, 2, 3] rfl)
        have have100 : ∀ (H : Heap) (locs : List Loc) (M2 : Nat → Option va_E) (f2 g2 : Nat → Int64) (tr : Int32) (ls : Array Slot), hw_W D qcl (qty cI cJ cZ cN) (hw_A M s.heap.size) M2 s H → va_S (hw_A M s.heap.size) s.heap H locs → (∀ x, x ≠ va → x ≠ vb → x ≠ om → x ≠ oa → x ≠ ob → x ≠ im → x ≠ ia → x ≠ ib → M2 x = M x) → ev_S cJ M2 v va vb om oa ob im ia ib f2 g2 → it_b tr (gP (nP q) pl) → lv_has ls 8 [(7, .int tr), (3, .int (nI pl)), (2, .int fo), (0, .ref h0), (1, .ref v)] → W p l e (fg_rm N) s m [.ref h0, .ref v].toArray below meth c H locs 0 0 Q9 (F0 m 100 ls []) := by
          intro H locs M2 f2 g2 tr ls hW hS hfr hE2 htr hl
          refine lv_iload hx hb d_Nd_findGrid_100 (lv_at hl 0 rfl) ?_
          refine lv_if_eq (tgt := 111) hx hb d_Nd_findGrid_102 (by decide) (fun c_102 => ?_) (fun c_102 => ?_)
          · skip
            exact again H locs M2 f2 g2 fo ls hW hS hfr hE2 (gp_no hgp (by omega) (it_b0 htr c_102)) (lv_sub hl [1, 2, 3, 4] rfl)
          · skip
            refine lv_iload_n hx hb d_Nd_findGrid_105 rfl (lv_at hl 2 rfl) ?_
            refine lv_iconst (v := 1) hx hb d_Nd_findGrid_106 (by decide) ?_
            refine lv_iload_n hx hb d_Nd_findGrid_107 rfl (lv_at hl 1 rfl) ?_
            refine lv_ishl hx hb d_Nd_findGrid_108 ?_
            refine lv_topi (fun x1 ex1 => ?_)
            refine lv_ior hx hb d_Nd_findGrid_109 ?_
            refine lv_topi (fun x2 ex2 => ?_)
            refine lv_istore_n (lv' := [(2, .int x2), (7, .int tr), (3, .int (nI pl)), (0, .ref h0), (1, .ref v)]) hx hb d_Nd_findGrid_110 rfl hl (by decide) rfl (fun ls hl => ?_)
            exact again H locs M2 f2 g2 x2 ls hW hS hfr hE2 (by rw [ex2, ex1]; exact gp_yes hgp (by omega) (it_b1 htr c_102)) (lv_sub hl [2, 0, 3, 4] rfl)
        obtain ⟨tx, htx⟩ : ∃ t : Nat, t = if nx q = true then pl / 5 else 0 := ⟨_, rfl⟩
        obtain ⟨ty, hty⟩ : ∃ t : Nat, t = if ny q = true then pl % 5 else 0 := ⟨_, rfl⟩
        have htx4 : tx ≤ pl / 5 := by rw [htx]; split <;> omega
        have hty4 : ty ≤ pl % 5 := by rw [hty]; split <;> omega
        have have50 : ∀ (H : Heap) (locs : List Loc) (ls : Array Slot), hw_W D qcl (qty cI cJ cZ cN) (hw_A M s.heap.size) M2 s H → va_S (hw_A M s.heap.size) s.heap H locs → lv_has ls 8 [(5, .int (nI (pl % 5))), (4, .int (nI (pl / 5))), (3, .int (nI pl)), (2, .int fo), (0, .ref h0), (1, .ref v)] → W p l e (fg_rm N) s m [.ref h0, .ref v].toArray below meth c H locs 0 0 Q9 (F0 m 50 ls [.int (nI ty), .int (nI (tx * 5))]) := by
          intro H locs ls hW hS hl
          refine lv_iadd hx hb d_Nd_findGrid_50 ?_
          refine lv_topi (fun x3 ex3 => ?_)
          have etw : x3 = nI (tx * 5 + ty) := by rw [ex3]; exact nI_add _ _
          rw [etw]
          refine lv_istore (lv' := [(6, .int (nI (tx * 5 + ty))), (5, .int (nI (pl % 5))), (4, .int (nI (pl / 5))), (3, .int (nI pl)), (2, .int fo), (0, .ref h0), (1, .ref v)]) hx hb d_Nd_findGrid_51 hl (by decide) rfl (fun ls hl => ?_)
          refine lv_iload hx hb d_Nd_findGrid_53 (lv_at hl 0 rfl) ?_
          refine lv_iload_n hx hb d_Nd_findGrid_55 rfl (lv_at hl 3 rfl) ?_
          refine lv_icmp_ge (tgt := 79) hx hb d_Nd_findGrid_56 (by decide) (fun c_56 => ?_) (fun c_56 => ?_)
          · skip
            refine lv_aload_n hx hb d_Nd_findGrid_79 rfl (lv_at hl 6 rfl) ?_
            refine lv_iload hx hb d_Nd_findGrid_80 (lv_at hl 2 rfl) ?_
            refine lv_bipush (v := (-2)) hx hb d_Nd_findGrid_82 (by decide) ?_
            refine lv_iadd hx hb d_Nd_findGrid_84 ?_
            refine lv_topi (fun x4 ex4 => ?_)
            refine lv_iload hx hb d_Nd_findGrid_85 (lv_at hl 1 rfl) ?_
            refine lv_bipush (v := (-2)) hx hb d_Nd_findGrid_87 (by decide) ?_
            refine lv_iadd hx hb d_Nd_findGrid_89 ?_
            refine lv_topi (fun x5 ex5 => ?_)
            refine hw_callv (hw_runV (n := 2) (own := "QuantifierOut$Node") (As := [.int x4, .int x5]) (rest := []) hx hb hml hown hts hX hW hl.1 (c_Vs_putWhole l D cI cJ cZ cN v va vb om im _ f2 g2 x4 x5 M2 hE2.1 hD.1) hE2.1.1 rfl tw_595 tw_444 tw_445 tw_2 tw_446 (by decide +kernel) rfl rfl ⟨by show 1 + 1 ≤ 2 * N + 24; omega, by show 8 + (3 + 11) + 30 ≤ 60 * N + 1370; omega⟩ rfl rfl (Nat.le_of_ble_eq_true rfl) d_Nd_findGrid_90 ⟨Nat.le_refl 0, Nat.le_refl 0⟩) hW hS hA (fun M3 H locs hp hz hW hS => ?_)
            obtain ⟨f3, hf3⟩ : ∃ X, X = vp_updL (vp_updL f2 0 x4.toInt64) 1 x5.toInt64 := ⟨_, rfl⟩
            obtain ⟨g3, hg3⟩ : ∃ X, X = vp_updL (vp_updL g2 0 1) 1 1 := ⟨_, rfl⟩
            rw [← hf3, ← hg3] at hp
            have fr3 : ∀ r9, r9 ≠ va → r9 ≠ vb → M3 r9 = M2 r9 := fun r9 z2 z3 => by rw [hp, va_up_ne _ _ z3, va_up_ne _ _ z2]
            obtain ⟨hV, ⟨n8, f8, g8, hmo⟩, ⟨n9, f9, g9, hmi⟩⟩ := id hE2
            obtain ⟨d1, d2, d3, d4, d5, d6, d7, d8, d9, d10, d11, d12, d13, d14, d15, d16⟩ := id hD
            have hE3 : ev_S cJ M3 v va vb om oa ob im ia ib f3 g3 := ⟨⟨(fr3 v (hw_ne hV.1 hV.2.1 (by simp)) (hw_ne hV.1 hV.2.2 (by simp))).trans hV.1, by rw [hp, va_up_ne _ _ d1, va_up_self], by rw [hp, va_up_self]⟩, ⟨n8, f8, g8, (fr3 om (hw_ne hmo.1 hV.2.1 (by simp)) (hw_ne hmo.1 hV.2.2 (by simp))).trans hmo.1, (fr3 oa (Ne.symm d2) (Ne.symm d6)).trans hmo.2.1, (fr3 ob (Ne.symm d3) (Ne.symm d7)).trans hmo.2.2⟩, ⟨n9, f9, g9, (fr3 im (hw_ne hmi.1 hV.2.1 (by simp)) (hw_ne hmi.1 hV.2.2 (by simp))).trans hmi.1, (fr3 ia (Ne.symm d4) (Ne.symm d8)).trans hmi.2.1, (fr3 ib (Ne.symm d5) (Ne.symm d9)).trans hmi.2.2⟩⟩
            have hfr3 : (∀ x, x ≠ va → x ≠ vb → x ≠ om → x ≠ oa → x ≠ ob → x ≠ im → x ≠ ia → x ≠ ib → M3 x = M x) := fun x z1 z2 z3 z4 z5 z6 z7 z8 => (fr3 x z1 z2).trans (hfr x z1 z2 z3 z4 z5 z6 z7 z8)
            have hT3 := (gd_fr_of hT hE hfr3).2
            have hX3 : x4.toInt = ((pl / 5 : Nat) : Int) - 2 := by rw [ex4, nm_iadd (by rw [nI_toInt (by omega)]; have : (-2 : Int32).toInt = -2 := rfl; omega), nI_toInt (by omega)]; rfl
            have hY3 : x5.toInt = ((pl % 5 : Nat) : Int) - 2 := by rw [ex5, nm_iadd (by rw [nI_toInt (by omega)]; have : (-2 : Int32).toInt = -2 := rfl; omega), nI_toInt (by omega)]; rfl
            have c0 : f3 0 = x4.toInt64 := by rw [hf3]; rfl
            have c1 : f3 1 = x5.toInt64 := by rw [hf3]; rfl
            have c2 : g3 0 = 1 := by rw [hg3]; rfl
            have c3 : g3 1 = 1 := by rw [hg3]; rfl
            have h1l : (1 : Int64).toInt = 1 := rfl
            have hb3 : vx_b f3 g3 (nd q) := by
              intro i hi
              have hv2 := VB_mono b3
              have hv3 : VB 2 = 60 := rfl
              rcases (show i = 0 ∨ i = 1 by omega) with z9 | z9 <;> subst z9
              · rw [c0, c2, nm_i2l, h1l, hX3]; exact ⟨by omega, by omega, by omega⟩
              · rw [c1, c3, nm_i2l, h1l, hY3]; exact ⟨by omega, by omega, by omega⟩
            refine lv_aload_n hx hb d_Nd_findGrid_93 rfl (lv_at hl 5 rfl) ?_
            refine lv_aload_n hx hb d_Nd_findGrid_94 rfl (lv_at hl 6 rfl) ?_
            obtain ⟨⟨la3, gr3, F3, hc3, _⟩, _⟩ := hT3 h0 q hq
            refine hw_calli (it_run 1 rfl (own := "QuantifierOut$Node") (rest := []) hx hb hml hown hts hX hW hl.1 (it_all l D cI cJ cZ cN v va vb om oa ob im ia ib tb hD 15 h0 q hq hrk M3 _ f3 g3 hT3 hE3 hb3) hc3.2 tw_596 rfl rfl ⟨by show 15 + 5 + 1 ≤ 2 * N + 24; omega, by show 8 + (9 + 11) + (60 * 15 + 260) ≤ 60 * N + 1370; omega⟩ rfl (Nat.le_of_ble_eq_true rfl) d_Nd_findGrid_95 ⟨Nat.le_refl 0, Nat.le_refl 0⟩) hW hS hA (fun tr M4 H locs hp4 hz hW hS => ?_)
            obtain ⟨q1, q2, q3⟩ := hp4
            have hvX : vX f3 g3 = ((((pl / 5 : Nat) : Int) - 2 : Int) : Rat) := by unfold vX; rw [c0, c2, nm_i2l, h1l, hX3, qm_fr_int]
            have hvY : vY f3 g3 = ((((pl % 5 : Nat) : Int) - 2 : Int) : Rat) := by unfold vY; rw [c1, c3, nm_i2l, h1l, hY3, qm_fr_int]
            rw [hvX, hvY] at q1
            refine lv_istore (lv' := [(7, .int tr), (6, .int (nI (tx * 5 + ty))), (5, .int (nI (pl % 5))), (4, .int (nI (pl / 5))), (3, .int (nI pl)), (2, .int fo), (0, .ref h0), (1, .ref v)]) hx hb d_Nd_findGrid_98 hl (by decide) rfl (fun ls hl => ?_)
            have hfr4 : (∀ x, x ≠ va → x ≠ vb → x ≠ om → x ≠ oa → x ≠ ob → x ≠ im → x ≠ ia → x ≠ ib → M4 x = M x) := fun x z1 z2 z3 z4 z5 z6 z7 z8 => (q2 x (Or.inr ⟨z6, z7, z8⟩) (Or.inr ⟨z3, z4, z5⟩)).trans (hfr3 x z1 z2 z3 z4 z5 z6 z7 z8)
            exact have100 H locs M4 f3 g3 tr ls hW hS hfr4 q3 q1 (lv_sub hl [0, 4, 5, 6, 7] rfl)
          · skip
            have htw : tx * 5 + ty < pl := by
              rcases Nat.lt_or_ge (tx * 5 + ty) pl with z9 | z9
              · exact z9
              · exact absurd ((nI_leI (by omega) (by omega)).mpr z9) c_56
            have hgt : gP (nP q) (tx * 5 + ty) ↔ gP (nP q) pl := by
              unfold gP
              have z1 : (tx * 5 + ty) / 5 = tx := by omega
              have z2 : (tx * 5 + ty) % 5 = ty := by omega
              rw [z1, z2]
              have z3 : ∀ y9, nP q ((((tx : Nat) : Int) - 2 : Int) : Rat) y9 ↔ nP q ((((pl / 5 : Nat) : Int) - 2 : Int) : Rat) y9 := fun y9 => by
                cases hnx : nx q
                · exact b7 hnx _ _ _
                · rw [htx, hnx, if_pos rfl]
              have z4 : ∀ x9, nP q x9 ((((ty : Nat) : Int) - 2 : Int) : Rat) ↔ nP q x9 ((((pl % 5 : Nat) : Int) - 2 : Int) : Rat) := fun x9 => by
                cases hny : ny q
                · exact b8 hny _ _ _
                · rw [hty, hny, if_pos rfl]
              exact (z3 _).trans (z4 _)
            have hbt := hgp.1 (tx * 5 + ty) htw
            refine lv_iload_n hx hb d_Nd_findGrid_59 rfl (lv_at hl 4 rfl) ?_
            refine lv_iload hx hb d_Nd_findGrid_60 (lv_at hl 0 rfl) ?_
            refine lv_ishr hx hb d_Nd_findGrid_62 ?_
            refine lv_topi (fun x6 ex6 => ?_)
            refine lv_iconst (v := 1) hx hb d_Nd_findGrid_63 (by decide) ?_
            refine lv_iand hx hb d_Nd_findGrid_64 ?_
            refine lv_topi (fun x7 ex7 => ?_)
            refine lv_iconst (v := 1) hx hb d_Nd_findGrid_65 (by decide) ?_
            have ebit : x7 = if bt fo (tx * 5 + ty) = true then 1 else 0 := by rw [ex7, ex6]; exact bt_rd fo _ (by omega)
            refine lv_icmp_ne (tgt := 73) hx hb d_Nd_findGrid_66 (by decide) (fun c_66 => ?_) (fun c_66 => ?_)
            · skip
              refine lv_iconst (v := 0) hx hb d_Nd_findGrid_73 (by decide) ?_
              refine lv_istore (lv' := [(7, .int 0), (6, .int (nI (tx * 5 + ty))), (5, .int (nI (pl % 5))), (4, .int (nI (pl / 5))), (3, .int (nI pl)), (2, .int fo), (0, .ref h0), (1, .ref v)]) hx hb d_Nd_findGrid_74 hl (by decide) rfl (fun ls hl => ?_)
              refine lv_goto (tgt := 100) hx hb d_Nd_findGrid_76 (by decide) ?_
              have hbf : ¬ bt fo (tx * 5 + ty) = true := fun z9 => c_66 (by rw [ebit, if_pos z9])
              exact have100 H locs M2 f2 g2 0 ls hW hS hfr hE2 (Or.inr ⟨rfl, fun z9 => hbf (hbt.mpr (hgt.mpr z9))⟩) (lv_sub hl [0, 4, 5, 6, 7] rfl)
            · skip
              refine lv_iconst (v := 1) hx hb d_Nd_findGrid_69 (by decide) ?_
              refine lv_goto (tgt := 74) hx hb d_Nd_findGrid_70 (by decide) ?_
              refine lv_istore (lv' := [(7, .int 1), (6, .int (nI (tx * 5 + ty))), (5, .int (nI (pl % 5))), (4, .int (nI (pl / 5))), (3, .int (nI pl)), (2, .int fo), (0, .ref h0), (1, .ref v)]) hx hb d_Nd_findGrid_74 hl (by decide) rfl (fun ls hl => ?_)
              refine lv_goto (tgt := 100) hx hb d_Nd_findGrid_76 (by decide) ?_
              have hbf : bt fo (tx * 5 + ty) = true := by cases hz9 : bt fo (tx * 5 + ty); rw [hz9, if_neg (by decide)] at ebit; rw [ebit] at c_66; exact absurd c_66 (by decide); rfl
              exact have100 H locs M2 f2 g2 1 ls hW hS hfr hE2 (Or.inl ⟨rfl, hgt.mp (hbt.mp hbf)⟩) (lv_sub hl [0, 4, 5, 6, 7] rfl)
        have have34 : ∀ (H : Heap) (locs : List Loc) (ls : Array Slot), hw_W D qcl (qty cI cJ cZ cN) (hw_A M s.heap.size) M2 s H → va_S (hw_A M s.heap.size) s.heap H locs → lv_has ls 8 [(5, .int (nI (pl % 5))), (4, .int (nI (pl / 5))), (3, .int (nI pl)), (2, .int fo), (0, .ref h0), (1, .ref v)] → W p l e (fg_rm N) s m [.ref h0, .ref v].toArray below meth c H locs 0 0 Q9 (F0 m 34 ls [.int (nI tx)]) := by
          intro H locs ls hW hS hl
          refine lv_iconst (v := 5) hx hb d_Nd_findGrid_34 (by decide) ?_
          refine lv_imul hx hb d_Nd_findGrid_35 ?_
          refine lv_topi (fun x8 ex8 => ?_)
          have et5 : x8 = nI (tx * 5) := by rw [ex8]; exact pk_mul tx 5
          rw [et5]
          refine lv_aload_n hx hb d_Nd_findGrid_36 rfl (lv_at hl 4 rfl) ?_
          refine lv_iconst (v := 1) hx hb d_Nd_findGrid_37 (by decide) ?_
          refine hw_calli (nd_runF (n := 1) (own := "QuantifierOut$Node") (As := [.int 1]) (rest := [.int (nI (tx * 5))]) hx hb hml hown hts hX hW hl.1 (c_Nd_isFree l D cI cJ cZ cN h0 (nk_ci (nK q)) la2 1 _ (nx q) (ny q) (nI (nd q)) gr2 (nk_ex q) M2 hc2 (by omega)) hc2 tw_594 tw_425 tw_426 tw_427 tw_428 tw_429 tw_424 tw_11 tw_430 (by decide +kernel) rfl rfl ⟨by show 0 + 1 ≤ 2 * N + 24; omega, by show 8 + (2 + 11) + 0 ≤ 60 * N + 1370; omega⟩ rfl rfl (Nat.le_of_ble_eq_true rfl) d_Nd_findGrid_38 ⟨Nat.le_refl 0, Nat.le_refl 0⟩) hW hS hA (fun ry Mfry H locs hpf hz hW hS => ?_)
          obtain ⟨ery, eMf⟩ := hpf
          rw [eMf] at hW
          have ery : ry = if ny q = true then 1 else 0 := ery
          refine lv_if_eq (tgt := 49) hx hb d_Nd_findGrid_41 (by decide) (fun c_41 => ?_) (fun c_41 => ?_)
          · skip
            refine lv_iconst (v := 0) hx hb d_Nd_findGrid_49 (by decide) ?_
            have hny : ny q = false := by cases hz9 : ny q; rfl; rw [hz9] at ery; rw [c_41] at ery; exact absurd ery (by decide)
            have : ty = 0 := by rw [hty, hny]; rfl
            subst this
            exact have50 H locs ls hW hS hl
          · skip
            refine lv_iload hx hb d_Nd_findGrid_44 (lv_at hl 0 rfl) ?_
            refine lv_goto (tgt := 50) hx hb d_Nd_findGrid_46 (by decide) ?_
            have hny : ny q = true := by cases hz9 : ny q; rw [hz9] at ery; exact absurd ery c_41; rfl
            have : ty = pl % 5 := by rw [hty, hny, if_pos rfl]
            rw [← this]
            exact have50 H locs ls hW hS hl
        refine lv_iload_n hx hb d_Nd_findGrid_10 rfl (lv_at hl 0 rfl) ?_
        refine lv_iconst (v := 5) hx hb d_Nd_findGrid_11 (by decide) ?_
        refine lv_idiv hx hb d_Nd_findGrid_12 (by decide) ?_
        refine lv_topi (fun xd exd => ?_)
        have exd2 : xd = nI (pl / 5) := by rw [exd]; exact pk_div (a := pl) (d := 5) (by omega) (by omega) (by omega)
        rw [exd2]
        refine lv_istore (lv' := [(4, .int (nI (pl / 5))), (3, .int (nI pl)), (2, .int fo), (0, .ref h0), (1, .ref v)]) hx hb d_Nd_findGrid_13 hl (by decide) rfl (fun ls hl => ?_)
        refine lv_iload_n hx hb d_Nd_findGrid_15 rfl (lv_at hl 1 rfl) ?_
        refine lv_iconst (v := 5) hx hb d_Nd_findGrid_16 (by decide) ?_
        refine lv_irem hx hb d_Nd_findGrid_17 (by decide) ?_
        refine lv_topi (fun yd eyd => ?_)
        have eyd2 : yd = nI (pl % 5) := by rw [eyd]; exact pk_rem (a := pl) (d := 5) (by omega) (by omega) (by omega)
        rw [eyd2]
        refine lv_istore (lv' := [(5, .int (nI (pl % 5))), (4, .int (nI (pl / 5))), (3, .int (nI pl)), (2, .int fo), (0, .ref h0), (1, .ref v)]) hx hb d_Nd_findGrid_18 hl (by decide) rfl (fun ls hl => ?_)
        refine lv_aload_n hx hb d_Nd_findGrid_20 rfl (lv_at hl 4 rfl) ?_
        refine lv_iconst (v := 0) hx hb d_Nd_findGrid_21 (by decide) ?_
        refine hw_calli (nd_runF (n := 1) (own := "QuantifierOut$Node") (As := [.int 0]) (rest := []) hx hb hml hown hts hX hW hl.1 (c_Nd_isFree l D cI cJ cZ cN h0 (nk_ci (nK q)) la2 0 _ (nx q) (ny q) (nI (nd q)) gr2 (nk_ex q) M2 hc2 (by omega)) hc2 tw_594 tw_425 tw_426 tw_427 tw_428 tw_429 tw_424 tw_11 tw_430 (by decide +kernel) rfl rfl ⟨by show 0 + 1 ≤ 2 * N + 24; omega, by show 8 + (2 + 11) + 0 ≤ 60 * N + 1370; omega⟩ rfl rfl (Nat.le_of_ble_eq_true rfl) d_Nd_findGrid_22 ⟨Nat.le_refl 0, Nat.le_refl 0⟩) hW hS hA (fun rx Mfrx H locs hpf hz hW hS => ?_)
        obtain ⟨erx, eMf⟩ := hpf
        rw [eMf] at hW
        rw [if_pos rfl] at erx
        refine lv_if_eq (tgt := 33) hx hb d_Nd_findGrid_25 (by decide) (fun c_25 => ?_) (fun c_25 => ?_)
        · skip
          refine lv_iconst (v := 0) hx hb d_Nd_findGrid_33 (by decide) ?_
          have hnx : nx q = false := by cases hz9 : nx q; rfl; rw [hz9] at erx; rw [c_25] at erx; exact absurd erx (by decide)
          have : tx = 0 := by rw [htx, hnx]; rfl
          subst this
          exact have34 H locs ls hW hS hl
        · skip
          refine lv_iload hx hb d_Nd_findGrid_28 (lv_at hl 1 rfl) ?_
          refine lv_goto (tgt := 34) hx hb d_Nd_findGrid_30 (by decide) ?_
          have hnx : nx q = true := by cases hz9 : nx q; rw [hz9] at erx; exact absurd erx c_25; rfl
          have : tx = pl / 5 := by rw [htx, hnx, if_pos rfl]
          rw [← this]
          exact have34 H locs ls hW hS hl
  exact loop 25 0 rfl s.heap [] M fv gv 0 ls hW hS (fun _ _ _ _ _ _ _ _ _ => rfl) hE (gp_0 _) (lv_sub hl [0, 1, 2, 3] rfl)
theorem fg_all (N : Nat) (ih : ∀ N', N' < N → gd_Met l D cI cJ cZ cN v va vb om oa ob im ia ib tb N') (hD : ev_D va vb om oa ob im ia ib) (a : Nat) (q : nq) (hq : tb a = some q) (hN : nr q ≤ N) (M : Nat → Option va_E) (sz : Nat) (fv gv : Nat → Int64) (hT : tb_ok cI M tb) (hE : ev_S cJ M v va vb om oa ob im ia ib fv gv) :
    Met l (fg_y (nK q)) (.code (fg_y (nK q)) (fg_bc (nK q)) (fg_ml (nK q)) (some .int) :: ww) (fg_rm N) (hw_Pc D qcl (qty cI cJ cZ cN) [.ref a, .ref v] M sz) (va_Qi (gd_post cI cJ v va vb om oa ob im ia ib tb q M) (hw_B D qcl (qty cI cJ cZ cN) M sz) (hw_A M sz)) 0 0 (hw_A M sz) := by
  have hk := (hT a q hq).2.1
  unfold nk_ok at hk
  rcases hK : nK q with op | ⟨a1, b1, k1⟩ | a1 | ⟨j1, a1, k1⟩
  · exact c_Nd_findGrid l D cI cJ cZ cN v va vb om oa ob im ia ib tb N a q hq M sz fv gv hT hE hD
  · rw [hK] at hk
    obtain ⟨q1, q2, h1, h2, h3, h4, _⟩ := hk
    obtain ⟨N', rfl⟩ : ∃ N', N = N' + 1 := ⟨N - 1, by omega⟩
    exact c_Pr_findGrid l D cI cJ cZ cN v va vb om oa ob im ia ib tb N' (ih N' (by omega)) a q hq M sz fv gv hT hE hN a1 b1 k1 hK
  · rw [hK] at hk
    obtain ⟨q1, h1, h2, _⟩ := hk
    obtain ⟨N', rfl⟩ : ∃ N', N = N' + 1 := ⟨N - 1, by omega⟩
    exact c_Ng_findGrid l D cI cJ cZ cN v va vb om oa ob im ia ib tb N' (ih N' (by omega)) a q hq M sz fv gv hT hE hN a1 hK
  · exact c_Nd_findGrid l D cI cJ cZ cN v va vb om oa ob im ia ib tb N a q hq M sz fv gv hT hE hD
set_option maxHeartbeats 4000000 in
set_option maxRecDepth 100000 in
theorem c_Nd_grid (N : Nat) (ih : ∀ N', N' < N → gd_Met l D cI cJ cZ cN v va vb om oa ob im ia ib tb N') (hD : ev_D va vb om oa ob im ia ib) (h0 : Nat) (q : nq) (hq : tb h0 = some q) (M : Nat → Option va_E) (sz : Nat) (fv gv : Nat → Int64) (hT : tb_ok cI M tb) (hE : ev_S cJ M v va vb om oa ob im ia ib fv gv) (hN : nr q ≤ N) : Met l y_Nd_grid (.code y_Nd_grid b_Nd_grid 2 (some .int) :: ww) (gd_rm N) (hw_Pc D qcl (qty cI cJ cZ cN) [.ref h0, .ref v] M sz) (va_Qi (gd_post cI cJ v va vb om oa ob im ia ib tb q M) (hw_B D qcl (qty cI cJ cZ cN) M sz) (hw_A M sz)) 0 0 (hw_A M sz) := by
  obtain ⟨⟨la, gr, F, hc, hla, hF, hg⟩, hok⟩ := id (hT h0 q hq)
  refine hw_met (by decide) (Nat.le_of_ble_eq_true rfl) ?_
  intro p e s m below meth c hx hb hr hml hown hlocks hnm hts hsz hX hW ls hl
  subst hsz
  have hA : ∀ q, s.heap.size ≤ q → hw_A M s.heap.size q := fun q h => Or.inr h
  have hS : va_S (hw_A M s.heap.size) s.heap s.heap [] := va_S.rf
  have hl : lv_has ls 2 [(0, .ref h0), (1, .ref v)] := hl
  have hown : s.vm.findClass "QuantifierOut$Node" = some m.cls := hown
  refine lv_aload_n hx hb d_Nd_grid_0 rfl (lv_at hl 0 rfl) ?_
  refine nd_get3 (own := "QuantifierOut$Node") hx hb hts hown hW hc tw_246 d_Nd_grid_1 ?_
  refine lv_iconst (v := (-1)) hx hb d_Nd_grid_4 (by decide) ?_
  refine lv_icmp_ne (tgt := 17) hx hb d_Nd_grid_5 (by decide) (fun c_5 => ?_) (fun c_5 => ?_)
  · skip
    refine lv_aload_n hx hb d_Nd_grid_17 rfl (lv_at hl 0 rfl) ?_
    refine nd_get3 (own := "QuantifierOut$Node") hx hb hts hown hW hc tw_246 d_Nd_grid_18 ?_
    exact hw_reti hx hb hr hlocks hW hS ⟨hg.resolve_left c_5, (gd_fr_of hT hE (fun _ _ _ _ _ _ _ _ _ => rfl)).1, hT, fv, gv, hE⟩ d_Nd_grid_21
  · skip
    refine lv_aload_n hx hb d_Nd_grid_8 rfl (lv_at hl 0 rfl) ?_
    refine lv_aload_n hx hb d_Nd_grid_9 rfl (lv_at hl 0 rfl) ?_
    refine lv_aload_n hx hb d_Nd_grid_10 rfl (lv_at hl 1 rfl) ?_
    refine hw_calli (fg_run (k := nK q) (own := "QuantifierOut$Node") (rest := [.ref h0]) hx hb hml hown hts hX hW hl.1 (fg_all l D cI cJ cZ cN v va vb om oa ob im ia ib tb N ih hD h0 q hq hN M _ fv gv hT hE) hc.2 tw_579 rfl rfl ⟨by show 2 * N + 24 + 1 ≤ 2 * N + 25; omega, by show 8 + (8 + 11) + (60 * N + 1370) ≤ 60 * N + 1400; omega⟩ rfl (Nat.le_of_ble_eq_true rfl) d_Nd_grid_11 ⟨Nat.le_refl 0, Nat.le_refl 0⟩) hW hS hA (fun r1 M1 H locs hp hz hW hS => ?_)
    obtain ⟨p1, p2, p3, fv1, gv1, p4⟩ := hp
    obtain ⟨g1, hc1⟩ := p2.2 h0 q _ _ hq hc.2
    have hc1 : nd_c M1 h0 (nk_ci (nK q)) (nd_fr (nx q) (ny q)) (nI (nd q)) la g1 (nk_ex q) := ⟨hc.1, hc1⟩
    refine nd_put3 (own := "QuantifierOut$Node") hx hb hts hown hW hS hc1 tw_246 d_Nd_grid_14 (fun H locs hW hS => ?_)
    generalize hM2 : va_up M1 h0 (some (.inr (nk_ci (nK q), .int (nd_fr (nx q) (ny q)) :: .int (nI (nd q)) :: .ref la :: .int r1 :: nk_ex q))) = M2 at hW
    have hc2 : nd_c M2 h0 (nk_ci (nK q)) (nd_fr (nx q) (ny q)) (nI (nd q)) la r1 (nk_ex q) := ⟨hc.1, by rw [← hM2]; exact va_up_self _ _ _⟩
    have hn2 : ∀ x, x ≠ h0 → M2 x = M1 x := fun x z1 => by rw [← hM2]; exact va_up_ne _ _ z1
    refine lv_aload_n hx hb d_Nd_grid_17 rfl (lv_at hl 0 rfl) ?_
    refine nd_get3 (own := "QuantifierOut$Node") hx hb hts hown hW hc2 tw_246 d_Nd_grid_18 ?_
    refine hw_reti hx hb hr hlocks hW hS ⟨p1, ⟨?_, ?_⟩, ?_, fv1, gv1, ?_⟩ d_Nd_grid_21
    · intro x z0 z1 z2 z3 z4 z5 z6 z7 z8
      rw [hn2 x (fun z9 => by rw [z9, hq] at z0; cases z0)]; exact p2.1 x z0 z1 z2 z3 z4 z5 z6 z7 z8
    · intro x q9 ci fs hx9 hm9
      by_cases z9 : x = h0
      · subst z9
        rw [hc.2] at hm9
        have e5 := Option.some.inj hm9
        simp only [Sum.inr.injEq, Prod.mk.injEq] at e5
        obtain ⟨e6, e7⟩ := e5
        exact ⟨r1, by rw [← e6, ← e7]; exact hc2.2⟩
      · rw [hn2 x z9]; exact p2.2 x q9 ci fs hx9 hm9
    · intro x q9 hx9
      obtain ⟨⟨la9, gr9, F9, k1, k2, k3, k4⟩, k5⟩ := p3 x q9 hx9
      have hl9 : la9 ≠ h0 := hw_ne k2 hc1.2 (by simp)
      by_cases z9 : x = h0
      · subst z9
        have : q9 = q := Option.some.inj (hx9.symm.trans hq)
        subst this
        have e5 := Option.some.inj (k1.2.symm.trans hc1.2)
        simp only [Sum.inr.injEq, Prod.mk.injEq, List.cons.injEq, Value.ref.injEq] at e5
        obtain ⟨_, _, _, e6, _⟩ := e5
        subst e6
        exact ⟨⟨la9, r1, F9, hc2, (hn2 la9 hl9).trans k2, k3, Or.inr p1⟩, k5⟩
      · exact ⟨⟨la9, gr9, F9, ⟨k1.1, (hn2 x z9).trans k1.2⟩, (hn2 la9 hl9).trans k2, k3, k4⟩, k5⟩
    · obtain ⟨⟨j1, j2, j3⟩, ⟨n1, f1, g1, m1, m2, m3⟩, ⟨n2, f2, g2, o1, o2, o3⟩⟩ := p4
      have hci : ∀ x9 y9 z9, M1 x9 = some (.inr (y9, z9)) → (y9 = 2 ∨ y9 = 7) → x9 ≠ h0 := fun x9 y9 z9 w1 w2 w3 => by subst w3; have := Option.some.inj (w1.symm.trans hc1.2); simp only [Sum.inr.injEq, Prod.mk.injEq] at this; have := hc1.1; omega
      exact ⟨⟨(hn2 v (hci _ _ _ j1 (by omega))).trans j1, (hn2 va (hw_ne j2 hc1.2 (by simp))).trans j2, (hn2 vb (hw_ne j3 hc1.2 (by simp))).trans j3⟩, ⟨n1, f1, g1, (hn2 om (hci _ _ _ m1 (by omega))).trans m1, (hn2 oa (hw_ne m2 hc1.2 (by simp))).trans m2, (hn2 ob (hw_ne m3 hc1.2 (by simp))).trans m3⟩, ⟨n2, f2, g2, (hn2 im (hci _ _ _ o1 (by omega))).trans o1, (hn2 ia (hw_ne o2 hc1.2 (by simp))).trans o2, (hn2 ib (hw_ne o3 hc1.2 (by simp))).trans o3⟩⟩
theorem gd_all (hD : ev_D va vb om oa ob im ia ib) (N : Nat) : gd_Met l D cI cJ cZ cN v va vb om oa ob im ia ib tb N := by
  have h : ∀ n N', N' < n → gd_Met l D cI cJ cZ cN v va vb om oa ob im ia ib tb N' := by
    intro n
    induction n with
    | zero => intro N' h; omega
    | succ n ih =>
      intro N' hN'
      intro a q hq hr M sz fv gv hT hE
      exact c_Nd_grid l D cI cJ cZ cN v va vb om oa ob im ia ib tb N' (fun N2 h2 => ih N2 (by omega)) hD a q hq M sz fv gv hT hE hr
  exact h (N + 1) N (by omega)
end G25
end
section
/-! Constructors of the class's own objects -/
theorem hw_nq {M : Nat → Option va_E} {a b : Nat} {x : va_E} (ha : M a = some x) (hb : M b = none) : a ≠ b := fun e => by rw [e, hb] at ha; cases ha
theorem va_up_none {M : Nat → Option va_E} {a x : Nat} {e : va_E} (h : va_up M a (some e) x = none) : M x = none := by
  by_cases z : x = a
  · rw [z, va_up_self] at h; cases h
  · rwa [va_up_ne _ _ z] at h
section G26
variable (l : Launch) (D : va_G) (cI cJ cZ cN : ClassId)
set_option maxHeartbeats 4000000 in
set_option maxRecDepth 100000 in
theorem c_Mk_init (h0 sz : Nat) (M : Nat → Option va_E) (hM : M h0 = some (.inr (2, [.null, .null, .int 0]))) : Met l y_Mk_init (.code y_Mk_init b_Mk_init 1 none :: ww) ({ frames := 1, cells := 2, slots := 42, locals := 30 }) (hw_Pc D qcl (qty cI cJ cZ cN) [.ref h0] M sz) (va_Qv (fun M1 => ∃ ma mb : Nat, M ma = none ∧ M mb = none ∧ ma ≠ mb ∧ mk_S cJ M1 h0 ma mb 0 (fun _ => 0) (fun _ => 0) ∧ ∀ x, x ≠ h0 → x ≠ ma → x ≠ mb → M1 x = M x) (hw_B D qcl (qty cI cJ cZ cN) M sz) (hw_A M sz)) 2 42 (hw_A M sz) := by
  refine hw_met (by decide) (Nat.le_of_ble_eq_true rfl) ?_
  intro p e s m below meth c hx hb hr hml hown hlocks hnm hts hsz hX hW ls hl
  subst hsz
  have hA : ∀ q, s.heap.size ≤ q → hw_A M s.heap.size q := fun q h => Or.inr h
  have hS : va_S (hw_A M s.heap.size) s.heap s.heap [] := va_S.rf
  have hl : lv_has ls 1 [(0, .ref h0)] := hl
  have hown : s.vm.findClass "QuantifierOut$Marks" = some m.cls := hown
  have hmono : ∀ x9, M x9 = none → M x9 = none := fun _ z9 => z9
  refine lv_aload_n hx hb d_Mk_init_0 rfl (lv_at hl 0 rfl) ?_
  refine W.objInit hx hb hown (hts _ tw_40) (hts _ tw_25) (hts _ tw_26) rfl (by rw [hml]; exact hl.1) rfl d_Mk_init_1 (Nat.le_of_ble_eq_true rfl) (Nat.le_of_ble_eq_true rfl) ?_
  refine W.eq (g2 := F0 m 4 ls []) rfl ?_
  refine lv_aload_n hx hb d_Mk_init_4 rfl (lv_at hl 0 rfl) ?_
  refine lv_bipush (v := 21) hx hb d_Mk_init_5 (by decide) ?_
  refine hw_newl (N' := 21) hx hb (hts _ tw_51) hW hS hA 1 rfl (by decide) (by decide) (by decide) (Nat.le_of_ble_eq_true rfl) (Nat.le_of_ble_eq_true rfl) d_Mk_init_7 (fun q1 H hq_q1 hW hS => ?_)
  have hW : hw_W D qcl (qty cI cJ cZ cN) _ (va_up M q1 (some (.inl (cJ, 21, .inr (.inl (fun _ => 0)))))) s H := hW
  have n_h0_q1 : h0 ≠ q1 := hw_nq hM hq_q1
  generalize hMw2 : va_up M q1 (some (.inl (cJ, 21, .inr (.inl (fun _ => 0))))) = Mw2 at hW
  have hM : Mw2 h0 = some (.inr (2, [.null, .null, .int 0])) := by rw [← hMw2, va_up_ne _ _ n_h0_q1]; exact hM
  have hy_q1 : Mw2 q1 = some (.inl (cJ, 21, .inr (.inl (fun _ => 0)))) := by rw [← hMw2]; exact va_up_self _ _ _
  have z_q1 : M q1 = none := hmono q1 hq_q1
  have hmono : ∀ x9, Mw2 x9 = none → M x9 = none := fun x9 z9 => hmono x9 (va_up_none (by rw [hMw2]; exact z9))
  have hfr_Mw2 : ∀ x9, x9 ≠ q1 → Mw2 x9 = M x9 := fun x9 z9 => by rw [← hMw2, va_up_ne _ _ z9]
  refine hw_putF (own := "QuantifierOut$Marks") (v := .ref q1) (ty := .array .long) hx hb hts i_Mk ft_Mk tk_Mk n_Mk hown hW hS hM rfl 0 (by decide) (hts _ tw_41) (fun _ h9 => h9) rfl hnm rfl (tk_Mk 0 (by decide)) rfl rfl (Nat.le_of_ble_eq_true rfl) d_Mk_init_9 (fun H locs hW hS => ?_)
  have hW : hw_W D qcl (qty cI cJ cZ cN) _ (va_up Mw2 h0 (some (.inr (2, [.ref q1, .null, .int 0])))) s H := hW
  generalize hMw3 : va_up Mw2 h0 (some (.inr (2, [.ref q1, .null, .int 0]))) = Mw3 at hW
  have hy_q1 : Mw3 q1 = some (.inl (cJ, 21, .inr (.inl (fun _ => 0)))) := by rw [← hMw3, va_up_ne _ _ (Ne.symm n_h0_q1)]; exact hy_q1
  have hM : Mw3 h0 = some (.inr (2, [.ref q1, .null, .int 0])) := by rw [← hMw3]; exact va_up_self _ _ _
  have hmono : ∀ x9, Mw3 x9 = none → M x9 = none := fun x9 z9 => hmono x9 (va_up_none (by rw [hMw3]; exact z9))
  have hfr_Mw3 : ∀ x9, x9 ≠ h0 → Mw3 x9 = Mw2 x9 := fun x9 z9 => by rw [← hMw3, va_up_ne _ _ z9]
  refine lv_aload_n hx hb d_Mk_init_12 rfl (lv_at hl 0 rfl) ?_
  refine lv_bipush (v := 21) hx hb d_Mk_init_13 (by decide) ?_
  refine hw_newl (N' := 21) hx hb (hts _ tw_51) hW hS hA 1 rfl (by decide) (by decide) (by decide) (Nat.le_of_ble_eq_true rfl) (Nat.le_of_ble_eq_true rfl) d_Mk_init_15 (fun q4 H hq_q4 hW hS => ?_)
  have hW : hw_W D qcl (qty cI cJ cZ cN) _ (va_up Mw3 q4 (some (.inl (cJ, 21, .inr (.inl (fun _ => 0)))))) s H := hW
  have n_q1_q4 : q1 ≠ q4 := hw_nq hy_q1 hq_q4
  have n_h0_q4 : h0 ≠ q4 := hw_nq hM hq_q4
  generalize hMw5 : va_up Mw3 q4 (some (.inl (cJ, 21, .inr (.inl (fun _ => 0))))) = Mw5 at hW
  have hy_q1 : Mw5 q1 = some (.inl (cJ, 21, .inr (.inl (fun _ => 0)))) := by rw [← hMw5, va_up_ne _ _ n_q1_q4]; exact hy_q1
  have hM : Mw5 h0 = some (.inr (2, [.ref q1, .null, .int 0])) := by rw [← hMw5, va_up_ne _ _ n_h0_q4]; exact hM
  have hy_q4 : Mw5 q4 = some (.inl (cJ, 21, .inr (.inl (fun _ => 0)))) := by rw [← hMw5]; exact va_up_self _ _ _
  have z_q4 : M q4 = none := hmono q4 hq_q4
  have hmono : ∀ x9, Mw5 x9 = none → M x9 = none := fun x9 z9 => hmono x9 (va_up_none (by rw [hMw5]; exact z9))
  have hfr_Mw5 : ∀ x9, x9 ≠ q4 → Mw5 x9 = Mw3 x9 := fun x9 z9 => by rw [← hMw5, va_up_ne _ _ z9]
  refine hw_putF (own := "QuantifierOut$Marks") (v := .ref q4) (ty := .array .long) hx hb hts i_Mk ft_Mk tk_Mk n_Mk hown hW hS hM rfl 1 (by decide) (hts _ tw_42) (fun _ h9 => h9) rfl hnm rfl (tk_Mk 1 (by decide)) rfl rfl (Nat.le_of_ble_eq_true rfl) d_Mk_init_17 (fun H locs hW hS => ?_)
  have hW : hw_W D qcl (qty cI cJ cZ cN) _ (va_up Mw5 h0 (some (.inr (2, [.ref q1, .ref q4, .int 0])))) s H := hW
  generalize hMw6 : va_up Mw5 h0 (some (.inr (2, [.ref q1, .ref q4, .int 0]))) = Mw6 at hW
  have hy_q1 : Mw6 q1 = some (.inl (cJ, 21, .inr (.inl (fun _ => 0)))) := by rw [← hMw6, va_up_ne _ _ (Ne.symm n_h0_q1)]; exact hy_q1
  have hy_q4 : Mw6 q4 = some (.inl (cJ, 21, .inr (.inl (fun _ => 0)))) := by rw [← hMw6, va_up_ne _ _ (Ne.symm n_h0_q4)]; exact hy_q4
  have hM : Mw6 h0 = some (.inr (2, [.ref q1, .ref q4, .int 0])) := by rw [← hMw6]; exact va_up_self _ _ _
  have hmono : ∀ x9, Mw6 x9 = none → M x9 = none := fun x9 z9 => hmono x9 (va_up_none (by rw [hMw6]; exact z9))
  have hfr_Mw6 : ∀ x9, x9 ≠ h0 → Mw6 x9 = Mw5 x9 := fun x9 z9 => by rw [← hMw6, va_up_ne _ _ z9]
  refine lv_aload_n hx hb d_Mk_init_20 rfl (lv_at hl 0 rfl) ?_
  refine lv_iconst (v := 0) hx hb d_Mk_init_21 (by decide) ?_
  refine hw_put (own := "QuantifierOut$Marks") (v := .int 0) (ty := .int) hx hb hts i_Mk ft_Mk tk_Mk n_Mk hown hW hS hM rfl 2 (by decide) (hts _ tw_43) (fun _ h9 => h9) rfl (tk_Mk 2 (by decide)) rfl rfl (Nat.le_of_ble_eq_true rfl) d_Mk_init_22 (fun H locs hW hS => ?_)
  have hW : hw_W D qcl (qty cI cJ cZ cN) _ (va_up Mw6 h0 (some (.inr (2, [.ref q1, .ref q4, .int 0])))) s H := hW
  generalize hMw7 : va_up Mw6 h0 (some (.inr (2, [.ref q1, .ref q4, .int 0]))) = Mw7 at hW
  have hy_q1 : Mw7 q1 = some (.inl (cJ, 21, .inr (.inl (fun _ => 0)))) := by rw [← hMw7, va_up_ne _ _ (Ne.symm n_h0_q1)]; exact hy_q1
  have hy_q4 : Mw7 q4 = some (.inl (cJ, 21, .inr (.inl (fun _ => 0)))) := by rw [← hMw7, va_up_ne _ _ (Ne.symm n_h0_q4)]; exact hy_q4
  have hM : Mw7 h0 = some (.inr (2, [.ref q1, .ref q4, .int 0])) := by rw [← hMw7]; exact va_up_self _ _ _
  have hmono : ∀ x9, Mw7 x9 = none → M x9 = none := fun x9 z9 => hmono x9 (va_up_none (by rw [hMw7]; exact z9))
  have hfr_Mw7 : ∀ x9, x9 ≠ h0 → Mw7 x9 = Mw6 x9 := fun x9 z9 => by rw [← hMw7, va_up_ne _ _ z9]
  refine hw_retv hx hb hr hlocks hW hS ⟨q1, q4, z_q1, z_q4, n_q1_q4, ⟨hM, hy_q1, hy_q4⟩, fun x z1 z2 z3 => ?_⟩ d_Mk_init_25
  exact (((((hfr_Mw7 x z1)).trans (hfr_Mw6 x z1)).trans (hfr_Mw5 x z3)).trans (hfr_Mw3 x z1)).trans (hfr_Mw2 x z2)
set_option maxHeartbeats 4000000 in
set_option maxRecDepth 100000 in
theorem c_Vs_init (h0 sz : Nat) (M : Nat → Option va_E) (hM : M h0 = some (.inr (7, [.null, .null, .null, .null]))) : Met l y_Vs_init (.code y_Vs_init b_Vs_init 1 none :: ww) ({ frames := 2, cells := 8, slots := 94, locals := 60 }) (hw_Pc D qcl (qty cI cJ cZ cN) [.ref h0] M sz) (va_Qv (fun M1 => ∃ va vb om oa ob im ia ib : Nat, (M va = none ∧ M vb = none ∧ M om = none ∧ M oa = none ∧ M ob = none ∧ M im = none ∧ M ia = none ∧ M ib = none) ∧ ev_D va vb om oa ob im ia ib ∧ ev_S cJ M1 h0 va vb om oa ob im ia ib (fun _ => 0) (fun i => if i < 2 then 1 else 0) ∧ ∀ x, x ≠ h0 → x ≠ va → x ≠ vb → x ≠ om → x ≠ oa → x ≠ ob → x ≠ im → x ≠ ia → x ≠ ib → M1 x = M x) (hw_B D qcl (qty cI cJ cZ cN) M sz) (hw_A M sz)) 8 94 (hw_A M sz) := by
  refine hw_met (by decide) (Nat.le_of_ble_eq_true rfl) ?_
  intro p e s m below meth c hx hb hr hml hown hlocks hnm hts hsz hX hW ls hl
  subst hsz
  have hA : ∀ q, s.heap.size ≤ q → hw_A M s.heap.size q := fun q h => Or.inr h
  have hS : va_S (hw_A M s.heap.size) s.heap s.heap [] := va_S.rf
  have hl : lv_has ls 1 [(0, .ref h0)] := hl
  have hown : s.vm.findClass "QuantifierOut$Values" = some m.cls := hown
  have hmono : ∀ x9, M x9 = none → M x9 = none := fun _ z9 => z9
  refine lv_aload_n hx hb d_Vs_init_0 rfl (lv_at hl 0 rfl) ?_
  refine W.objInit hx hb hown (hts _ tw_34) (hts _ tw_25) (hts _ tw_26) rfl (by rw [hml]; exact hl.1) rfl d_Vs_init_1 (Nat.le_of_ble_eq_true rfl) (Nat.le_of_ble_eq_true rfl) ?_
  refine W.eq (g2 := F0 m 4 ls []) rfl ?_
  refine lv_aload_n hx hb d_Vs_init_4 rfl (lv_at hl 0 rfl) ?_
  refine lv_iconst (v := 2) hx hb d_Vs_init_5 (by decide) ?_
  refine hw_newl (N' := 2) hx hb (hts _ tw_51) hW hS hA 1 rfl (by decide) (by decide) (by decide) (Nat.le_of_ble_eq_true rfl) (Nat.le_of_ble_eq_true rfl) d_Vs_init_6 (fun va H hq_va hW hS => ?_)
  have hW : hw_W D qcl (qty cI cJ cZ cN) _ (va_up M va (some (.inl (cJ, 2, .inr (.inl (fun _ => 0)))))) s H := hW
  have n_h0_va : h0 ≠ va := hw_nq hM hq_va
  generalize hMw1 : va_up M va (some (.inl (cJ, 2, .inr (.inl (fun _ => 0))))) = Mw1 at hW
  have hM : Mw1 h0 = some (.inr (7, [.null, .null, .null, .null])) := by rw [← hMw1, va_up_ne _ _ n_h0_va]; exact hM
  have hy_va : Mw1 va = some (.inl (cJ, 2, .inr (.inl (fun _ => 0)))) := by rw [← hMw1]; exact va_up_self _ _ _
  have z_va : M va = none := hmono va hq_va
  have hmono : ∀ x9, Mw1 x9 = none → M x9 = none := fun x9 z9 => hmono x9 (va_up_none (by rw [hMw1]; exact z9))
  have hfr_Mw1 : ∀ x9, x9 ≠ va → Mw1 x9 = M x9 := fun x9 z9 => by rw [← hMw1, va_up_ne _ _ z9]
  refine lv_dup hx hb d_Vs_init_8 rfl ?_
  refine lv_iconst (v := 0) hx hb d_Vs_init_9 (by decide) ?_
  refine lv_lconst (v := 0) hx hb d_Vs_init_10 (by decide) ?_
  refine hw_lst hx hb hW hS 1 hy_va rfl 0 rfl (by omega) (by decide) d_Vs_init_11 (fun H locs hW hS => ?_)
  have hW : hw_W D qcl (qty cI cJ cZ cN) _ (va_up Mw1 va (some (.inl (cJ, 2, .inr (.inl (vp_updL (fun _ => 0) 0 0)))))) s H := hW
  generalize hMw2 : va_up Mw1 va (some (.inl (cJ, 2, .inr (.inl (vp_updL (fun _ => 0) 0 0))))) = Mw2 at hW
  have hM : Mw2 h0 = some (.inr (7, [.null, .null, .null, .null])) := by rw [← hMw2, va_up_ne _ _ n_h0_va]; exact hM
  have hy_va : Mw2 va = some (.inl (cJ, 2, .inr (.inl (vp_updL (fun _ => 0) 0 0)))) := by rw [← hMw2]; exact va_up_self _ _ _
  have hmono : ∀ x9, Mw2 x9 = none → M x9 = none := fun x9 z9 => hmono x9 (va_up_none (by rw [hMw2]; exact z9))
  have hfr_Mw2 : ∀ x9, x9 ≠ va → Mw2 x9 = Mw1 x9 := fun x9 z9 => by rw [← hMw2, va_up_ne _ _ z9]
  refine lv_dup hx hb d_Vs_init_12 rfl ?_
  refine lv_iconst (v := 1) hx hb d_Vs_init_13 (by decide) ?_
  refine lv_lconst (v := 0) hx hb d_Vs_init_14 (by decide) ?_
  refine hw_lst hx hb hW hS 1 hy_va rfl 1 rfl (by omega) (by decide) d_Vs_init_15 (fun H locs hW hS => ?_)
  have hW : hw_W D qcl (qty cI cJ cZ cN) _ (va_up Mw2 va (some (.inl (cJ, 2, .inr (.inl (vp_updL (vp_updL (fun _ => 0) 0 0) 1 0)))))) s H := hW
  generalize hMw3 : va_up Mw2 va (some (.inl (cJ, 2, .inr (.inl (vp_updL (vp_updL (fun _ => 0) 0 0) 1 0))))) = Mw3 at hW
  have hM : Mw3 h0 = some (.inr (7, [.null, .null, .null, .null])) := by rw [← hMw3, va_up_ne _ _ n_h0_va]; exact hM
  have hy_va : Mw3 va = some (.inl (cJ, 2, .inr (.inl (vp_updL (vp_updL (fun _ => 0) 0 0) 1 0)))) := by rw [← hMw3]; exact va_up_self _ _ _
  have hmono : ∀ x9, Mw3 x9 = none → M x9 = none := fun x9 z9 => hmono x9 (va_up_none (by rw [hMw3]; exact z9))
  have hfr_Mw3 : ∀ x9, x9 ≠ va → Mw3 x9 = Mw2 x9 := fun x9 z9 => by rw [← hMw3, va_up_ne _ _ z9]
  refine hw_putF (own := "QuantifierOut$Values") (v := .ref va) (ty := .array .long) hx hb hts i_Vs ft_Vs tk_Vs n_Vs hown hW hS hM rfl 0 (by decide) (hts _ tw_52) (fun _ h9 => h9) rfl hnm rfl (tk_Vs 0 (by decide)) rfl rfl (Nat.le_of_ble_eq_true rfl) d_Vs_init_16 (fun H locs hW hS => ?_)
  have hW : hw_W D qcl (qty cI cJ cZ cN) _ (va_up Mw3 h0 (some (.inr (7, [.ref va, .null, .null, .null])))) s H := hW
  generalize hMw4 : va_up Mw3 h0 (some (.inr (7, [.ref va, .null, .null, .null]))) = Mw4 at hW
  have hy_va : Mw4 va = some (.inl (cJ, 2, .inr (.inl (vp_updL (vp_updL (fun _ => 0) 0 0) 1 0)))) := by rw [← hMw4, va_up_ne _ _ (Ne.symm n_h0_va)]; exact hy_va
  have hM : Mw4 h0 = some (.inr (7, [.ref va, .null, .null, .null])) := by rw [← hMw4]; exact va_up_self _ _ _
  have hmono : ∀ x9, Mw4 x9 = none → M x9 = none := fun x9 z9 => hmono x9 (va_up_none (by rw [hMw4]; exact z9))
  have hfr_Mw4 : ∀ x9, x9 ≠ h0 → Mw4 x9 = Mw3 x9 := fun x9 z9 => by rw [← hMw4, va_up_ne _ _ z9]
  refine lv_aload_n hx hb d_Vs_init_19 rfl (lv_at hl 0 rfl) ?_
  refine lv_iconst (v := 2) hx hb d_Vs_init_20 (by decide) ?_
  refine hw_newl (N' := 2) hx hb (hts _ tw_51) hW hS hA 1 rfl (by decide) (by decide) (by decide) (Nat.le_of_ble_eq_true rfl) (Nat.le_of_ble_eq_true rfl) d_Vs_init_21 (fun vb H hq_vb hW hS => ?_)
  have hW : hw_W D qcl (qty cI cJ cZ cN) _ (va_up Mw4 vb (some (.inl (cJ, 2, .inr (.inl (fun _ => 0)))))) s H := hW
  have n_va_vb : va ≠ vb := hw_nq hy_va hq_vb
  have n_h0_vb : h0 ≠ vb := hw_nq hM hq_vb
  generalize hMw5 : va_up Mw4 vb (some (.inl (cJ, 2, .inr (.inl (fun _ => 0))))) = Mw5 at hW
  have hy_va : Mw5 va = some (.inl (cJ, 2, .inr (.inl (vp_updL (vp_updL (fun _ => 0) 0 0) 1 0)))) := by rw [← hMw5, va_up_ne _ _ n_va_vb]; exact hy_va
  have hM : Mw5 h0 = some (.inr (7, [.ref va, .null, .null, .null])) := by rw [← hMw5, va_up_ne _ _ n_h0_vb]; exact hM
  have hy_vb : Mw5 vb = some (.inl (cJ, 2, .inr (.inl (fun _ => 0)))) := by rw [← hMw5]; exact va_up_self _ _ _
  have z_vb : M vb = none := hmono vb hq_vb
  have hmono : ∀ x9, Mw5 x9 = none → M x9 = none := fun x9 z9 => hmono x9 (va_up_none (by rw [hMw5]; exact z9))
  have hfr_Mw5 : ∀ x9, x9 ≠ vb → Mw5 x9 = Mw4 x9 := fun x9 z9 => by rw [← hMw5, va_up_ne _ _ z9]
  refine lv_dup hx hb d_Vs_init_23 rfl ?_
  refine lv_iconst (v := 0) hx hb d_Vs_init_24 (by decide) ?_
  refine lv_lconst (v := 1) hx hb d_Vs_init_25 (by decide) ?_
  refine hw_lst hx hb hW hS 1 hy_vb rfl 0 rfl (by omega) (by decide) d_Vs_init_26 (fun H locs hW hS => ?_)
  have hW : hw_W D qcl (qty cI cJ cZ cN) _ (va_up Mw5 vb (some (.inl (cJ, 2, .inr (.inl (vp_updL (fun _ => 0) 0 1)))))) s H := hW
  generalize hMw6 : va_up Mw5 vb (some (.inl (cJ, 2, .inr (.inl (vp_updL (fun _ => 0) 0 1))))) = Mw6 at hW
  have hy_va : Mw6 va = some (.inl (cJ, 2, .inr (.inl (vp_updL (vp_updL (fun _ => 0) 0 0) 1 0)))) := by rw [← hMw6, va_up_ne _ _ n_va_vb]; exact hy_va
  have hM : Mw6 h0 = some (.inr (7, [.ref va, .null, .null, .null])) := by rw [← hMw6, va_up_ne _ _ n_h0_vb]; exact hM
  have hy_vb : Mw6 vb = some (.inl (cJ, 2, .inr (.inl (vp_updL (fun _ => 0) 0 1)))) := by rw [← hMw6]; exact va_up_self _ _ _
  have hmono : ∀ x9, Mw6 x9 = none → M x9 = none := fun x9 z9 => hmono x9 (va_up_none (by rw [hMw6]; exact z9))
  have hfr_Mw6 : ∀ x9, x9 ≠ vb → Mw6 x9 = Mw5 x9 := fun x9 z9 => by rw [← hMw6, va_up_ne _ _ z9]
  refine lv_dup hx hb d_Vs_init_27 rfl ?_
  refine lv_iconst (v := 1) hx hb d_Vs_init_28 (by decide) ?_
  refine lv_lconst (v := 1) hx hb d_Vs_init_29 (by decide) ?_
  refine hw_lst hx hb hW hS 1 hy_vb rfl 1 rfl (by omega) (by decide) d_Vs_init_30 (fun H locs hW hS => ?_)
  have hW : hw_W D qcl (qty cI cJ cZ cN) _ (va_up Mw6 vb (some (.inl (cJ, 2, .inr (.inl (vp_updL (vp_updL (fun _ => 0) 0 1) 1 1)))))) s H := hW
  generalize hMw7 : va_up Mw6 vb (some (.inl (cJ, 2, .inr (.inl (vp_updL (vp_updL (fun _ => 0) 0 1) 1 1))))) = Mw7 at hW
  have hy_va : Mw7 va = some (.inl (cJ, 2, .inr (.inl (vp_updL (vp_updL (fun _ => 0) 0 0) 1 0)))) := by rw [← hMw7, va_up_ne _ _ n_va_vb]; exact hy_va
  have hM : Mw7 h0 = some (.inr (7, [.ref va, .null, .null, .null])) := by rw [← hMw7, va_up_ne _ _ n_h0_vb]; exact hM
  have hy_vb : Mw7 vb = some (.inl (cJ, 2, .inr (.inl (vp_updL (vp_updL (fun _ => 0) 0 1) 1 1)))) := by rw [← hMw7]; exact va_up_self _ _ _
  have hmono : ∀ x9, Mw7 x9 = none → M x9 = none := fun x9 z9 => hmono x9 (va_up_none (by rw [hMw7]; exact z9))
  have hfr_Mw7 : ∀ x9, x9 ≠ vb → Mw7 x9 = Mw6 x9 := fun x9 z9 => by rw [← hMw7, va_up_ne _ _ z9]
  refine hw_putF (own := "QuantifierOut$Values") (v := .ref vb) (ty := .array .long) hx hb hts i_Vs ft_Vs tk_Vs n_Vs hown hW hS hM rfl 1 (by decide) (hts _ tw_56) (fun _ h9 => h9) rfl hnm rfl (tk_Vs 1 (by decide)) rfl rfl (Nat.le_of_ble_eq_true rfl) d_Vs_init_31 (fun H locs hW hS => ?_)
  have hW : hw_W D qcl (qty cI cJ cZ cN) _ (va_up Mw7 h0 (some (.inr (7, [.ref va, .ref vb, .null, .null])))) s H := hW
  generalize hMw8 : va_up Mw7 h0 (some (.inr (7, [.ref va, .ref vb, .null, .null]))) = Mw8 at hW
  have hy_va : Mw8 va = some (.inl (cJ, 2, .inr (.inl (vp_updL (vp_updL (fun _ => 0) 0 0) 1 0)))) := by rw [← hMw8, va_up_ne _ _ (Ne.symm n_h0_va)]; exact hy_va
  have hy_vb : Mw8 vb = some (.inl (cJ, 2, .inr (.inl (vp_updL (vp_updL (fun _ => 0) 0 1) 1 1)))) := by rw [← hMw8, va_up_ne _ _ (Ne.symm n_h0_vb)]; exact hy_vb
  have hM : Mw8 h0 = some (.inr (7, [.ref va, .ref vb, .null, .null])) := by rw [← hMw8]; exact va_up_self _ _ _
  have hmono : ∀ x9, Mw8 x9 = none → M x9 = none := fun x9 z9 => hmono x9 (va_up_none (by rw [hMw8]; exact z9))
  have hfr_Mw8 : ∀ x9, x9 ≠ h0 → Mw8 x9 = Mw7 x9 := fun x9 z9 => by rw [← hMw8, va_up_ne _ _ z9]
  refine lv_aload_n hx hb d_Vs_init_34 rfl (lv_at hl 0 rfl) ?_
  refine hw_new (ci := 2) (own := "QuantifierOut$Values") (fs := [.null, .null, .int 0]) hx hb hts i_Mk ft_Mk tk_Mk hown (hts _ tw_35) (hts _ tw_36) (hts _ tw_3) hW hS hA rfl (by intro j9 hj9; rcases (show j9 = 0 ∨ j9 = 1 ∨ j9 = 2 by omega) with rfl | rfl | rfl <;> rfl) (Nat.le_of_ble_eq_true rfl) (Nat.le_of_ble_eq_true rfl) d_Vs_init_35 (fun om H hq_om hW hS => ?_)
  have hW : hw_W D qcl (qty cI cJ cZ cN) _ (va_up Mw8 om (some (.inr (2, [.null, .null, .int 0])))) s H := hW
  have n_va_om : va ≠ om := hw_nq hy_va hq_om
  have n_vb_om : vb ≠ om := hw_nq hy_vb hq_om
  have n_h0_om : h0 ≠ om := hw_nq hM hq_om
  generalize hMw9 : va_up Mw8 om (some (.inr (2, [.null, .null, .int 0]))) = Mw9 at hW
  have hy_va : Mw9 va = some (.inl (cJ, 2, .inr (.inl (vp_updL (vp_updL (fun _ => 0) 0 0) 1 0)))) := by rw [← hMw9, va_up_ne _ _ n_va_om]; exact hy_va
  have hy_vb : Mw9 vb = some (.inl (cJ, 2, .inr (.inl (vp_updL (vp_updL (fun _ => 0) 0 1) 1 1)))) := by rw [← hMw9, va_up_ne _ _ n_vb_om]; exact hy_vb
  have hM : Mw9 h0 = some (.inr (7, [.ref va, .ref vb, .null, .null])) := by rw [← hMw9, va_up_ne _ _ n_h0_om]; exact hM
  have hy_om : Mw9 om = some (.inr (2, [.null, .null, .int 0])) := by rw [← hMw9]; exact va_up_self _ _ _
  have z_om : M om = none := hmono om hq_om
  have hmono : ∀ x9, Mw9 x9 = none → M x9 = none := fun x9 z9 => hmono x9 (va_up_none (by rw [hMw9]; exact z9))
  have hfr_Mw9 : ∀ x9, x9 ≠ om → Mw9 x9 = Mw8 x9 := fun x9 z9 => by rw [← hMw9, va_up_ne _ _ z9]
  refine lv_dup hx hb d_Vs_init_38 rfl ?_
  refine hw_callv (hw_runI (n := 0) (own := "QuantifierOut$Values") (As := []) (rest := [.ref om, .ref h0]) hx hb hml hown hts hX hW hl.1 (c_Mk_init l D cI cJ cZ cN om _ Mw9 hy_om) tw_37 tw_38 tw_3 tw_39 rfl (by decide +kernel) rfl rfl ⟨by decide, by decide⟩ rfl rfl (Nat.le_of_ble_eq_true rfl) d_Vs_init_39 ⟨by decide, by decide⟩) hW hS hA (fun Kom H locs hp hz hW hS => ?_)
  obtain ⟨oa, ob, y1, y2, y3, y4, y5⟩ := hp
  have n_va_oa : va ≠ oa := hw_nq hy_va y1
  have n_va_ob : va ≠ ob := hw_nq hy_va y2
  have hy_va : Kom va = some (.inl (cJ, 2, .inr (.inl (vp_updL (vp_updL (fun _ => 0) 0 0) 1 0)))) := (y5 va n_va_om n_va_oa n_va_ob).trans hy_va
  have n_vb_oa : vb ≠ oa := hw_nq hy_vb y1
  have n_vb_ob : vb ≠ ob := hw_nq hy_vb y2
  have hy_vb : Kom vb = some (.inl (cJ, 2, .inr (.inl (vp_updL (vp_updL (fun _ => 0) 0 1) 1 1)))) := (y5 vb n_vb_om n_vb_oa n_vb_ob).trans hy_vb
  have n_h0_oa : h0 ≠ oa := hw_nq hM y1
  have n_h0_ob : h0 ≠ ob := hw_nq hM y2
  have hM : Kom h0 = some (.inr (7, [.ref va, .ref vb, .null, .null])) := (y5 h0 n_h0_om n_h0_oa n_h0_ob).trans hM
  have n_om_oa : om ≠ oa := hw_nq hy_om y1
  have n_om_ob : om ≠ ob := hw_nq hy_om y2
  have n_oa_ob : oa ≠ ob := y3
  have z_oa := hmono oa y1
  have z_ob := hmono ob y2
  have hy_om := y4.1
  have hy_oa := y4.2.1
  have hy_ob := y4.2.2
  have hmono : ∀ x9, Kom x9 = none → M x9 = none := fun x9 z9 => hmono x9 (by rw [← y5 x9 (fun q9 => by rw [q9, hy_om] at z9; cases z9) (fun q9 => by rw [q9, hy_oa] at z9; cases z9) (fun q9 => by rw [q9, hy_ob] at z9; cases z9)]; exact z9)
  have y5om := y5
  refine hw_putF (own := "QuantifierOut$Values") (v := .ref om) (ty := .object "QuantifierOut$Marks") hx hb hts i_Vs ft_Vs tk_Vs n_Vs hown hW hS hM rfl 2 (by decide) (hts _ tw_60) (fun _ h9 => h9) rfl hnm rfl (tk_Vs 2 (by decide)) rfl rfl (Nat.le_of_ble_eq_true rfl) d_Vs_init_42 (fun H locs hW hS => ?_)
  have hW : hw_W D qcl (qty cI cJ cZ cN) _ (va_up Kom h0 (some (.inr (7, [.ref va, .ref vb, .ref om, .null])))) s H := hW
  generalize hMw10 : va_up Kom h0 (some (.inr (7, [.ref va, .ref vb, .ref om, .null]))) = Mw10 at hW
  have hy_va : Mw10 va = some (.inl (cJ, 2, .inr (.inl (vp_updL (vp_updL (fun _ => 0) 0 0) 1 0)))) := by rw [← hMw10, va_up_ne _ _ (Ne.symm n_h0_va)]; exact hy_va
  have hy_vb : Mw10 vb = some (.inl (cJ, 2, .inr (.inl (vp_updL (vp_updL (fun _ => 0) 0 1) 1 1)))) := by rw [← hMw10, va_up_ne _ _ (Ne.symm n_h0_vb)]; exact hy_vb
  have hy_om : Mw10 om = some (.inr (2, [.ref oa, .ref ob, .int (nI 0)])) := by rw [← hMw10, va_up_ne _ _ (Ne.symm n_h0_om)]; exact hy_om
  have hy_oa : Mw10 oa = some (.inl (cJ, 21, .inr (.inl (fun _ => 0)))) := by rw [← hMw10, va_up_ne _ _ (Ne.symm n_h0_oa)]; exact hy_oa
  have hy_ob : Mw10 ob = some (.inl (cJ, 21, .inr (.inl (fun _ => 0)))) := by rw [← hMw10, va_up_ne _ _ (Ne.symm n_h0_ob)]; exact hy_ob
  have hM : Mw10 h0 = some (.inr (7, [.ref va, .ref vb, .ref om, .null])) := by rw [← hMw10]; exact va_up_self _ _ _
  have hmono : ∀ x9, Mw10 x9 = none → M x9 = none := fun x9 z9 => hmono x9 (va_up_none (by rw [hMw10]; exact z9))
  have hfr_Mw10 : ∀ x9, x9 ≠ h0 → Mw10 x9 = Kom x9 := fun x9 z9 => by rw [← hMw10, va_up_ne _ _ z9]
  refine lv_aload_n hx hb d_Vs_init_45 rfl (lv_at hl 0 rfl) ?_
  refine hw_new (ci := 2) (own := "QuantifierOut$Values") (fs := [.null, .null, .int 0]) hx hb hts i_Mk ft_Mk tk_Mk hown (hts _ tw_35) (hts _ tw_36) (hts _ tw_3) hW hS hA rfl (by intro j9 hj9; rcases (show j9 = 0 ∨ j9 = 1 ∨ j9 = 2 by omega) with rfl | rfl | rfl <;> rfl) (Nat.le_of_ble_eq_true rfl) (Nat.le_of_ble_eq_true rfl) d_Vs_init_46 (fun im H hq_im hW hS => ?_)
  have hW : hw_W D qcl (qty cI cJ cZ cN) _ (va_up Mw10 im (some (.inr (2, [.null, .null, .int 0])))) s H := hW
  have n_va_im : va ≠ im := hw_nq hy_va hq_im
  have n_vb_im : vb ≠ im := hw_nq hy_vb hq_im
  have n_om_im : om ≠ im := hw_nq hy_om hq_im
  have n_oa_im : oa ≠ im := hw_nq hy_oa hq_im
  have n_ob_im : ob ≠ im := hw_nq hy_ob hq_im
  have n_h0_im : h0 ≠ im := hw_nq hM hq_im
  generalize hMw11 : va_up Mw10 im (some (.inr (2, [.null, .null, .int 0]))) = Mw11 at hW
  have hy_va : Mw11 va = some (.inl (cJ, 2, .inr (.inl (vp_updL (vp_updL (fun _ => 0) 0 0) 1 0)))) := by rw [← hMw11, va_up_ne _ _ n_va_im]; exact hy_va
  have hy_vb : Mw11 vb = some (.inl (cJ, 2, .inr (.inl (vp_updL (vp_updL (fun _ => 0) 0 1) 1 1)))) := by rw [← hMw11, va_up_ne _ _ n_vb_im]; exact hy_vb
  have hy_om : Mw11 om = some (.inr (2, [.ref oa, .ref ob, .int (nI 0)])) := by rw [← hMw11, va_up_ne _ _ n_om_im]; exact hy_om
  have hy_oa : Mw11 oa = some (.inl (cJ, 21, .inr (.inl (fun _ => 0)))) := by rw [← hMw11, va_up_ne _ _ n_oa_im]; exact hy_oa
  have hy_ob : Mw11 ob = some (.inl (cJ, 21, .inr (.inl (fun _ => 0)))) := by rw [← hMw11, va_up_ne _ _ n_ob_im]; exact hy_ob
  have hM : Mw11 h0 = some (.inr (7, [.ref va, .ref vb, .ref om, .null])) := by rw [← hMw11, va_up_ne _ _ n_h0_im]; exact hM
  have hy_im : Mw11 im = some (.inr (2, [.null, .null, .int 0])) := by rw [← hMw11]; exact va_up_self _ _ _
  have z_im : M im = none := hmono im hq_im
  have hmono : ∀ x9, Mw11 x9 = none → M x9 = none := fun x9 z9 => hmono x9 (va_up_none (by rw [hMw11]; exact z9))
  have hfr_Mw11 : ∀ x9, x9 ≠ im → Mw11 x9 = Mw10 x9 := fun x9 z9 => by rw [← hMw11, va_up_ne _ _ z9]
  refine lv_dup hx hb d_Vs_init_49 rfl ?_
  refine hw_callv (hw_runI (n := 0) (own := "QuantifierOut$Values") (As := []) (rest := [.ref im, .ref h0]) hx hb hml hown hts hX hW hl.1 (c_Mk_init l D cI cJ cZ cN im _ Mw11 hy_im) tw_37 tw_38 tw_3 tw_39 rfl (by decide +kernel) rfl rfl ⟨by decide, by decide⟩ rfl rfl (Nat.le_of_ble_eq_true rfl) d_Vs_init_50 ⟨by decide, by decide⟩) hW hS hA (fun Kim H locs hp hz hW hS => ?_)
  obtain ⟨ia, ib, y1, y2, y3, y4, y5⟩ := hp
  have n_va_ia : va ≠ ia := hw_nq hy_va y1
  have n_va_ib : va ≠ ib := hw_nq hy_va y2
  have hy_va : Kim va = some (.inl (cJ, 2, .inr (.inl (vp_updL (vp_updL (fun _ => 0) 0 0) 1 0)))) := (y5 va n_va_im n_va_ia n_va_ib).trans hy_va
  have n_vb_ia : vb ≠ ia := hw_nq hy_vb y1
  have n_vb_ib : vb ≠ ib := hw_nq hy_vb y2
  have hy_vb : Kim vb = some (.inl (cJ, 2, .inr (.inl (vp_updL (vp_updL (fun _ => 0) 0 1) 1 1)))) := (y5 vb n_vb_im n_vb_ia n_vb_ib).trans hy_vb
  have n_om_ia : om ≠ ia := hw_nq hy_om y1
  have n_om_ib : om ≠ ib := hw_nq hy_om y2
  have hy_om : Kim om = some (.inr (2, [.ref oa, .ref ob, .int (nI 0)])) := (y5 om n_om_im n_om_ia n_om_ib).trans hy_om
  have n_oa_ia : oa ≠ ia := hw_nq hy_oa y1
  have n_oa_ib : oa ≠ ib := hw_nq hy_oa y2
  have hy_oa : Kim oa = some (.inl (cJ, 21, .inr (.inl (fun _ => 0)))) := (y5 oa n_oa_im n_oa_ia n_oa_ib).trans hy_oa
  have n_ob_ia : ob ≠ ia := hw_nq hy_ob y1
  have n_ob_ib : ob ≠ ib := hw_nq hy_ob y2
  have hy_ob : Kim ob = some (.inl (cJ, 21, .inr (.inl (fun _ => 0)))) := (y5 ob n_ob_im n_ob_ia n_ob_ib).trans hy_ob
  have n_h0_ia : h0 ≠ ia := hw_nq hM y1
  have n_h0_ib : h0 ≠ ib := hw_nq hM y2
  have hM : Kim h0 = some (.inr (7, [.ref va, .ref vb, .ref om, .null])) := (y5 h0 n_h0_im n_h0_ia n_h0_ib).trans hM
  have n_im_ia : im ≠ ia := hw_nq hy_im y1
  have n_im_ib : im ≠ ib := hw_nq hy_im y2
  have n_ia_ib : ia ≠ ib := y3
  have z_ia := hmono ia y1
  have z_ib := hmono ib y2
  have hy_im := y4.1
  have hy_ia := y4.2.1
  have hy_ib := y4.2.2
  have hmono : ∀ x9, Kim x9 = none → M x9 = none := fun x9 z9 => hmono x9 (by rw [← y5 x9 (fun q9 => by rw [q9, hy_im] at z9; cases z9) (fun q9 => by rw [q9, hy_ia] at z9; cases z9) (fun q9 => by rw [q9, hy_ib] at z9; cases z9)]; exact z9)
  have y5im := y5
  refine hw_putF (own := "QuantifierOut$Values") (v := .ref im) (ty := .object "QuantifierOut$Marks") hx hb hts i_Vs ft_Vs tk_Vs n_Vs hown hW hS hM rfl 3 (by decide) (hts _ tw_61) (fun _ h9 => h9) rfl hnm rfl (tk_Vs 3 (by decide)) rfl rfl (Nat.le_of_ble_eq_true rfl) d_Vs_init_53 (fun H locs hW hS => ?_)
  have hW : hw_W D qcl (qty cI cJ cZ cN) _ (va_up Kim h0 (some (.inr (7, [.ref va, .ref vb, .ref om, .ref im])))) s H := hW
  generalize hMw12 : va_up Kim h0 (some (.inr (7, [.ref va, .ref vb, .ref om, .ref im]))) = Mw12 at hW
  have hy_va : Mw12 va = some (.inl (cJ, 2, .inr (.inl (vp_updL (vp_updL (fun _ => 0) 0 0) 1 0)))) := by rw [← hMw12, va_up_ne _ _ (Ne.symm n_h0_va)]; exact hy_va
  have hy_vb : Mw12 vb = some (.inl (cJ, 2, .inr (.inl (vp_updL (vp_updL (fun _ => 0) 0 1) 1 1)))) := by rw [← hMw12, va_up_ne _ _ (Ne.symm n_h0_vb)]; exact hy_vb
  have hy_om : Mw12 om = some (.inr (2, [.ref oa, .ref ob, .int (nI 0)])) := by rw [← hMw12, va_up_ne _ _ (Ne.symm n_h0_om)]; exact hy_om
  have hy_oa : Mw12 oa = some (.inl (cJ, 21, .inr (.inl (fun _ => 0)))) := by rw [← hMw12, va_up_ne _ _ (Ne.symm n_h0_oa)]; exact hy_oa
  have hy_ob : Mw12 ob = some (.inl (cJ, 21, .inr (.inl (fun _ => 0)))) := by rw [← hMw12, va_up_ne _ _ (Ne.symm n_h0_ob)]; exact hy_ob
  have hy_im : Mw12 im = some (.inr (2, [.ref ia, .ref ib, .int (nI 0)])) := by rw [← hMw12, va_up_ne _ _ (Ne.symm n_h0_im)]; exact hy_im
  have hy_ia : Mw12 ia = some (.inl (cJ, 21, .inr (.inl (fun _ => 0)))) := by rw [← hMw12, va_up_ne _ _ (Ne.symm n_h0_ia)]; exact hy_ia
  have hy_ib : Mw12 ib = some (.inl (cJ, 21, .inr (.inl (fun _ => 0)))) := by rw [← hMw12, va_up_ne _ _ (Ne.symm n_h0_ib)]; exact hy_ib
  have hM : Mw12 h0 = some (.inr (7, [.ref va, .ref vb, .ref om, .ref im])) := by rw [← hMw12]; exact va_up_self _ _ _
  have hmono : ∀ x9, Mw12 x9 = none → M x9 = none := fun x9 z9 => hmono x9 (va_up_none (by rw [hMw12]; exact z9))
  have hfr_Mw12 : ∀ x9, x9 ≠ h0 → Mw12 x9 = Kim x9 := fun x9 z9 => by rw [← hMw12, va_up_ne _ _ z9]
  have fva : vp_updL (vp_updL (fun _ => 0) 0 0) 1 0 = (fun _ => (0 : Int64)) := by rw [uL_id (fun _ => (0 : Int64)) 0, uL_id (fun _ => (0 : Int64)) 1]
  have fvb : vp_updL (vp_updL (fun _ => 0) 0 1) 1 1 = (fun i => if i < 2 then (1 : Int64) else 0) := by funext i; by_cases h0 : i = 0; subst h0; rfl; by_cases h1 : i = 1; subst h1; rfl; rw [pk_uLn h1, pk_uLn h0, if_neg (by omega)]
  refine hw_retv hx hb hr hlocks hW hS ⟨va, vb, om, oa, ob, im, ia, ib, ⟨z_va, z_vb, z_om, z_oa, z_ob, z_im, z_ia, z_ib⟩, ⟨n_va_vb, n_va_oa, n_va_ob, n_va_ia, n_va_ib, n_vb_oa, n_vb_ob, n_vb_ia, n_vb_ib, n_oa_ob, n_ia_ib, n_oa_ia, n_oa_ib, n_ob_ia, n_ob_ib, n_om_im⟩, ⟨⟨hM, by rw [← fva]; exact hy_va, by rw [← fvb]; exact hy_vb⟩, ⟨0, _, _, hy_om, hy_oa, hy_ob⟩, ⟨0, _, _, hy_im, hy_ia, hy_ib⟩⟩, fun x z0 z1 z2 z3 z4 z5 z6 z7 z8 => ?_⟩ d_Vs_init_56
  exact ((((((((((((((hfr_Mw12 x z0)).trans (y5im x z6 z7 z8)).trans (hfr_Mw11 x z6)).trans (hfr_Mw10 x z0)).trans (y5om x z3 z4 z5)).trans (hfr_Mw9 x z3)).trans (hfr_Mw8 x z0)).trans (hfr_Mw7 x z2)).trans (hfr_Mw6 x z2)).trans (hfr_Mw5 x z2)).trans (hfr_Mw4 x z0)).trans (hfr_Mw3 x z1)).trans (hfr_Mw2 x z1)).trans (hfr_Mw1 x z1)
set_option maxHeartbeats 4000000 in
set_option maxRecDepth 100000 in
theorem c_Pc_init (h0 sz : Nat) (M : Nat → Option va_E) (hM : M h0 = some (.inr (5, [.null, .null, .null, .int 0, .null]))) : Met l y_Pc_init (.code y_Pc_init b_Pc_init 1 none :: ww) ({ frames := 2, cells := 5, slots := 89, locals := 60 }) (hw_Pc D qcl (qty cI cJ cZ cN) [.ref h0] M sz) (va_Qv (fun M1 => ∃ mk ka kb fa la : Nat, (M mk = none ∧ M ka = none ∧ M kb = none ∧ M fa = none ∧ M la = none) ∧ ka ≠ kb ∧ fa ≠ la ∧ pc_S cI cJ M1 h0 mk ka kb fa la none 0 (fun _ => 0) (fun _ => 0) 0 (fun _ => 0) (fun _ => 0) ∧ ∀ x, x ≠ h0 → x ≠ mk → x ≠ ka → x ≠ kb → x ≠ fa → x ≠ la → M1 x = M x) (hw_B D qcl (qty cI cJ cZ cN) M sz) (hw_A M sz)) 5 89 (hw_A M sz) := by
  refine hw_met (by decide) (Nat.le_of_ble_eq_true rfl) ?_
  intro p e s m below meth c hx hb hr hml hown hlocks hnm hts hsz hX hW ls hl
  subst hsz
  have hA : ∀ q, s.heap.size ≤ q → hw_A M s.heap.size q := fun q h => Or.inr h
  have hS : va_S (hw_A M s.heap.size) s.heap s.heap [] := va_S.rf
  have hl : lv_has ls 1 [(0, .ref h0)] := hl
  have hown : s.vm.findClass "QuantifierOut$Pieces" = some m.cls := hown
  have hmono : ∀ x9, M x9 = none → M x9 = none := fun _ z9 => z9
  refine lv_aload_n hx hb d_Pc_init_0 rfl (lv_at hl 0 rfl) ?_
  refine W.objInit hx hb hown (hts _ tw_76) (hts _ tw_25) (hts _ tw_26) rfl (by rw [hml]; exact hl.1) rfl d_Pc_init_1 (Nat.le_of_ble_eq_true rfl) (Nat.le_of_ble_eq_true rfl) ?_
  refine W.eq (g2 := F0 m 4 ls []) rfl ?_
  refine lv_aload_n hx hb d_Pc_init_4 rfl (lv_at hl 0 rfl) ?_
  refine hw_new (ci := 2) (own := "QuantifierOut$Pieces") (fs := [.null, .null, .int 0]) hx hb hts i_Mk ft_Mk tk_Mk hown (hts _ tw_77) (hts _ tw_36) (hts _ tw_3) hW hS hA rfl (by intro j9 hj9; rcases (show j9 = 0 ∨ j9 = 1 ∨ j9 = 2 by omega) with rfl | rfl | rfl <;> rfl) (Nat.le_of_ble_eq_true rfl) (Nat.le_of_ble_eq_true rfl) d_Pc_init_5 (fun mk H hq_mk hW hS => ?_)
  have hW : hw_W D qcl (qty cI cJ cZ cN) _ (va_up M mk (some (.inr (2, [.null, .null, .int 0])))) s H := hW
  have n_h0_mk : h0 ≠ mk := hw_nq hM hq_mk
  generalize hMw1 : va_up M mk (some (.inr (2, [.null, .null, .int 0]))) = Mw1 at hW
  have hM : Mw1 h0 = some (.inr (5, [.null, .null, .null, .int 0, .null])) := by rw [← hMw1, va_up_ne _ _ n_h0_mk]; exact hM
  have hy_mk : Mw1 mk = some (.inr (2, [.null, .null, .int 0])) := by rw [← hMw1]; exact va_up_self _ _ _
  have z_mk : M mk = none := hmono mk hq_mk
  have hmono : ∀ x9, Mw1 x9 = none → M x9 = none := fun x9 z9 => hmono x9 (va_up_none (by rw [hMw1]; exact z9))
  have hfr_Mw1 : ∀ x9, x9 ≠ mk → Mw1 x9 = M x9 := fun x9 z9 => by rw [← hMw1, va_up_ne _ _ z9]
  refine lv_dup hx hb d_Pc_init_8 rfl ?_
  refine hw_callv (hw_runI (n := 0) (own := "QuantifierOut$Pieces") (As := []) (rest := [.ref mk, .ref h0]) hx hb hml hown hts hX hW hl.1 (c_Mk_init l D cI cJ cZ cN mk _ Mw1 hy_mk) tw_78 tw_38 tw_3 tw_39 rfl (by decide +kernel) rfl rfl ⟨by decide, by decide⟩ rfl rfl (Nat.le_of_ble_eq_true rfl) d_Pc_init_9 ⟨by decide, by decide⟩) hW hS hA (fun Kmk H locs hp hz hW hS => ?_)
  obtain ⟨ka, kb, y1, y2, y3, y4, y5⟩ := hp
  have n_h0_ka : h0 ≠ ka := hw_nq hM y1
  have n_h0_kb : h0 ≠ kb := hw_nq hM y2
  have hM : Kmk h0 = some (.inr (5, [.null, .null, .null, .int 0, .null])) := (y5 h0 n_h0_mk n_h0_ka n_h0_kb).trans hM
  have n_mk_ka : mk ≠ ka := hw_nq hy_mk y1
  have n_mk_kb : mk ≠ kb := hw_nq hy_mk y2
  have n_ka_kb : ka ≠ kb := y3
  have z_ka := hmono ka y1
  have z_kb := hmono kb y2
  have hy_mk := y4.1
  have hy_ka := y4.2.1
  have hy_kb := y4.2.2
  have hmono : ∀ x9, Kmk x9 = none → M x9 = none := fun x9 z9 => hmono x9 (by rw [← y5 x9 (fun q9 => by rw [q9, hy_mk] at z9; cases z9) (fun q9 => by rw [q9, hy_ka] at z9; cases z9) (fun q9 => by rw [q9, hy_kb] at z9; cases z9)]; exact z9)
  have y5mk := y5
  refine hw_putF (own := "QuantifierOut$Pieces") (v := .ref mk) (ty := .object "QuantifierOut$Marks") hx hb hts i_Pc ft_Pc tk_Pc n_Pc hown hW hS hM rfl 0 (by decide) (hts _ tw_79) (fun _ h9 => h9) rfl hnm rfl (tk_Pc 0 (by decide)) rfl rfl (Nat.le_of_ble_eq_true rfl) d_Pc_init_12 (fun H locs hW hS => ?_)
  have hW : hw_W D qcl (qty cI cJ cZ cN) _ (va_up Kmk h0 (some (.inr (5, [.ref mk, .null, .null, .int 0, .null])))) s H := hW
  generalize hMw2 : va_up Kmk h0 (some (.inr (5, [.ref mk, .null, .null, .int 0, .null]))) = Mw2 at hW
  have hy_mk : Mw2 mk = some (.inr (2, [.ref ka, .ref kb, .int (nI 0)])) := by rw [← hMw2, va_up_ne _ _ (Ne.symm n_h0_mk)]; exact hy_mk
  have hy_ka : Mw2 ka = some (.inl (cJ, 21, .inr (.inl (fun _ => 0)))) := by rw [← hMw2, va_up_ne _ _ (Ne.symm n_h0_ka)]; exact hy_ka
  have hy_kb : Mw2 kb = some (.inl (cJ, 21, .inr (.inl (fun _ => 0)))) := by rw [← hMw2, va_up_ne _ _ (Ne.symm n_h0_kb)]; exact hy_kb
  have hM : Mw2 h0 = some (.inr (5, [.ref mk, .null, .null, .int 0, .null])) := by rw [← hMw2]; exact va_up_self _ _ _
  have hmono : ∀ x9, Mw2 x9 = none → M x9 = none := fun x9 z9 => hmono x9 (va_up_none (by rw [hMw2]; exact z9))
  have hfr_Mw2 : ∀ x9, x9 ≠ h0 → Mw2 x9 = Kmk x9 := fun x9 z9 => by rw [← hMw2, va_up_ne _ _ z9]
  refine lv_aload_n hx hb d_Pc_init_15 rfl (lv_at hl 0 rfl) ?_
  refine lv_bipush (v := 22) hx hb d_Pc_init_16 (by decide) ?_
  refine hw_newi (N' := 22) hx hb (hts _ tw_96) hW hS hA 0 rfl (by decide) (by decide) (by decide) (Nat.le_of_ble_eq_true rfl) (Nat.le_of_ble_eq_true rfl) d_Pc_init_18 (fun fa H hq_fa hW hS => ?_)
  have hW : hw_W D qcl (qty cI cJ cZ cN) _ (va_up Mw2 fa (some (.inl (cI, 22, .inl (fun _ => 0))))) s H := hW
  have n_mk_fa : mk ≠ fa := hw_nq hy_mk hq_fa
  have n_ka_fa : ka ≠ fa := hw_nq hy_ka hq_fa
  have n_kb_fa : kb ≠ fa := hw_nq hy_kb hq_fa
  have n_h0_fa : h0 ≠ fa := hw_nq hM hq_fa
  generalize hMw3 : va_up Mw2 fa (some (.inl (cI, 22, .inl (fun _ => 0)))) = Mw3 at hW
  have hy_mk : Mw3 mk = some (.inr (2, [.ref ka, .ref kb, .int (nI 0)])) := by rw [← hMw3, va_up_ne _ _ n_mk_fa]; exact hy_mk
  have hy_ka : Mw3 ka = some (.inl (cJ, 21, .inr (.inl (fun _ => 0)))) := by rw [← hMw3, va_up_ne _ _ n_ka_fa]; exact hy_ka
  have hy_kb : Mw3 kb = some (.inl (cJ, 21, .inr (.inl (fun _ => 0)))) := by rw [← hMw3, va_up_ne _ _ n_kb_fa]; exact hy_kb
  have hM : Mw3 h0 = some (.inr (5, [.ref mk, .null, .null, .int 0, .null])) := by rw [← hMw3, va_up_ne _ _ n_h0_fa]; exact hM
  have hy_fa : Mw3 fa = some (.inl (cI, 22, .inl (fun _ => 0))) := by rw [← hMw3]; exact va_up_self _ _ _
  have z_fa : M fa = none := hmono fa hq_fa
  have hmono : ∀ x9, Mw3 x9 = none → M x9 = none := fun x9 z9 => hmono x9 (va_up_none (by rw [hMw3]; exact z9))
  have hfr_Mw3 : ∀ x9, x9 ≠ fa → Mw3 x9 = Mw2 x9 := fun x9 z9 => by rw [← hMw3, va_up_ne _ _ z9]
  refine hw_putF (own := "QuantifierOut$Pieces") (v := .ref fa) (ty := .array .int) hx hb hts i_Pc ft_Pc tk_Pc n_Pc hown hW hS hM rfl 1 (by decide) (hts _ tw_80) (fun _ h9 => h9) rfl hnm rfl (tk_Pc 1 (by decide)) rfl rfl (Nat.le_of_ble_eq_true rfl) d_Pc_init_20 (fun H locs hW hS => ?_)
  have hW : hw_W D qcl (qty cI cJ cZ cN) _ (va_up Mw3 h0 (some (.inr (5, [.ref mk, .ref fa, .null, .int 0, .null])))) s H := hW
  generalize hMw4 : va_up Mw3 h0 (some (.inr (5, [.ref mk, .ref fa, .null, .int 0, .null]))) = Mw4 at hW
  have hy_mk : Mw4 mk = some (.inr (2, [.ref ka, .ref kb, .int (nI 0)])) := by rw [← hMw4, va_up_ne _ _ (Ne.symm n_h0_mk)]; exact hy_mk
  have hy_ka : Mw4 ka = some (.inl (cJ, 21, .inr (.inl (fun _ => 0)))) := by rw [← hMw4, va_up_ne _ _ (Ne.symm n_h0_ka)]; exact hy_ka
  have hy_kb : Mw4 kb = some (.inl (cJ, 21, .inr (.inl (fun _ => 0)))) := by rw [← hMw4, va_up_ne _ _ (Ne.symm n_h0_kb)]; exact hy_kb
  have hy_fa : Mw4 fa = some (.inl (cI, 22, .inl (fun _ => 0))) := by rw [← hMw4, va_up_ne _ _ (Ne.symm n_h0_fa)]; exact hy_fa
  have hM : Mw4 h0 = some (.inr (5, [.ref mk, .ref fa, .null, .int 0, .null])) := by rw [← hMw4]; exact va_up_self _ _ _
  have hmono : ∀ x9, Mw4 x9 = none → M x9 = none := fun x9 z9 => hmono x9 (va_up_none (by rw [hMw4]; exact z9))
  have hfr_Mw4 : ∀ x9, x9 ≠ h0 → Mw4 x9 = Mw3 x9 := fun x9 z9 => by rw [← hMw4, va_up_ne _ _ z9]
  refine lv_aload_n hx hb d_Pc_init_23 rfl (lv_at hl 0 rfl) ?_
  refine lv_bipush (v := 22) hx hb d_Pc_init_24 (by decide) ?_
  refine hw_newi (N' := 22) hx hb (hts _ tw_96) hW hS hA 0 rfl (by decide) (by decide) (by decide) (Nat.le_of_ble_eq_true rfl) (Nat.le_of_ble_eq_true rfl) d_Pc_init_26 (fun la H hq_la hW hS => ?_)
  have hW : hw_W D qcl (qty cI cJ cZ cN) _ (va_up Mw4 la (some (.inl (cI, 22, .inl (fun _ => 0))))) s H := hW
  have n_mk_la : mk ≠ la := hw_nq hy_mk hq_la
  have n_ka_la : ka ≠ la := hw_nq hy_ka hq_la
  have n_kb_la : kb ≠ la := hw_nq hy_kb hq_la
  have n_fa_la : fa ≠ la := hw_nq hy_fa hq_la
  have n_h0_la : h0 ≠ la := hw_nq hM hq_la
  generalize hMw5 : va_up Mw4 la (some (.inl (cI, 22, .inl (fun _ => 0)))) = Mw5 at hW
  have hy_mk : Mw5 mk = some (.inr (2, [.ref ka, .ref kb, .int (nI 0)])) := by rw [← hMw5, va_up_ne _ _ n_mk_la]; exact hy_mk
  have hy_ka : Mw5 ka = some (.inl (cJ, 21, .inr (.inl (fun _ => 0)))) := by rw [← hMw5, va_up_ne _ _ n_ka_la]; exact hy_ka
  have hy_kb : Mw5 kb = some (.inl (cJ, 21, .inr (.inl (fun _ => 0)))) := by rw [← hMw5, va_up_ne _ _ n_kb_la]; exact hy_kb
  have hy_fa : Mw5 fa = some (.inl (cI, 22, .inl (fun _ => 0))) := by rw [← hMw5, va_up_ne _ _ n_fa_la]; exact hy_fa
  have hM : Mw5 h0 = some (.inr (5, [.ref mk, .ref fa, .null, .int 0, .null])) := by rw [← hMw5, va_up_ne _ _ n_h0_la]; exact hM
  have hy_la : Mw5 la = some (.inl (cI, 22, .inl (fun _ => 0))) := by rw [← hMw5]; exact va_up_self _ _ _
  have z_la : M la = none := hmono la hq_la
  have hmono : ∀ x9, Mw5 x9 = none → M x9 = none := fun x9 z9 => hmono x9 (va_up_none (by rw [hMw5]; exact z9))
  have hfr_Mw5 : ∀ x9, x9 ≠ la → Mw5 x9 = Mw4 x9 := fun x9 z9 => by rw [← hMw5, va_up_ne _ _ z9]
  refine hw_putF (own := "QuantifierOut$Pieces") (v := .ref la) (ty := .array .int) hx hb hts i_Pc ft_Pc tk_Pc n_Pc hown hW hS hM rfl 2 (by decide) (hts _ tw_81) (fun _ h9 => h9) rfl hnm rfl (tk_Pc 2 (by decide)) rfl rfl (Nat.le_of_ble_eq_true rfl) d_Pc_init_28 (fun H locs hW hS => ?_)
  have hW : hw_W D qcl (qty cI cJ cZ cN) _ (va_up Mw5 h0 (some (.inr (5, [.ref mk, .ref fa, .ref la, .int 0, .null])))) s H := hW
  generalize hMw6 : va_up Mw5 h0 (some (.inr (5, [.ref mk, .ref fa, .ref la, .int 0, .null]))) = Mw6 at hW
  have hy_mk : Mw6 mk = some (.inr (2, [.ref ka, .ref kb, .int (nI 0)])) := by rw [← hMw6, va_up_ne _ _ (Ne.symm n_h0_mk)]; exact hy_mk
  have hy_ka : Mw6 ka = some (.inl (cJ, 21, .inr (.inl (fun _ => 0)))) := by rw [← hMw6, va_up_ne _ _ (Ne.symm n_h0_ka)]; exact hy_ka
  have hy_kb : Mw6 kb = some (.inl (cJ, 21, .inr (.inl (fun _ => 0)))) := by rw [← hMw6, va_up_ne _ _ (Ne.symm n_h0_kb)]; exact hy_kb
  have hy_fa : Mw6 fa = some (.inl (cI, 22, .inl (fun _ => 0))) := by rw [← hMw6, va_up_ne _ _ (Ne.symm n_h0_fa)]; exact hy_fa
  have hy_la : Mw6 la = some (.inl (cI, 22, .inl (fun _ => 0))) := by rw [← hMw6, va_up_ne _ _ (Ne.symm n_h0_la)]; exact hy_la
  have hM : Mw6 h0 = some (.inr (5, [.ref mk, .ref fa, .ref la, .int 0, .null])) := by rw [← hMw6]; exact va_up_self _ _ _
  have hmono : ∀ x9, Mw6 x9 = none → M x9 = none := fun x9 z9 => hmono x9 (va_up_none (by rw [hMw6]; exact z9))
  have hfr_Mw6 : ∀ x9, x9 ≠ h0 → Mw6 x9 = Mw5 x9 := fun x9 z9 => by rw [← hMw6, va_up_ne _ _ z9]
  refine lv_aload_n hx hb d_Pc_init_31 rfl (lv_at hl 0 rfl) ?_
  refine lv_iconst (v := 0) hx hb d_Pc_init_32 (by decide) ?_
  refine hw_put (own := "QuantifierOut$Pieces") (v := .int 0) (ty := .int) hx hb hts i_Pc ft_Pc tk_Pc n_Pc hown hW hS hM rfl 3 (by decide) (hts _ tw_82) (fun _ h9 => h9) rfl (tk_Pc 3 (by decide)) rfl rfl (Nat.le_of_ble_eq_true rfl) d_Pc_init_33 (fun H locs hW hS => ?_)
  have hW : hw_W D qcl (qty cI cJ cZ cN) _ (va_up Mw6 h0 (some (.inr (5, [.ref mk, .ref fa, .ref la, .int 0, .null])))) s H := hW
  generalize hMw7 : va_up Mw6 h0 (some (.inr (5, [.ref mk, .ref fa, .ref la, .int 0, .null]))) = Mw7 at hW
  have hy_mk : Mw7 mk = some (.inr (2, [.ref ka, .ref kb, .int (nI 0)])) := by rw [← hMw7, va_up_ne _ _ (Ne.symm n_h0_mk)]; exact hy_mk
  have hy_ka : Mw7 ka = some (.inl (cJ, 21, .inr (.inl (fun _ => 0)))) := by rw [← hMw7, va_up_ne _ _ (Ne.symm n_h0_ka)]; exact hy_ka
  have hy_kb : Mw7 kb = some (.inl (cJ, 21, .inr (.inl (fun _ => 0)))) := by rw [← hMw7, va_up_ne _ _ (Ne.symm n_h0_kb)]; exact hy_kb
  have hy_fa : Mw7 fa = some (.inl (cI, 22, .inl (fun _ => 0))) := by rw [← hMw7, va_up_ne _ _ (Ne.symm n_h0_fa)]; exact hy_fa
  have hy_la : Mw7 la = some (.inl (cI, 22, .inl (fun _ => 0))) := by rw [← hMw7, va_up_ne _ _ (Ne.symm n_h0_la)]; exact hy_la
  have hM : Mw7 h0 = some (.inr (5, [.ref mk, .ref fa, .ref la, .int 0, .null])) := by rw [← hMw7]; exact va_up_self _ _ _
  have hmono : ∀ x9, Mw7 x9 = none → M x9 = none := fun x9 z9 => hmono x9 (va_up_none (by rw [hMw7]; exact z9))
  have hfr_Mw7 : ∀ x9, x9 ≠ h0 → Mw7 x9 = Mw6 x9 := fun x9 z9 => by rw [← hMw7, va_up_ne _ _ z9]
  refine lv_aload_n hx hb d_Pc_init_36 rfl (lv_at hl 0 rfl) ?_
  refine lv_null hx hb d_Pc_init_37 ?_
  refine hw_put (own := "QuantifierOut$Pieces") (v := .null) (ty := .object "QuantifierOut$Node") hx hb hts i_Pc ft_Pc tk_Pc n_Pc hown hW hS hM rfl 4 (by decide) (hts _ tw_84) (fun _ h9 => h9) rfl (tk_Pc 4 (by decide)) rfl rfl (Nat.le_of_ble_eq_true rfl) d_Pc_init_38 (fun H locs hW hS => ?_)
  have hW : hw_W D qcl (qty cI cJ cZ cN) _ (va_up Mw7 h0 (some (.inr (5, [.ref mk, .ref fa, .ref la, .int 0, .null])))) s H := hW
  generalize hMw8 : va_up Mw7 h0 (some (.inr (5, [.ref mk, .ref fa, .ref la, .int 0, .null]))) = Mw8 at hW
  have hy_mk : Mw8 mk = some (.inr (2, [.ref ka, .ref kb, .int (nI 0)])) := by rw [← hMw8, va_up_ne _ _ (Ne.symm n_h0_mk)]; exact hy_mk
  have hy_ka : Mw8 ka = some (.inl (cJ, 21, .inr (.inl (fun _ => 0)))) := by rw [← hMw8, va_up_ne _ _ (Ne.symm n_h0_ka)]; exact hy_ka
  have hy_kb : Mw8 kb = some (.inl (cJ, 21, .inr (.inl (fun _ => 0)))) := by rw [← hMw8, va_up_ne _ _ (Ne.symm n_h0_kb)]; exact hy_kb
  have hy_fa : Mw8 fa = some (.inl (cI, 22, .inl (fun _ => 0))) := by rw [← hMw8, va_up_ne _ _ (Ne.symm n_h0_fa)]; exact hy_fa
  have hy_la : Mw8 la = some (.inl (cI, 22, .inl (fun _ => 0))) := by rw [← hMw8, va_up_ne _ _ (Ne.symm n_h0_la)]; exact hy_la
  have hM : Mw8 h0 = some (.inr (5, [.ref mk, .ref fa, .ref la, .int 0, .null])) := by rw [← hMw8]; exact va_up_self _ _ _
  have hmono : ∀ x9, Mw8 x9 = none → M x9 = none := fun x9 z9 => hmono x9 (va_up_none (by rw [hMw8]; exact z9))
  have hfr_Mw8 : ∀ x9, x9 ≠ h0 → Mw8 x9 = Mw7 x9 := fun x9 z9 => by rw [← hMw8, va_up_ne _ _ z9]
  refine hw_retv hx hb hr hlocks hW hS ⟨mk, ka, kb, fa, la, ⟨z_mk, z_ka, z_kb, z_fa, z_la⟩, n_ka_kb, n_fa_la, ⟨hM, ⟨hy_mk, hy_ka, hy_kb⟩, hy_fa, hy_la⟩, fun x z0 z1 z2 z3 z4 z5 => ?_⟩ d_Pc_init_41
  exact (((((((((hfr_Mw8 x z0)).trans (hfr_Mw7 x z0)).trans (hfr_Mw6 x z0)).trans (hfr_Mw5 x z5)).trans (hfr_Mw4 x z0)).trans (hfr_Mw3 x z4)).trans (hfr_Mw2 x z0)).trans (y5mk x z1 z2 z3)).trans (hfr_Mw1 x z1)
set_option maxHeartbeats 4000000 in
set_option maxRecDepth 100000 in
theorem c_Nd_init (h0 ci la sz : Nat) (fr dp : Int32) (ex : List Value) (M : Nat → Option va_E) (hci : ci = 1 ∨ ci = 3 ∨ ci = 4 ∨ ci = 6) (hM : M h0 = some (.inr (ci, .int 0 :: .int 0 :: .null :: .int 0 :: ex))) : Met l y_Nd_init (.code y_Nd_init b_Nd_init 4 none :: ww) ({ frames := 1, cells := 0, slots := 0, locals := 30 }) (hw_Pc D qcl (qty cI cJ cZ cN) [.ref h0, .int fr, .int dp, .ref la] M sz) (va_Qv (fun M1 => M1 = va_up M h0 (some (.inr (ci, .int fr :: .int dp :: .ref la :: .int (-1) :: ex)))) (hw_B D qcl (qty cI cJ cZ cN) M sz) (hw_A M sz)) 0 0 (hw_A M sz) := by
  refine hw_met (by decide) (Nat.le_of_ble_eq_true rfl) ?_
  intro p e s m below meth c hx hb hr hml hown hlocks hnm hts hsz hX hW ls hl
  subst hsz
  have hA : ∀ q, s.heap.size ≤ q → hw_A M s.heap.size q := fun q h => Or.inr h
  have hS : va_S (hw_A M s.heap.size) s.heap s.heap [] := va_S.rf
  have hl : lv_has ls 4 [(0, .ref h0), (1, .int fr), (2, .int dp), (3, .ref la)] := hl
  have hown : s.vm.findClass "QuantifierOut$Node" = some m.cls := hown
  refine lv_aload_n hx hb d_Nd_init_0 rfl (lv_at hl 0 rfl) ?_
  refine W.objInit hx hb hown (hts _ tw_223) (hts _ tw_25) (hts _ tw_26) rfl (by rw [hml]; exact hl.1) rfl d_Nd_init_1 (Nat.le_of_ble_eq_true rfl) (Nat.le_of_ble_eq_true rfl) ?_
  refine W.eq (g2 := F0 m 4 ls []) rfl ?_
  refine lv_aload_n hx hb d_Nd_init_4 rfl (lv_at hl 0 rfl) ?_
  refine lv_iload_n hx hb d_Nd_init_5 rfl (lv_at hl 1 rfl) ?_
  have step0 : ∀ (H1 : Heap) (locs1 : List Loc), hw_W D qcl (qty cI cJ cZ cN) (hw_A M s.heap.size) (va_up M h0 (some (.inr (ci, .int fr :: .int 0 :: .null :: .int 0 :: ex)))) s H1 → va_S (hw_A M s.heap.size) s.heap H1 locs1 → W p l e ({ frames := 1, cells := 0, slots := 0, locals := 30 }) s m [.ref h0, .int fr, .int dp, .ref la].toArray below meth c H1 locs1 0 0 (MQ below (va_Qv (fun M1 => M1 = va_up M h0 (some (.inr (ci, .int fr :: .int dp :: .ref la :: .int (-1) :: ex)))) (hw_B D qcl (qty cI cJ cZ cN) M s.heap.size) (hw_A M s.heap.size)) [.ref h0, .int fr, .int dp, .ref la].toArray s 0 0 (hw_A M s.heap.size)) (F0 m 9 ls []) := by
    intro H locs hW hS
    generalize hMn0 : va_up M h0 (some (.inr (ci, .int fr :: .int 0 :: .null :: .int 0 :: ex))) = Mn0 at hW
    have hMn0c : Mn0 h0 = some (.inr (ci, .int fr :: .int 0 :: .null :: .int 0 :: ex)) := by rw [← hMn0]; exact va_up_self _ _ _
    refine lv_aload_n hx hb d_Nd_init_9 rfl (lv_at hl 0 rfl) ?_
    refine lv_iload_n hx hb d_Nd_init_10 rfl (lv_at hl 2 rfl) ?_
    have step1 : ∀ (H1 : Heap) (locs1 : List Loc), hw_W D qcl (qty cI cJ cZ cN) (hw_A M s.heap.size) (va_up Mn0 h0 (some (.inr (ci, .int fr :: .int dp :: .null :: .int 0 :: ex)))) s H1 → va_S (hw_A M s.heap.size) s.heap H1 locs1 → W p l e ({ frames := 1, cells := 0, slots := 0, locals := 30 }) s m [.ref h0, .int fr, .int dp, .ref la].toArray below meth c H1 locs1 0 0 (MQ below (va_Qv (fun M1 => M1 = va_up M h0 (some (.inr (ci, .int fr :: .int dp :: .ref la :: .int (-1) :: ex)))) (hw_B D qcl (qty cI cJ cZ cN) M s.heap.size) (hw_A M s.heap.size)) [.ref h0, .int fr, .int dp, .ref la].toArray s 0 0 (hw_A M s.heap.size)) (F0 m 14 ls []) := by
      intro H locs hW hS
      generalize hMn1 : va_up Mn0 h0 (some (.inr (ci, .int fr :: .int dp :: .null :: .int 0 :: ex))) = Mn1 at hW
      have hMn1c : Mn1 h0 = some (.inr (ci, .int fr :: .int dp :: .null :: .int 0 :: ex)) := by rw [← hMn1]; exact va_up_self _ _ _
      refine lv_aload_n hx hb d_Nd_init_14 rfl (lv_at hl 0 rfl) ?_
      refine lv_aload_n hx hb d_Nd_init_15 rfl (lv_at hl 3 rfl) ?_
      have step2 : ∀ (H1 : Heap) (locs1 : List Loc), hw_W D qcl (qty cI cJ cZ cN) (hw_A M s.heap.size) (va_up Mn1 h0 (some (.inr (ci, .int fr :: .int dp :: .ref la :: .int 0 :: ex)))) s H1 → va_S (hw_A M s.heap.size) s.heap H1 locs1 → W p l e ({ frames := 1, cells := 0, slots := 0, locals := 30 }) s m [.ref h0, .int fr, .int dp, .ref la].toArray below meth c H1 locs1 0 0 (MQ below (va_Qv (fun M1 => M1 = va_up M h0 (some (.inr (ci, .int fr :: .int dp :: .ref la :: .int (-1) :: ex)))) (hw_B D qcl (qty cI cJ cZ cN) M s.heap.size) (hw_A M s.heap.size)) [.ref h0, .int fr, .int dp, .ref la].toArray s 0 0 (hw_A M s.heap.size)) (F0 m 19 ls []) := by
        intro H locs hW hS
        generalize hMn2 : va_up Mn1 h0 (some (.inr (ci, .int fr :: .int dp :: .ref la :: .int 0 :: ex))) = Mn2 at hW
        have hMn2c : Mn2 h0 = some (.inr (ci, .int fr :: .int dp :: .ref la :: .int 0 :: ex)) := by rw [← hMn2]; exact va_up_self _ _ _
        refine lv_aload_n hx hb d_Nd_init_19 rfl (lv_at hl 0 rfl) ?_
        refine lv_iconst (v := (-1)) hx hb d_Nd_init_20 (by decide) ?_
        have step3 : ∀ (H1 : Heap) (locs1 : List Loc), hw_W D qcl (qty cI cJ cZ cN) (hw_A M s.heap.size) (va_up Mn2 h0 (some (.inr (ci, .int fr :: .int dp :: .ref la :: .int (-1) :: ex)))) s H1 → va_S (hw_A M s.heap.size) s.heap H1 locs1 → W p l e ({ frames := 1, cells := 0, slots := 0, locals := 30 }) s m [.ref h0, .int fr, .int dp, .ref la].toArray below meth c H1 locs1 0 0 (MQ below (va_Qv (fun M1 => M1 = va_up M h0 (some (.inr (ci, .int fr :: .int dp :: .ref la :: .int (-1) :: ex)))) (hw_B D qcl (qty cI cJ cZ cN) M s.heap.size) (hw_A M s.heap.size)) [.ref h0, .int fr, .int dp, .ref la].toArray s 0 0 (hw_A M s.heap.size)) (F0 m 24 ls []) := by
          intro H locs hW hS
          generalize hMn3 : va_up Mn2 h0 (some (.inr (ci, .int fr :: .int dp :: .ref la :: .int (-1) :: ex))) = Mn3 at hW
          have hMn3c : Mn3 h0 = some (.inr (ci, .int fr :: .int dp :: .ref la :: .int (-1) :: ex)) := by rw [← hMn3]; exact va_up_self _ _ _
          refine hw_retv hx hb hr hlocks hW hS ?_ d_Nd_init_24
          rw [← hMn3, ← hMn2, ← hMn1, ← hMn0]
          funext x9; by_cases z9 : x9 = h0
          · rw [z9]; simp only [va_up_self]
          · simp only [va_up_ne _ _ z9]
        have hlen3 : 3 < (.int fr :: .int dp :: .ref la :: .int 0 :: ex : List Value).length := by show 3 < ex.length + 1 + 1 + 1 + 1; omega
        rcases hci with rfl | rfl | rfl | rfl
        · exact hw_put (own := "QuantifierOut$Node") (v := .int (-1)) (ty := .int) (C := "QuantifierOut$Atom") (T := F_At) (N := 8) hx hb hts i_At ft_At tk_At n_At hown hW hS hMn2c rfl 3 (by decide) (hts _ tw_246) (fun _ h9 => h9) rfl (tk_At 3 (by decide)) rfl rfl hlen3 d_Nd_init_21 step3
        · exact hw_put (own := "QuantifierOut$Node") (v := .int (-1)) (ty := .int) (C := "QuantifierOut$Negation") (T := F_Ng) (N := 5) hx hb hts i_Ng ft_Ng tk_Ng n_Ng hown hW hS hMn2c rfl 3 (by decide) (hts _ tw_246) (fun _ h9 => h9) rfl (tk_Ng 3 (by decide)) rfl rfl hlen3 d_Nd_init_21 step3
        · exact hw_put (own := "QuantifierOut$Node") (v := .int (-1)) (ty := .int) (C := "QuantifierOut$Pair") (T := F_Pr) (N := 7) hx hb hts i_Pr ft_Pr tk_Pr n_Pr hown hW hS hMn2c rfl 3 (by decide) (hts _ tw_246) (fun _ h9 => h9) rfl (tk_Pr 3 (by decide)) rfl rfl hlen3 d_Nd_init_21 step3
        · exact hw_put (own := "QuantifierOut$Node") (v := .int (-1)) (ty := .int) (C := "QuantifierOut$Quantified") (T := F_Qf) (N := 7) hx hb hts i_Qf ft_Qf tk_Qf n_Qf hown hW hS hMn2c rfl 3 (by decide) (hts _ tw_246) (fun _ h9 => h9) rfl (tk_Qf 3 (by decide)) rfl rfl hlen3 d_Nd_init_21 step3
      have hlen2 : 2 < (.int fr :: .int dp :: .null :: .int 0 :: ex : List Value).length := by show 2 < ex.length + 1 + 1 + 1 + 1; omega
      rcases hci with rfl | rfl | rfl | rfl
      · exact hw_putF (own := "QuantifierOut$Node") (v := .ref la) (ty := .array .int) (C := "QuantifierOut$Atom") (T := F_At) (N := 8) hx hb hts i_At ft_At tk_At n_At hown hW hS hMn1c rfl 2 (by decide) (hts _ tw_242) (fun _ h9 => h9) rfl hnm rfl (tk_At 2 (by decide)) rfl rfl hlen2 d_Nd_init_16 step2
      · exact hw_putF (own := "QuantifierOut$Node") (v := .ref la) (ty := .array .int) (C := "QuantifierOut$Negation") (T := F_Ng) (N := 5) hx hb hts i_Ng ft_Ng tk_Ng n_Ng hown hW hS hMn1c rfl 2 (by decide) (hts _ tw_242) (fun _ h9 => h9) rfl hnm rfl (tk_Ng 2 (by decide)) rfl rfl hlen2 d_Nd_init_16 step2
      · exact hw_putF (own := "QuantifierOut$Node") (v := .ref la) (ty := .array .int) (C := "QuantifierOut$Pair") (T := F_Pr) (N := 7) hx hb hts i_Pr ft_Pr tk_Pr n_Pr hown hW hS hMn1c rfl 2 (by decide) (hts _ tw_242) (fun _ h9 => h9) rfl hnm rfl (tk_Pr 2 (by decide)) rfl rfl hlen2 d_Nd_init_16 step2
      · exact hw_putF (own := "QuantifierOut$Node") (v := .ref la) (ty := .array .int) (C := "QuantifierOut$Quantified") (T := F_Qf) (N := 7) hx hb hts i_Qf ft_Qf tk_Qf n_Qf hown hW hS hMn1c rfl 2 (by decide) (hts _ tw_242) (fun _ h9 => h9) rfl hnm rfl (tk_Qf 2 (by decide)) rfl rfl hlen2 d_Nd_init_16 step2
    have hlen1 : 1 < (.int fr :: .int 0 :: .null :: .int 0 :: ex : List Value).length := by show 1 < ex.length + 1 + 1 + 1 + 1; omega
    rcases hci with rfl | rfl | rfl | rfl
    · exact hw_putF (own := "QuantifierOut$Node") (v := .int dp) (ty := .int) (C := "QuantifierOut$Atom") (T := F_At) (N := 8) hx hb hts i_At ft_At tk_At n_At hown hW hS hMn0c rfl 1 (by decide) (hts _ tw_234) (fun _ h9 => h9) rfl hnm rfl (tk_At 1 (by decide)) rfl rfl hlen1 d_Nd_init_11 step1
    · exact hw_putF (own := "QuantifierOut$Node") (v := .int dp) (ty := .int) (C := "QuantifierOut$Negation") (T := F_Ng) (N := 5) hx hb hts i_Ng ft_Ng tk_Ng n_Ng hown hW hS hMn0c rfl 1 (by decide) (hts _ tw_234) (fun _ h9 => h9) rfl hnm rfl (tk_Ng 1 (by decide)) rfl rfl hlen1 d_Nd_init_11 step1
    · exact hw_putF (own := "QuantifierOut$Node") (v := .int dp) (ty := .int) (C := "QuantifierOut$Pair") (T := F_Pr) (N := 7) hx hb hts i_Pr ft_Pr tk_Pr n_Pr hown hW hS hMn0c rfl 1 (by decide) (hts _ tw_234) (fun _ h9 => h9) rfl hnm rfl (tk_Pr 1 (by decide)) rfl rfl hlen1 d_Nd_init_11 step1
    · exact hw_putF (own := "QuantifierOut$Node") (v := .int dp) (ty := .int) (C := "QuantifierOut$Quantified") (T := F_Qf) (N := 7) hx hb hts i_Qf ft_Qf tk_Qf n_Qf hown hW hS hMn0c rfl 1 (by decide) (hts _ tw_234) (fun _ h9 => h9) rfl hnm rfl (tk_Qf 1 (by decide)) rfl rfl hlen1 d_Nd_init_11 step1
  have hlen0 : 0 < (.int 0 :: .int 0 :: .null :: .int 0 :: ex : List Value).length := by show 0 < ex.length + 1 + 1 + 1 + 1; omega
  rcases hci with rfl | rfl | rfl | rfl
  · exact hw_putF (own := "QuantifierOut$Node") (v := .int fr) (ty := .int) (C := "QuantifierOut$Atom") (T := F_At) (N := 8) hx hb hts i_At ft_At tk_At n_At hown hW hS hM rfl 0 (by decide) (hts _ tw_231) (fun _ h9 => h9) rfl hnm rfl (tk_At 0 (by decide)) rfl rfl hlen0 d_Nd_init_6 step0
  · exact hw_putF (own := "QuantifierOut$Node") (v := .int fr) (ty := .int) (C := "QuantifierOut$Negation") (T := F_Ng) (N := 5) hx hb hts i_Ng ft_Ng tk_Ng n_Ng hown hW hS hM rfl 0 (by decide) (hts _ tw_231) (fun _ h9 => h9) rfl hnm rfl (tk_Ng 0 (by decide)) rfl rfl hlen0 d_Nd_init_6 step0
  · exact hw_putF (own := "QuantifierOut$Node") (v := .int fr) (ty := .int) (C := "QuantifierOut$Pair") (T := F_Pr) (N := 7) hx hb hts i_Pr ft_Pr tk_Pr n_Pr hown hW hS hM rfl 0 (by decide) (hts _ tw_231) (fun _ h9 => h9) rfl hnm rfl (tk_Pr 0 (by decide)) rfl rfl hlen0 d_Nd_init_6 step0
  · exact hw_putF (own := "QuantifierOut$Node") (v := .int fr) (ty := .int) (C := "QuantifierOut$Quantified") (T := F_Qf) (N := 7) hx hb hts i_Qf ft_Qf tk_Qf n_Qf hown hW hS hM rfl 0 (by decide) (hts _ tw_231) (fun _ h9 => h9) rfl hnm rfl (tk_Qf 0 (by decide)) rfl rfl hlen0 d_Nd_init_6 step0
end G26
end
section
/-! Constructors of nodes; opposite -/
theorem nd_or (a b c d : Bool) : nd_fr a b ||| nd_fr c d = nd_fr (a || c) (b || d) := by cases a <;> cases b <;> cases c <;> cases d <;> decide
theorem nd_cut0 (a b : Bool) : nd_fr a b &&& (((1 : Int32) <<< (nI 0 &&& 31)) ^^^ (-1)) = nd_fr false b := by cases a <;> cases b <;> decide
theorem nd_cut1 (a b : Bool) : nd_fr a b &&& (((1 : Int32) <<< (nI 1 &&& 31)) ^^^ (-1)) = nd_fr a false := by cases a <;> cases b <;> decide
theorem nb_n (kk : Bool) : narrow .boolean (.int (if kk = true then 1 else 0)) = .int (if kk = true then 1 else 0) := by cases kk <;> rfl
theorem nb_f (kk : Bool) : fits .boolean (.int (if kk = true then 1 else 0)) = true := by cases kk <;> rfl
section G27
variable (l : Launch) (D : va_G) (cI cJ cZ cN : ClassId)
set_option maxHeartbeats 4000000 in
set_option maxRecDepth 100000 in
theorem c_At_init (h0 sz : Nat) (ca cb cc op : Int32) (M : Nat → Option va_E) (hM : M h0 = some (.inr (1, [.int 0, .int 0, .null, .int 0, .int 0, .int 0, .int 0, .int 0]))) : Met l y_At_init (.code y_At_init b_At_init 5 none :: ww) ({ frames := 2, cells := 1, slots := 3, locals := 60 }) (hw_Pc D qcl (qty cI cJ cZ cN) [.ref h0, .int ca, .int cb, .int cc, .int op] M sz) (va_Qv (fun M1 => ∃ la : Nat, M la = none ∧ M1 h0 = some (.inr (1, [.int 3, .int 0, .ref la, .int (-1), .int ca, .int cb, .int cc, .int op])) ∧ M1 la = some (.inl (cI, 3, .inl (upd (upd (upd (fun _ => 0) 0 ca) 1 cb) 2 cc))) ∧ ∀ x, x ≠ h0 → x ≠ la → M1 x = M x) (hw_B D qcl (qty cI cJ cZ cN) M sz) (hw_A M sz)) 1 3 (hw_A M sz) := by
  refine hw_met (by decide) (Nat.le_of_ble_eq_true rfl) ?_
  intro p e s m below meth c hx hb hr hml hown hlocks hnm hts hsz hX hW ls hl
  subst hsz
  have hA : ∀ q, s.heap.size ≤ q → hw_A M s.heap.size q := fun q h => Or.inr h
  have hS : va_S (hw_A M s.heap.size) s.heap s.heap [] := va_S.rf
  have hl : lv_has ls 5 [(0, .ref h0), (1, .int ca), (2, .int cb), (3, .int cc), (4, .int op)] := hl
  have hown : s.vm.findClass "QuantifierOut$Atom" = some m.cls := hown
  have hmono : ∀ x9, M x9 = none → M x9 = none := fun _ z9 => z9
  refine lv_aload_n hx hb d_At_init_0 rfl (lv_at hl 0 rfl) ?_
  refine lv_iconst (v := 3) hx hb d_At_init_1 (by decide) ?_
  refine lv_iconst (v := 0) hx hb d_At_init_2 (by decide) ?_
  refine lv_iconst (v := 3) hx hb d_At_init_3 (by decide) ?_
  refine hw_newi (N' := 3) hx hb (hts _ tw_96) hW hS hA 0 rfl (by decide) (by decide) (by decide) (Nat.le_of_ble_eq_true rfl) (Nat.le_of_ble_eq_true rfl) d_At_init_4 (fun la H hq_la hW hS => ?_)
  have hW : hw_W D qcl (qty cI cJ cZ cN) _ (va_up M la (some (.inl (cI, 3, .inl (fun _ => 0))))) s H := hW
  have n_h0_la : h0 ≠ la := hw_nq hM hq_la
  generalize hMw1 : va_up M la (some (.inl (cI, 3, .inl (fun _ => 0)))) = Mw1 at hW
  have hM : Mw1 h0 = some (.inr (1, [.int 0, .int 0, .null, .int 0, .int 0, .int 0, .int 0, .int 0])) := by rw [← hMw1, va_up_ne _ _ n_h0_la]; exact hM
  have hy_la : Mw1 la = some (.inl (cI, 3, .inl (fun _ => 0))) := by rw [← hMw1]; exact va_up_self _ _ _
  have z_la : M la = none := hmono la hq_la
  have hmono : ∀ x9, Mw1 x9 = none → M x9 = none := fun x9 z9 => hmono x9 (va_up_none (by rw [hMw1]; exact z9))
  have hfr_Mw1 : ∀ x9, x9 ≠ la → Mw1 x9 = M x9 := fun x9 z9 => by rw [← hMw1, va_up_ne _ _ z9]
  refine lv_dup hx hb d_At_init_6 rfl ?_
  refine lv_iconst (v := 0) hx hb d_At_init_7 (by decide) ?_
  refine lv_iload_n hx hb d_At_init_8 rfl (lv_at hl 1 rfl) ?_
  refine hw_ist hx hb hW hS 0 hy_la rfl 0 rfl (by omega) (by decide) d_At_init_9 (fun H locs hW hS => ?_)
  have hW : hw_W D qcl (qty cI cJ cZ cN) _ (va_up Mw1 la (some (.inl (cI, 3, .inl (upd (fun _ => 0) 0 ca))))) s H := hW
  generalize hMw2 : va_up Mw1 la (some (.inl (cI, 3, .inl (upd (fun _ => 0) 0 ca)))) = Mw2 at hW
  have hM : Mw2 h0 = some (.inr (1, [.int 0, .int 0, .null, .int 0, .int 0, .int 0, .int 0, .int 0])) := by rw [← hMw2, va_up_ne _ _ n_h0_la]; exact hM
  have hy_la : Mw2 la = some (.inl (cI, 3, .inl (upd (fun _ => 0) 0 ca))) := by rw [← hMw2]; exact va_up_self _ _ _
  have hmono : ∀ x9, Mw2 x9 = none → M x9 = none := fun x9 z9 => hmono x9 (va_up_none (by rw [hMw2]; exact z9))
  have hfr_Mw2 : ∀ x9, x9 ≠ la → Mw2 x9 = Mw1 x9 := fun x9 z9 => by rw [← hMw2, va_up_ne _ _ z9]
  refine lv_dup hx hb d_At_init_10 rfl ?_
  refine lv_iconst (v := 1) hx hb d_At_init_11 (by decide) ?_
  refine lv_iload_n hx hb d_At_init_12 rfl (lv_at hl 2 rfl) ?_
  refine hw_ist hx hb hW hS 0 hy_la rfl 1 rfl (by omega) (by decide) d_At_init_13 (fun H locs hW hS => ?_)
  have hW : hw_W D qcl (qty cI cJ cZ cN) _ (va_up Mw2 la (some (.inl (cI, 3, .inl (upd (upd (fun _ => 0) 0 ca) 1 cb))))) s H := hW
  generalize hMw3 : va_up Mw2 la (some (.inl (cI, 3, .inl (upd (upd (fun _ => 0) 0 ca) 1 cb)))) = Mw3 at hW
  have hM : Mw3 h0 = some (.inr (1, [.int 0, .int 0, .null, .int 0, .int 0, .int 0, .int 0, .int 0])) := by rw [← hMw3, va_up_ne _ _ n_h0_la]; exact hM
  have hy_la : Mw3 la = some (.inl (cI, 3, .inl (upd (upd (fun _ => 0) 0 ca) 1 cb))) := by rw [← hMw3]; exact va_up_self _ _ _
  have hmono : ∀ x9, Mw3 x9 = none → M x9 = none := fun x9 z9 => hmono x9 (va_up_none (by rw [hMw3]; exact z9))
  have hfr_Mw3 : ∀ x9, x9 ≠ la → Mw3 x9 = Mw2 x9 := fun x9 z9 => by rw [← hMw3, va_up_ne _ _ z9]
  refine lv_dup hx hb d_At_init_14 rfl ?_
  refine lv_iconst (v := 2) hx hb d_At_init_15 (by decide) ?_
  refine lv_iload_n hx hb d_At_init_16 rfl (lv_at hl 3 rfl) ?_
  refine hw_ist hx hb hW hS 0 hy_la rfl 2 rfl (by omega) (by decide) d_At_init_17 (fun H locs hW hS => ?_)
  have hW : hw_W D qcl (qty cI cJ cZ cN) _ (va_up Mw3 la (some (.inl (cI, 3, .inl (upd (upd (upd (fun _ => 0) 0 ca) 1 cb) 2 cc))))) s H := hW
  generalize hMw4 : va_up Mw3 la (some (.inl (cI, 3, .inl (upd (upd (upd (fun _ => 0) 0 ca) 1 cb) 2 cc)))) = Mw4 at hW
  have hM : Mw4 h0 = some (.inr (1, [.int 0, .int 0, .null, .int 0, .int 0, .int 0, .int 0, .int 0])) := by rw [← hMw4, va_up_ne _ _ n_h0_la]; exact hM
  have hy_la : Mw4 la = some (.inl (cI, 3, .inl (upd (upd (upd (fun _ => 0) 0 ca) 1 cb) 2 cc))) := by rw [← hMw4]; exact va_up_self _ _ _
  have hmono : ∀ x9, Mw4 x9 = none → M x9 = none := fun x9 z9 => hmono x9 (va_up_none (by rw [hMw4]; exact z9))
  have hfr_Mw4 : ∀ x9, x9 ≠ la → Mw4 x9 = Mw3 x9 := fun x9 z9 => by rw [← hMw4, va_up_ne _ _ z9]
  refine hw_callv (hw_runI (n := 3) (own := "QuantifierOut$Atom") (As := [.int 3, .int 0, .ref la]) (rest := []) hx hb hml hown hts hX hW hl.1 (c_Nd_init l D cI cJ cZ cN h0 1 la _ 3 0 [.int 0, .int 0, .int 0, .int 0] Mw4 (Or.inl rfl) hM) tw_220 tw_221 tw_11 tw_222 rfl (by decide +kernel) rfl rfl ⟨by decide, by decide⟩ rfl rfl (Nat.le_of_ble_eq_true rfl) d_At_init_18 ⟨by decide, by decide⟩) hW hS hA (fun Ms H locs hps hz hW hS => ?_)
  have hM : Ms h0 = some (.inr (1, [.int 3, .int 0, .ref la, .int (-1), .int 0, .int 0, .int 0, .int 0])) := by rw [hps]; exact va_up_self _ _ _
  have hla : Ms la = some (.inl (cI, 3, .inl (upd (upd (upd (fun _ => 0) 0 ca) 1 cb) 2 cc))) := by rw [hps, va_up_ne _ _ (Ne.symm n_h0_la)]; exact hy_la
  have hfs : ∀ x, x ≠ h0 → x ≠ la → Ms x = M x := fun x z1 z2 => by rw [hps, va_up_ne _ _ z1]; exact ((((hfr_Mw4 x z2)).trans (hfr_Mw3 x z2)).trans (hfr_Mw2 x z2)).trans (hfr_Mw1 x z2)
  refine lv_aload_n hx hb d_At_init_21 rfl (lv_at hl 0 rfl) ?_
  refine lv_iload_n hx hb d_At_init_22 rfl (lv_at hl 1 rfl) ?_
  refine hw_putF (own := "QuantifierOut$Atom") (v := .int ca) (ty := .int) hx hb hts i_At ft_At tk_At n_At hown hW hS hM rfl 4 (by decide) (hts _ tw_224) (fun _ h9 => h9) rfl hnm rfl (tk_At 4 (by decide)) rfl rfl (Nat.le_of_ble_eq_true rfl) d_At_init_23 (fun H locs hW hS => ?_)
  have hW : hw_W D qcl (qty cI cJ cZ cN) _ (va_up Ms h0 (some (.inr (1, [.int 3, .int 0, .ref la, .int (-1), .int ca, .int 0, .int 0, .int 0])))) s H := hW
  generalize hMw5 : va_up Ms h0 (some (.inr (1, [.int 3, .int 0, .ref la, .int (-1), .int ca, .int 0, .int 0, .int 0]))) = Mw5 at hW
  have hla : Mw5 la = some (.inl (cI, 3, .inl (upd (upd (upd (fun _ => 0) 0 ca) 1 cb) 2 cc))) := by rw [← hMw5, va_up_ne _ _ (Ne.symm n_h0_la)]; exact hla
  have hM : Mw5 h0 = some (.inr (1, [.int 3, .int 0, .ref la, .int (-1), .int ca, .int 0, .int 0, .int 0])) := by rw [← hMw5]; exact va_up_self _ _ _
  have hfr_Mw5 : ∀ x9, x9 ≠ h0 → Mw5 x9 = Ms x9 := fun x9 z9 => by rw [← hMw5, va_up_ne _ _ z9]
  refine lv_aload_n hx hb d_At_init_26 rfl (lv_at hl 0 rfl) ?_
  refine lv_iload_n hx hb d_At_init_27 rfl (lv_at hl 2 rfl) ?_
  refine hw_putF (own := "QuantifierOut$Atom") (v := .int cb) (ty := .int) hx hb hts i_At ft_At tk_At n_At hown hW hS hM rfl 5 (by decide) (hts _ tw_225) (fun _ h9 => h9) rfl hnm rfl (tk_At 5 (by decide)) rfl rfl (Nat.le_of_ble_eq_true rfl) d_At_init_28 (fun H locs hW hS => ?_)
  have hW : hw_W D qcl (qty cI cJ cZ cN) _ (va_up Mw5 h0 (some (.inr (1, [.int 3, .int 0, .ref la, .int (-1), .int ca, .int cb, .int 0, .int 0])))) s H := hW
  generalize hMw6 : va_up Mw5 h0 (some (.inr (1, [.int 3, .int 0, .ref la, .int (-1), .int ca, .int cb, .int 0, .int 0]))) = Mw6 at hW
  have hla : Mw6 la = some (.inl (cI, 3, .inl (upd (upd (upd (fun _ => 0) 0 ca) 1 cb) 2 cc))) := by rw [← hMw6, va_up_ne _ _ (Ne.symm n_h0_la)]; exact hla
  have hM : Mw6 h0 = some (.inr (1, [.int 3, .int 0, .ref la, .int (-1), .int ca, .int cb, .int 0, .int 0])) := by rw [← hMw6]; exact va_up_self _ _ _
  have hfr_Mw6 : ∀ x9, x9 ≠ h0 → Mw6 x9 = Mw5 x9 := fun x9 z9 => by rw [← hMw6, va_up_ne _ _ z9]
  refine lv_aload_n hx hb d_At_init_31 rfl (lv_at hl 0 rfl) ?_
  refine lv_iload_n hx hb d_At_init_32 rfl (lv_at hl 3 rfl) ?_
  refine hw_putF (own := "QuantifierOut$Atom") (v := .int cc) (ty := .int) hx hb hts i_At ft_At tk_At n_At hown hW hS hM rfl 6 (by decide) (hts _ tw_226) (fun _ h9 => h9) rfl hnm rfl (tk_At 6 (by decide)) rfl rfl (Nat.le_of_ble_eq_true rfl) d_At_init_33 (fun H locs hW hS => ?_)
  have hW : hw_W D qcl (qty cI cJ cZ cN) _ (va_up Mw6 h0 (some (.inr (1, [.int 3, .int 0, .ref la, .int (-1), .int ca, .int cb, .int cc, .int 0])))) s H := hW
  generalize hMw7 : va_up Mw6 h0 (some (.inr (1, [.int 3, .int 0, .ref la, .int (-1), .int ca, .int cb, .int cc, .int 0]))) = Mw7 at hW
  have hla : Mw7 la = some (.inl (cI, 3, .inl (upd (upd (upd (fun _ => 0) 0 ca) 1 cb) 2 cc))) := by rw [← hMw7, va_up_ne _ _ (Ne.symm n_h0_la)]; exact hla
  have hM : Mw7 h0 = some (.inr (1, [.int 3, .int 0, .ref la, .int (-1), .int ca, .int cb, .int cc, .int 0])) := by rw [← hMw7]; exact va_up_self _ _ _
  have hfr_Mw7 : ∀ x9, x9 ≠ h0 → Mw7 x9 = Mw6 x9 := fun x9 z9 => by rw [← hMw7, va_up_ne _ _ z9]
  refine lv_aload_n hx hb d_At_init_36 rfl (lv_at hl 0 rfl) ?_
  refine lv_iload hx hb d_At_init_37 (lv_at hl 4 rfl) ?_
  refine hw_putF (own := "QuantifierOut$Atom") (v := .int op) (ty := .int) hx hb hts i_At ft_At tk_At n_At hown hW hS hM rfl 7 (by decide) (hts _ tw_227) (fun _ h9 => h9) rfl hnm rfl (tk_At 7 (by decide)) rfl rfl (Nat.le_of_ble_eq_true rfl) d_At_init_39 (fun H locs hW hS => ?_)
  have hW : hw_W D qcl (qty cI cJ cZ cN) _ (va_up Mw7 h0 (some (.inr (1, [.int 3, .int 0, .ref la, .int (-1), .int ca, .int cb, .int cc, .int op])))) s H := hW
  generalize hMw8 : va_up Mw7 h0 (some (.inr (1, [.int 3, .int 0, .ref la, .int (-1), .int ca, .int cb, .int cc, .int op]))) = Mw8 at hW
  have hla : Mw8 la = some (.inl (cI, 3, .inl (upd (upd (upd (fun _ => 0) 0 ca) 1 cb) 2 cc))) := by rw [← hMw8, va_up_ne _ _ (Ne.symm n_h0_la)]; exact hla
  have hM : Mw8 h0 = some (.inr (1, [.int 3, .int 0, .ref la, .int (-1), .int ca, .int cb, .int cc, .int op])) := by rw [← hMw8]; exact va_up_self _ _ _
  have hfr_Mw8 : ∀ x9, x9 ≠ h0 → Mw8 x9 = Mw7 x9 := fun x9 z9 => by rw [← hMw8, va_up_ne _ _ z9]
  refine hw_retv hx hb hr hlocks hW hS ⟨la, z_la, hM, hla, fun x z1 z2 => ?_⟩ d_At_init_42
  exact (((((hfr_Mw8 x z1)).trans (hfr_Mw7 x z1)).trans (hfr_Mw6 x z1)).trans (hfr_Mw5 x z1)).trans (hfs x z1 z2)
set_option maxHeartbeats 4000000 in
set_option maxRecDepth 100000 in
theorem c_Ng_init (h0 sz : Nat) (b ci lb : Nat) (fr dp gr : Int32) (ex : List Value) (M : Nat → Option va_E) (hM : M h0 = some (.inr (3, [.int 0, .int 0, .null, .int 0, .null]))) (hb9 : nd_c M b ci fr dp lb gr ex) : Met l y_Ng_init (.code y_Ng_init b_Ng_init 2 none :: ww) ({ frames := 2, cells := 0, slots := 0, locals := 60 }) (hw_Pc D qcl (qty cI cJ cZ cN) [.ref h0, .ref b] M sz) (va_Qv (fun M1 => M1 h0 = some (.inr (3, [.int fr, .int dp, .ref lb, .int (-1), .ref b])) ∧ ∀ x, x ≠ h0 → M1 x = M x) (hw_B D qcl (qty cI cJ cZ cN) M sz) (hw_A M sz)) 0 0 (hw_A M sz) := by
  refine hw_met (by decide) (Nat.le_of_ble_eq_true rfl) ?_
  intro p e s m below meth c hx hb hr hml hown hlocks hnm hts hsz hX hW ls hl
  subst hsz
  have hA : ∀ q, s.heap.size ≤ q → hw_A M s.heap.size q := fun q h => Or.inr h
  have hS : va_S (hw_A M s.heap.size) s.heap s.heap [] := va_S.rf
  have hl : lv_has ls 2 [(0, .ref h0), (1, .ref b)] := hl
  have hown : s.vm.findClass "QuantifierOut$Negation" = some m.cls := hown
  refine lv_aload_n hx hb d_Ng_init_0 rfl (lv_at hl 0 rfl) ?_
  refine lv_aload_n hx hb d_Ng_init_1 rfl (lv_at hl 1 rfl) ?_
  refine nd_get0 (own := "QuantifierOut$Negation") hx hb hts hown hW hb9 tw_229 d_Ng_init_2 ?_
  refine lv_aload_n hx hb d_Ng_init_5 rfl (lv_at hl 1 rfl) ?_
  refine nd_get1 (own := "QuantifierOut$Negation") hx hb hts hown hW hb9 tw_233 d_Ng_init_6 ?_
  refine lv_aload_n hx hb d_Ng_init_9 rfl (lv_at hl 1 rfl) ?_
  refine nd_get2 (own := "QuantifierOut$Negation") hx hb hts hown hW hb9 tw_241 d_Ng_init_10 ?_
  refine hw_callv (hw_runI (n := 3) (own := "QuantifierOut$Negation") (As := [.int fr, .int dp, .ref lb]) (rest := []) hx hb hml hown hts hX hW hl.1 (c_Nd_init l D cI cJ cZ cN h0 3 lb _ fr dp [.null] M (Or.inr (Or.inl rfl)) hM) tw_367 tw_221 tw_11 tw_222 rfl (by decide +kernel) rfl rfl ⟨by decide, by decide⟩ rfl rfl (Nat.le_of_ble_eq_true rfl) d_Ng_init_13 ⟨by decide, by decide⟩) hW hS hA (fun Ms H locs hps hz hW hS => ?_)
  have hM : Ms h0 = some (.inr (3, [.int fr, .int dp, .ref lb, .int (-1), .null])) := by rw [hps]; exact va_up_self _ _ _
  refine lv_aload_n hx hb d_Ng_init_16 rfl (lv_at hl 0 rfl) ?_
  refine lv_aload_n hx hb d_Ng_init_17 rfl (lv_at hl 1 rfl) ?_
  refine hw_putF (own := "QuantifierOut$Negation") (v := .ref b) (ty := .object "QuantifierOut$Node") hx hb hts i_Ng ft_Ng tk_Ng n_Ng hown hW hS hM rfl 4 (by decide) (hts _ tw_368) (fun _ h9 => h9) rfl hnm rfl (tk_Ng 4 (by decide)) rfl rfl (Nat.le_of_ble_eq_true rfl) d_Ng_init_18 (fun H locs hW hS => ?_)
  have hW : hw_W D qcl (qty cI cJ cZ cN) _ (va_up Ms h0 (some (.inr (3, [.int fr, .int dp, .ref lb, .int (-1), .ref b])))) s H := hW
  generalize hMw1 : va_up Ms h0 (some (.inr (3, [.int fr, .int dp, .ref lb, .int (-1), .ref b]))) = Mw1 at hW
  have hM : Mw1 h0 = some (.inr (3, [.int fr, .int dp, .ref lb, .int (-1), .ref b])) := by rw [← hMw1]; exact va_up_self _ _ _
  have hfr_Mw1 : ∀ x9, x9 ≠ h0 → Mw1 x9 = Ms x9 := fun x9 z9 => by rw [← hMw1, va_up_ne _ _ z9]
  refine hw_retv hx hb hr hlocks hW hS ⟨hM, fun x z1 => ?_⟩ d_Ng_init_21
  exact ((hfr_Mw1 x z1)).trans (by rw [hps]; exact va_up_ne _ _ z1)
set_option maxHeartbeats 4000000 in
set_option maxRecDepth 100000 in
theorem c_Pr_join (l1 l2 n1 n2 sz : Nat) (F1 F2 : Nat → Int32) (M : Nat → Option va_E) (h1 : M l1 = some (.inl (cI, n1, .inl F1))) (h2 : M l2 = some (.inl (cI, n2, .inl F2))) (hn : n1 + n2 ≤ 18) : Met l y_Pr_join (.code y_Pr_join b_Pr_join 3 (some (.array .int)) :: ww) ({ frames := 1, cells := 1, slots := 18, locals := 60 }) (hw_Pc D qcl (qty cI cJ cZ cN) [.ref l1, .ref l2] M sz) (va_Qq (fun r M1 => ∃ (q : Nat) (F : Nat → Int32), r = some q ∧ M q = none ∧ M1 = va_up M q (some (.inl (cI, n1 + n2, .inl F))) ∧ (∀ i, i < n1 → F i = F1 i) ∧ ∀ i, i < n2 → F (n1 + i) = F2 i) (hw_B D qcl (qty cI cJ cZ cN) M sz) (hw_A M sz)) 1 18 (hw_A M sz) := by
  refine hw_met (by decide) (Nat.le_of_ble_eq_true rfl) ?_
  intro p e s m below meth c hx hb hr hml hown hlocks hnm hts hsz hX hW ls hl
  subst hsz
  have hA : ∀ q, s.heap.size ≤ q → hw_A M s.heap.size q := fun q h => Or.inr h
  have hS : va_S (hw_A M s.heap.size) s.heap s.heap [] := va_S.rf
  have hl : lv_has ls 3 [(0, .ref l1), (1, .ref l2)] := hl
  have hown : s.vm.findClass "QuantifierOut$Pair" = some m.cls := hown
  have hmono : ∀ x9, M x9 = none → M x9 = none := fun _ z9 => z9
  refine lv_aload_n hx hb d_Pr_join_0 rfl (lv_at hl 0 rfl) ?_
  refine hw_alen (v := (nI n1)) hx hb hW 0 h1 rfl (by rfl) d_Pr_join_1 ?_
  refine lv_aload_n hx hb d_Pr_join_2 rfl (lv_at hl 1 rfl) ?_
  refine hw_alen (v := (nI n2)) hx hb hW 0 h2 rfl (by rfl) d_Pr_join_3 ?_
  refine lv_iadd hx hb d_Pr_join_4 ?_
  refine lv_topi (fun x1 ex1 => ?_)
  have elen : x1 = nI (n1 + n2) := by rw [ex1]; exact nI_add n1 n2
  refine hw_newi (N' := (n1 + n2)) hx hb (hts _ tw_96) hW hS hA 0 rfl (by rw [elen]; exact nI_pos (by omega)) (by rw [elen]; exact nI_clamp (by omega)) (by omega) (Nat.le_of_ble_eq_true rfl) (by show 0 + (n1 + n2) ≤ 18; omega) d_Pr_join_5 (fun qj H hq_qj hW hS => ?_)
  have hW : hw_W D qcl (qty cI cJ cZ cN) _ (va_up M qj (some (.inl (cI, (n1 + n2), .inl (fun _ => 0))))) s H := hW
  have n_l1_qj : l1 ≠ qj := hw_nq h1 hq_qj
  have n_l2_qj : l2 ≠ qj := hw_nq h2 hq_qj
  generalize hMw2 : va_up M qj (some (.inl (cI, (n1 + n2), .inl (fun _ => 0)))) = Mw2 at hW
  have h1 : Mw2 l1 = some (.inl (cI, n1, .inl F1)) := by rw [← hMw2, va_up_ne _ _ n_l1_qj]; exact h1
  have h2 : Mw2 l2 = some (.inl (cI, n2, .inl F2)) := by rw [← hMw2, va_up_ne _ _ n_l2_qj]; exact h2
  have hy_qj : Mw2 qj = some (.inl (cI, (n1 + n2), .inl (fun _ => 0))) := by rw [← hMw2]; exact va_up_self _ _ _
  have z_qj : M qj = none := hmono qj hq_qj
  have hmono : ∀ x9, Mw2 x9 = none → M x9 = none := fun x9 z9 => hmono x9 (va_up_none (by rw [hMw2]; exact z9))
  have hfr_Mw2 : ∀ x9, x9 ≠ qj → Mw2 x9 = M x9 := fun x9 z9 => by rw [← hMw2, va_up_ne _ _ z9]
  refine W.widen (k := 1) (n := 18) (Nat.le_refl 1) (by omega) ?_
  refine lv_astore_n (lv' := [(2, .ref qj), (0, .ref l1), (1, .ref l2)]) hx hb d_Pr_join_7 rfl hl (by decide) rfl (fun ls hl => ?_)
  refine lv_aload_n hx hb d_Pr_join_8 rfl (lv_at hl 1 rfl) ?_
  refine lv_iconst (v := 0) hx hb d_Pr_join_9 (by decide) ?_
  refine lv_aload_n hx hb d_Pr_join_10 rfl (lv_at hl 0 rfl) ?_
  refine lv_iconst (v := 0) hx hb d_Pr_join_11 (by decide) ?_
  refine lv_aload_n hx hb d_Pr_join_12 rfl (lv_at hl 1 rfl) ?_
  refine hw_alen (v := (nI n1)) hx hb hW 0 h1 rfl (by rfl) d_Pr_join_13 ?_
  refine hw_cpi (own := "QuantifierOut$Pair") hx hb (by rw [hml]; exact hl.1.symm) hown hts tw_320 tw_322 tw_321 tw_16 hW hS 0 h1 hy_qj rfl 0 0 n1 rfl rfl rfl (by omega) (by omega) (by omega) (by omega) (by decide) (by decide) d_Pr_join_14 (fun H locs hW hS => ?_)
  have hW : hw_W D qcl (qty cI cJ cZ cN) _ (va_up Mw2 qj (some (.inl (cI, (n1 + n2), .inl (va_cpy F1 (fun _ => 0) 0 0 n1))))) s H := hW
  generalize hMw3 : va_up Mw2 qj (some (.inl (cI, (n1 + n2), .inl (va_cpy F1 (fun _ => 0) 0 0 n1)))) = Mw3 at hW
  have h1 : Mw3 l1 = some (.inl (cI, n1, .inl F1)) := by rw [← hMw3, va_up_ne _ _ n_l1_qj]; exact h1
  have h2 : Mw3 l2 = some (.inl (cI, n2, .inl F2)) := by rw [← hMw3, va_up_ne _ _ n_l2_qj]; exact h2
  have hy_qj : Mw3 qj = some (.inl (cI, (n1 + n2), .inl (va_cpy F1 (fun _ => 0) 0 0 n1))) := by rw [← hMw3]; exact va_up_self _ _ _
  have hmono : ∀ x9, Mw3 x9 = none → M x9 = none := fun x9 z9 => hmono x9 (va_up_none (by rw [hMw3]; exact z9))
  have hfr_Mw3 : ∀ x9, x9 ≠ qj → Mw3 x9 = Mw2 x9 := fun x9 z9 => by rw [← hMw3, va_up_ne _ _ z9]
  refine lv_aload_n hx hb d_Pr_join_17 rfl (lv_at hl 2 rfl) ?_
  refine lv_iconst (v := 0) hx hb d_Pr_join_18 (by decide) ?_
  refine lv_aload_n hx hb d_Pr_join_19 rfl (lv_at hl 0 rfl) ?_
  refine lv_aload_n hx hb d_Pr_join_20 rfl (lv_at hl 1 rfl) ?_
  refine hw_alen (v := (nI n1)) hx hb hW 0 h1 rfl (by rfl) d_Pr_join_21 ?_
  refine lv_aload_n hx hb d_Pr_join_22 rfl (lv_at hl 2 rfl) ?_
  refine hw_alen (v := (nI n2)) hx hb hW 0 h2 rfl (by rfl) d_Pr_join_23 ?_
  refine hw_cpi (own := "QuantifierOut$Pair") hx hb (by rw [hml]; exact hl.1.symm) hown hts tw_320 tw_322 tw_321 tw_16 hW hS 0 h2 hy_qj rfl 0 n1 n2 rfl rfl rfl (by omega) (by omega) (by omega) (by omega) (by decide) (by decide) d_Pr_join_24 (fun H locs hW hS => ?_)
  have hW : hw_W D qcl (qty cI cJ cZ cN) _ (va_up Mw3 qj (some (.inl (cI, (n1 + n2), .inl (va_cpy F2 (va_cpy F1 (fun _ => 0) 0 0 n1) 0 n1 n2))))) s H := hW
  generalize hMw4 : va_up Mw3 qj (some (.inl (cI, (n1 + n2), .inl (va_cpy F2 (va_cpy F1 (fun _ => 0) 0 0 n1) 0 n1 n2)))) = Mw4 at hW
  have h1 : Mw4 l1 = some (.inl (cI, n1, .inl F1)) := by rw [← hMw4, va_up_ne _ _ n_l1_qj]; exact h1
  have h2 : Mw4 l2 = some (.inl (cI, n2, .inl F2)) := by rw [← hMw4, va_up_ne _ _ n_l2_qj]; exact h2
  have hy_qj : Mw4 qj = some (.inl (cI, (n1 + n2), .inl (va_cpy F2 (va_cpy F1 (fun _ => 0) 0 0 n1) 0 n1 n2))) := by rw [← hMw4]; exact va_up_self _ _ _
  have hmono : ∀ x9, Mw4 x9 = none → M x9 = none := fun x9 z9 => hmono x9 (va_up_none (by rw [hMw4]; exact z9))
  have hfr_Mw4 : ∀ x9, x9 ≠ qj → Mw4 x9 = Mw3 x9 := fun x9 z9 => by rw [← hMw4, va_up_ne _ _ z9]
  refine lv_aload_n hx hb d_Pr_join_27 rfl (lv_at hl 0 rfl) ?_
  refine hw_reta hx hb hr (Or.inr ⟨_, rfl⟩) hlocks hW hS ⟨qj, va_cpy F2 (va_cpy F1 (fun _ => 0) 0 0 n1) 0 n1 n2, rfl, z_qj, ?_, ?_, ?_⟩ d_Pr_join_28
  · rw [← hMw4, ← hMw3]; funext x9; by_cases z9 : x9 = qj; rw [z9]; simp only [va_up_self]; simp only [va_up_ne _ _ z9]; exact hfr_Mw2 x9 z9
  · intro i hi; rw [pk_cpy_out (by omega), pk_cpy_in (by omega) (by omega)]; congr 1; omega
  · intro i hi; rw [pk_cpy_in (by omega) (by omega)]; congr 1; omega
set_option maxHeartbeats 4000000 in
set_option maxRecDepth 100000 in
theorem c_Pr_init (h0 sz b1 c1 l1 b2 c2 l2 n1 n2 : Nat) (fr1 dp1 gr1 fr2 dp2 gr2 : Int32) (ex1 ex2 : List Value) (F1 F2 : Nat → Int32) (kk : Bool) (M : Nat → Option va_E) (hM : M h0 = some (.inr (4, [.int 0, .int 0, .null, .int 0, .null, .null, .int 0]))) (hb1 : nd_c M b1 c1 fr1 dp1 l1 gr1 ex1) (hb2 : nd_c M b2 c2 fr2 dp2 l2 gr2 ex2) (hl1 : M l1 = some (.inl (cI, n1, .inl F1))) (hl2 : M l2 = some (.inl (cI, n2, .inl F2))) (hn : n1 + n2 ≤ 18) : Met l y_Pr_init (.code y_Pr_init b_Pr_init 4 none :: ww) ({ frames := 2, cells := 1, slots := 18, locals := 100 }) (hw_Pc D qcl (qty cI cJ cZ cN) [.ref h0, .ref b1, .ref b2, .int (if kk = true then 1 else 0)] M sz) (va_Qv (fun M1 => ∃ (la : Nat) (F : Nat → Int32), M la = none ∧ M1 h0 = some (.inr (4, [.int (fr1 ||| fr2), .int (if dp1 < dp2 then dp2 else dp1), .ref la, .int (-1), .ref b1, .ref b2, .int (if kk = true then 1 else 0)])) ∧ M1 la = some (.inl (cI, n1 + n2, .inl F)) ∧ (∀ i, i < n1 → F i = F1 i) ∧ (∀ i, i < n2 → F (n1 + i) = F2 i) ∧ ∀ x, x ≠ h0 → x ≠ la → M1 x = M x) (hw_B D qcl (qty cI cJ cZ cN) M sz) (hw_A M sz)) 1 18 (hw_A M sz) := by
  refine hw_met (by decide) (Nat.le_of_ble_eq_true rfl) ?_
  intro p e s m below meth c hx hb hr hml hown hlocks hnm hts hsz hX hW ls hl
  subst hsz
  have hA : ∀ q, s.heap.size ≤ q → hw_A M s.heap.size q := fun q h => Or.inr h
  have hS : va_S (hw_A M s.heap.size) s.heap s.heap [] := va_S.rf
  have hl : lv_has ls 4 [(0, .ref h0), (1, .ref b1), (2, .ref b2), (3, .int (if kk = true then 1 else 0))] := hl
  have hown : s.vm.findClass "QuantifierOut$Pair" = some m.cls := hown
  refine lv_aload_n hx hb d_Pr_init_0 rfl (lv_at hl 0 rfl) ?_
  refine lv_aload_n hx hb d_Pr_init_1 rfl (lv_at hl 1 rfl) ?_
  refine nd_get0 (own := "QuantifierOut$Pair") hx hb hts hown hW hb1 tw_228 d_Pr_init_2 ?_
  refine lv_aload_n hx hb d_Pr_init_5 rfl (lv_at hl 2 rfl) ?_
  refine nd_get0 (own := "QuantifierOut$Pair") hx hb hts hown hW hb2 tw_228 d_Pr_init_6 ?_
  refine lv_ior hx hb d_Pr_init_9 ?_
  refine lv_topi (fun x1 ex1 => ?_)
  refine lv_aload_n hx hb d_Pr_init_10 rfl (lv_at hl 1 rfl) ?_
  refine nd_get1 (own := "QuantifierOut$Pair") hx hb hts hown hW hb1 tw_235 d_Pr_init_11 ?_
  refine lv_aload_n hx hb d_Pr_init_14 rfl (lv_at hl 2 rfl) ?_
  refine nd_get1 (own := "QuantifierOut$Pair") hx hb hts hown hW hb2 tw_235 d_Pr_init_15 ?_
  refine va_mmax (own := "QuantifierOut$Pair") (x := dp1) (y := dp2) hx hb (by rw [hml]; exact hl.1.symm) hown (hts _ tw_314) (hts _ tw_315) (hts _ tw_15) (hts _ tw_316) (by decide) (Nat.le_of_ble_eq_true rfl) (by decide) (by decide) d_Pr_init_18 ?_
  refine lv_aload_n hx hb d_Pr_init_21 rfl (lv_at hl 1 rfl) ?_
  refine nd_get2 (own := "QuantifierOut$Pair") hx hb hts hown hW hb1 tw_244 d_Pr_init_22 ?_
  refine lv_aload_n hx hb d_Pr_init_25 rfl (lv_at hl 2 rfl) ?_
  refine nd_get2 (own := "QuantifierOut$Pair") hx hb hts hown hW hb2 tw_244 d_Pr_init_26 ?_
  refine hw_callq (hw_runS (n := 2) (own := "QuantifierOut$Pair") (As := [.ref l1, .ref l2]) (rest := [.int (if dp1 < dp2 then dp2 else dp1), .int x1, .ref h0]) hx hb hml hown hts hX hW hl.1 (c_Pr_join l D cI cJ cZ cN l1 l2 n1 n2 _ F1 F2 M hl1 hl2 hn) tw_317 tw_318 tw_14 tw_319 (by decide +kernel) rfl rfl ⟨by decide, by decide⟩ rfl rfl (Nat.le_of_ble_eq_true rfl) d_Pr_init_29 ⟨by decide, by decide⟩) hW hS hA (fun rj Mj H locs hpj hz hW hS => ?_)
  obtain ⟨la, F, erj, hla0, eMj, hF1, hF2⟩ := hpj
  subst erj
  have hjh : h0 ≠ la := hw_nq hM hla0
  have hMj : Mj h0 = some (.inr (4, [.int 0, .int 0, .null, .int 0, .null, .null, .int 0])) := by rw [eMj, va_up_ne _ _ hjh]; exact hM
  refine hw_callv (hw_runI (n := 3) (own := "QuantifierOut$Pair") (As := [.int x1, .int (if dp1 < dp2 then dp2 else dp1), .ref la]) (rest := []) hx hb hml hown hts hX hW hl.1 (c_Nd_init l D cI cJ cZ cN h0 4 la _ x1 (if dp1 < dp2 then dp2 else dp1) [.null, .null, .int 0] Mj (Or.inr (Or.inr (Or.inl rfl))) hMj) tw_323 tw_221 tw_11 tw_222 rfl (by decide +kernel) rfl rfl ⟨by decide, by decide⟩ rfl rfl (Nat.le_of_ble_eq_true rfl) d_Pr_init_32 ⟨by decide, by decide⟩) hW hS hA (fun Ms H locs hps hz hW hS => ?_)
  have hM : Ms h0 = some (.inr (4, [.int (fr1 ||| fr2), .int (if dp1 < dp2 then dp2 else dp1), .ref la, .int (-1), .null, .null, .int 0])) := by rw [hps, ex1]; exact va_up_self _ _ _
  have hla : Ms la = some (.inl (cI, n1 + n2, .inl F)) := by rw [hps, va_up_ne _ _ (Ne.symm hjh), eMj]; exact va_up_self _ _ _
  have hfs : ∀ x, x ≠ h0 → x ≠ la → Ms x = M x := fun x z1 z2 => by rw [hps, va_up_ne _ _ z1, eMj, va_up_ne _ _ z2]
  refine lv_aload_n hx hb d_Pr_init_35 rfl (lv_at hl 0 rfl) ?_
  refine lv_aload_n hx hb d_Pr_init_36 rfl (lv_at hl 1 rfl) ?_
  refine hw_putF (own := "QuantifierOut$Pair") (v := .ref b1) (ty := .object "QuantifierOut$Node") hx hb hts i_Pr ft_Pr tk_Pr n_Pr hown hW hS hM rfl 4 (by decide) (hts _ tw_324) (fun _ h9 => h9) rfl hnm rfl (tk_Pr 4 (by decide)) rfl rfl (Nat.le_of_ble_eq_true rfl) d_Pr_init_37 (fun H locs hW hS => ?_)
  have hW : hw_W D qcl (qty cI cJ cZ cN) _ (va_up Ms h0 (some (.inr (4, [.int (fr1 ||| fr2), .int (if dp1 < dp2 then dp2 else dp1), .ref la, .int (-1), .ref b1, .null, .int 0])))) s H := hW
  generalize hMw2 : va_up Ms h0 (some (.inr (4, [.int (fr1 ||| fr2), .int (if dp1 < dp2 then dp2 else dp1), .ref la, .int (-1), .ref b1, .null, .int 0]))) = Mw2 at hW
  have n_la_h0 : la ≠ h0 := (hw_ne hla hM (by simp))
  have hla : Mw2 la = some (.inl (cI, (n1 + n2), .inl F)) := by rw [← hMw2, va_up_ne _ _ n_la_h0]; exact hla
  have hM : Mw2 h0 = some (.inr (4, [.int (fr1 ||| fr2), .int (if dp1 < dp2 then dp2 else dp1), .ref la, .int (-1), .ref b1, .null, .int 0])) := by rw [← hMw2]; exact va_up_self _ _ _
  have hfr_Mw2 : ∀ x9, x9 ≠ h0 → Mw2 x9 = Ms x9 := fun x9 z9 => by rw [← hMw2, va_up_ne _ _ z9]
  refine lv_aload_n hx hb d_Pr_init_40 rfl (lv_at hl 0 rfl) ?_
  refine lv_aload_n hx hb d_Pr_init_41 rfl (lv_at hl 2 rfl) ?_
  refine hw_putF (own := "QuantifierOut$Pair") (v := .ref b2) (ty := .object "QuantifierOut$Node") hx hb hts i_Pr ft_Pr tk_Pr n_Pr hown hW hS hM rfl 5 (by decide) (hts _ tw_325) (fun _ h9 => h9) rfl hnm rfl (tk_Pr 5 (by decide)) rfl rfl (Nat.le_of_ble_eq_true rfl) d_Pr_init_42 (fun H locs hW hS => ?_)
  have hW : hw_W D qcl (qty cI cJ cZ cN) _ (va_up Mw2 h0 (some (.inr (4, [.int (fr1 ||| fr2), .int (if dp1 < dp2 then dp2 else dp1), .ref la, .int (-1), .ref b1, .ref b2, .int 0])))) s H := hW
  generalize hMw3 : va_up Mw2 h0 (some (.inr (4, [.int (fr1 ||| fr2), .int (if dp1 < dp2 then dp2 else dp1), .ref la, .int (-1), .ref b1, .ref b2, .int 0]))) = Mw3 at hW
  have hla : Mw3 la = some (.inl (cI, (n1 + n2), .inl F)) := by rw [← hMw3, va_up_ne _ _ n_la_h0]; exact hla
  have hM : Mw3 h0 = some (.inr (4, [.int (fr1 ||| fr2), .int (if dp1 < dp2 then dp2 else dp1), .ref la, .int (-1), .ref b1, .ref b2, .int 0])) := by rw [← hMw3]; exact va_up_self _ _ _
  have hfr_Mw3 : ∀ x9, x9 ≠ h0 → Mw3 x9 = Mw2 x9 := fun x9 z9 => by rw [← hMw3, va_up_ne _ _ z9]
  refine lv_aload_n hx hb d_Pr_init_45 rfl (lv_at hl 0 rfl) ?_
  refine lv_iload_n hx hb d_Pr_init_46 rfl (lv_at hl 3 rfl) ?_
  refine hw_putF (own := "QuantifierOut$Pair") (v := .int (if kk = true then 1 else 0)) (ty := .boolean) hx hb hts i_Pr ft_Pr tk_Pr n_Pr hown hW hS hM rfl 6 (by decide) (hts _ tw_326) (fun _ h9 => h9) rfl hnm rfl (tk_Pr 6 (by decide)) (nb_n kk) (nb_f kk) (Nat.le_of_ble_eq_true rfl) d_Pr_init_47 (fun H locs hW hS => ?_)
  have hW : hw_W D qcl (qty cI cJ cZ cN) _ (va_up Mw3 h0 (some (.inr (4, [.int (fr1 ||| fr2), .int (if dp1 < dp2 then dp2 else dp1), .ref la, .int (-1), .ref b1, .ref b2, .int (if kk = true then 1 else 0)])))) s H := hW
  generalize hMw4 : va_up Mw3 h0 (some (.inr (4, [.int (fr1 ||| fr2), .int (if dp1 < dp2 then dp2 else dp1), .ref la, .int (-1), .ref b1, .ref b2, .int (if kk = true then 1 else 0)]))) = Mw4 at hW
  have hla : Mw4 la = some (.inl (cI, (n1 + n2), .inl F)) := by rw [← hMw4, va_up_ne _ _ n_la_h0]; exact hla
  have hM : Mw4 h0 = some (.inr (4, [.int (fr1 ||| fr2), .int (if dp1 < dp2 then dp2 else dp1), .ref la, .int (-1), .ref b1, .ref b2, .int (if kk = true then 1 else 0)])) := by rw [← hMw4]; exact va_up_self _ _ _
  have hfr_Mw4 : ∀ x9, x9 ≠ h0 → Mw4 x9 = Mw3 x9 := fun x9 z9 => by rw [← hMw4, va_up_ne _ _ z9]
  refine hw_retv hx hb hr hlocks hW hS ⟨la, F, hla0, hM, hla, hF1, hF2, fun x z1 z2 => ?_⟩ d_Pr_init_50
  exact ((((hfr_Mw4 x z1)).trans (hfr_Mw3 x z1)).trans (hfr_Mw2 x z1)).trans (hfs x z1 z2)
set_option maxHeartbeats 4000000 in
set_option maxRecDepth 100000 in
theorem c_Qf_init (h0 sz j : Nat) (b ci lb : Nat) (fr dp gr : Int32) (ex : List Value) (kk : Bool) (M : Nat → Option va_E) (hM : M h0 = some (.inr (6, [.int 0, .int 0, .null, .int 0, .int 0, .null, .int 0]))) (hb9 : nd_c M b ci fr dp lb gr ex) : Met l y_Qf_init (.code y_Qf_init b_Qf_init 4 none :: ww) ({ frames := 2, cells := 0, slots := 0, locals := 60 }) (hw_Pc D qcl (qty cI cJ cZ cN) [.ref h0, .int (nI j), .ref b, .int (if kk = true then 1 else 0)] M sz) (va_Qv (fun M1 => M1 h0 = some (.inr (6, [.int (fr &&& (((1 : Int32) <<< (nI j &&& 31)) ^^^ (-1))), .int (dp + 1), .ref lb, .int (-1), .int (nI j), .ref b, .int (if kk = true then 1 else 0)])) ∧ ∀ x, x ≠ h0 → M1 x = M x) (hw_B D qcl (qty cI cJ cZ cN) M sz) (hw_A M sz)) 0 0 (hw_A M sz) := by
  refine hw_met (by decide) (Nat.le_of_ble_eq_true rfl) ?_
  intro p e s m below meth c hx hb hr hml hown hlocks hnm hts hsz hX hW ls hl
  subst hsz
  have hA : ∀ q, s.heap.size ≤ q → hw_A M s.heap.size q := fun q h => Or.inr h
  have hS : va_S (hw_A M s.heap.size) s.heap s.heap [] := va_S.rf
  have hl : lv_has ls 4 [(0, .ref h0), (1, .int (nI j)), (2, .ref b), (3, .int (if kk = true then 1 else 0))] := hl
  have hown : s.vm.findClass "QuantifierOut$Quantified" = some m.cls := hown
  refine lv_aload_n hx hb d_Qf_init_0 rfl (lv_at hl 0 rfl) ?_
  refine lv_aload_n hx hb d_Qf_init_1 rfl (lv_at hl 2 rfl) ?_
  refine nd_get0 (own := "QuantifierOut$Quantified") hx hb hts hown hW hb9 tw_230 d_Qf_init_2 ?_
  refine lv_iconst (v := 1) hx hb d_Qf_init_5 (by decide) ?_
  refine lv_iload_n hx hb d_Qf_init_6 rfl (lv_at hl 1 rfl) ?_
  refine lv_ishl hx hb d_Qf_init_7 ?_
  refine lv_topi (fun x1 ex1 => ?_)
  refine lv_iconst (v := (-1)) hx hb d_Qf_init_8 (by decide) ?_
  refine lv_ixor hx hb d_Qf_init_9 ?_
  refine lv_topi (fun x2 ex2 => ?_)
  refine lv_iand hx hb d_Qf_init_10 ?_
  refine lv_topi (fun x3 ex3 => ?_)
  refine lv_aload_n hx hb d_Qf_init_11 rfl (lv_at hl 2 rfl) ?_
  refine nd_get1 (own := "QuantifierOut$Quantified") hx hb hts hown hW hb9 tw_236 d_Qf_init_12 ?_
  refine lv_iconst (v := 1) hx hb d_Qf_init_15 (by decide) ?_
  refine lv_iadd hx hb d_Qf_init_16 ?_
  refine lv_topi (fun x4 ex4 => ?_)
  refine lv_aload_n hx hb d_Qf_init_17 rfl (lv_at hl 2 rfl) ?_
  refine nd_get2 (own := "QuantifierOut$Quantified") hx hb hts hown hW hb9 tw_243 d_Qf_init_18 ?_
  refine hw_callv (hw_runI (n := 3) (own := "QuantifierOut$Quantified") (As := [.int x3, .int x4, .ref lb]) (rest := []) hx hb hml hown hts hX hW hl.1 (c_Nd_init l D cI cJ cZ cN h0 6 lb _ x3 x4 [.int 0, .null, .int 0] M (Or.inr (Or.inr (Or.inr rfl))) hM) tw_394 tw_221 tw_11 tw_222 rfl (by decide +kernel) rfl rfl ⟨by decide, by decide⟩ rfl rfl (Nat.le_of_ble_eq_true rfl) d_Qf_init_21 ⟨by decide, by decide⟩) hW hS hA (fun Ms H locs hps hz hW hS => ?_)
  have efr : x3 = fr &&& (((1 : Int32) <<< (nI j &&& 31)) ^^^ (-1)) := by rw [ex3, ex2, ex1]
  have hM : Ms h0 = some (.inr (6, [.int (fr &&& (((1 : Int32) <<< (nI j &&& 31)) ^^^ (-1))), .int (dp + 1), .ref lb, .int (-1), .int 0, .null, .int 0])) := by rw [hps, efr, ex4]; exact va_up_self _ _ _
  refine lv_aload_n hx hb d_Qf_init_24 rfl (lv_at hl 0 rfl) ?_
  refine lv_iload_n hx hb d_Qf_init_25 rfl (lv_at hl 1 rfl) ?_
  refine hw_putF (own := "QuantifierOut$Quantified") (v := .int (nI j)) (ty := .int) hx hb hts i_Qf ft_Qf tk_Qf n_Qf hown hW hS hM rfl 4 (by decide) (hts _ tw_395) (fun _ h9 => h9) rfl hnm rfl (tk_Qf 4 (by decide)) rfl rfl (Nat.le_of_ble_eq_true rfl) d_Qf_init_26 (fun H locs hW hS => ?_)
  have hW : hw_W D qcl (qty cI cJ cZ cN) _ (va_up Ms h0 (some (.inr (6, [.int (fr &&& (((1 : Int32) <<< (nI j &&& 31)) ^^^ (-1))), .int (dp + 1), .ref lb, .int (-1), .int (nI j), .null, .int 0])))) s H := hW
  generalize hMw5 : va_up Ms h0 (some (.inr (6, [.int (fr &&& (((1 : Int32) <<< (nI j &&& 31)) ^^^ (-1))), .int (dp + 1), .ref lb, .int (-1), .int (nI j), .null, .int 0]))) = Mw5 at hW
  have hM : Mw5 h0 = some (.inr (6, [.int (fr &&& (((1 : Int32) <<< (nI j &&& 31)) ^^^ (-1))), .int (dp + 1), .ref lb, .int (-1), .int (nI j), .null, .int 0])) := by rw [← hMw5]; exact va_up_self _ _ _
  have hfr_Mw5 : ∀ x9, x9 ≠ h0 → Mw5 x9 = Ms x9 := fun x9 z9 => by rw [← hMw5, va_up_ne _ _ z9]
  refine lv_aload_n hx hb d_Qf_init_29 rfl (lv_at hl 0 rfl) ?_
  refine lv_aload_n hx hb d_Qf_init_30 rfl (lv_at hl 2 rfl) ?_
  refine hw_putF (own := "QuantifierOut$Quantified") (v := .ref b) (ty := .object "QuantifierOut$Node") hx hb hts i_Qf ft_Qf tk_Qf n_Qf hown hW hS hM rfl 5 (by decide) (hts _ tw_396) (fun _ h9 => h9) rfl hnm rfl (tk_Qf 5 (by decide)) rfl rfl (Nat.le_of_ble_eq_true rfl) d_Qf_init_31 (fun H locs hW hS => ?_)
  have hW : hw_W D qcl (qty cI cJ cZ cN) _ (va_up Mw5 h0 (some (.inr (6, [.int (fr &&& (((1 : Int32) <<< (nI j &&& 31)) ^^^ (-1))), .int (dp + 1), .ref lb, .int (-1), .int (nI j), .ref b, .int 0])))) s H := hW
  generalize hMw6 : va_up Mw5 h0 (some (.inr (6, [.int (fr &&& (((1 : Int32) <<< (nI j &&& 31)) ^^^ (-1))), .int (dp + 1), .ref lb, .int (-1), .int (nI j), .ref b, .int 0]))) = Mw6 at hW
  have hM : Mw6 h0 = some (.inr (6, [.int (fr &&& (((1 : Int32) <<< (nI j &&& 31)) ^^^ (-1))), .int (dp + 1), .ref lb, .int (-1), .int (nI j), .ref b, .int 0])) := by rw [← hMw6]; exact va_up_self _ _ _
  have hfr_Mw6 : ∀ x9, x9 ≠ h0 → Mw6 x9 = Mw5 x9 := fun x9 z9 => by rw [← hMw6, va_up_ne _ _ z9]
  refine lv_aload_n hx hb d_Qf_init_34 rfl (lv_at hl 0 rfl) ?_
  refine lv_iload_n hx hb d_Qf_init_35 rfl (lv_at hl 3 rfl) ?_
  refine hw_putF (own := "QuantifierOut$Quantified") (v := .int (if kk = true then 1 else 0)) (ty := .boolean) hx hb hts i_Qf ft_Qf tk_Qf n_Qf hown hW hS hM rfl 6 (by decide) (hts _ tw_397) (fun _ h9 => h9) rfl hnm rfl (tk_Qf 6 (by decide)) (nb_n kk) (nb_f kk) (Nat.le_of_ble_eq_true rfl) d_Qf_init_36 (fun H locs hW hS => ?_)
  have hW : hw_W D qcl (qty cI cJ cZ cN) _ (va_up Mw6 h0 (some (.inr (6, [.int (fr &&& (((1 : Int32) <<< (nI j &&& 31)) ^^^ (-1))), .int (dp + 1), .ref lb, .int (-1), .int (nI j), .ref b, .int (if kk = true then 1 else 0)])))) s H := hW
  generalize hMw7 : va_up Mw6 h0 (some (.inr (6, [.int (fr &&& (((1 : Int32) <<< (nI j &&& 31)) ^^^ (-1))), .int (dp + 1), .ref lb, .int (-1), .int (nI j), .ref b, .int (if kk = true then 1 else 0)]))) = Mw7 at hW
  have hM : Mw7 h0 = some (.inr (6, [.int (fr &&& (((1 : Int32) <<< (nI j &&& 31)) ^^^ (-1))), .int (dp + 1), .ref lb, .int (-1), .int (nI j), .ref b, .int (if kk = true then 1 else 0)])) := by rw [← hMw7]; exact va_up_self _ _ _
  have hfr_Mw7 : ∀ x9, x9 ≠ h0 → Mw7 x9 = Mw6 x9 := fun x9 z9 => by rw [← hMw7, va_up_ne _ _ z9]
  refine hw_retv hx hb hr hlocks hW hS ⟨hM, fun x z1 => ?_⟩ d_Qf_init_39
  exact ((((hfr_Mw7 x z1)).trans (hfr_Mw6 x z1)).trans (hfr_Mw5 x z1)).trans (by rw [hps]; exact va_up_ne _ _ z1)
set_option maxHeartbeats 4000000 in
set_option maxRecDepth 100000 in
theorem c_Nd_opposite (sz : Nat) (b ci lb : Nat) (fr dp gr : Int32) (ex : List Value) (M : Nat → Option va_E) (hb9 : nd_c M b ci fr dp lb gr ex) : Met l y_Nd_opposite (.code y_Nd_opposite b_Nd_opposite 1 (some (.object "QuantifierOut$Node")) :: ww) ({ frames := 3, cells := 1, slots := 5, locals := 90 }) (hw_Pc D qcl (qty cI cJ cZ cN) [.ref b] M sz) (va_Qq (fun r M1 => ∃ q : Nat, r = some q ∧ M q = none ∧ M1 q = some (.inr (3, [.int fr, .int dp, .ref lb, .int (-1), .ref b])) ∧ ∀ x, x ≠ q → M1 x = M x) (hw_B D qcl (qty cI cJ cZ cN) M sz) (hw_A M sz)) 1 5 (hw_A M sz) := by
  refine hw_met (by decide) (Nat.le_of_ble_eq_true rfl) ?_
  intro p e s m below meth c hx hb hr hml hown hlocks hnm hts hsz hX hW ls hl
  subst hsz
  have hA : ∀ q, s.heap.size ≤ q → hw_A M s.heap.size q := fun q h => Or.inr h
  have hS : va_S (hw_A M s.heap.size) s.heap s.heap [] := va_S.rf
  have hl : lv_has ls 1 [(0, .ref b)] := hl
  have hown : s.vm.findClass "QuantifierOut$Node" = some m.cls := hown
  have hmono : ∀ x9, M x9 = none → M x9 = none := fun _ z9 => z9
  refine hw_new (ci := 3) (own := "QuantifierOut$Node") (fs := [.int 0, .int 0, .null, .int 0, .null]) hx hb hts i_Ng ft_Ng tk_Ng hown (hts _ tw_362) (hts _ tw_363) (hts _ tw_17) hW hS hA rfl (by intro j9 hj9; rcases (show j9 = 0 ∨ j9 = 1 ∨ j9 = 2 ∨ j9 = 3 ∨ j9 = 4 by omega) with rfl | rfl | rfl | rfl | rfl <;> rfl) (Nat.le_of_ble_eq_true rfl) (Nat.le_of_ble_eq_true rfl) d_Nd_opposite_0 (fun q H hq_q hW hS => ?_)
  have hW : hw_W D qcl (qty cI cJ cZ cN) _ (va_up M q (some (.inr (3, [.int 0, .int 0, .null, .int 0, .null])))) s H := hW
  generalize hMw1 : va_up M q (some (.inr (3, [.int 0, .int 0, .null, .int 0, .null]))) = Mw1 at hW
  have n_b_q : b ≠ q := hw_nq hb9.2 hq_q
  have hb9 : nd_c Mw1 b ci fr dp lb gr ex := ⟨hb9.1, by rw [← hMw1, va_up_ne _ _ n_b_q]; exact hb9.2⟩
  have hy_q : Mw1 q = some (.inr (3, [.int 0, .int 0, .null, .int 0, .null])) := by rw [← hMw1]; exact va_up_self _ _ _
  have z_q : M q = none := hmono q hq_q
  have hmono : ∀ x9, Mw1 x9 = none → M x9 = none := fun x9 z9 => hmono x9 (va_up_none (by rw [hMw1]; exact z9))
  have hfr_Mw1 : ∀ x9, x9 ≠ q → Mw1 x9 = M x9 := fun x9 z9 => by rw [← hMw1, va_up_ne _ _ z9]
  refine lv_dup hx hb d_Nd_opposite_3 rfl ?_
  refine lv_aload_n hx hb d_Nd_opposite_4 rfl (lv_at hl 0 rfl) ?_
  refine hw_callv (hw_runI (n := 1) (own := "QuantifierOut$Node") (As := [.ref b]) (rest := [.ref q]) hx hb hml hown hts hX hW hl.1 (c_Ng_init l D cI cJ cZ cN q _ b ci lb fr dp gr ex Mw1 hy_q hb9) tw_364 tw_365 tw_17 tw_366 rfl (by decide +kernel) rfl rfl ⟨by decide, by decide⟩ rfl rfl (Nat.le_of_ble_eq_true rfl) d_Nd_opposite_5 ⟨by decide, by decide⟩) hW hS hA (fun Ms H locs hps hz hW hS => ?_)
  exact hw_reta hx hb hr (Or.inl ⟨_, rfl⟩) hlocks hW hS ⟨q, rfl, z_q, hps.1, fun x z1 => (hps.2 x z1).trans (hfr_Mw1 x z1)⟩ d_Nd_opposite_8
set_option maxHeartbeats 4000000 in
set_option maxRecDepth 100000 in
theorem c_Ng_opposite (h0 sz a lb : Nat) (fr dp gr : Int32) (M : Nat → Option va_E) (hM : M h0 = some (.inr (3, [.int fr, .int dp, .ref lb, .int gr, .ref a]))) : Met l y_Ng_opposite (.code y_Ng_opposite b_Ng_opposite 1 (some (.object "QuantifierOut$Node")) :: ww) ({ frames := 3, cells := 1, slots := 5, locals := 90 }) (hw_Pc D qcl (qty cI cJ cZ cN) [.ref h0] M sz) (va_Qq (fun r M1 => r = some a ∧ M1 = M) (hw_B D qcl (qty cI cJ cZ cN) M sz) (hw_A M sz)) 1 5 (hw_A M sz) := by
  refine hw_met (by decide) (Nat.le_of_ble_eq_true rfl) ?_
  intro p e s m below meth c hx hb hr hml hown hlocks hnm hts hsz hX hW ls hl
  subst hsz
  have hA : ∀ q, s.heap.size ≤ q → hw_A M s.heap.size q := fun q h => Or.inr h
  have hS : va_S (hw_A M s.heap.size) s.heap s.heap [] := va_S.rf
  have hl : lv_has ls 1 [(0, .ref h0)] := hl
  have hown : s.vm.findClass "QuantifierOut$Negation" = some m.cls := hown
  refine lv_aload_n hx hb d_Ng_opposite_0 rfl (lv_at hl 0 rfl) ?_
  refine hw_get (own := "QuantifierOut$Negation") (v := .ref a) hx hb hts i_Ng hown hW hM rfl 4 (by decide) (hts _ tw_368) (fun _ h9 => h9) rfl d_Ng_opposite_1 ?_
  refine W.widen (k := 1) (n := 5) (by omega) (by omega) ?_
  exact hw_reta hx hb hr (Or.inl ⟨_, rfl⟩) hlocks hW hS ⟨rfl, rfl⟩ d_Ng_opposite_4
end G27
end
section
/-! Methods that may throw, over the world by addresses. -/
def hz_names : List String := ["java/lang/RuntimeException", "java/lang/Exception"]
def hz_strs : List (Nat × String) := [(131, "60 nodes are there"), (42, "a, b and c are -5 .. 5"), (47, "op is 0, 1 or 2"), (129, "no such node"), (133, "the size would be above 6"), (140, "letter is 0 or 1"), (142, "the depth would be above 2"), (83, "what is 0 .. 3"), (88, "x and y are -50 .. 50"), (103, "x or y is free"), (149, "it has no set"), (114, "no such piece"), (117, "side is 0 or 1"), (119, "part is 0, 1 or 2")]
/-- what a throw needs of the machine: two statics of Throwable outside A, and the texts -/
def hz (A : Nat → Prop) (s : State) (H : Heap) : Prop := vx_Zq Bundle.tN "UNASSIGNED_STACK" Bundle.steD A s H ∧ vx_Zq Bundle.tN "SUPPRESSED_SENTINEL" Bundle.listD A s H ∧ ∀ w ∈ hz_strs, ∃ sa, vk_R "QuantifierOut" w.1 w.2 sa s
theorem hz.next {A B : Nat → Prop} {s U : State} {H0 H : Heap} {locs : List Loc} (h : hz A s H0) (hS : va_S A H0 H locs) (hB : ∀ q, B q → A q) (hw : s.WarmedH U.vm) : hz B U H :=
  ⟨((h.1.kept hS.2.1).narrow hB).moved hw.alike, ((h.2.1.kept hS.2.1).narrow hB).moved hw.alike, fun w hw9 => (h.2.2 w hw9).imp fun _ q => vk_R.warm hw q⟩
def hx_Pc (D : va_G) (cl : List vw_C) (tys : List (ClassId × FieldType)) (av : List Value) (M : Nat → Option va_E) (sz : Nat) : Array Value → State → Prop := va_Pc av (fun U => U.heap.size = sz ∧ hw_W D cl tys (fun _ => True) M U U.heap ∧ hw_X U ∧ hz (hw_A M sz) U U.heap)
def hx_X (D : va_G) (cl : List vw_C) (tys : List (ClassId × FieldType)) (M : Nat → Option va_E) (sz : Nat) (px : String → (Nat → Option va_E) → Prop) : String → State → State → Prop := vx_X (fun _ : Nat → Option va_E => True) (fun E M1 t => px E M1 ∧ hw_B D cl tys M sz M1 t) (hw_A M sz)
theorem hx_Pc.blind {D : va_G} {cl : List vw_C} {tys : List (ClassId × FieldType)} {av : List Value} {M : Nat → Option va_E} {sz : Nat} : FrameBlind (hx_Pc D cl tys av M sz) := by
  intro a U g mk h
  obtain ⟨h1, h2, h3, h4, h5, h6, h7⟩ := h
  exact ⟨h1, h2, h3.moved (u := U.calling g mk a) (Vm.Alike.refl U.vm), hw_X.same (u := U) (U := U.calling g mk a) rfl h4, vx_Zq.moved (u := U) (U := U.calling g mk a) (Vm.Alike.refl U.vm) h5, vx_Zq.moved (u := U) (U := U.calling g mk a) (Vm.Alike.refl U.vm) h6, fun w hw => (h7 w hw).imp fun _ q => vk_R.same (u := U) (U := U.calling g mk a) rfl q⟩
theorem hw_W.kept {D : va_G} {cl : List vw_C} {tys : List (ClassId × FieldType)} {A : Nat → Prop} {M : Nat → Option va_E} {s : State} {H H1 : Heap} (h : hw_W D cl tys A M s H) (hq : ∀ q : Nat, q < H.size → H1[q]? = H[q]?) : hw_W D cl tys A M s H1 := by
  obtain ⟨ws, e, hP, hD, hK⟩ := h
  exact ⟨ws, e, hP.kept (fun k q hk => hq q.1 (hP k q hk).lt), hD, hK⟩
theorem xt_44 : ∀ w ∈ (vx_atS "QuantifierOut" 44 "java/lang/IllegalArgumentException" hz_names).filter goodWord, w ∈ lw_tbl := by decide +kernel
theorem xt_105 : ∀ w ∈ (vx_atS "QuantifierOut" 105 "java/lang/IllegalStateException" hz_names).filter goodWord, w ∈ lw_tbl := by decide +kernel
theorem xt_116 : ∀ w ∈ (vx_atS "QuantifierOut" 116 "java/lang/IndexOutOfBoundsException" hz_names).filter goodWord, w ∈ lw_tbl := by decide +kernel
theorem xt_ww {L : List Cond} (h : ∀ w ∈ L.filter goodWord, w ∈ lw_tbl) : ∀ w ∈ L.filter goodWord, w ∈ ww := fun w hw => List.mem_filter.mpr ⟨h w hw, (List.mem_filter.mp hw).2⟩
theorem xb_44 : ∀ w ∈ (vx_atS "QuantifierOut" 44 "java/lang/IllegalArgumentException" hz_names).filter (fun w => !goodWord w), w ∈ hw_xw := by decide +kernel
theorem xb_105 : ∀ w ∈ (vx_atS "QuantifierOut" 105 "java/lang/IllegalStateException" hz_names).filter (fun w => !goodWord w), w ∈ hw_xw := by decide +kernel
theorem xb_116 : ∀ w ∈ (vx_atS "QuantifierOut" 116 "java/lang/IndexOutOfBoundsException" hz_names).filter (fun w => !goodWord w), w ∈ hw_xw := by decide +kernel
theorem xg_44 : ∀ w ∈ Cond.classLink "QuantifierOut" 40 "java/lang/IllegalArgumentException" :: Cond.initialized "java/lang/IllegalArgumentException" :: vx_atS "QuantifierOut" 44 "java/lang/IllegalArgumentException" hz_names, vx_ot w = true := by decide +kernel
theorem xg_105 : ∀ w ∈ Cond.classLink "QuantifierOut" 101 "java/lang/IllegalStateException" :: Cond.initialized "java/lang/IllegalStateException" :: vx_atS "QuantifierOut" 105 "java/lang/IllegalStateException" hz_names, vx_ot w = true := by decide +kernel
theorem xg_116 : ∀ w ∈ Cond.classLink "QuantifierOut" 112 "java/lang/IndexOutOfBoundsException" :: Cond.initialized "java/lang/IndexOutOfBoundsException" :: vx_atS "QuantifierOut" 116 "java/lang/IndexOutOfBoundsException" hz_names, vx_ot w = true := by decide +kernel
theorem xf_I : Bundle.fit "java/lang/IllegalArgumentException" = true := by decide +kernel
theorem xf_S : Bundle.fit "java/lang/IllegalStateException" = true := by decide +kernel
theorem xf_O : Bundle.fit "java/lang/IndexOutOfBoundsException" = true := by decide +kernel
theorem xf_n : ∀ n ∈ hz_names, Bundle.fit n = true := by decide +kernel
section HXM
variable {l : Launch} {D : va_G} {tys : List (ClassId × FieldType)} {cl : List vw_C}
theorem hx_met {y : MethodName} {cc : ByteArray} {maxL : Nat} {ret : Option FieldType} {rm : Room} {av : List Value} {M : Nat → Option va_E} {sz : Nat} {Qc : Array Value → State → Outcome → State → Prop} {XC : String → State → State → Prop} {mc ms : Nat} {free : Addr → Prop}
    (hy : plainName y.cls = true) (hav : (lg_sl av).length ≤ maxL)
    (body : ∀ (p : Program) (e : Env) (s : State) (m : MethodId) (below : List Frame) (meth : Method) (c : Code), p.tables.exec = Jvm.exec → c.code = cc → meth.sig.returnType = ret → c.maxLocals = maxL → s.vm.findClass y.cls = some m.cls → meth.locks = false → meth.name = y.name → (∀ w ∈ ww, w.before av.toArray s = true) → s.heap.size = sz → hw_X s → hw_W D cl tys (hw_A M s.heap.size) M s s.heap → hz (hw_A M s.heap.size) s s.heap → (∀ x ∈ c.exceptionTable.toList, False) → ∀ ls : Array Slot, lv_has ls maxL (lv_args 0 av) →
      W p l e rm s m av.toArray below meth c s.heap [] 0 0 (vx_MQ below Qc XC av.toArray s mc ms free) (F0 m 0 ls [])) :
    vx_Met l y (.code y cc maxL ret :: ww) rm (hx_Pc D cl tys av M sz) Qc XC mc ms free := by
  refine vx_ofW (cc := cc) (maxL := maxL) (ret := ret) hy rfl ?_
  intro p e s m args below meth c s₁ B hml hno hv
  obtain ⟨rfl, hsz, hW, hX, hZ⟩ := hv
  have hts := atoms_spec (ws := .code y cc maxL ret :: ww) B.pre
  rw [lg_entry_eq]
  exact body p e s m below meth c B.exec B.bytes B.returns hml (findClass_of_methodNamed B.named) B.notSynchronized (name_of_methodNamed B.named B.method).1 (fun w h => hts w (List.mem_cons_of_mem _ h)) hsz hX hW.self (by rw [hsz]; exact hZ) hno _ (lv_entry av hav)
variable {p : Program} {e : Env} {R : Room} {s : State} {m : MethodId} {args : Array Value} {below : List Frame} {meth : Method} {c : Code} {H : Heap} {locs : List Loc} {cells slots : Nat} {Q : State → Prop}
variable {cc : ByteArray} {pc : Nat} {ls : Array Slot} {rest : List Value} {A : Nat → Prop} {a : Nat} {M : Nat → Option va_E} {H0 : Heap}
theorem hx_preS (hX : hw_X s) (hW : hw_W D cl tys A M s H) (hZ : hz A s H0) (hS : va_S A H0 H locs) (hA : ∀ q, H0.size ≤ q → A q) {As : List Value} : PreS s H (hx_Pc D cl tys As M H.size) As :=
  ⟨hx_Pc.blind, fun U hU hw => ⟨rfl, by rw [hU], by rw [hU]; exact (hW.moved hw.alike).weaken (fun _ _ => trivial), hX.warm hw, by rw [hU]; exact hZ.next hS (hW.free hS hA) hw⟩⟩
theorem hx_preV (hX : hw_X s) (hW : hw_W D cl tys A M s H) (hZ : hz A s H0) (hS : va_S A H0 H locs) (hA : ∀ q, H0.size ≤ q → A q) {b ci : Nat} {fs : List Value} (hb : M b = some (.inr (ci, fs))) {q : vw_C} (hc : cl[ci]? = some q) {As : List Value} : PreV s H q.1 b (hx_Pc D cl tys (.ref b :: As) M H.size) As :=
  ⟨hx_Pc.blind, (hw_preV hX hW hb hc (As := As)).2.1, (hx_preS hX hW hZ hS hA).2⟩
theorem hx_runV {y : MethodName} {bytes : ByteArray} {maxL nL mc ms n index : Nat} {ret : Option FieldType} {rm : Room} {Qc : Array Value → State → Outcome → State → Prop} {XC : String → State → State → Prop} {free : Addr → Prop} {own : String} {b ci : Nat} {fs : List Value} {T : u_T} {N : Nat} {As : List Value} {st0 : List Value}
    (hx : p.tables.exec = Jvm.exec) (hb : c.code = cc) (hml : c.maxLocals = nL) (hown : s.vm.findClass own = some m.cls) (hts : ∀ w ∈ ww, w.before args s = true) (hX : hw_X s) (hW : hw_W D cl tys A M s H) (hl : ls.size = nL)
    (hZ : hz A s H0) (hS : va_S A H0 H locs) (hA : ∀ q, H0.size ≤ q → A q)
    (hM : vx_Met l y (.code y bytes maxL ret :: ww) rm (hx_Pc D cl tys (.ref b :: As) M H.size) Qc XC mc ms free)
    (hbM : M b = some (.inr (ci, fs))) (hc : cl[ci]? = some (y.cls, T, N))
    (w1 : Cond.methodLink own index y ∈ ww) (w2 : Cond.instanceMethod y ∈ ww) (w3 : Cond.selects y.cls y y ∈ ww) (w4 : Cond.initialized y.cls ∈ ww) (w5 : Cond.code y bytes maxL ret ∈ ww)
    (hd : y.cls ≠ "java/lang/invoke/MethodHandle" ∧ y.cls ≠ "java/lang/invoke/VarHandle" ∧ (parseMethodDescriptor y.desc).map (fun d => d.parameters.length) = some n)
    (hrc : rm.cells = mc) (hrs : rm.slots = ms) (hR : rm.frames + 1 ≤ R.frames ∧ 8 + (maxL + 11) + rm.locals ≤ R.locals) (hn : As.length = n) (hst : st0 = As.reverse ++ .ref b :: rest) (hrw : (rest.map fun v => v.category).sum ≤ 8)
    (hdg : decode cc pc = .ok (.invokevirtual index, 3)) (hf : cells + mc ≤ R.cells ∧ slots + ms ≤ R.slots) :
    vx_Run p l e R s m args below meth c H locs cells slots mc ms (F0 m pc ls st0) rest (Qc (Value.ref b :: As).toArray) XC free :=
  vx_runV (Ts := ww) ⟨hx, hb, hml, hown, hts⟩ hM (cwV n hts (hw_gi w5 (hw_f4 w1 w2 w3 w4)) rfl hrc hrs ⟨rfl, hd⟩ hR) (hx_preV hX hW hZ hS hA hbM hc) rfl hn hl hst (lv_room hrw) hdg hf
theorem hx_calli {st0 : List Value} {a9 : Array Value} {mc ms : Nat} {post : Int32 → (Nat → Option va_E) → Prop} {px : String → (Nat → Option va_E) → Prop} (hr : vx_Run p l e R s m args below meth c H locs cells slots mc ms (F0 m pc ls st0) rest (va_Qi post (hw_B D cl tys M H.size) (hw_A M H.size) a9) (hx_X D cl tys M H.size px) (hw_A M H.size)) (hW : hw_W D cl tys A M s H) (hS : va_S A H0 H locs) (hA : ∀ q, H0.size ≤ q → A q)
    (kx : ∀ (E : String) (ce : Cell) (q9 : Addr) (M1 : Nat → Option va_E) (H1 : Heap) (locs1 : List Loc), px E M1 → hw_W D cl tys A M1 s H1 → va_S A H0 H1 locs1 → H1[q9]? = some ce → ce.vm = .none → s.vm.findClass E = some ce.cls → vx_W p l e R s m args below meth c H1 locs1 (cells + mc) (slots + ms) Q (F0 m pc ls rest) q9)
    (kk : ∀ (r : Int32) (M1 : Nat → Option va_E) (H1 : Heap) (locs1 : List Loc), post r M1 → H.size ≤ H1.size → hw_W D cl tys A M1 s H1 → va_S A H0 H1 locs1 → W p l e R s m args below meth c H1 locs1 (cells + mc) (slots + ms) Q (F0 m (pc + 3) ls (.int r :: rest))) : W p l e R s m args below meth c H locs cells slots Q (F0 m pc ls st0) :=
  vx_calli hr hS (fun q _ h => hW.free hS hA q h) (fun q h => hW.free hS hA q h) (fun q _ h => hW.free hS hA q h) (fun E ce q9 M1 _ H1 locs1 ht hvm _ hp _ _ hS1 h1 h2 h3 => kx E ce q9 M1 H1 locs1 hp.1 (hw_back (A1 := A) hW hS hA ht hvm hp.2) hS1 h1 h2 h3) (fun r M1 _ H1 locs1 ht hvm hp hB hz _ hS1 => kk r M1 H1 locs1 hp hz (hw_back (A1 := A) hW hS hA ht hvm hB) hS1)
theorem hx_calll {st0 : List Value} {a9 : Array Value} {mc ms : Nat} {post : Int64 → (Nat → Option va_E) → Prop} {px : String → (Nat → Option va_E) → Prop} (hr : vx_Run p l e R s m args below meth c H locs cells slots mc ms (F0 m pc ls st0) rest (va_Ql post (hw_B D cl tys M H.size) (hw_A M H.size) a9) (hx_X D cl tys M H.size px) (hw_A M H.size)) (hW : hw_W D cl tys A M s H) (hS : va_S A H0 H locs) (hA : ∀ q, H0.size ≤ q → A q)
    (kx : ∀ (E : String) (ce : Cell) (q9 : Addr) (M1 : Nat → Option va_E) (H1 : Heap) (locs1 : List Loc), px E M1 → hw_W D cl tys A M1 s H1 → va_S A H0 H1 locs1 → H1[q9]? = some ce → ce.vm = .none → s.vm.findClass E = some ce.cls → vx_W p l e R s m args below meth c H1 locs1 (cells + mc) (slots + ms) Q (F0 m pc ls rest) q9)
    (kk : ∀ (r : Int64) (M1 : Nat → Option va_E) (H1 : Heap) (locs1 : List Loc), post r M1 → H.size ≤ H1.size → hw_W D cl tys A M1 s H1 → va_S A H0 H1 locs1 → W p l e R s m args below meth c H1 locs1 (cells + mc) (slots + ms) Q (F0 m (pc + 3) ls (.long r :: rest))) : W p l e R s m args below meth c H locs cells slots Q (F0 m pc ls st0) :=
  vx_calll hr hS (fun q _ h => hW.free hS hA q h) (fun q h => hW.free hS hA q h) (fun q _ h => hW.free hS hA q h) (fun E ce q9 M1 _ H1 locs1 ht hvm _ hp _ _ hS1 h1 h2 h3 => kx E ce q9 M1 H1 locs1 hp.1 (hw_back (A1 := A) hW hS hA ht hvm hp.2) hS1 h1 h2 h3) (fun r M1 _ H1 locs1 ht hvm hp hB hz _ hS1 => kk r M1 H1 locs1 hp hz (hw_back (A1 := A) hW hS hA ht hvm hB) hS1)
theorem hx_callv {st0 : List Value} {a9 : Array Value} {mc ms : Nat} {post : (Nat → Option va_E) → Prop} {px : String → (Nat → Option va_E) → Prop} (hr : vx_Run p l e R s m args below meth c H locs cells slots mc ms (F0 m pc ls st0) rest (va_Qv post (hw_B D cl tys M H.size) (hw_A M H.size) a9) (hx_X D cl tys M H.size px) (hw_A M H.size)) (hW : hw_W D cl tys A M s H) (hS : va_S A H0 H locs) (hA : ∀ q, H0.size ≤ q → A q)
    (kx : ∀ (E : String) (ce : Cell) (q9 : Addr) (M1 : Nat → Option va_E) (H1 : Heap) (locs1 : List Loc), px E M1 → hw_W D cl tys A M1 s H1 → va_S A H0 H1 locs1 → H1[q9]? = some ce → ce.vm = .none → s.vm.findClass E = some ce.cls → vx_W p l e R s m args below meth c H1 locs1 (cells + mc) (slots + ms) Q (F0 m pc ls rest) q9)
    (kk : ∀ (M1 : Nat → Option va_E) (H1 : Heap) (locs1 : List Loc), post M1 → H.size ≤ H1.size → hw_W D cl tys A M1 s H1 → va_S A H0 H1 locs1 → W p l e R s m args below meth c H1 locs1 (cells + mc) (slots + ms) Q (F0 m (pc + 3) ls (rest))) : W p l e R s m args below meth c H locs cells slots Q (F0 m pc ls st0) :=
  vx_callv hr hS (fun q _ h => hW.free hS hA q h) (fun q h => hW.free hS hA q h) (fun q _ h => hW.free hS hA q h) (fun E ce q9 M1 _ H1 locs1 ht hvm _ hp _ _ hS1 h1 h2 h3 => kx E ce q9 M1 H1 locs1 hp.1 (hw_back (A1 := A) hW hS hA ht hvm hp.2) hS1 h1 h2 h3) (fun M1 _ H1 locs1 ht hvm hp hB hz _ hS1 => kk M1 H1 locs1 hp hz (hw_back (A1 := A) hW hS hA ht hvm hB) hS1)
theorem hx_callq {st0 : List Value} {a9 : Array Value} {mc ms : Nat} {post : Option Nat → (Nat → Option va_E) → Prop} {px : String → (Nat → Option va_E) → Prop} (hr : vx_Run p l e R s m args below meth c H locs cells slots mc ms (F0 m pc ls st0) rest (va_Qq post (hw_B D cl tys M H.size) (hw_A M H.size) a9) (hx_X D cl tys M H.size px) (hw_A M H.size)) (hW : hw_W D cl tys A M s H) (hS : va_S A H0 H locs) (hA : ∀ q, H0.size ≤ q → A q)
    (kx : ∀ (E : String) (ce : Cell) (q9 : Addr) (M1 : Nat → Option va_E) (H1 : Heap) (locs1 : List Loc), px E M1 → hw_W D cl tys A M1 s H1 → va_S A H0 H1 locs1 → H1[q9]? = some ce → ce.vm = .none → s.vm.findClass E = some ce.cls → vx_W p l e R s m args below meth c H1 locs1 (cells + mc) (slots + ms) Q (F0 m pc ls rest) q9)
    (kk : ∀ (r : Option Nat) (M1 : Nat → Option va_E) (H1 : Heap) (locs1 : List Loc), post r M1 → H.size ≤ H1.size → hw_W D cl tys A M1 s H1 → va_S A H0 H1 locs1 → W p l e R s m args below meth c H1 locs1 (cells + mc) (slots + ms) Q (F0 m (pc + 3) ls (va_rf r :: rest))) : W p l e R s m args below meth c H locs cells slots Q (F0 m pc ls st0) := by
  intro T hT X
  rcases hr T hT X with ⟨v, st₀, t, T', L, h0, X', hL, e1, e2, ⟨⟨r, u, hv, hp, hb⟩, hF⟩, st⟩ | ⟨q, st₀, t, T', L, E, ce, h0, X', hL, e1, e2, ⟨u, -, hp, hF⟩, hce, hcv, hcl, st⟩
  · cases hv
    obtain ⟨k1, k2, k3⟩ := vx_keep h0 e1 hS (fun q _ h => hW.free hS hA q h) (fun q h => hW.free hS hA q h) hL hF
    obtain ⟨t2, a1, b1⟩ := kk r u T'.heap (locs ++ L) hp k1 (hw_back (A1 := A) hW hS hA e1.symm (by rw [← e2]; exact X'.warmed.alike) hb) k3 T' rfl X'
    exact ⟨t2, st t2 a1, b1⟩
  · obtain ⟨k1, k2, k3⟩ := vx_keep h0 e1 hS (fun q _ h => hW.free hS hA q h) (fun q h => hW.free hS hA q h) hL hF
    obtain ⟨t2, a1, b1⟩ := kx E ce q u T'.heap (locs ++ L) hp.1 (hw_back (A1 := A) hW hS hA e1.symm (by rw [← e2]; exact X'.warmed.alike) hp.2) k3 (by rw [e1]; exact hce) hcv hcl T' rfl X'
    exact ⟨t2, st.trans a1, b1⟩
/-- a callee's throw goes on to the caller -/
theorem hx_out {Qc : Array Value → State → Outcome → State → Prop} {px : String → (Nat → Option va_E) → Prop} {M0 : Nat → Option va_E} {E : String} {ce : Cell} {q : Addr} {mc ms : Nat} (hno : ∀ x ∈ c.exceptionTable.toList, False) (hlocks : meth.locks = false) (hcell : H[q]? = some ce) (hv : ce.vm = .none) (hcl : s.vm.findClass E = some ce.cls)
    (hW : hw_W D cl tys (hw_A M0 s.heap.size) M s H) (hS : va_S (hw_A M0 s.heap.size) s.heap H locs) (hp : px E M) (hc : cells ≤ mc) (hs : slots ≤ ms) :
    vx_W p l e R s m args below meth c H locs cells slots (vx_MQ below Qc (hx_X D cl tys M0 s.heap.size px) args s mc ms (hw_A M0 s.heap.size)) (F0 m pc ls rest) q :=
  vx_out (fun x h => (hno x h).elim) hlocks hcell hv hcl (fun t ht hal => ⟨M, trivial, ⟨hp, by unfold hw_B; rw [ht]; exact hW.moved hal⟩, hS.F ht⟩) hS.2.2 hc hs
/-- throw new E("text") -/
theorem hx_throw {Qc : Array Value → State → Outcome → State → Prop} {px : String → (Nat → Option va_E) → Prop} {M0 : Nat → Option va_E} {mc ms ik is ic : Nat} {cls text : String} (hexec : p.tables.exec = Jvm.exec) (hb : c.code = cc) (hl : l.stackTraces = false) (hml : c.maxLocals = ls.size) (hown : s.vm.findClass "QuantifierOut" = some m.cls) (hts : ∀ w ∈ ww, w.before args s = true) (hX : hw_X s)
    (hcls : Bundle.fit cls = true) (hk : Cond.classLink "QuantifierOut" ik cls ∈ ww) (hini : Cond.initialized cls ∈ ww) (hstr : (is, text) ∈ hz_strs) (h1 : ∀ w ∈ (vx_atS "QuantifierOut" ic cls hz_names).filter goodWord, w ∈ lw_tbl) (h2 : ∀ w ∈ (vx_atS "QuantifierOut" ic cls hz_names).filter (fun w => !goodWord w), w ∈ hw_xw)
    (hgood : ∀ w ∈ Cond.classLink "QuantifierOut" ik cls :: Cond.initialized cls :: vx_atS "QuantifierOut" ic cls hz_names, vx_ot w = true)
    (hno : ∀ x ∈ c.exceptionTable.toList, False) (hlocks : meth.locks = false) (hZ : hz (hw_A M0 s.heap.size) s s.heap)
    (hW : hw_W D cl tys (hw_A M0 s.heap.size) M s H) (hS : va_S (hw_A M0 s.heap.size) s.heap H locs) (hp : px cls M)
    (d0 : decode cc pc = .ok (.new ik, 3)) (d3 : decode cc (pc + 3) = .ok (.dup, 1)) (d4 : decode cc (pc + 4) = .ok (.ldc is, 2)) (d6 : decode cc (pc + 6) = .ok (.invokespecial ic, 3)) (d9 : decode cc (pc + 9) = .ok (.athrow, 1))
    (hRf : 6 ≤ R.frames) (hRl : (rest.map fun v => v.category).sum + 82 ≤ R.locals) (hRc : cells + 1 ≤ R.cells) (hRs : slots + 6 ≤ R.slots) (hc : cells + 1 ≤ mc) (hs : slots + 6 ≤ ms) :
    W p l e R s m args below meth c H locs cells slots (vx_MQ below Qc (hx_X D cl tys M0 s.heap.size px) args s mc ms (hw_A M0 s.heap.size)) (F0 m pc ls rest) := by
  obtain ⟨sa, hsa⟩ := hZ.2.2 _ hstr
  exact vx_throwS (names := hz_names) hexec hb hl hown hcls xf_n (hts _ hk) (hts _ hini) hsa (vx_hat (fun w hw => hts w (xt_ww h1 w hw)) h2 (fun w hw => va_Nw.use (hw_xw_ot w hw) (hX.1 w hw))) hgood hZ.1 hZ.2.1 hS hml.symm d0 d3 d4 d6 d9 (fun x h => (hno x h).elim) hRf hRl hRc hRs hlocks
    (fun t hal hz9 hq9 => ⟨M, trivial, ⟨hp, (hW.kept hq9).moved hal⟩, ⟨Nat.le_trans hS.1 hz9, fun q h1 h2 => by rw [hq9 q (Nat.lt_of_lt_of_le h1 hS.1)]; exact hS.2.1 q h1 h2⟩⟩) hS.2.2 hc hs
end HXM
end

/-! What the class answers, in the words of the answers -/
theorem ca_atom_x {n : Nat} {a b c op : Int32} {E : String} (h : (n = 60 ∧ E = "java/lang/IllegalStateException") ∨ (n < 60 ∧ ¬ ((a.toInt.natAbs ≤ 5 ∧ b.toInt.natAbs ≤ 5 ∧ c.toInt.natAbs ≤ 5) ∧ ∃ o : Nat, o < 3 ∧ op = nI o) ∧ E = "java/lang/IllegalArgumentException")) : (E = "java/lang/IllegalStateException" ∧ cAtom n a b c op = 1) ∨ (E = "java/lang/IllegalArgumentException" ∧ cAtom n a b c op = 2) := by
  have key : (∃ o : Nat, o < 3 ∧ op = nI o) ↔ (0 ≤ op.toInt ∧ op.toInt ≤ 2) := (isn_iff (n := 3) (by decide)).trans ⟨fun h => ⟨h.1, by have := h.2; omega⟩, fun h => ⟨h.1, by omega⟩⟩
  unfold cAtom
  rcases h with ⟨h1, h2⟩ | ⟨h1, h2, h3⟩
  · exact Or.inl ⟨h2, if_pos h1⟩
  · exact Or.inr ⟨h3, by rw [if_neg (by omega), if_neg (fun z => h2 ⟨z.1, key.mpr z.2⟩)]⟩
theorem ca_atom_v {n : Nat} {a b c op : Int32} {q : nq} (hn : n < 60) (h : ∃ o : Nat, o < 3 ∧ op = nI o ∧ (a.toInt.natAbs ≤ 5 ∧ b.toInt.natAbs ≤ 5 ∧ c.toInt.natAbs ≤ 5) ∧ nP q = qm_atom (a.toInt, b.toInt, c.toInt) o ∧ nx q = true ∧ ny q = true ∧ (nL q).length = 1 ∧ nd q = 0) : cAtom n a b c op = 0 ∧ abq q = gAtom a b c op := by
  obtain ⟨o, ho, e, hb, h1, h2, h3, h4, h5⟩ := h
  subst e
  refine ⟨?_, ?_⟩
  · unfold cAtom
    rw [if_neg (by omega), if_pos ⟨hb, by rw [nI_toInt (by omega)]; omega⟩]
  · show (nP q, nx q, ny q, (nL q).length, nd q) = (qm_atom (a.toInt, b.toInt, c.toInt) (ix (nI o)), true, true, 1, 0)
    rw [ix_nI (i := o) (by omega), h1, h2, h3, h4, h5]
theorem ca_pair_x {n : Nat} {g : Nat → abn} {qs : Nat → nq} {xp xq : Int32} {E : String} (hn : n ≤ 60) (hqs : ∀ i, i < n → abq (qs i) = g i) (h : (¬ ((∃ i, i < n ∧ xp = nI i) ∧ ∃ j, j < n ∧ xq = nI j) ∧ E = "java/lang/IndexOutOfBoundsException") ∨ (∃ i j : Nat, i < n ∧ j < n ∧ xp = nI i ∧ xq = nI j ∧ ((n = 60 ∧ E = "java/lang/IllegalStateException") ∨ (n < 60 ∧ 6 < (nL (qs i)).length + (nL (qs j)).length ∧ E = "java/lang/IllegalArgumentException")))) : (E = "java/lang/IndexOutOfBoundsException" ∧ cPair n g xp xq = 1) ∨ (E = "java/lang/IllegalStateException" ∧ cPair n g xp xq = 2) ∨ (E = "java/lang/IllegalArgumentException" ∧ cPair n g xp xq = 3) := by
  rcases h with ⟨h1, h2⟩ | ⟨i, j, hi, hj, e1, e2, h⟩
  · exact Or.inl ⟨h2, by unfold cPair; exact if_pos (fun z => h1 ⟨(isn_iff hn).mpr z.1, (isn_iff hn).mpr z.2⟩)⟩
  · have hno : ¬ ¬ (isn n xp ∧ isn n xq) := fun z => z ⟨(isn_iff hn).mp ⟨i, hi, e1⟩, (isn_iff hn).mp ⟨j, hj, e2⟩⟩
    subst e1 e2
    rcases h with ⟨h1, h2⟩ | ⟨h1, h2, h3⟩
    · exact Or.inr (Or.inl ⟨h2, by unfold cPair; rw [if_neg hno, if_pos h1]⟩)
    · refine Or.inr (Or.inr ⟨h3, ?_⟩)
      unfold cPair
      rw [if_neg hno, if_neg (by omega), ix_nI (i := i) (by omega), ix_nI (i := j) (by omega), ← hqs i hi, ← hqs j hj]
      exact if_pos h2
theorem ca_pair_v {n : Nat} {g : Nat → abn} {qs : Nat → nq} {xp xq : Int32} {kk : Bool} {q : nq} (hn : n < 60) (hqs : ∀ i, i < n → abq (qs i) = g i) (h : ∃ i j : Nat, i < n ∧ j < n ∧ xp = nI i ∧ xq = nI j ∧ (nL (qs i)).length + (nL (qs j)).length ≤ 6 ∧ nP q = np_P kk (nP (qs i)) (nP (qs j)) ∧ nx q = (nx (qs i) || nx (qs j)) ∧ ny q = (ny (qs i) || ny (qs j)) ∧ (nL q).length = (nL (qs i)).length + (nL (qs j)).length ∧ nd q = max (nd (qs i)) (nd (qs j))) : cPair n g xp xq = 0 ∧ abq q = gPair kk (g (ix xp)) (g (ix xq)) := by
  obtain ⟨i, j, hi, hj, e1, e2, hs, h1, h2, h3, h4, h5⟩ := h
  have hno : ¬ ¬ (isn n xp ∧ isn n xq) := fun z => z ⟨(isn_iff (by omega)).mp ⟨i, hi, e1⟩, (isn_iff (by omega)).mp ⟨j, hj, e2⟩⟩
  subst e1 e2
  refine ⟨?_, ?_⟩
  · unfold cPair
    rw [if_neg hno, if_neg (by omega), ix_nI (i := i) (by omega), ix_nI (i := j) (by omega), ← hqs i hi, ← hqs j hj]
    exact if_neg (by show ¬ 6 < (nL (qs i)).length + (nL (qs j)).length; omega)
  · rw [ix_nI (i := i) (by omega), ix_nI (i := j) (by omega), ← hqs i hi, ← hqs j hj]
    show (nP q, nx q, ny q, (nL q).length, nd q) = (np_P kk (nP (qs i)) (nP (qs j)), (nx (qs i) || nx (qs j)), (ny (qs i) || ny (qs j)), (nL (qs i)).length + (nL (qs j)).length, max (nd (qs i)) (nd (qs j)))
    rw [h1, h2, h3, h4, h5]
theorem ca_not_x {n : Nat} {xp : Int32} {E : String} (hn : n ≤ 60) (h : (¬ (∃ i, i < n ∧ xp = nI i) ∧ E = "java/lang/IndexOutOfBoundsException") ∨ ((∃ i, i < n ∧ xp = nI i) ∧ n = 60 ∧ E = "java/lang/IllegalStateException")) : (E = "java/lang/IndexOutOfBoundsException" ∧ cNot n xp = 1) ∨ (E = "java/lang/IllegalStateException" ∧ cNot n xp = 2) := by
  unfold cNot
  rcases h with ⟨h1, h2⟩ | ⟨h1, h2, h3⟩
  · exact Or.inl ⟨h2, if_pos (fun z => h1 ((isn_iff hn).mpr z))⟩
  · exact Or.inr ⟨h3, by rw [if_neg (fun z => z ((isn_iff hn).mp h1)), if_pos h2]⟩
theorem ca_not_v {n : Nat} {g : Nat → abn} {qs : Nat → nq} {xp : Int32} {q : nq} (hn : n < 60) (hqs : ∀ i, i < n → abq (qs i) = g i) (h : ∃ i : Nat, i < n ∧ xp = nI i ∧ (∀ x y, nP q x y ↔ ¬ nP (qs i) x y) ∧ nx q = nx (qs i) ∧ ny q = ny (qs i) ∧ (nL q).length = (nL (qs i)).length ∧ nd q = nd (qs i)) : cNot n xp = 0 ∧ abq q = gNot (g (ix xp)) := by
  obtain ⟨i, hi, e1, h1, h2, h3, h4, h5⟩ := h
  have his : isn n xp := (isn_iff (by omega)).mp ⟨i, hi, e1⟩
  subst e1
  refine ⟨by unfold cNot; rw [if_neg (fun z => z his), if_neg (by omega)], ?_⟩
  rw [ix_nI (i := i) (by omega), ← hqs i hi]
  have h0 : nP q = fun x y => ¬ nP (qs i) x y := funext fun x => funext fun y => propext (h1 x y)
  show (nP q, nx q, ny q, (nL q).length, nd q) = ((fun x y => ¬ nP (qs i) x y), nx (qs i), ny (qs i), (nL (qs i)).length, nd (qs i))
  rw [h0, h2, h3, h4, h5]
theorem ca_quant_x {n : Nat} {g : Nat → abn} {qs : Nat → nq} {xl xp : Int32} {E : String} (hn : n ≤ 60) (hqs : ∀ i, i < n → abq (qs i) = g i) (h : (¬ (∃ i, i < n ∧ xp = nI i) ∧ E = "java/lang/IndexOutOfBoundsException") ∨ (∃ i, i < n ∧ xp = nI i ∧ ((n = 60 ∧ E = "java/lang/IllegalStateException") ∨ (n < 60 ∧ ¬ ((∃ j, j < 2 ∧ xl = nI j) ∧ nd (qs i) < 2) ∧ E = "java/lang/IllegalArgumentException")))) : (E = "java/lang/IndexOutOfBoundsException" ∧ cQuant n g xl xp = 1) ∨ (E = "java/lang/IllegalStateException" ∧ cQuant n g xl xp = 2) ∨ (E = "java/lang/IllegalArgumentException" ∧ cQuant n g xl xp = 3) := by
  have key : (∃ j : Nat, j < 2 ∧ xl = nI j) ↔ (0 ≤ xl.toInt ∧ xl.toInt ≤ 1) := (isn_iff (n := 2) (by decide)).trans ⟨fun h => ⟨h.1, by have := h.2; omega⟩, fun h => ⟨h.1, by omega⟩⟩
  rcases h with ⟨h1, h2⟩ | ⟨i, hi, e1, h⟩
  · exact Or.inl ⟨h2, by unfold cQuant; exact if_pos (fun z => h1 ((isn_iff hn).mpr z))⟩
  · have his : isn n xp := (isn_iff hn).mp ⟨i, hi, e1⟩
    subst e1
    rcases h with ⟨h1, h2⟩ | ⟨h1, h2, h3⟩
    · exact Or.inr (Or.inl ⟨h2, by unfold cQuant; rw [if_neg (fun z => z his), if_pos h1]⟩)
    · refine Or.inr (Or.inr ⟨h3, ?_⟩)
      unfold cQuant
      rw [if_neg (fun z => z his), if_neg (by omega), ix_nI (i := i) (by omega), ← hqs i hi]
      refine if_pos ?_
      show ¬ (0 ≤ xl.toInt ∧ xl.toInt ≤ 1) ∨ 2 ≤ nd (qs i)
      rcases Nat.lt_or_ge (nd (qs i)) 2 with z | z
      · exact Or.inl (fun y => h2 ⟨key.mpr y, z⟩)
      · exact Or.inr z
theorem ca_quant_v {n : Nat} {g : Nat → abn} {qs : Nat → nq} {xl xp : Int32} {kk : Bool} {q : nq} (hn : n < 60) (hqs : ∀ i, i < n → abq (qs i) = g i) (h : ∃ j i : Nat, j < 2 ∧ i < n ∧ xl = nI j ∧ xp = nI i ∧ nd (qs i) < 2 ∧ nP q = nu_P j kk (nP (qs i)) ∧ nx q = (if j = 0 then false else nx (qs i)) ∧ ny q = (if j = 0 then ny (qs i) else false) ∧ (nL q).length = (nL (qs i)).length ∧ nd q = nd (qs i) + 1) : cQuant n g xl xp = 0 ∧ abq q = gQuant xl kk (g (ix xp)) := by
  obtain ⟨j, i, hj, hi, e0, e1, hd, h1, h2, h3, h4, h5⟩ := h
  have his : isn n xp := (isn_iff (by omega)).mp ⟨i, hi, e1⟩
  subst e1 e0
  refine ⟨?_, ?_⟩
  · unfold cQuant
    rw [if_neg (fun z => z his), if_neg (by omega), ix_nI (i := i) (by omega), ← hqs i hi]
    refine if_neg ?_
    show ¬ (¬ (0 ≤ (nI j).toInt ∧ (nI j).toInt ≤ 1) ∨ 2 ≤ nd (qs i))
    rw [nI_toInt (by omega)]
    omega
  · rw [ix_nI (i := i) (by omega), ← hqs i hi]
    unfold gQuant
    rw [ix_nI (i := j) (by omega)]
    show (nP q, nx q, ny q, (nL q).length, nd q) = (nu_P j kk (nP (qs i)), (if j = 0 then false else nx (qs i)), (if j = 0 then ny (qs i) else false), (nL (qs i)).length, nd (qs i) + 1)
    rw [h1, h2, h3, h4, h5]
theorem ca_known_x {n : Nat} {xp xw : Int32} {E : String} (hn : n ≤ 60) (h : (¬ (∃ i, i < n ∧ xp = nI i) ∧ E = "java/lang/IndexOutOfBoundsException") ∨ ((∃ i, i < n ∧ xp = nI i) ∧ ¬ (∃ w, w < 4 ∧ xw = nI w) ∧ E = "java/lang/IllegalArgumentException")) : (E = "java/lang/IndexOutOfBoundsException" ∧ cKnown n xp xw = 1) ∨ (E = "java/lang/IllegalArgumentException" ∧ cKnown n xp xw = 2) := by
  have key : (∃ j : Nat, j < 4 ∧ xw = nI j) ↔ (0 ≤ xw.toInt ∧ xw.toInt ≤ 3) := (isn_iff (n := 4) (by decide)).trans ⟨fun h => ⟨h.1, by have := h.2; omega⟩, fun h => ⟨h.1, by omega⟩⟩
  unfold cKnown
  rcases h with ⟨h1, h2⟩ | ⟨h1, h2, h3⟩
  · exact Or.inl ⟨h2, if_pos (fun z => h1 ((isn_iff hn).mpr z))⟩
  · exact Or.inr ⟨h3, by rw [if_neg (fun z => z ((isn_iff hn).mp h1)), if_neg (fun z => h2 (key.mpr z))]⟩
theorem ca_known_v {n : Nat} {g : Nat → abn} {qs : Nat → nq} {xp xw r : Int32} (hn : n ≤ 60) (hqs : ∀ i, i < n → abq (qs i) = g i) (h : ∃ i w : Nat, i < n ∧ w < 4 ∧ xp = nI i ∧ xw = nI w ∧ r = kn_v (qs i) w) : cKnown n xp xw = 0 ∧ r = vKnown (g (ix xp)) xw := by
  obtain ⟨i, w, hi, hw, e1, e2, h1⟩ := h
  have his : isn n xp := (isn_iff hn).mp ⟨i, hi, e1⟩
  subst e1 e2
  refine ⟨by unfold cKnown; rw [if_neg (fun z => z his), if_pos (by rw [nI_toInt (by omega)]; omega)], ?_⟩
  rw [h1, ix_nI (i := i) (by omega), ← hqs i hi]
  unfold vKnown
  rw [ix_nI (i := w) (by omega)]
  rfl
theorem ca_holds_x {n : Nat} {xp xx xy : Int32} {E : String} (hn : n ≤ 60) (h : (¬ (∃ i, i < n ∧ xp = nI i) ∧ E = "java/lang/IndexOutOfBoundsException") ∨ ((∃ i, i < n ∧ xp = nI i) ∧ ¬ (xx.toInt.natAbs ≤ 50 ∧ xy.toInt.natAbs ≤ 50) ∧ E = "java/lang/IllegalArgumentException")) : (E = "java/lang/IndexOutOfBoundsException" ∧ cHolds n xp xx xy = 1) ∨ (E = "java/lang/IllegalArgumentException" ∧ cHolds n xp xx xy = 2) := by
  unfold cHolds
  rcases h with ⟨h1, h2⟩ | ⟨h1, h2, h3⟩
  · exact Or.inl ⟨h2, if_pos (fun z => h1 ((isn_iff hn).mpr z))⟩
  · exact Or.inr ⟨h3, by rw [if_neg (fun z => z ((isn_iff hn).mp h1)), if_neg h2]⟩
theorem ca_holds_v {n : Nat} {g : Nat → abn} {qs : Nat → nq} {xp xx xy r : Int32} (hn : n ≤ 60) (hqs : ∀ i, i < n → abq (qs i) = g i) (h : ∃ i : Nat, i < n ∧ xp = nI i ∧ (xx.toInt.natAbs ≤ 50 ∧ xy.toInt.natAbs ≤ 50) ∧ it_b r (nP (qs i) (xx.toInt : Rat) (xy.toInt : Rat))) : cHolds n xp xx xy = 0 ∧ it_b r (aP (g (ix xp)) (xx.toInt : Rat) (xy.toInt : Rat)) := by
  obtain ⟨i, hi, e1, h2, h3⟩ := h
  have his : isn n xp := (isn_iff hn).mp ⟨i, hi, e1⟩
  subst e1
  refine ⟨by unfold cHolds; rw [if_neg (fun z => z his), if_pos h2], ?_⟩
  rw [ix_nI (i := i) (by omega), ← hqs i hi]
  exact h3
theorem ca_decide_x {n : Nat} {g : Nat → abn} {qs : Nat → nq} {xp : Int32} {E : String} (hn : n ≤ 60) (hqs : ∀ i, i < n → abq (qs i) = g i) (h : (¬ (∃ i, i < n ∧ xp = nI i) ∧ E = "java/lang/IndexOutOfBoundsException") ∨ (∃ i, i < n ∧ xp = nI i ∧ ¬ (nx (qs i) = false ∧ ny (qs i) = false) ∧ E = "java/lang/IllegalStateException")) : (E = "java/lang/IndexOutOfBoundsException" ∧ cDecide n g xp = 1) ∨ (E = "java/lang/IllegalStateException" ∧ cDecide n g xp = 2) := by
  rcases h with ⟨h1, h2⟩ | ⟨i, hi, e1, h2, h3⟩
  · exact Or.inl ⟨h2, by unfold cDecide; exact if_pos (fun z => h1 ((isn_iff hn).mpr z))⟩
  · have his : isn n xp := (isn_iff hn).mp ⟨i, hi, e1⟩
    subst e1
    refine Or.inr ⟨h3, ?_⟩
    unfold cDecide
    rw [if_neg (fun z => z his), ix_nI (i := i) (by omega), ← hqs i hi]
    refine if_pos ?_
    show nx (qs i) = true ∨ ny (qs i) = true
    cases h8 : nx (qs i)
    · cases h9 : ny (qs i)
      · exact absurd ⟨h8, h9⟩ h2
      · exact Or.inr rfl
    · exact Or.inl rfl
theorem ca_decide_v {n : Nat} {g : Nat → abn} {qs : Nat → nq} {xp r : Int32} (hn : n ≤ 60) (hqs : ∀ i, i < n → abq (qs i) = g i) (h : ∃ i : Nat, i < n ∧ xp = nI i ∧ (nx (qs i) = false ∧ ny (qs i) = false) ∧ it_b r (nP (qs i) 0 0)) : cDecide n g xp = 0 ∧ it_b r (aP (g (ix xp)) 0 0) := by
  obtain ⟨i, hi, e1, h2, h3⟩ := h
  have his : isn n xp := (isn_iff hn).mp ⟨i, hi, e1⟩
  subst e1
  refine ⟨?_, by rw [ix_nI (i := i) (by omega), ← hqs i hi]; exact h3⟩
  unfold cDecide
  rw [if_neg (fun z => z his), ix_nI (i := i) (by omega), ← hqs i hi]
  refine if_neg ?_
  show ¬ (nx (qs i) = true ∨ ny (qs i) = true)
  rw [h2.1, h2.2]
  decide
theorem ca_set_x {n : Nat} {g : Nat → abn} {qs : Nat → nq} {xp : Int32} {E : String} (hn : n ≤ 60) (hqs : ∀ i, i < n → abq (qs i) = g i) (h : (¬ (∃ i, i < n ∧ xp = nI i) ∧ E = "java/lang/IndexOutOfBoundsException") ∨ (∃ i, i < n ∧ xp = nI i ∧ ¬ (nx (qs i) ≠ ny (qs i) ∧ nd (qs i) ≤ 1) ∧ E = "java/lang/IllegalStateException")) : (E = "java/lang/IndexOutOfBoundsException" ∧ cSet n g xp = 1) ∨ (E = "java/lang/IllegalStateException" ∧ cSet n g xp = 2) := by
  rcases h with ⟨h1, h2⟩ | ⟨i, hi, e1, h2, h3⟩
  · exact Or.inl ⟨h2, by unfold cSet; exact if_pos (fun z => h1 ((isn_iff hn).mpr z))⟩
  · have his : isn n xp := (isn_iff hn).mp ⟨i, hi, e1⟩
    subst e1
    refine Or.inr ⟨h3, ?_⟩
    unfold cSet
    rw [if_neg (fun z => z his), ix_nI (i := i) (by omega), ← hqs i hi]
    refine if_pos ?_
    show nx (qs i) = ny (qs i) ∨ 1 < nd (qs i)
    by_cases z : nx (qs i) = ny (qs i)
    · exact Or.inl z
    · rcases Nat.lt_or_ge 1 (nd (qs i)) with y | y
      · exact Or.inr y
      · exact absurd ⟨z, y⟩ h2
theorem ca_set_v {n : Nat} {g : Nat → abn} {qs : Nat → nq} {xp : Int32} {i : Nat} (hn : n ≤ 60) (hqs : ∀ i, i < n → abq (qs i) = g i) (hi : i < n) (e1 : xp = nI i) (h2 : (nx (qs i) ≠ ny (qs i) ∧ nd (qs i) ≤ 1)) : cSet n g xp = 0 ∧ nS (qs i) = aSet (g (ix xp)) := by
  have his : isn n xp := (isn_iff hn).mp ⟨i, hi, e1⟩
  subst e1
  refine ⟨?_, by rw [ix_nI (i := i) (by omega), ← hqs i hi]; rfl⟩
  unfold cSet
  rw [if_neg (fun z => z his), ix_nI (i := i) (by omega), ← hqs i hi]
  refine if_neg ?_
  show ¬ (nx (qs i) = ny (qs i) ∨ 1 < nd (qs i))
  exact fun z => z.elim h2.1 (by omega)
theorem ca_end_c {mm : Nat} {xk xs xt : Int32} (hm : mm ≤ 60) : (¬ (∃ k, k < mm ∧ xk = nI k) → cEnd mm xk xs xt = 1) ∧ ((∃ k, k < mm ∧ xk = nI k) → ¬ ((∃ sd, sd < 2 ∧ xs = nI sd) ∧ ∃ pt, pt < 3 ∧ xt = nI pt) → cEnd mm xk xs xt = 3) ∧ ((∃ k, k < mm ∧ xk = nI k) → (∃ sd, sd < 2 ∧ xs = nI sd) → (∃ pt, pt < 3 ∧ xt = nI pt) → cEnd mm xk xs xt = 0) := by
  have k0 : (∃ k, k < mm ∧ xk = nI k) ↔ (0 ≤ xk.toInt ∧ xk.toInt < (mm : Int)) := isn_iff hm
  have k1 : (∃ sd, sd < 2 ∧ xs = nI sd) ↔ (0 ≤ xs.toInt ∧ xs.toInt ≤ 1) := (isn_iff (n := 2) (by decide)).trans ⟨fun h => ⟨h.1, by have := h.2; omega⟩, fun h => ⟨h.1, by omega⟩⟩
  have k2 : (∃ pt, pt < 3 ∧ xt = nI pt) ↔ (0 ≤ xt.toInt ∧ xt.toInt ≤ 2) := (isn_iff (n := 3) (by decide)).trans ⟨fun h => ⟨h.1, by have := h.2; omega⟩, fun h => ⟨h.1, by omega⟩⟩
  rw [k0, k1, k2]
  unfold cEnd
  exact ⟨fun h => if_pos h, fun h1 h2 => by rw [if_neg (fun z => z h1), if_pos h2], fun h1 h2 h3 => by rw [if_neg (fun z => z h1), if_neg (fun z => z ⟨h2, h3⟩)]⟩
theorem ca_alike_x {n : Nat} {xp xq : Int32} {E : String} (hn : n ≤ 60) (h : ¬ ((∃ i, i < n ∧ xp = nI i) ∧ ∃ j, j < n ∧ xq = nI j) ∧ E = "java/lang/IndexOutOfBoundsException") : E = "java/lang/IndexOutOfBoundsException" ∧ cAlike n xp xq = 1 := by
  unfold cAlike
  exact ⟨h.2, if_neg (fun z => h.1 ⟨(isn_iff hn).mpr z.1, (isn_iff hn).mpr z.2⟩)⟩
theorem ca_alike_v {n : Nat} {g : Nat → abn} {qs : Nat → nq} {xp xq r : Int32} (hn : n ≤ 60) (hqs : ∀ i, i < n → abq (qs i) = g i) (h : ∃ i j : Nat, i < n ∧ j < n ∧ xp = nI i ∧ xq = nI j ∧ it_b r (∀ t, t < 25 → (gP (nP (qs i)) t ↔ gP (nP (qs j)) t))) : cAlike n xp xq = 0 ∧ it_b r (∀ t, t < 25 → (gP (aP (g (ix xp))) t ↔ gP (aP (g (ix xq))) t)) := by
  obtain ⟨i, j, hi, hj, e1, e2, h3⟩ := h
  have his : isn n xp := (isn_iff hn).mp ⟨i, hi, e1⟩
  have hjs : isn n xq := (isn_iff hn).mp ⟨j, hj, e2⟩
  subst e1 e2
  refine ⟨by unfold cAlike; rw [if_pos ⟨his, hjs⟩], ?_⟩
  rw [ix_nI (i := i) (by omega), ix_nI (i := j) (by omega), ← hqs i hi, ← hqs j hj]
  exact h3
/-- Z may be taken larger by cells that came later -/
theorem qo_Z {cI cJ cN : ClassId} {h0 na v va vb om oa ob im ia ib ro mk ka kb fa la : Nat} {Z Z2 : Nat → Prop} {M M1 : Nat → Option va_E} {tb : Nat → Option nq} {n : Nat} {ad : Nat → Nat} {qs : Nat → nq} (h : qo_I cI cJ cN h0 na v va vb om oa ob im ia ib ro mk ka kb fa la Z M tb n ad qs) (hM : ∀ x, M x ≠ none → M1 x = M x) (h2 : ∀ z, Z2 z → M z = none) (hZ : ∀ z, Z2 z → M1 z ≠ none) : qo_I cI cJ cN h0 na v va vb om oa ob im ia ib ro mk ka kb fa la Z2 M1 tb n ad qs := by
  have hk := qo_other h (fun x _ hx => hM x hx) (fun z hz9 => by obtain ⟨-, -, -, -, -, -, -, -, hz, -⟩ := h; rw [hM z (hz z hz9)]; exact hz z hz9)
  have h3 := h
  obtain ⟨⟨c1, c2, c3⟩, i1, hT, ⟨fv, gv, ⟨v1, v2, v3⟩, ⟨n8, f8, g8, o1, o2, o3⟩, ⟨n9, f9, g9, j1, j2, j3⟩⟩, hD, ⟨ow, n0, f0, g0, m0, Ff, Fl, ⟨p1, ⟨k1, k2, k3⟩, p2, p3⟩, hR⟩, hD2, hla, hz, hL, hN⟩ := h3
  obtain ⟨a1, a2, a3, a4, a5, a6, a7, a8, -, -, -⟩ := hk
  refine ⟨a1, a2, a3, a4, a5, a6, a7, ?_, hZ, ?_, ?_⟩
  · intro b2 q2 la2 gr ex ci ha hc
    obtain ⟨b1, b3, -⟩ := a8 b2 q2 la2 gr ex ci ha hc
    refine ⟨b1, b3, fun z => ?_⟩
    obtain ⟨⟨la3, gr3, F3, c5, c6, -⟩, -⟩ := hT b2 q2 ha
    have e : la2 = la3 := nd_la hc (show nd_c M1 b2 _ _ _ la3 gr3 _ from ⟨c5.1, (hM b2 (tb_ex hT ha)).trans c5.2⟩)
    rw [← e, h2 la2 z] at c6
    cases c6
  · intro x hx hz9
    have h9 := h2 x hz9
    simp only [qo_L, List.mem_cons, List.not_mem_nil, or_false] at hx
    rcases hx with rfl | rfl | rfl | rfl | rfl | rfl | rfl | rfl | rfl | rfl | rfl | rfl | rfl | rfl | rfl | rfl | rfl
    · rw [h9] at c1; cases c1
    · rw [h9] at c2; cases c2
    · rw [h9] at v1; cases v1
    · rw [h9] at v2; cases v2
    · rw [h9] at v3; cases v3
    · rw [h9] at o1; cases o1
    · rw [h9] at o2; cases o2
    · rw [h9] at o3; cases o3
    · rw [h9] at j1; cases j1
    · rw [h9] at j2; cases j2
    · rw [h9] at j3; cases j3
    · rw [h9] at p1; cases p1
    · rw [h9] at k1; cases k1
    · rw [h9] at k2; cases k2
    · rw [h9] at k3; cases k3
    · rw [h9] at p2; cases p2
    · rw [h9] at p3; cases p3
  · intro a q ha hz9
    exact tb_ex hT ha (h2 a hz9)

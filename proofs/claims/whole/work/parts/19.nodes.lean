/-! Nodes: what each one means, how its cell lies, and what the marks of a row give -/
/-- the marks cover the lines, seen from the letter j -/
theorem ga_cov0 {F : Nat → Int32} {j o nl : Nat} {x y : Int} {n : Nat} {f g : Nat → Int64} {Ls : List (Int × Int × Int)} (hy : 0 < y) (hL : ∀ L ∈ Ls, ∃ t, t < nl ∧ L = ((F (3 * t + j)).toInt, (F (3 * t + o)).toInt, (F (3 * t + 2)).toInt)) (hv : ∀ t, t < nl → ga_v F j o x y n f g t) : qm_cov0 Ls (qm_fr x y) (fun m => ∃ i, i < n ∧ m = mk_v f g i) := by
  intro L hLm h1
  obtain ⟨t, ht, rfl⟩ := hL L hLm
  dsimp only at h1 ⊢
  have hd : (F (3 * t + j)).toInt * y ≠ 0 := fun q => (Int.mul_eq_zero.mp q).elim h1 (by omega)
  obtain ⟨i, hi, e⟩ := hv t ht hd
  refine ⟨_, ⟨i, hi, rfl⟩, ?_⟩
  rw [e]
  unfold qm_at
  dsimp only
  generalize (F (3 * t + j)).toInt = a at *
  generalize (F (3 * t + o)).toInt = b at *
  generalize (F (3 * t + 2)).toInt = c at *
  have hyq : (y : Rat) ≠ 0 := fun q => by have := Rat.intCast_eq_zero_iff.mp q; omega
  have haq : (a : Rat) ≠ 0 := fun q => h1 (Rat.intCast_eq_zero_iff.mp q)
  have k1 : (y : Rat) * qm_fr x y = (x : Rat) := qm_fr_mul hy
  have k2 : qm_fr (-(b * x + c * y)) (a * y) * ((a * y : Int) : Rat) = ((-(b * x + c * y) : Int) : Rat) := by
    unfold qm_fr
    exact Rat.div_mul_cancel (fun q => hd (Rat.intCast_eq_zero_iff.mp q))
  simp only [Rat.intCast_mul, Rat.intCast_neg, Rat.intCast_add] at k2
  have k3 : (y : Rat) * ((a : Rat) * qm_fr (-(b * x + c * y)) (a * y) + (b : Rat) * qm_fr x y + (c : Rat)) = 0 := by
    have : (y : Rat) * ((a : Rat) * qm_fr (-(b * x + c * y)) (a * y) + (b : Rat) * qm_fr x y + (c : Rat)) = qm_fr (-(b * x + c * y)) (a * y) * ((a : Rat) * (y : Rat)) + (b : Rat) * ((y : Rat) * qm_fr x y) + (c : Rat) * (y : Rat) := by grind
    rw [this, k1, k2]
    grind
  exact (Rat.mul_eq_zero.mp k3).resolve_left hyq
theorem ga_cov1 {F : Nat → Int32} {j o nl : Nat} {n : Nat} {f g : Nat → Int64} {Ls : List (Int × Int × Int)} (hL : ∀ L ∈ Ls, ∃ t, t < nl ∧ L = ((F (3 * t + j)).toInt, (F (3 * t + o)).toInt, (F (3 * t + 2)).toInt)) (hc : ∀ t r, t < nl → r < t → ga_c F j o n f g t r) : qm_cov1 Ls (fun m => ∃ i, i < n ∧ m = mk_v f g i) := by
  have root : ∀ (a b c a' b' c' : Int), a * b' - a' * b ≠ 0 → qm_D (a, b, c) (a', b', c') (qm_fr (-(c * b' - c' * b)) (a * b' - a' * b)) = 0 := by
    intro a b c a' b' c' hd
    have k2 : qm_fr (-(c * b' - c' * b)) (a * b' - a' * b) * ((a * b' - a' * b : Int) : Rat) = ((-(c * b' - c' * b) : Int) : Rat) := by
      unfold qm_fr
      exact Rat.div_mul_cancel (fun q => hd (Rat.intCast_eq_zero_iff.mp q))
    simp only [Rat.intCast_mul, Rat.intCast_neg, Rat.intCast_sub] at k2
    unfold qm_D qm_A
    dsimp only
    generalize qm_fr (-(c * b' - c' * b)) (a * b' - a' * b) = m at *
    grind
  intro L hLm M hMm h1
  obtain ⟨t, ht, rfl⟩ := hL L hLm
  obtain ⟨r, hr, rfl⟩ := hL M hMm
  dsimp only at h1
  rcases Nat.lt_trichotomy r t with q | q | q
  · have hd : (F (3 * t + j)).toInt * (F (3 * r + o)).toInt - (F (3 * r + j)).toInt * (F (3 * t + o)).toInt ≠ 0 := fun e => h1 (by rw [Int.mul_comm (F (3 * r + o)).toInt, Int.mul_comm (F (3 * t + o)).toInt]; exact e)
    obtain ⟨i, hi, e⟩ := hc t r ht q hd
    exact ⟨_, ⟨i, hi, rfl⟩, by rw [e]; exact root _ _ _ _ _ _ hd⟩
  · subst q
    exact absurd (by rw [Int.mul_comm]; omega) h1
  · have hd : (F (3 * r + j)).toInt * (F (3 * t + o)).toInt - (F (3 * t + j)).toInt * (F (3 * r + o)).toInt ≠ 0 := fun e => h1 (by rw [Int.mul_comm (F (3 * r + o)).toInt, Int.mul_comm (F (3 * t + o)).toInt]; omega)
    obtain ⟨i, hi, e⟩ := hc r t hr q hd
    refine ⟨_, ⟨i, hi, rfl⟩, ?_⟩
    rw [e]
    have h2 := root _ _ (F (3 * r + 2)).toInt _ _ (F (3 * t + 2)).toInt hd
    unfold qm_D at h2 ⊢
    dsimp only at h2 ⊢
    grind
/-- an int that tells a truth -/
def it_b (r : Int32) (p : Prop) : Prop := (r = 1 ∧ p) ∨ (r = 0 ∧ ¬ p)
/-- what a node is: atom op; both or either of two; not; some or every, of a letter -/
abbrev nk : Type := Nat ⊕ (Nat × Nat × Bool) ⊕ Nat ⊕ (Nat × Nat × Bool)
abbrev nq : Type := (Rat → Rat → Prop) × List (Int × Int × Int) × Bool × Bool × Nat × Nat × nk
abbrev nP (q : nq) : Rat → Rat → Prop := q.1
abbrev nL (q : nq) : List (Int × Int × Int) := q.2.1
abbrev nx (q : nq) : Bool := q.2.2.1
abbrev ny (q : nq) : Bool := q.2.2.2.1
abbrev nd (q : nq) : Nat := q.2.2.2.2.1
abbrev nr (q : nq) : Nat := q.2.2.2.2.2.1
abbrev nK (q : nq) : nk := q.2.2.2.2.2.2
def nk_neg (k : nk) : Nat := match k with
  | .inr (.inr (.inl _)) => 1
  | _ => 0
/-- the truth of a node made of others -/
def nk_ok (tb : Nat → Option nq) (q : nq) : Prop := match nK q with
  | .inl op => ∃ l, nL q = [l] ∧ (∀ x y, nP q x y ↔ qm_atom l op x y) ∧ op < 3 ∧ nx q = true ∧ ny q = true ∧ nd q = 0
  | .inr (.inl (a, b, k)) => ∃ q1 q2, tb a = some q1 ∧ tb b = some q2 ∧ nr q1 < nr q ∧ nr q2 < nr q ∧ nd q = max (nd q1) (nd q2) ∧ nL q = nL q1 ++ nL q2 ∧ (∀ x y, nP q x y ↔ if k = true then nP q1 x y ∧ nP q2 x y else nP q1 x y ∨ nP q2 x y)
  | .inr (.inr (.inl a)) => ∃ q1, tb a = some q1 ∧ nr q1 < nr q ∧ nd q = nd q1 ∧ nL q = nL q1 ∧ (∀ x y, nP q x y ↔ ¬ nP q1 x y) ∧ nx q = nx q1 ∧ ny q = ny q1
  | .inr (.inr (.inr (j, a, k))) => ∃ q1, j < 2 ∧ tb a = some q1 ∧ nr q1 < nr q ∧ nd q = nd q1 + 1 ∧ nL q = nL q1 ∧ (∀ x y, nP q x y ↔ if k = true then (if j = 0 then ∀ u, nP q1 u y else ∀ u, nP q1 x u) else (if j = 0 then ∃ u, nP q1 u y else ∃ u, nP q1 x u))
def nq_ok (tb : Nat → Option nq) (q : nq) : Prop := nk_ok tb q ∧ 1 ≤ (nL q).length ∧ (nL q).length ≤ 6 ∧ nd q ≤ 2 ∧ nr q + 2 ≤ 2 * (nL q).length + 2 * nd q + nk_neg (nK q) ∧ (∀ l ∈ nL q, l.1.natAbs ≤ 5 ∧ l.2.1.natAbs ≤ 5 ∧ l.2.2.natAbs ≤ 5) ∧ qm_inv (nL q) (nd q) (nP q) ∧ (nx q = false → ∀ x x' y, nP q x y ↔ nP q x' y) ∧ (ny q = false → ∀ x y y', nP q x y ↔ nP q x y')
def bt (x : Int32) (i : Nat) : Bool := x.toBitVec.getLsbD i
theorem b_ext {x y : Int32} (h : ∀ i, i < 32 → bt x i = bt y i) : x = y := Int32.toBitVec_inj.mp (BitVec.eq_of_getLsbD_eq (fun i hi => h i hi))
theorem b_or (x y : Int32) (i : Nat) : bt (x ||| y) i = (bt x i || bt y i) := by unfold bt; rw [Int32.toBitVec_or, BitVec.getLsbD_or]
theorem b_and (x y : Int32) (i : Nat) : bt (x &&& y) i = (bt x i && bt y i) := by unfold bt; rw [Int32.toBitVec_and, BitVec.getLsbD_and]
theorem b_xor (x y : Int32) (i : Nat) : bt (x ^^^ y) i = (bt x i ^^ bt y i) := by unfold bt; rw [Int32.toBitVec_xor, BitVec.getLsbD_xor]
theorem b_big {x : Int32} {i : Nat} (h : 32 ≤ i) : bt x i = false := BitVec.getLsbD_of_ge _ _ h
theorem b_m1 : ∀ i, i < 32 → bt (-1) i = true := by decide +kernel
theorem b_0 (i : Nat) : bt 0 i = false := BitVec.getLsbD_zero
theorem s_l : ∀ n, n < 32 → ((nI n &&& 31).toBitVec.smod 32).toNat = n := by decide +kernel
theorem b_shl (n : Nat) (hn : n < 32) (x : Int32) {i : Nat} (hi : i < 32) : bt (x <<< (nI n &&& 31)) i = (decide (n ≤ i) && bt x (i - n)) := by
  unfold bt
  rw [Int32.toBitVec_shiftLeft]
  show (x.toBitVec <<< ((nI n &&& 31).toBitVec.smod 32).toNat).getLsbD i = _
  rw [s_l n hn, BitVec.getLsbD_shiftLeft]
  rcases Nat.lt_or_ge i n with h | h
  · simp [h, Nat.not_le.mpr h]
  · simp [hi, h, Nat.not_lt.mpr h]
theorem b_sshr (n : Nat) (hn : n < 32) (x : Int32) {i : Nat} (hi : i < 32) : bt (x >>> (nI n &&& 31)) i = if n + i < 32 then bt x (n + i) else bt x 31 := by
  unfold bt
  rw [Int32.toBitVec_shiftRight]
  show (x.toBitVec.sshiftRight ((nI n &&& 31).toBitVec.smod 32).toNat).getLsbD i = _
  rw [s_l n hn, BitVec.getLsbD_sshiftRight, BitVec.msb_eq_getLsbD_last]
  simp [hi]
/-- the truth at one of the 25 places; the 25 truths of a node, as the grid has them -/
def gP (P : Rat → Rat → Prop) (i : Nat) : Prop := P ((((i / 5 : Nat) : Int) - 2 : Int) : Rat) ((((i % 5 : Nat) : Int) - 2 : Int) : Rat)
def gp_ok (P : Rat → Rat → Prop) (k : Nat) (g : Int32) : Prop := (∀ i, i < k → (bt g i = true ↔ gP P i)) ∧ ∀ i, k ≤ i → i < 32 → bt g i = false
def gd_ok (P : Rat → Rat → Prop) (g : Int32) : Prop := gp_ok P 25 g
def nk_ci (k : nk) : Nat := match k with
  | .inl _ => 1
  | .inr (.inl _) => 4
  | .inr (.inr (.inl _)) => 3
  | .inr (.inr (.inr _)) => 6
def nk_ex (q : nq) : List Value := match nK q with
  | .inl op => [.int (Int32.ofInt ((nL q).headD (0, 0, 0)).1), .int (Int32.ofInt ((nL q).headD (0, 0, 0)).2.1), .int (Int32.ofInt ((nL q).headD (0, 0, 0)).2.2), .int (nI op)]
  | .inr (.inl (a, b, k)) => [.ref a, .ref b, .int (if k = true then 1 else 0)]
  | .inr (.inr (.inl a)) => [.ref a]
  | .inr (.inr (.inr (j, a, k))) => [.int (nI j), .ref a, .int (if k = true then 1 else 0)]
def nl_F (F : Nat → Int32) (L : List (Int × Int × Int)) : Prop := ∀ t l, L[t]? = some l → (F (3 * t)).toInt = l.1 ∧ (F (3 * t + 1)).toInt = l.2.1 ∧ (F (3 * t + 2)).toInt = l.2.2
def nq_cell (cI : ClassId) (M : Nat → Option va_E) (a : Nat) (q : nq) : Prop := ∃ (la : Nat) (gr : Int32) (F : Nat → Int32), nd_c M a (nk_ci (nK q)) (nd_fr (nx q) (ny q)) (nI (nd q)) la gr (nk_ex q) ∧ M la = some (.inl (cI, 3 * (nL q).length, .inl F)) ∧ nl_F F (nL q) ∧ (gr = -1 ∨ gd_ok (nP q) gr)
def tb_ok (cI : ClassId) (M : Nat → Option va_E) (tb : Nat → Option nq) : Prop := ∀ a q, tb a = some q → nq_cell cI M a q ∧ nq_ok tb q
/-- node cells and int arrays stay: then the table stands -/
theorem tb_kept {cI : ClassId} {M M1 : Nat → Option va_E} {tb : Nat → Option nq} (h : tb_ok cI M tb) (hk : ∀ a e, M a = some e → (∀ f, e ≠ .inr (2, f)) → (∀ c n f, e ≠ .inl (c, n, .inr (.inl f))) → M1 a = M a) : tb_ok cI M1 tb := by
  intro a q ha
  obtain ⟨⟨la, gr, F, ⟨h1, h2⟩, h3, h4, h5⟩, h6⟩ := h a q ha
  refine ⟨⟨la, gr, F, ⟨h1, ?_⟩, ?_, h4, h5⟩, h6⟩
  · rw [hk a _ h2 (fun f e => by simp only [Sum.inr.injEq, Prod.mk.injEq] at e; omega) (fun c n f e => by cases e)]
    exact h2
  · rw [hk la _ h3 (fun f e => by cases e) (fun c n f e => by simp at e)]
    exact h3
theorem nl_len {F : Nat → Int32} {L : List (Int × Int × Int)} (h : nl_F F L) (hb : ∀ l ∈ L, l.1.natAbs ≤ 5 ∧ l.2.1.natAbs ≤ 5 ∧ l.2.2.natAbs ≤ 5) : ∀ i, i < 3 * L.length → (F i).toInt.natAbs ≤ 5 := by
  intro i hi
  have ht : i / 3 < L.length := by omega
  obtain ⟨l, hl⟩ : ∃ l, L[i / 3]? = some l := ⟨_, List.getElem?_eq_getElem ht⟩
  obtain ⟨a, b, c⟩ := h _ _ hl
  obtain ⟨a2, b2, c2⟩ := hb l (List.mem_of_getElem? hl)
  rcases (show i = 3 * (i / 3) ∨ i = 3 * (i / 3) + 1 ∨ i = 3 * (i / 3) + 2 by omega) with e | e | e
  · rw [e, a]; exact a2
  · rw [e, b]; exact b2
  · rw [e, c]; exact c2
/-- the lines as the letter j sees them -/
def nl_j (j : Nat) (L : List (Int × Int × Int)) : List (Int × Int × Int) := if j = 0 then L else L.map qm_sw
theorem nl_jm {F : Nat → Int32} {L : List (Int × Int × Int)} (h : nl_F F L) {j o : Nat} (hjo : j + o = 1) : ∀ l ∈ nl_j j L, ∃ t, t < L.length ∧ l = ((F (3 * t + j)).toInt, (F (3 * t + o)).toInt, (F (3 * t + 2)).toInt) := by
  intro l hl
  unfold nl_j at hl
  rcases (show j = 0 ∨ j = 1 by omega) with e | e
  · subst e
    have e2 : o = 1 := by omega
    subst e2
    rw [if_pos rfl] at hl
    obtain ⟨t, ht⟩ := List.getElem?_of_mem hl
    obtain ⟨a, b, c⟩ := h t l ht
    exact ⟨t, (List.getElem?_eq_some_iff.mp ht).1, by rw [Nat.add_zero, a, b, c]⟩
  · subst e
    have e2 : o = 0 := by omega
    subst e2
    rw [if_neg (by decide)] at hl
    obtain ⟨l2, hl2, rfl⟩ := List.mem_map.mp hl
    obtain ⟨t, ht⟩ := List.getElem?_of_mem hl2
    obtain ⟨a, b, c⟩ := h t l2 ht
    exact ⟨t, (List.getElem?_eq_some_iff.mp ht).1, by show qm_sw l2 = ((F (3 * t + 1)).toInt, (F (3 * t)).toInt, (F (3 * t + 2)).toInt); rw [a, b, c]; rfl⟩
def nP_j (j : Nat) (P : Rat → Rat → Prop) (u w : Rat) : Prop := if j = 0 then P u w else P w u
theorem nP_jinv {L : List (Int × Int × Int)} {d : Nat} {P : Rat → Rat → Prop} (h : qm_inv L d P) (j : Nat) : qm_inv (nl_j j L) d (nP_j j P) := by
  by_cases e : j = 0
  · subst e
    exact h
  · unfold nl_j
    rw [if_neg e]
    intro x y x' y' hE
    unfold nP_j
    rw [if_neg e, if_neg e]
    exact qm_inv_sw h x y x' y' hE
/-- what gather's row gives: between its marks the truth of the body does not change -/
theorem ga_cell {F : Nat → Int32} {L : List (Int × Int × Int)} {d j o n : Nat} {x y : Int} {f g : Nat → Int64} {P : Rat → Rat → Prop} (hF : nl_F F L) (hjo : j + o = 1) (hy : 0 < y) (hi : qm_inv L d P) (hd : d ≤ 1) (hfr : (∀ u u' w, nP_j j P u w ↔ nP_j j P u' w) ∨ ((∀ t, t < L.length → ga_v F j o x y n f g t) ∧ (0 < d → ∀ t r, t < L.length → r < t → ga_c F j o n f g t r)))
    (s : Nat) (u u' : Rat) (hu : qi_at (mk_v f g) n s u) (hu' : qi_at (mk_v f g) n s u') : nP_j j P u (qm_fr x y) ↔ nP_j j P u' (qm_fr x y) := by
  rcases hfr with h0 | ⟨hv, hc⟩
  · exact h0 u u' _
  · exact qm_same (nP_jinv hi j) hd (ga_cov0 hy (nl_jm hF hjo) hv) (fun e => ga_cov1 (nl_jm hF hjo) (hc (by omega))) (fun m ⟨i, hi2, e⟩ => by rw [e]; exact qi_ss hu hu' i hi2)

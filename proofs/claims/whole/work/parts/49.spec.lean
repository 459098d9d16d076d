/-! What a call must answer, by what the nodes mean; the reference's object between calls -/
abbrev abn : Type := (Rat → Rat → Prop) × Bool × Bool × Nat × Nat
abbrev aP (g : abn) : Rat → Rat → Prop := g.1
abbrev aX (g : abn) : Bool := g.2.1
abbrev aY (g : abn) : Bool := g.2.2.1
abbrev aS (g : abn) : Nat := g.2.2.2.1
abbrev aD (g : abn) : Nat := g.2.2.2.2
def abq (q : nq) : abn := (nP q, nx q, ny q, (nL q).length, nd q)
abbrev isn (n : Nat) (p : Int32) : Prop := 0 ≤ p.toInt ∧ p.toInt < (n : Int)
def ix (p : Int32) : Nat := p.toInt.toNat
theorem ix_of {n : Nat} {p : Int32} (hn : n ≤ 60) (h : isn n p) : ix p < n ∧ p = nI (ix p) := by
  unfold ix
  exact ⟨by omega, Int32.toInt_inj.mp (by rw [nI_toInt (by omega)]; omega)⟩
theorem isn_iff {n : Nat} {p : Int32} (hn : n ≤ 60) : (∃ i, i < n ∧ p = nI i) ↔ isn n p := by
  constructor
  · rintro ⟨i, hi, rfl⟩
    rw [isn, nI_toInt (by omega)]
    omega
  · intro h
    exact ⟨ix p, (ix_of hn h).1, (ix_of hn h).2⟩
theorem ix_nI {i : Nat} (h : i < 2 ^ 31) : ix (nI i) = i := by unfold ix; rw [nI_toInt h]; exact Int.toNat_natCast i
def cAtom (n : Nat) (a b c op : Int32) : Nat := if n = 60 then 1 else if (a.toInt.natAbs ≤ 5 ∧ b.toInt.natAbs ≤ 5 ∧ c.toInt.natAbs ≤ 5) ∧ 0 ≤ op.toInt ∧ op.toInt ≤ 2 then 0 else 2
def cPair (n : Nat) (g : Nat → abn) (p q : Int32) : Nat := if ¬ (isn n p ∧ isn n q) then 1 else if n = 60 then 2 else if 6 < aS (g (ix p)) + aS (g (ix q)) then 3 else 0
def cNot (n : Nat) (p : Int32) : Nat := if ¬ isn n p then 1 else if n = 60 then 2 else 0
def cQuant (n : Nat) (g : Nat → abn) (l p : Int32) : Nat := if ¬ isn n p then 1 else if n = 60 then 2 else if ¬ (0 ≤ l.toInt ∧ l.toInt ≤ 1) ∨ 2 ≤ aD (g (ix p)) then 3 else 0
def cKnown (n : Nat) (p w : Int32) : Nat := if ¬ isn n p then 1 else if 0 ≤ w.toInt ∧ w.toInt ≤ 3 then 0 else 2
def cHolds (n : Nat) (p x y : Int32) : Nat := if ¬ isn n p then 1 else if x.toInt.natAbs ≤ 50 ∧ y.toInt.natAbs ≤ 50 then 0 else 2
def cDecide (n : Nat) (g : Nat → abn) (p : Int32) : Nat := if ¬ isn n p then 1 else if aX (g (ix p)) = true ∨ aY (g (ix p)) = true then 2 else 0
def cSet (n : Nat) (g : Nat → abn) (p : Int32) : Nat := if ¬ isn n p then 1 else if aX (g (ix p)) = aY (g (ix p)) ∨ 1 < aD (g (ix p)) then 2 else 0
def cEnd (m : Nat) (k sd pt : Int32) : Nat := if ¬ (0 ≤ k.toInt ∧ k.toInt < (m : Int)) then 1 else if ¬ ((0 ≤ sd.toInt ∧ sd.toInt ≤ 1) ∧ 0 ≤ pt.toInt ∧ pt.toInt ≤ 2) then 3 else 0
def cAlike (n : Nat) (p q : Int32) : Nat := if isn n p ∧ isn n q then 0 else 1
def gAtom (a b c op : Int32) : abn := (qm_atom (a.toInt, b.toInt, c.toInt) (ix op), true, true, 1, 0)
def gPair (kk : Bool) (g1 g2 : abn) : abn := (np_P kk (aP g1) (aP g2), aX g1 || aX g2, aY g1 || aY g2, aS g1 + aS g2, max (aD g1) (aD g2))
def gNot (g1 : abn) : abn := (fun x y => ¬ aP g1 x y, aX g1, aY g1, aS g1, aD g1)
def gQuant (l : Int32) (kk : Bool) (g1 : abn) : abn := (nu_P (ix l) kk (aP g1), (if ix l = 0 then false else aX g1), (if ix l = 0 then aY g1 else false), aS g1, aD g1 + 1)
/-- the answer of known -/
def vKnown (g1 : abn) (w : Int32) : Int32 := if ix w = 0 then (if aX g1 = true then 1 else 0) else if ix w = 1 then (if aY g1 = true then 1 else 0) else if ix w = 2 then nI (aS g1) else nI (aD g1)
/-- the set of a node with one free letter -/
def aSet (g1 : abn) (u : Rat) : Prop := nP_j (if aX g1 = true then 0 else 1) (aP g1) u 0
/-- a call that makes a node -/
def mkn (n : Nat) (g : Nat → abn) (c : Nat) (new : abn) (n2 : Nat) (g2 : Nat → abn) : Prop := (c = 0 ∧ n < 60 ∧ n2 = n + 1 ∧ g2 = va_up g n new) ∨ (c ≠ 0 ∧ n2 = n ∧ g2 = g)
theorem mo_upt {mt : Nat → Option nq} {b : Nat} {q0 q : nq} (hb : mt b = none) (h : mo_ok mt q) : mo_ok (va_up mt b (some q0)) q := ⟨nk_ok_up hb h.1, h.2⟩
def md_F (md kd on tw nu le fx fy si de ne it po ma ab be li fr to : Nat) (M M1 : Nat → Option va_E) : Prop := ∀ x, (∀ i, i < 19 → x ≠ md_a md kd on tw nu le fx fy si de ne it po ma ab be li fr to i) → M1 x = M x
theorem md_F.of {md kd on tw nu le fx fy si de ne it po ma ab be li fr to : Nat} {M M1 : Nat → Option va_E} (h : ∀ x9, x9 ≠ md → x9 ≠ ne → x9 ≠ it → x9 ≠ po → x9 ≠ ma → x9 ≠ ab → x9 ≠ be → M1 x9 = M x9) : md_F md kd on tw nu le fx fy si de ne it po ma ab be li fr to M M1 := fun x hx => h x (hx 0 (by decide)) (hx 10 (by decide)) (hx 11 (by decide)) (hx 12 (by decide)) (hx 13 (by decide)) (hx 14 (by decide)) (hx 15 (by decide))
theorem md_F.tr {md kd on tw nu le fx fy si de ne it po ma ab be li fr to : Nat} {M M1 M2 : Nat → Option va_E} (h : md_F md kd on tw nu le fx fy si de ne it po ma ab be li fr to M M1) (k : md_F md kd on tw nu le fx fy si de ne it po ma ab be li fr to M1 M2) : md_F md kd on tw nu le fx fy si de ne it po ma ab be li fr to M M2 := fun x hx => (k x hx).trans (h x hx)
/-- the rows of pieces -/
def md_L (cI cZ : ClassId) (li fr to : Nat) (M : Nat → Option va_E) : Prop := ∃ LI FR9 TO9 : Nat → Int32, M li = some (.inl (cZ, 130, .inl LI)) ∧ M fr = some (.inl (cI, 66, .inl FR9)) ∧ M to = some (.inl (cI, 66, .inl TO9))
theorem md_L.kept {cI cZ : ClassId} {md kd on tw nu le fx fy si de ne it po ma ab be li fr to : Nat} {M M1 : Nat → Option va_E} (hD : md_D md kd on tw nu le fx fy si de ne it po ma ab be li fr to) (h : md_L cI cZ li fr to M) (hf : ∀ x9, x9 ≠ md → x9 ≠ ne → x9 ≠ it → x9 ≠ po → x9 ≠ ma → x9 ≠ ab → x9 ≠ be → M1 x9 = M x9) : md_L cI cZ li fr to M1 := by
  obtain ⟨a, b, c, h1, h2, h3⟩ := h
  have g : ∀ i, 15 < i → i < 19 → M1 (md_a md kd on tw nu le fx fy si de ne it po ma ab be li fr to i) = M (md_a md kd on tw nu le fx fy si de ne it po ma ab be li fr to i) := fun i h0 h1 => hf _ (Ne.symm (hD 0 i (by omega) h1)) (Ne.symm (hD 10 i (by omega) h1)) (Ne.symm (hD 11 i (by omega) h1)) (Ne.symm (hD 12 i (by omega) h1)) (Ne.symm (hD 13 i (by omega) h1)) (Ne.symm (hD 14 i (by omega) h1)) (Ne.symm (hD 15 i (by omega) h1))
  exact ⟨a, b, c, (g 16 (by decide) (by decide)).trans h1, (g 17 (by decide) (by decide)).trans h2, (g 18 (by decide) (by decide)).trans h3⟩
/-- the reference's object with n nodes of the meanings g; cd: what it last refused -/
def md_J (cI cJ cZ : ClassId) (md kd on tw nu le fx fy si de ne it po ma ab be li fr to : Nat) (M : Nat → Option va_E) (cd : Int32) (n : Nat) (g : Nat → abn) : Prop := ∃ (up dn : Int64) (pz : Int32) (NE IT : Nat → Int32) (PO : Nat → Int64) (MA : Nat → Int32) (AB BE : Nat → Int64) (st : Nat → Nat → Int32) (mt : Nat → Option nq), md_W cI cJ cZ md kd on tw nu le fx fy si de ne it po ma ab be li fr to M cd n up dn pz NE IT PO MA AB BE ∧ md_T cI cZ kd on tw nu le fx fy si de M st ∧ mt_ok n mt st ∧ md_L cI cZ li fr to M ∧ ∀ i, i < n → ∃ q, mt i = some q ∧ abq q = g i
theorem mt_none {n : Nat} {mt : Nat → Option nq} {st : Nat → Nat → Int32} (h : mt_ok n mt st) : mt n = none := by
  cases e : mt n with
  | none => rfl
  | some q => exact absurd (h.2.2 n q e).1 (Nat.lt_irrefl n)
/-- a node more -/
theorem mt_add {n : Nat} {mt : Nat → Option nq} {st st2 : Nat → Nat → Int32} {q : nq} (h : mt_ok n mt st) (hn : n < 60) (hr : nr q = n) (hm : mo_ok (va_up mt n (some q)) q) (hc : mt_c st2 n q) (h1 : ∀ a i, a ≠ 3 → i < n → st2 a i = st a i) (h2 : ∀ i, i < 4 * n → st2 3 i = st 3 i) : mt_ok (n + 1) (va_up mt n (some q)) st2 := by
  have hno := mt_none h
  refine ⟨hn, fun s hs => ?_, fun s q2 hq2 => ?_⟩
  · by_cases e : s = n
    · exact ⟨q, by rw [e]; exact va_up_self _ _ _⟩
    · obtain ⟨q1, h9⟩ := h.2.1 s (by omega)
      exact ⟨q1, by rw [va_up_ne _ _ e]; exact h9⟩
  · by_cases e : s = n
    · subst e
      rw [va_up_self] at hq2
      cases hq2
      exact ⟨Nat.lt_succ_self _, hr, hm, hc⟩
    · rw [va_up_ne _ _ e] at hq2
      obtain ⟨a1, a2, a3, a4, a5, a6, a7, a8⟩ := h.2.2 s q2 hq2
      refine ⟨by omega, a2, mo_upt hno a3, by rw [h1 5 s (by decide) a1]; exact a4, by rw [h1 6 s (by decide) a1]; exact a5, by rw [h1 7 s (by decide) a1]; exact a6, by rw [h1 8 s (by decide) a1]; exact a7, ?_⟩
      unfold mt_k at a8 ⊢
      rcases hK : nK q2 with op | ⟨a, b, kk⟩ | a | ⟨j, a, kk⟩
      · rw [hK] at a8
        show st2 0 s = 0 ∧ _
        rw [h1 0 s (by decide) a1, h2 _ (by omega), h2 _ (by omega), h2 _ (by omega), h2 _ (by omega)]
        exact a8
      · rw [hK] at a8
        show st2 0 s = _ ∧ st2 1 s = _ ∧ st2 2 s = _
        rw [h1 0 s (by decide) a1, h1 1 s (by decide) a1, h1 2 s (by decide) a1]
        exact a8
      · rw [hK] at a8
        show st2 0 s = _ ∧ st2 1 s = _ ∧ st2 2 s = _
        rw [h1 0 s (by decide) a1, h1 1 s (by decide) a1, h1 2 s (by decide) a1]
        exact a8
      · rw [hK] at a8
        show st2 0 s = _ ∧ st2 1 s = _ ∧ st2 2 s = _ ∧ st2 4 s = _
        rw [h1 0 s (by decide) a1, h1 1 s (by decide) a1, h1 2 s (by decide) a1, h1 4 s (by decide) a1]
        exact a8
theorem mo_atom {mt : Nat → Option nq} {L : Int × Int × Int} {o n : Nat} (ho : o < 3) (hL : L.1.natAbs ≤ 5 ∧ L.2.1.natAbs ≤ 5 ∧ L.2.2.natAbs ≤ 5) : mo_ok mt (qm_atom L o, [L], true, true, 0, n, .inl o) :=
  ⟨⟨L, rfl, fun _ _ => Iff.rfl, ho, rfl, rfl, rfl⟩, Nat.le_refl 1, by show 1 ≤ 6; omega, Nat.zero_le 2, fun l hl => by rw [List.mem_singleton.mp hl]; exact hL, qm_inv_atom L o, (fun h => by cases h), (fun h => by cases h)⟩
def mp_q (n a b : Nat) (kk : Bool) (q1 q2 : nq) : nq := (np_P kk (nP q1) (nP q2), nL q1 ++ nL q2, nx q1 || nx q2, ny q1 || ny q2, max (nd q1) (nd q2), n, .inr (.inl (a, b, kk)))
theorem mo_pair {mt : Nat → Option nq} {n a b : Nat} {kk : Bool} {q1 q2 : nq} (h1 : mt a = some q1) (h2 : mt b = some q2) (r1 : nr q1 < n) (r2 : nr q2 < n) (k1 : mo_ok mt q1) (k2 : mo_ok mt q2) (hl : (nL q1).length + (nL q2).length ≤ 6) : mo_ok mt (mp_q n a b kk q1 q2) := by
  obtain ⟨-, a1, a2, a3, a5, a6, a7, a8⟩ := k1
  obtain ⟨-, b1, b2, b3, b5, b6, b7, b8⟩ := k2
  have hlen : (nL (mp_q n a b kk q1 q2)).length = (nL q1).length + (nL q2).length := List.length_append
  have hdd : nd (mp_q n a b kk q1 q2) = max (nd q1) (nd q2) := rfl
  refine ⟨⟨q1, q2, h1, h2, r1, r2, rfl, rfl, fun _ _ => Iff.rfl⟩, by omega, by omega, by omega, ?_, ?_, ?_, ?_⟩
  · intro l hl9
    rcases List.mem_append.mp hl9 with h | h
    · exact a5 l h
    · exact b5 l h
  · cases kk
    · exact qm_inv_or a6 b6
    · exact qm_inv_and a6 b6
  · intro hx x x' y
    have e1 : nx q1 = false := by cases h : nx q1; rfl; exact absurd hx (by show ¬ (nx q1 || nx q2) = false; rw [h]; simp)
    have e2 : nx q2 = false := by cases h : nx q2; rfl; exact absurd hx (by show ¬ (nx q1 || nx q2) = false; rw [h]; simp)
    show np_P kk (nP q1) (nP q2) x y ↔ np_P kk (nP q1) (nP q2) x' y
    unfold np_P
    rw [a7 e1 x x' y, b7 e2 x x' y]
  · intro hx x y y'
    have e1 : ny q1 = false := by cases h : ny q1; rfl; exact absurd hx (by show ¬ (ny q1 || ny q2) = false; rw [h]; simp)
    have e2 : ny q2 = false := by cases h : ny q2; rfl; exact absurd hx (by show ¬ (ny q1 || ny q2) = false; rw [h]; simp)
    show np_P kk (nP q1) (nP q2) x y ↔ np_P kk (nP q1) (nP q2) x y'
    unfold np_P
    rw [a8 e1 x y y', b8 e2 x y y']
def mn_q (n a : Nat) (q1 : nq) : nq := (fun x y => ¬ nP q1 x y, nL q1, nx q1, ny q1, nd q1, n, .inr (.inr (.inl a)))
theorem mo_not {mt : Nat → Option nq} {n a : Nat} {q1 : nq} (h1 : mt a = some q1) (r1 : nr q1 < n) (k1 : mo_ok mt q1) : mo_ok mt (mn_q n a q1) := by
  obtain ⟨-, a1, a2, a3, a5, a6, a7, a8⟩ := k1
  exact ⟨⟨q1, h1, r1, rfl, rfl, fun _ _ => Iff.rfl, rfl, rfl⟩, a1, a2, a3, a5, qm_inv_not a6, fun h x x' y => not_congr (a7 h x x' y), fun h x y y' => not_congr (a8 h x y y')⟩
def mu_q (n a j : Nat) (kk : Bool) (q1 : nq) : nq := (nu_P j kk (nP q1), nL q1, (if j = 0 then false else nx q1), (if j = 0 then ny q1 else false), nd q1 + 1, n, .inr (.inr (.inr (j, a, kk))))
theorem mo_quant {mt : Nat → Option nq} {n a j : Nat} {kk : Bool} {q1 : nq} (hj : j < 2) (h1 : mt a = some q1) (r1 : nr q1 < n) (k1 : mo_ok mt q1) (hd : nd q1 < 2) : mo_ok mt (mu_q n a j kk q1) := by
  obtain ⟨-, a1, a2, a3, a5, a6, a7, a8⟩ := k1
  refine ⟨⟨q1, hj, h1, r1, rfl, rfl, fun _ _ => Iff.rfl⟩, a1, a2, by show nd q1 + 1 ≤ 2; omega, a5, ?_, ?_, ?_⟩
  · show qm_inv (nL q1) (nd q1 + 1) (nu_P j kk (nP q1))
    rcases (show j = 0 ∨ j = 1 by omega) with rfl | rfl <;> cases kk
    · exact qm_inv_sx a6
    · exact qm_inv_ex a6
    · exact qm_inv_sy a6
    · exact qm_inv_ey a6
  · show (if j = 0 then false else nx q1) = false → ∀ x x' y, nu_P j kk (nP q1) x y ↔ nu_P j kk (nP q1) x' y
    rcases (show j = 0 ∨ j = 1 by omega) with rfl | rfl
    · intro _ x x' y; exact Iff.rfl
    · intro h x x' y
      have h : nx q1 = false := h
      cases kk
      · exact exists_congr fun u => a7 h x x' u
      · exact forall_congr' fun u => a7 h x x' u
  · show (if j = 0 then ny q1 else false) = false → ∀ x y y', nu_P j kk (nP q1) x y ↔ nu_P j kk (nP q1) x y'
    rcases (show j = 0 ∨ j = 1 by omega) with rfl | rfl
    · intro h x y y'
      have h : ny q1 = false := h
      cases kk
      · exact exists_congr fun u => a8 h u y y'
      · exact forall_congr' fun u => a8 h u y y'
    · intro _ x y y'; exact Iff.rfl

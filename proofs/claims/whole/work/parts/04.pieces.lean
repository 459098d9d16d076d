/-! A set of fractions as a row of pieces: an end is nothing, or a fraction that belongs to the piece or doesn't. The row is determined by the set. -/
def qp_lo (l : Option (Rat × Bool)) (x : Rat) : Prop := ∀ v b, l = some (v, b) → v < x ∨ (b = true ∧ x = v)
def qp_hi (r : Option (Rat × Bool)) (x : Rat) : Prop := ∀ v b, r = some (v, b) → x < v ∨ (b = true ∧ x = v)
def qp_in (l r : Option (Rat × Bool)) (x : Rat) : Prop := qp_lo l x ∧ qp_hi r x
/-- the n pieces from L k to R k, left to right, are S; none is empty; something that isn't in S lies between two -/
def qp_sys (S : Rat → Prop) (n : Nat) (L R : Nat → Option (Rat × Bool)) : Prop :=
  (∀ x, S x ↔ ∃ k, k < n ∧ qp_in (L k) (R k) x) ∧ (∀ k, k < n → ∃ x, qp_in (L k) (R k) x) ∧
  ∀ j k, j < k → k < n → ∀ x y, qp_in (L j) (R j) x → qp_in (L k) (R k) y → x < y ∧ ∃ z, x < z ∧ z < y ∧ ¬ S z
theorem qp_lo_up {l : Option (Rat × Bool)} {x y : Rat} (h : qp_lo l x) (hy : x < y) : qp_lo l y := by
  intro v b e
  rcases h v b e with q | ⟨-, q⟩
  · exact Or.inl (by grind)
  · exact Or.inl (by grind)
theorem qp_hi_dn {r : Option (Rat × Bool)} {x y : Rat} (h : qp_hi r x) (hy : y < x) : qp_hi r y := by
  intro v b e
  rcases h v b e with q | ⟨-, q⟩
  · exact Or.inl (by grind)
  · exact Or.inl (by grind)
theorem qp_conv {l r : Option (Rat × Bool)} {x y z : Rat} (hx : qp_in l r x) (hy : qp_in l r y) (h1 : x < z) (h2 : z < y) : qp_in l r z := ⟨qp_lo_up hx.1 h1, qp_hi_dn hy.2 h2⟩
theorem qp_uniq1 {S : Rat → Prop} {n n' : Nat} {L R L' R' : Nat → Option (Rat × Bool)} (h : qp_sys S n L R) (h' : qp_sys S n' L' R') (k : Nat) (hk : k < n)
    (ih : ∀ i, i < k → i < n' ∧ ∀ x, qp_in (L i) (R i) x ↔ qp_in (L' i) (R' i) x) (ihn : ∀ i, i < k → i < n) (hk' : k < n') (x : Rat) (hx : qp_in (L k) (R k) x) : qp_in (L' k) (R' k) x := by
  obtain ⟨h1, h2, h3⟩ := h
  obtain ⟨h1', h2', h3'⟩ := h'
  obtain ⟨j, hj, hjx⟩ := (h1' x).mp ((h1 x).mpr ⟨k, hk, hx⟩)
  rcases Nat.lt_or_ge j k with c | c
  · have hjj := ((ih j c).2 x).mpr hjx
    have := (h3 j k c hk x x hjj hx).1
    exact absurd this Rat.lt_irrefl
  · rcases Nat.lt_or_ge k j with d | d
    · obtain ⟨x', hx'⟩ := h2' k hk'
      obtain ⟨i, hi, hix⟩ := (h1 x').mp ((h1' x').mpr ⟨k, hk', hx'⟩)
      obtain ⟨lt, z, z1, z2, z3⟩ := h3' k j d hj x' x hx' hjx
      rcases Nat.lt_or_ge i k with e | e
      · have hii := ((ih i e).2 x').mp hix
        have := (h3' i k e hk' x' x' hii hx').1
        exact absurd this Rat.lt_irrefl
      · rcases Nat.lt_or_ge k i with f | f
        · have := (h3 k i f hi x x' hx hix).1
          exact absurd (show x' < x' by grind) Rat.lt_irrefl
        · have e2 : i = k := by omega
          subst e2
          exact absurd ((h1 z).mpr ⟨i, hk, qp_conv hix hx z1 z2⟩) z3
    · have e2 : j = k := by omega
      subst e2
      exact hjx
theorem qp_uniq {S : Rat → Prop} {n n' : Nat} {L R L' R' : Nat → Option (Rat × Bool)} (h : qp_sys S n L R) (h' : qp_sys S n' L' R') : ∀ k, k < n → k < n' ∧ ∀ x, qp_in (L k) (R k) x ↔ qp_in (L' k) (R' k) x := by
  intro k
  induction k using Nat.strongRecOn with
  | ind k ih =>
    intro hk
    have ih1 : ∀ i, i < k → i < n' ∧ ∀ x, qp_in (L i) (R i) x ↔ qp_in (L' i) (R' i) x := fun i hi => ih i hi (by omega)
    have hk' : k < n' := by
      obtain ⟨x, hx⟩ := h.2.1 k hk
      obtain ⟨j, hj, hjx⟩ := (h'.1 x).mp ((h.1 x).mpr ⟨k, hk, hx⟩)
      rcases Nat.lt_or_ge j k with c | c
      · have hjj := ((ih1 j c).2 x).mpr hjx
        have := (h.2.2 j k c hk x x hjj hx).1
        exact absurd this Rat.lt_irrefl
      · omega
    refine ⟨hk', fun x => ⟨fun hx => qp_uniq1 h h' k hk ih1 (fun i hi => by omega) hk' x hx, fun hx => qp_uniq1 h' h k hk' (fun i hi => ⟨by omega, fun x => ((ih1 i hi).2 x).symm⟩) (fun i hi => (ih1 i hi).1) hk x hx⟩⟩
theorem qp_same_n {S : Rat → Prop} {n n' : Nat} {L R L' R' : Nat → Option (Rat × Bool)} (h : qp_sys S n L R) (h' : qp_sys S n' L' R') : n = n' := by
  rcases Nat.lt_or_ge n n' with c | c
  · have := (qp_uniq h' h n c).1
    omega
  · rcases Nat.lt_or_ge n' n with d | d
    · have := (qp_uniq h h' n' d).1
      omega
    · omega
theorem qp_lo_ex (l : Option (Rat × Bool)) (r : Option (Rat × Bool)) (l' r' : Option (Rat × Bool)) (hs : ∀ x, qp_in l r x ↔ qp_in l' r' x) {w : Rat} (hw : qp_in l r w) (v : Rat) (b : Bool) (hl : l' = some (v, b)) : ∃ c, l = some (v, c) ∧ (c = true → b = true) := by
  have hw' := (hs w).mp hw
  have hvw : v ≤ w := by
    rcases hw'.1 v b hl with q | ⟨-, q⟩
    · exact Rat.le_of_lt q
    · rw [q]; exact Rat.le_refl
  have hnot : ∀ z, z < v → ¬ qp_in l r z := fun z hz hi => by
    rcases ((hs z).mp hi).1 v b hl with q | ⟨-, q⟩ <;> grind
  have hbel : ∀ z, z < w → qp_lo l z → qp_in l r z := fun z hz h => ⟨h, qp_hi_dn hw.2 hz⟩
  cases l with
  | none =>
    exact absurd (hbel (v - 1) (by grind) (fun _ _ e => (by cases e))) (hnot (v - 1) (by grind))
  | some p =>
    obtain ⟨u, c⟩ := p
    have huv : u = v := by
      rcases Rat.le_total (a := u) (b := v) with q | q
      · by_cases e : u = v
        · exact e
        · have hlt : u < v := Rat.lt_of_le_of_ne q e
          obtain ⟨z, z1, z2⟩ := qm_mid hlt
          exact absurd (hbel z (by grind) (fun v' b' e' => by cases e'; exact Or.inl z1)) (hnot z z2)
      · by_cases e : u = v
        · exact e
        · have hlt : v < u := Rat.lt_of_le_of_ne q (fun q => e q.symm)
          obtain ⟨z, z1, z2⟩ := qm_mid hlt
          have huw : u ≤ w := by
            rcases hw.1 u c rfl with q | ⟨-, q⟩
            · exact Rat.le_of_lt q
            · rw [q]; exact Rat.le_refl
          have hz : qp_in l' r' z := ⟨fun v' b' e' => by rw [hl] at e'; cases e'; exact Or.inl z1, qp_hi_dn hw'.2 (by grind)⟩
          have := ((hs z).mpr hz).1 u c rfl
          rcases this with q | ⟨-, q⟩ <;> grind
    subst huv
    refine ⟨c, rfl, fun hc => ?_⟩
    have hin : qp_in (some (u, c)) r u := by
      refine ⟨fun v' b' e' => by cases e'; exact Or.inr ⟨hc, rfl⟩, ?_⟩
      by_cases e : u = w
      · rw [e]; exact hw.2
      · exact qp_hi_dn hw.2 (Rat.lt_of_le_of_ne hvw e)
    rcases ((hs u).mp hin).1 u b hl with q | ⟨q, -⟩
    · exact absurd q Rat.lt_irrefl
    · exact q
theorem qp_lo_eq {l r l' r' : Option (Rat × Bool)} (hs : ∀ x, qp_in l r x ↔ qp_in l' r' x) {w : Rat} (hw : qp_in l r w) : l = l' := by
  cases hl' : l' with
  | none =>
    cases hl : l with
    | none => rfl
    | some p =>
      obtain ⟨u, c⟩ := p
      obtain ⟨c', h, -⟩ := qp_lo_ex l' r' l r (fun x => (hs x).symm) ((hs w).mp hw) u c hl
      rw [hl'] at h; cases h
  | some p =>
    obtain ⟨v, b⟩ := p
    obtain ⟨c, h, hc⟩ := qp_lo_ex l r l' r' hs hw v b hl'
    obtain ⟨c', h', hc'⟩ := qp_lo_ex l' r' l r (fun x => (hs x).symm) ((hs w).mp hw) v c h
    rw [hl'] at h'
    cases h'
    rw [h]
    cases b <;> cases c <;> simp_all
def qp_ng (r : Option (Rat × Bool)) : Option (Rat × Bool) := r.map (fun p => (-p.1, p.2))
theorem qp_ng_hi {r : Option (Rat × Bool)} {x : Rat} : qp_lo (qp_ng r) (-x) ↔ qp_hi r x := by
  cases r with
  | none => exact ⟨fun _ _ _ e => (by cases e), fun _ _ _ e => (by cases e)⟩
  | some p =>
    obtain ⟨u, c⟩ := p
    constructor
    · intro h v b e
      cases e
      rcases h (-u) c rfl with q | ⟨q1, q⟩
      · exact Or.inl (by grind)
      · exact Or.inr ⟨q1, by grind⟩
    · intro h v b e
      cases e
      rcases h u c rfl with q | ⟨q1, q⟩
      · exact Or.inl (by grind)
      · exact Or.inr ⟨q1, by grind⟩
theorem qp_ng_lo {l : Option (Rat × Bool)} {x : Rat} : qp_hi (qp_ng l) (-x) ↔ qp_lo l x := by
  cases l with
  | none => exact ⟨fun _ _ _ e => (by cases e), fun _ _ _ e => (by cases e)⟩
  | some p =>
    obtain ⟨u, c⟩ := p
    constructor
    · intro h v b e
      cases e
      rcases h (-u) c rfl with q | ⟨q1, q⟩
      · exact Or.inl (by grind)
      · exact Or.inr ⟨q1, by grind⟩
    · intro h v b e
      cases e
      rcases h u c rfl with q | ⟨q1, q⟩
      · exact Or.inl (by grind)
      · exact Or.inr ⟨q1, by grind⟩
theorem qp_ng_inj {r r' : Option (Rat × Bool)} (h : qp_ng r = qp_ng r') : r = r' := by
  cases r with
  | none => cases r' with
    | none => rfl
    | some p => cases h
  | some p => cases r' with
    | none => cases h
    | some p' =>
      obtain ⟨u, c⟩ := p
      obtain ⟨u', c'⟩ := p'
      have h1 : (-u, c) = (-u', c') := Option.some.inj h
      have h2 : -u = -u' := congrArg Prod.fst h1
      have h3 : c = c' := congrArg Prod.snd h1
      rw [h3, show u = u' by grind]
theorem qp_hi_eq {l r l' r' : Option (Rat × Bool)} (hs : ∀ x, qp_in l r x ↔ qp_in l' r' x) {w : Rat} (hw : qp_in l r w) : r = r' := by
  refine qp_ng_inj (qp_lo_eq (r := qp_ng l) (r' := qp_ng l') (fun x => ?_) (w := -w) ⟨qp_ng_hi.mpr hw.2, qp_ng_lo.mpr hw.1⟩)
  have e : x = - -x := by grind
  rw [e]
  constructor
  · intro h
    have := (hs (-x)).mp ⟨qp_ng_lo.mp h.2, qp_ng_hi.mp h.1⟩
    exact ⟨qp_ng_hi.mpr this.2, qp_ng_lo.mpr this.1⟩
  · intro h
    have := (hs (-x)).mpr ⟨qp_ng_lo.mp h.2, qp_ng_hi.mp h.1⟩
    exact ⟨qp_ng_hi.mpr this.2, qp_ng_lo.mpr this.1⟩
/-- two rows of pieces of one set are one row -/
theorem qp_one {S : Rat → Prop} {n n' : Nat} {L R L' R' : Nat → Option (Rat × Bool)} (h : qp_sys S n L R) (h' : qp_sys S n' L' R') : n = n' ∧ ∀ k, k < n → L k = L' k ∧ R k = R' k := by
  refine ⟨qp_same_n h h', fun k hk => ?_⟩
  obtain ⟨-, hs⟩ := qp_uniq h h' k hk
  obtain ⟨w, hw⟩ := h.2.1 k hk
  exact ⟨qp_lo_eq hs hw, qp_hi_eq hs hw⟩

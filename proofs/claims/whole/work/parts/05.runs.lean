/-! Where a fraction lies among rising marks: at mark i (2 i + 1), ahead of it (2 i), behind the last (2 n). Runs of such places are pieces. -/
def qi_at (M : Nat → Rat) (n s : Nat) (x : Rat) : Prop := (∃ i, i < n ∧ s = 2 * i + 1 ∧ x = M i) ∨ ∃ i, i ≤ n ∧ s = 2 * i ∧ (∀ j, j < i → M j < x) ∧ ∀ j, i ≤ j → j < n → x < M j
theorem qi_ex {M : Nat → Rat} {n : Nat} (hi : qm_inc M n) (x : Rat) : ∃ s, s < 2 * n + 1 ∧ qi_at M n s x := by
  obtain ⟨k, hk, h1, h2⟩ := qm_place M x n hi
  by_cases h : k < n ∧ x = M k
  · exact ⟨2 * k + 1, by omega, Or.inl ⟨k, h.1, rfl, h.2⟩⟩
  · refine ⟨2 * k, by omega, Or.inr ⟨k, hk, rfl, h1, fun j c hj => ?_⟩⟩
    have hkn : k < n := by omega
    have a0 : x < M k := Rat.lt_of_le_of_ne (h2 k (Nat.le_refl k) hkn) (fun q => h ⟨hkn, q⟩)
    rcases Nat.lt_or_ge k j with d | d
    · have := hi k j d hj
      grind
    · have e : j = k := by omega
      rw [e]; exact a0
theorem qi_st {M : Nat → Rat} {n : Nat} {st : Nat → Rat} (hs : qm_stops M n st) {s : Nat} (h : s < 2 * n + 1) : qi_at M n s (st s) := by
  rcases Nat.mod_two_eq_zero_or_one s with e | e
  · have e2 : s = 2 * (s / 2) := by omega
    obtain ⟨-, a, b⟩ := hs (s / 2) (by omega)
    refine Or.inr ⟨s / 2, by omega, e2, ?_, ?_⟩
    · intro j hj
      have := a j hj
      rwa [← e2] at this
    · intro j h1 h2
      have := b j h1 h2
      rwa [← e2] at this
  · have e2 : s = 2 * (s / 2) + 1 := by omega
    obtain ⟨a, -, -⟩ := hs (s / 2) (by omega)
    have a1 := a (by omega)
    rw [← e2] at a1
    exact Or.inl ⟨s / 2, by omega, e2, a1⟩
theorem qi_mk {M : Nat → Rat} {n i : Nat} (h : i < n) : qi_at M n (2 * i + 1) (M i) := Or.inl ⟨i, h, rfl, rfl⟩
theorem qi_lt {M : Nat → Rat} {n s s' : Nat} {x y : Rat} (hi : qm_inc M n) (hx : qi_at M n s x) (hy : qi_at M n s' y) (h : s < s') : x < y := by
  rcases hx with ⟨i, i1, i2, i3⟩ | ⟨i, i1, i2, i3, i4⟩ <;> rcases hy with ⟨j, j1, j2, j3⟩ | ⟨j, j1, j2, j3, j4⟩
  · rw [i3, j3]; exact hi i j (by omega) j1
  · rw [i3]; exact j3 i (by omega)
  · rw [j3]; exact i4 j (by omega) j1
  · have a := i4 i (Nat.le_refl i) (by omega)
    have b := j3 i (by omega)
    grind
theorem qi_un {M : Nat → Rat} {n s s' : Nat} {x : Rat} (hi : qm_inc M n) (hx : qi_at M n s x) (hy : qi_at M n s' x) : s = s' := by
  rcases Nat.lt_or_ge s s' with c | c
  · exact absurd (qi_lt hi hx hy c) Rat.lt_irrefl
  · rcases Nat.lt_or_ge s' s with d | d
    · exact absurd (qi_lt hi hy hx d) Rat.lt_irrefl
    · omega
theorem qi_mono {M : Nat → Rat} {n s s' : Nat} {x y : Rat} (hi : qm_inc M n) (hx : qi_at M n s x) (hy : qi_at M n s' y) (h : x < y) : s ≤ s' := by
  rcases Nat.lt_or_ge s' s with c | c
  · have := qi_lt hi hy hx c
    exact absurd (show x < x by grind) Rat.lt_irrefl
  · exact c
theorem qi_ss {M : Nat → Rat} {n s : Nat} {x y : Rat} (hx : qi_at M n s x) (hy : qi_at M n s y) (j : Nat) (hj : j < n) : qm_ss (x - M j) (y - M j) := by
  rcases hx with ⟨i, i1, i2, i3⟩ | ⟨i, i1, i2, i3, i4⟩ <;> rcases hy with ⟨k, k1, k2, k3⟩ | ⟨k, k1, k2, k3, k4⟩
  · have e : i = k := by omega
    rw [i3, k3, e]; exact qm_ss_rf _
  · omega
  · omega
  · have e : i = k := by omega
    subst e
    rcases Nat.lt_or_ge j i with c | c
    · have a := i3 j c
      have b := k3 j c
      exact qm_ss_pos2 (by grind) (by grind)
    · have a := i4 j c hj
      have b := k4 j c hj
      exact qm_ss_neg2 (by grind) (by grind)
def qi_L (M : Nat → Rat) (f : Nat) : Option (Rat × Bool) := if f = 0 then none else if f % 2 = 1 then some (M (f / 2), true) else some (M (f / 2 - 1), false)
def qi_R (M : Nat → Rat) (n l : Nat) : Option (Rat × Bool) := if l = 2 * n then none else if l % 2 = 1 then some (M (l / 2), true) else some (M (l / 2), false)
theorem qi_lo {M : Nat → Rat} {n s f : Nat} {x : Rat} (hi : qm_inc M n) (hx : qi_at M n s x) (hf : f < 2 * n + 1) : qp_lo (qi_L M f) x ↔ f ≤ s := by
  unfold qi_L
  by_cases e0 : f = 0
  · rw [if_pos e0]
    exact ⟨fun _ => by omega, fun _ _ _ e => (by cases e)⟩
  · rw [if_neg e0]
    by_cases e1 : f % 2 = 1
    · rw [if_pos e1]
      have hm := qi_mk (M := M) (n := n) (i := f / 2) (by omega)
      have ef : 2 * (f / 2) + 1 = f := by omega
      rw [ef] at hm
      constructor
      · intro h
        rcases h _ _ rfl with q | ⟨-, q⟩
        · exact qi_mono hi hm hx q
        · rw [q] at hx
          exact Nat.le_of_eq (qi_un hi hm hx)
      · intro h v b e
        cases e
        rcases Nat.lt_or_ge f s with c | c
        · exact Or.inl (qi_lt hi hm hx c)
        · have : f = s := by omega
          subst this
          rcases hx with ⟨i, i1, i2, i3⟩ | ⟨i, i1, i2, i3, i4⟩
          · have : i = f / 2 := by omega
            subst this
            exact Or.inr ⟨rfl, i3⟩
          · omega
    · rw [if_neg e1]
      have hm := qi_mk (M := M) (n := n) (i := f / 2 - 1) (by omega)
      have ef : 2 * (f / 2 - 1) + 1 = f - 1 := by omega
      rw [ef] at hm
      constructor
      · intro h
        rcases h _ _ rfl with q | ⟨q, -⟩
        · have a := qi_mono hi hm hx q
          have b : s ≠ f - 1 := fun e => by
            subst e
            rcases hx with ⟨i, i1, i2, i3⟩ | ⟨i, i1, i2, i3, i4⟩
            · have : i = f / 2 - 1 := by omega
              subst this
              rw [i3] at q
              exact absurd q Rat.lt_irrefl
            · omega
          omega
        · cases q
      · intro h v b e
        cases e
        exact Or.inl (qi_lt hi hm hx (by omega))
theorem qi_hi {M : Nat → Rat} {n s l : Nat} {x : Rat} (hi : qm_inc M n) (hx : qi_at M n s x) (hs : s < 2 * n + 1) (hl : l < 2 * n + 1) : qp_hi (qi_R M n l) x ↔ s ≤ l := by
  unfold qi_R
  by_cases e0 : l = 2 * n
  · rw [if_pos e0]
    exact ⟨fun _ => by omega, fun _ _ _ e => (by cases e)⟩
  · rw [if_neg e0]
    have hm := qi_mk (M := M) (n := n) (i := l / 2) (by omega)
    by_cases e1 : l % 2 = 1
    · rw [if_pos e1]
      have ef : 2 * (l / 2) + 1 = l := by omega
      rw [ef] at hm
      constructor
      · intro h
        rcases h _ _ rfl with q | ⟨-, q⟩
        · exact qi_mono hi hx hm q
        · rw [q] at hx
          exact Nat.le_of_eq (qi_un hi hx hm)
      · intro h v b e
        cases e
        rcases Nat.lt_or_ge s l with c | c
        · exact Or.inl (qi_lt hi hx hm c)
        · have : s = l := by omega
          subst this
          rcases hx with ⟨i, i1, i2, i3⟩ | ⟨i, i1, i2, i3, i4⟩
          · have : i = s / 2 := by omega
            subst this
            exact Or.inr ⟨rfl, i3⟩
          · omega
    · rw [if_neg e1]
      have ef : 2 * (l / 2) + 1 = l + 1 := by omega
      rw [ef] at hm
      constructor
      · intro h
        rcases h _ _ rfl with q | ⟨q, -⟩
        · have a := qi_mono hi hx hm q
          have b : s ≠ l + 1 := fun e => by
            subst e
            rcases hx with ⟨i, i1, i2, i3⟩ | ⟨i, i1, i2, i3, i4⟩
            · have : i = l / 2 := by omega
              subst this
              rw [i3] at q
              exact absurd q Rat.lt_irrefl
            · omega
          omega
        · cases q
      · intro h v b e
        cases e
        exact Or.inl (qi_lt hi hx hm (by omega))
/-- m runs of true places among the first s, each as long as can be -/
def qi_runs (t : Nat → Prop) (m : Nat) (fs ls : Nat → Nat) (s : Nat) : Prop := (∀ k, k < m → fs k ≤ ls k ∧ ls k < s ∧ ∀ j, fs k ≤ j → j ≤ ls k → t j) ∧ (∀ j, j < s → t j → ∃ k, k < m ∧ fs k ≤ j ∧ j ≤ ls k) ∧ ∀ i k, i < k → k < m → ls i + 1 < fs k ∧ ¬ t (ls i + 1)
theorem qi_sys {S : Rat → Prop} {M st : Nat → Rat} {n m : Nat} {t : Nat → Prop} {fs ls : Nat → Nat} (hi : qm_inc M n) (hst : qm_stops M n st) (hr : qi_runs t m fs ls (2 * n + 1)) (hS : ∀ s, s < 2 * n + 1 → ∀ x, qi_at M n s x → (S x ↔ t s)) : qp_sys S m (fun k => qi_L M (fs k)) (fun k => qi_R M n (ls k)) := by
  obtain ⟨r1, r2, r3⟩ := hr
  have hin : ∀ (k s : Nat) (x : Rat), k < m → s < 2 * n + 1 → qi_at M n s x → (qp_in (qi_L M (fs k)) (qi_R M n (ls k)) x ↔ fs k ≤ s ∧ s ≤ ls k) := fun k s x hk hs hx => by
    obtain ⟨a, b, -⟩ := r1 k hk
    exact and_congr (qi_lo hi hx (by omega)) (qi_hi hi hx hs b)
  refine ⟨fun x => ?_, fun k hk => ?_, fun j k hjk hk x y hx hy => ?_⟩
  · obtain ⟨s, hs, hx⟩ := qi_ex hi x
    rw [hS s hs x hx]
    constructor
    · intro h
      obtain ⟨k, hk, a, b⟩ := r2 s hs h
      exact ⟨k, hk, (hin k s x hk hs hx).mpr ⟨a, b⟩⟩
    · intro ⟨k, hk, h⟩
      obtain ⟨a, b⟩ := (hin k s x hk hs hx).mp h
      exact (r1 k hk).2.2 s a b
  · obtain ⟨a, b, -⟩ := r1 k hk
    exact ⟨st (fs k), (hin k (fs k) _ hk (by omega) (qi_st hst (by omega))).mpr ⟨Nat.le_refl _, a⟩⟩
  · obtain ⟨s, hs, hxs⟩ := qi_ex hi x
    obtain ⟨s', hs', hys⟩ := qi_ex hi y
    have h1 := (hin j s x (by omega) hs hxs).mp hx
    have h2 := (hin k s' y hk hs' hys).mp hy
    obtain ⟨h3, h4⟩ := r3 j k hjk hk
    have hz := qi_st hst (s := ls j + 1) (by omega)
    refine ⟨qi_lt hi hxs hys (by omega), st (ls j + 1), qi_lt hi hxs hz (by omega), qi_lt hi hz hys (by omega), fun h => h4 ((hS _ (by omega) _ hz).mp h)⟩

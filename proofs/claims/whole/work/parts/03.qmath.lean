/-! The mathematics of the document, apart from any machine: lines, signs, truth that depends on signs alone, and why finitely many fractions are enough. -/
/-- two numbers have one sign -/
def qm_ss (r t : Rat) : Prop := (r < 0 ↔ t < 0) ∧ (r = 0 ↔ t = 0)
theorem qm_ss_rf (r : Rat) : qm_ss r r := ⟨Iff.rfl, Iff.rfl⟩
theorem qm_ss_sy {r t : Rat} (h : qm_ss r t) : qm_ss t r := ⟨h.1.symm, h.2.symm⟩
theorem qm_ss_tr {r t u : Rat} (h : qm_ss r t) (k : qm_ss t u) : qm_ss r u := ⟨h.1.trans k.1, h.2.trans k.2⟩
theorem qm_tri (r : Rat) : r < 0 ∨ r = 0 ∨ 0 < r := by grind
theorem qm_ss_pos {r t : Rat} (h : qm_ss r t) : 0 < r ↔ 0 < t := by
  obtain ⟨h1, h2⟩ := h
  rcases qm_tri r with a | a | a <;> rcases qm_tri t with b | b | b <;> grind
theorem qm_ss_le {r t : Rat} (h : qm_ss r t) : r ≤ 0 ↔ t ≤ 0 := by
  have h3 := qm_ss_pos h
  rcases qm_tri r with a | a | a <;> rcases qm_tri t with b | b | b <;> grind
theorem qm_ss_neg2 {r t : Rat} (h1 : r < 0) (h2 : t < 0) : qm_ss r t := ⟨⟨fun _ => h2, fun _ => h1⟩, ⟨fun h => by grind, fun h => by grind⟩⟩
theorem qm_ss_pos2 {r t : Rat} (h1 : 0 < r) (h2 : 0 < t) : qm_ss r t := ⟨⟨fun h => by grind, fun h => by grind⟩, ⟨fun h => by grind, fun h => by grind⟩⟩
theorem qm_ss_zero2 {r t : Rat} (h1 : r = 0) (h2 : t = 0) : qm_ss r t := by rw [h1, h2]; exact qm_ss_rf 0
theorem qm_mul_neg_neg {k r : Rat} (hk : k < 0) : k * r < 0 ↔ 0 < r := by
  have h : 0 < -k := by grind
  have h2 := Rat.mul_pos_iff_of_pos_left (b := r) h
  rw [Rat.neg_mul] at h2
  constructor
  · intro q
    exact h2.mp (by grind)
  · intro q
    have := h2.mpr q
    grind
theorem qm_ss_mul {k r t : Rat} (hk : k ≠ 0) (h : qm_ss r t) : qm_ss (k * r) (k * t) := by
  refine ⟨?_, ?_⟩
  · rcases qm_tri k with q | q | q
    · rw [qm_mul_neg_neg q, qm_mul_neg_neg q]
      exact qm_ss_pos h
    · exact absurd q hk
    · rw [Rat.mul_neg_iff_of_pos_left q, Rat.mul_neg_iff_of_pos_left q]
      exact h.1
  · rw [Rat.mul_eq_zero, Rat.mul_eq_zero]
    exact or_congr Iff.rfl h.2
theorem qm_ss_of_mul {k r t : Rat} (hk : k ≠ 0) (h : qm_ss (k * r) (k * t)) : qm_ss r t := by
  have h2 : k⁻¹ ≠ 0 := fun q => hk (by rw [← Rat.inv_inv k, q, Rat.inv_zero])
  have h3 := qm_ss_mul h2 h
  rw [← Rat.mul_assoc, ← Rat.mul_assoc, Rat.inv_mul_cancel k hk, Rat.one_mul, Rat.one_mul] at h3
  exact h3
/-- a line: a x + b y + c -/
def qm_at (L : Int × Int × Int) (x y : Rat) : Rat := (L.1 : Rat) * x + (L.2.1 : Rat) * y + (L.2.2 : Rat)
/-- the line with x and y exchanged -/
def qm_sw (L : Int × Int × Int) : Int × Int × Int := (L.2.1, L.1, L.2.2)
theorem qm_at_sw (L : Int × Int × Int) (x y : Rat) : qm_at (qm_sw L) y x = qm_at L x y := by
  unfold qm_at qm_sw
  dsimp only
  grind
/-- two points have the same signs on all lines; and so to any depth of quantifiers -/
def qm_E0 (Ls : List (Int × Int × Int)) (x y x' y' : Rat) : Prop := ∀ L ∈ Ls, qm_ss (qm_at L x y) (qm_at L x' y')
def qm_E (Ls : List (Int × Int × Int)) : Nat → Rat → Rat → Rat → Rat → Prop
  | 0, x, y, x', y' => qm_E0 Ls x y x' y'
  | n + 1, x, y, x', y' => qm_E0 Ls x y x' y' ∧ (∀ u, ∃ u', qm_E Ls n u y u' y') ∧ (∀ u', ∃ u, qm_E Ls n u y u' y') ∧ (∀ v, ∃ v', qm_E Ls n x v x' v') ∧ (∀ v', ∃ v, qm_E Ls n x v x' v')
theorem qm_E_dn {Ls : List (Int × Int × Int)} : ∀ (n : Nat) (x y x' y' : Rat), qm_E Ls (n + 1) x y x' y' → qm_E Ls n x y x' y'
  | 0, _, _, _, _, h => h.1
  | n + 1, _, _, _, _, h => ⟨h.1, fun u => (h.2.1 u).imp fun _ q => qm_E_dn n _ _ _ _ q, fun u => (h.2.2.1 u).imp fun _ q => qm_E_dn n _ _ _ _ q, fun u => (h.2.2.2.1 u).imp fun _ q => qm_E_dn n _ _ _ _ q, fun u => (h.2.2.2.2 u).imp fun _ q => qm_E_dn n _ _ _ _ q⟩
theorem qm_E_le {Ls : List (Int × Int × Int)} {n m : Nat} {x y x' y' : Rat} (h : n ≤ m) (k : qm_E Ls m x y x' y') : qm_E Ls n x y x' y' := by
  induction m with
  | zero => rw [Nat.le_zero.mp h]; exact k
  | succ m ih =>
    rcases Nat.lt_or_ge m n with q | q
    · have : n = m + 1 := by omega
      rw [this]; exact k
    · exact ih q (qm_E_dn m _ _ _ _ k)
theorem qm_E_sub {Ls Ms : List (Int × Int × Int)} (hs : ∀ L ∈ Ms, L ∈ Ls) : ∀ (n : Nat) (x y x' y' : Rat), qm_E Ls n x y x' y' → qm_E Ms n x y x' y'
  | 0, _, _, _, _, h => fun L hL => h L (hs L hL)
  | n + 1, _, _, _, _, h => ⟨fun L hL => h.1 L (hs L hL), fun u => (h.2.1 u).imp fun _ q => qm_E_sub hs n _ _ _ _ q, fun u => (h.2.2.1 u).imp fun _ q => qm_E_sub hs n _ _ _ _ q, fun u => (h.2.2.2.1 u).imp fun _ q => qm_E_sub hs n _ _ _ _ q, fun u => (h.2.2.2.2 u).imp fun _ q => qm_E_sub hs n _ _ _ _ q⟩
theorem qm_E_rf {Ls : List (Int × Int × Int)} : ∀ (n : Nat) (x y : Rat), qm_E Ls n x y x y
  | 0, _, _ => fun _ _ => qm_ss_rf _
  | n + 1, _, _ => ⟨fun _ _ => qm_ss_rf _, fun u => ⟨u, qm_E_rf n _ _⟩, fun u => ⟨u, qm_E_rf n _ _⟩, fun u => ⟨u, qm_E_rf n _ _⟩, fun u => ⟨u, qm_E_rf n _ _⟩⟩
theorem qm_E0_sw {Ls : List (Int × Int × Int)} {x y x' y' : Rat} (h : qm_E0 (Ls.map qm_sw) y x y' x') : qm_E0 Ls x y x' y' := by
  intro L hL
  have := h (qm_sw L) (List.mem_map_of_mem hL)
  rwa [qm_at_sw, qm_at_sw] at this
theorem qm_E_sw {Ls : List (Int × Int × Int)} : ∀ (n : Nat) (x y x' y' : Rat), qm_E (Ls.map qm_sw) n y x y' x' → qm_E Ls n x y x' y'
  | 0, _, _, _, _, h => qm_E0_sw h
  | n + 1, _, _, _, _, h => ⟨qm_E0_sw h.1, fun u => (h.2.2.2.1 u).imp fun _ q => qm_E_sw n _ _ _ _ q, fun u => (h.2.2.2.2 u).imp fun _ q => qm_E_sw n _ _ _ _ q, fun u => (h.2.1 u).imp fun _ q => qm_E_sw n _ _ _ _ q, fun u => (h.2.2.1 u).imp fun _ q => qm_E_sw n _ _ _ _ q⟩
/-- a truth that depends on the signs alone, to depth d -/
def qm_inv (Ls : List (Int × Int × Int)) (d : Nat) (P : Rat → Rat → Prop) : Prop := ∀ x y x' y', qm_E Ls d x y x' y' → (P x y ↔ P x' y')
theorem qm_inv_and {Ls Ms : List (Int × Int × Int)} {d e : Nat} {P Q : Rat → Rat → Prop} (h1 : qm_inv Ls d P) (h2 : qm_inv Ms e Q) : qm_inv (Ls ++ Ms) (max d e) (fun x y => P x y ∧ Q x y) := fun _ _ _ _ h =>
  and_congr (h1 _ _ _ _ (qm_E_le (Nat.le_max_left d e) (qm_E_sub (fun _ hL => List.mem_append_left _ hL) _ _ _ _ _ h))) (h2 _ _ _ _ (qm_E_le (Nat.le_max_right d e) (qm_E_sub (fun _ hL => List.mem_append_right _ hL) _ _ _ _ _ h)))
theorem qm_inv_or {Ls Ms : List (Int × Int × Int)} {d e : Nat} {P Q : Rat → Rat → Prop} (h1 : qm_inv Ls d P) (h2 : qm_inv Ms e Q) : qm_inv (Ls ++ Ms) (max d e) (fun x y => P x y ∨ Q x y) := fun _ _ _ _ h =>
  or_congr (h1 _ _ _ _ (qm_E_le (Nat.le_max_left d e) (qm_E_sub (fun _ hL => List.mem_append_left _ hL) _ _ _ _ _ h))) (h2 _ _ _ _ (qm_E_le (Nat.le_max_right d e) (qm_E_sub (fun _ hL => List.mem_append_right _ hL) _ _ _ _ _ h)))
theorem qm_inv_not {Ls : List (Int × Int × Int)} {d : Nat} {P : Rat → Rat → Prop} (h : qm_inv Ls d P) : qm_inv Ls d (fun x y => ¬ P x y) := fun _ _ _ _ k => not_congr (h _ _ _ _ k)
theorem qm_inv_sx {Ls : List (Int × Int × Int)} {d : Nat} {P : Rat → Rat → Prop} (h : qm_inv Ls d P) : qm_inv Ls (d + 1) (fun _ y => ∃ u, P u y) := fun _ _ _ _ k =>
  ⟨fun ⟨u, hu⟩ => (k.2.1 u).imp fun _ q => (h _ _ _ _ q).mp hu, fun ⟨u, hu⟩ => (k.2.2.1 u).imp fun _ q => (h _ _ _ _ q).mpr hu⟩
theorem qm_inv_sy {Ls : List (Int × Int × Int)} {d : Nat} {P : Rat → Rat → Prop} (h : qm_inv Ls d P) : qm_inv Ls (d + 1) (fun x _ => ∃ v, P x v) := fun _ _ _ _ k =>
  ⟨fun ⟨u, hu⟩ => (k.2.2.2.1 u).imp fun _ q => (h _ _ _ _ q).mp hu, fun ⟨u, hu⟩ => (k.2.2.2.2 u).imp fun _ q => (h _ _ _ _ q).mpr hu⟩
theorem qm_inv_ex {Ls : List (Int × Int × Int)} {d : Nat} {P : Rat → Rat → Prop} (h : qm_inv Ls d P) : qm_inv Ls (d + 1) (fun _ y => ∀ u, P u y) := fun _ _ _ _ k =>
  ⟨fun hu u => let ⟨w, q⟩ := k.2.2.1 u; (h _ _ _ _ q).mp (hu w), fun hu u => let ⟨w, q⟩ := k.2.1 u; (h _ _ _ _ q).mpr (hu w)⟩
theorem qm_inv_ey {Ls : List (Int × Int × Int)} {d : Nat} {P : Rat → Rat → Prop} (h : qm_inv Ls d P) : qm_inv Ls (d + 1) (fun x _ => ∀ v, P x v) := fun _ _ _ _ k =>
  ⟨fun hu u => let ⟨w, q⟩ := k.2.2.2.2 u; (h _ _ _ _ q).mp (hu w), fun hu u => let ⟨w, q⟩ := k.2.2.2.1 u; (h _ _ _ _ q).mpr (hu w)⟩
theorem qm_inv_sw {Ls : List (Int × Int × Int)} {d : Nat} {P : Rat → Rat → Prop} (h : qm_inv Ls d P) : qm_inv (Ls.map qm_sw) d (fun y x => P x y) := fun y x y' x' k => h x y x' y' (qm_E_sw d _ _ _ _ k)
/-- an atom's truth -/
def qm_atom (L : Int × Int × Int) (op : Nat) (x y : Rat) : Prop := if op = 0 then qm_at L x y = 0 else if op = 1 then qm_at L x y < 0 else qm_at L x y ≤ 0
theorem qm_inv_atom (L : Int × Int × Int) (op : Nat) : qm_inv [L] 0 (qm_atom L op) := by
  intro x y x' y' h
  have h1 : qm_ss (qm_at L x y) (qm_at L x' y') := h L (List.mem_singleton.mpr rfl)
  unfold qm_atom
  split
  · exact h1.2
  · split
    · exact h1.1
    · exact qm_ss_le h1
/-- something lies between all of lo and all of up -/
theorem qm_max : ∀ (l : List Rat), l = [] ∨ ∃ m ∈ l, ∀ a ∈ l, a ≤ m
  | [] => Or.inl rfl
  | b :: l => by
    refine Or.inr ?_
    rcases qm_max l with h | ⟨m, hm, h⟩
    · subst h
      exact ⟨b, List.mem_cons_self, fun a ha => by rw [List.mem_singleton.mp ha]; exact Rat.le_refl⟩
    · rcases Rat.le_total (a := b) (b := m) with q | q
      · refine ⟨m, List.mem_cons_of_mem _ hm, fun a ha => ?_⟩
        rcases List.mem_cons.mp ha with e | e
        · rw [e]; exact q
        · exact h a e
      · refine ⟨b, List.mem_cons_self, fun a ha => ?_⟩
        rcases List.mem_cons.mp ha with e | e
        · rw [e]; exact Rat.le_refl
        · exact Rat.le_trans (h a e) q
theorem qm_min : ∀ (l : List Rat), l = [] ∨ ∃ m ∈ l, ∀ a ∈ l, m ≤ a
  | [] => Or.inl rfl
  | b :: l => by
    refine Or.inr ?_
    rcases qm_min l with h | ⟨m, hm, h⟩
    · subst h
      exact ⟨b, List.mem_cons_self, fun a ha => by rw [List.mem_singleton.mp ha]; exact Rat.le_refl⟩
    · rcases Rat.le_total (a := m) (b := b) with q | q
      · refine ⟨m, List.mem_cons_of_mem _ hm, fun a ha => ?_⟩
        rcases List.mem_cons.mp ha with e | e
        · rw [e]; exact q
        · exact h a e
      · refine ⟨b, List.mem_cons_self, fun a ha => ?_⟩
        rcases List.mem_cons.mp ha with e | e
        · rw [e]; exact Rat.le_refl
        · exact Rat.le_trans q (h a e)
theorem qm_mid {a b : Rat} (h : a < b) : ∃ c, a < c ∧ c < b := by
  have h1 : (0 : Rat) < 2 := by decide
  refine ⟨(a + b) / 2, ?_, ?_⟩
  · rw [Rat.lt_div_iff h1]
    grind
  · rw [Rat.div_lt_iff h1]
    grind
theorem qm_between (lo up : List Rat) (h : ∀ a ∈ lo, ∀ b ∈ up, a < b) : ∃ v, (∀ a ∈ lo, a < v) ∧ ∀ b ∈ up, v < b := by
  rcases qm_max lo with e1 | ⟨m, hm, h1⟩
  · subst e1
    rcases qm_min up with e2 | ⟨n, hn, h2⟩
    · subst e2
      exact ⟨0, fun a ha => (by cases ha), fun a ha => (by cases ha)⟩
    · exact ⟨n - 1, fun a ha => (by cases ha), fun b hb => (by have := h2 b hb; grind)⟩
  · rcases qm_min up with e2 | ⟨n, hn, h2⟩
    · subst e2
      exact ⟨m + 1, fun a ha => (by have := h1 a ha; grind), fun a ha => (by cases ha)⟩
    · obtain ⟨v, v1, v2⟩ := qm_mid (h m hm n hn)
      exact ⟨v, fun a ha => (by have := h1 a ha; grind), fun b hb => (by have := h2 b hb; grind)⟩
/-- what is left of a line at x when y is away -/
def qm_A (L : Int × Int × Int) (x : Rat) : Rat := (L.1 : Rat) * x + (L.2.2 : Rat)
/-- above 0, 0, below 0 as two lines lie at x: where they meet it is 0 -/
def qm_D (L M : Int × Int × Int) (x : Rat) : Rat := (M.2.1 : Rat) * qm_A L x - (L.2.1 : Rat) * qm_A M x
theorem qm_at_A (L : Int × Int × Int) (x y : Rat) : qm_at L x y = (L.2.1 : Rat) * y + qm_A L x := by unfold qm_at qm_A; grind
/-- where the order of the lines over x and over x' is one, each point over x has its like over x' -/
theorem qm_forth {Ls : List (Int × Int × Int)} {x x' : Rat} (hD : ∀ L ∈ Ls, ∀ M ∈ Ls, qm_ss (qm_D L M x) (qm_D L M x')) (hV : ∀ L ∈ Ls, L.2.1 = 0 → qm_ss (qm_A L x) (qm_A L x')) (y : Rat) : ∃ y', qm_E0 Ls x y x' y' := by
  by_cases hz : ∃ L ∈ Ls, L.2.1 ≠ 0 ∧ qm_at L x y = 0
  · obtain ⟨L, hL, hb, h0⟩ := hz
    have hb' : (L.2.1 : Rat) ≠ 0 := fun q => hb (Rat.intCast_eq_zero_iff.mp q)
    refine ⟨-(qm_A L x') / (L.2.1 : Rat), fun M hM => ?_⟩
    have e0 : (L.2.1 : Rat) * y = - qm_A L x := by rw [qm_at_A] at h0; grind
    have e1 : (L.2.1 : Rat) * (-(qm_A L x') / (L.2.1 : Rat)) = - qm_A L x' := by rw [Rat.mul_comm]; exact Rat.div_mul_cancel hb'
    have k0 : (L.2.1 : Rat) * qm_at M x y = (-1) * qm_D L M x := by
      rw [qm_at_A]; unfold qm_D
      have : (L.2.1 : Rat) * ((M.2.1 : Rat) * y + qm_A M x) = (M.2.1 : Rat) * ((L.2.1 : Rat) * y) + (L.2.1 : Rat) * qm_A M x := by grind
      rw [this, e0]; grind
    have k1 : (L.2.1 : Rat) * qm_at M x' (-(qm_A L x') / (L.2.1 : Rat)) = (-1) * qm_D L M x' := by
      rw [qm_at_A]; unfold qm_D
      have : (L.2.1 : Rat) * ((M.2.1 : Rat) * (-(qm_A L x') / (L.2.1 : Rat)) + qm_A M x') = (M.2.1 : Rat) * ((L.2.1 : Rat) * (-(qm_A L x') / (L.2.1 : Rat))) + (L.2.1 : Rat) * qm_A M x' := by grind
      rw [this, e1]; grind
    refine qm_ss_of_mul hb' ?_
    rw [k0, k1]
    exact qm_ss_mul (by decide) (hD L hL M hM)
  · have hn : ∀ L ∈ Ls, L.2.1 ≠ 0 → qm_at L x y ≠ 0 := fun L hL hb h0 => hz ⟨L, hL, hb, h0⟩
    have hgap : ∀ L ∈ Ls, L.2.1 ≠ 0 → ∀ z : Rat, (L.2.1 : Rat) * (y - -(qm_A L x) / (L.2.1 : Rat)) = qm_at L x y ∧ (L.2.1 : Rat) * (z - -(qm_A L x') / (L.2.1 : Rat)) = qm_at L x' z := by
      intro L hL hb z
      have hb' : (L.2.1 : Rat) ≠ 0 := fun q => hb (Rat.intCast_eq_zero_iff.mp q)
      have e1 : ∀ w : Rat, (L.2.1 : Rat) * (-w / (L.2.1 : Rat)) = - w := fun w => by rw [Rat.mul_comm]; exact Rat.div_mul_cancel hb'
      rw [qm_at_A, qm_at_A]
      have a1 := e1 (qm_A L x)
      have a2 := e1 (qm_A L x')
      constructor <;> grind
    obtain ⟨v, hv1, hv2⟩ := qm_between ((Ls.filter (fun L => decide (L.2.1 ≠ 0 ∧ -(qm_A L x) / (L.2.1 : Rat) < y))).map (fun L => -(qm_A L x') / (L.2.1 : Rat))) ((Ls.filter (fun L => decide (L.2.1 ≠ 0 ∧ y < -(qm_A L x) / (L.2.1 : Rat)))).map (fun L => -(qm_A L x') / (L.2.1 : Rat))) (by
      intro a ha b hb
      obtain ⟨L, hL, rfl⟩ := List.mem_map.mp ha
      obtain ⟨M, hM, rfl⟩ := List.mem_map.mp hb
      obtain ⟨hL, hL2⟩ := List.mem_filter.mp hL
      obtain ⟨hM, hM2⟩ := List.mem_filter.mp hM
      obtain ⟨bL, yL⟩ := of_decide_eq_true hL2
      obtain ⟨bM, yM⟩ := of_decide_eq_true hM2
      have bL' : (L.2.1 : Rat) ≠ 0 := fun q => bL (Rat.intCast_eq_zero_iff.mp q)
      have bM' : (M.2.1 : Rat) ≠ 0 := fun q => bM (Rat.intCast_eq_zero_iff.mp q)
      have hk : ((L.2.1 : Rat) * (M.2.1 : Rat)) ≠ 0 := fun q => (Rat.mul_eq_zero.mp q).elim bL' bM'
      have key : ∀ w : Rat, ((L.2.1 : Rat) * (M.2.1 : Rat)) * (-(qm_A M w) / (M.2.1 : Rat) - -(qm_A L w) / (L.2.1 : Rat)) = qm_D L M w := by
        intro w
        have f1 : (L.2.1 : Rat) * (-(qm_A L w) / (L.2.1 : Rat)) = - qm_A L w := by rw [Rat.mul_comm]; exact Rat.div_mul_cancel bL'
        have f2 : (M.2.1 : Rat) * (-(qm_A M w) / (M.2.1 : Rat)) = - qm_A M w := by rw [Rat.mul_comm]; exact Rat.div_mul_cancel bM'
        unfold qm_D
        have : ((L.2.1 : Rat) * (M.2.1 : Rat)) * (-(qm_A M w) / (M.2.1 : Rat) - -(qm_A L w) / (L.2.1 : Rat)) = (L.2.1 : Rat) * ((M.2.1 : Rat) * (-(qm_A M w) / (M.2.1 : Rat))) - (M.2.1 : Rat) * ((L.2.1 : Rat) * (-(qm_A L w) / (L.2.1 : Rat))) := by grind
        rw [this, f1, f2]; grind
      have h1 : qm_ss (-(qm_A M x) / (M.2.1 : Rat) - -(qm_A L x) / (L.2.1 : Rat)) (-(qm_A M x') / (M.2.1 : Rat) - -(qm_A L x') / (L.2.1 : Rat)) := by
        refine qm_ss_of_mul hk ?_
        rw [key, key]
        exact hD L hL M hM
      have h2 := (qm_ss_pos h1).mp (by grind)
      grind)
    refine ⟨v, fun L hL => ?_⟩
    by_cases hb : L.2.1 = 0
    · have h1 := hV L hL hb
      rw [qm_at_A, qm_at_A, hb]
      have e1 : ∀ w z : Rat, ((0 : Int) : Rat) * w + z = z := fun w z => by rw [Rat.intCast_zero]; grind
      rw [e1, e1]
      exact h1
    · have hb' : (L.2.1 : Rat) ≠ 0 := fun q => hb (Rat.intCast_eq_zero_iff.mp q)
      obtain ⟨g1, g2⟩ := hgap L hL hb v
      have g3 := hn L hL hb
      rw [← g1, ← g2]
      refine qm_ss_mul hb' ?_
      have hne : y - -(qm_A L x) / (L.2.1 : Rat) ≠ 0 := fun q => g3 (by rw [← g1, q, Rat.mul_zero])
      rcases qm_tri (y - -(qm_A L x) / (L.2.1 : Rat)) with c | c | c
      · have := hv2 (-(qm_A L x') / (L.2.1 : Rat)) (List.mem_map.mpr ⟨L, List.mem_filter.mpr ⟨hL, decide_eq_true ⟨hb, by grind⟩⟩, rfl⟩)
        exact qm_ss_neg2 c (by grind)
      · exact absurd c hne
      · have := hv1 (-(qm_A L x') / (L.2.1 : Rat)) (List.mem_map.mpr ⟨L, List.mem_filter.mpr ⟨hL, decide_eq_true ⟨hb, by grind⟩⟩, rfl⟩)
        exact qm_ss_pos2 c (by grind)
/-- a linear function keeps its sign where no mark lies between, if its root is a mark -/
theorem qm_lin {p q x x' : Rat} (h : p ≠ 0 → ∃ m : Rat, p * m + q = 0 ∧ qm_ss (x - m) (x' - m)) : qm_ss (p * x + q) (p * x' + q) := by
  by_cases hp : p = 0
  · rw [hp, Rat.zero_mul, Rat.zero_mul]
    exact qm_ss_rf _
  · obtain ⟨m, hm, hs⟩ := h hp
    have e1 : ∀ w : Rat, p * w + q = p * (w - m) := fun w => by grind
    rw [e1, e1]
    exact qm_ss_mul hp hs
/-- the marks mk hold every place where, with y given, a line is 0 -/
def qm_cov0 (Ls : List (Int × Int × Int)) (y : Rat) (mk : Rat → Prop) : Prop := ∀ L ∈ Ls, L.1 ≠ 0 → ∃ m, mk m ∧ qm_at L m y = 0
/-- .. and every place where two lines meet -/
def qm_cov1 (Ls : List (Int × Int × Int)) (mk : Rat → Prop) : Prop := ∀ L ∈ Ls, ∀ M ∈ Ls, M.2.1 * L.1 - L.2.1 * M.1 ≠ 0 → ∃ m, mk m ∧ qm_D L M m = 0
theorem qm_cell0 {Ls : List (Int × Int × Int)} {y x x' : Rat} {mk : Rat → Prop} (h0 : qm_cov0 Ls y mk) (hc : ∀ m, mk m → qm_ss (x - m) (x' - m)) : qm_E0 Ls x y x' y := by
  intro L hL
  have e : ∀ w, qm_at L w y = (L.1 : Rat) * w + ((L.2.1 : Rat) * y + (L.2.2 : Rat)) := fun w => by unfold qm_at; grind
  rw [e, e]
  refine qm_lin fun hp => ?_
  obtain ⟨m, hm, h⟩ := h0 L hL (fun q => hp (by rw [q]; rfl))
  exact ⟨m, by rw [← e]; exact h, hc m hm⟩
theorem qm_cell1 {Ls : List (Int × Int × Int)} {y x x' : Rat} {mk : Rat → Prop} (h0 : qm_cov0 Ls y mk) (h1 : qm_cov1 Ls mk) (hc : ∀ m, mk m → qm_ss (x - m) (x' - m)) : qm_E Ls 1 x y x' y := by
  have hE := qm_cell0 h0 hc
  have hD : ∀ L ∈ Ls, ∀ M ∈ Ls, qm_ss (qm_D L M x) (qm_D L M x') := by
    intro L hL M hM
    have e : ∀ w, qm_D L M w = ((M.2.1 * L.1 - L.2.1 * M.1 : Int) : Rat) * w + ((M.2.1 * L.2.2 - L.2.1 * M.2.2 : Int) : Rat) := fun w => by
      unfold qm_D qm_A
      rw [Rat.intCast_sub, Rat.intCast_sub, Rat.intCast_mul, Rat.intCast_mul, Rat.intCast_mul, Rat.intCast_mul]
      grind
    rw [e, e]
    refine qm_lin fun hp => ?_
    obtain ⟨m, hm, h⟩ := h1 L hL M hM (fun q => hp (by rw [q]; rfl))
    exact ⟨m, by rw [← e]; exact h, hc m hm⟩
  have hV : ∀ L ∈ Ls, L.2.1 = 0 → qm_ss (qm_A L x) (qm_A L x') := by
    intro L hL hb
    have h := hE L hL
    rw [qm_at_A, qm_at_A, hb] at h
    have e1 : ∀ w z : Rat, ((0 : Int) : Rat) * w + z = z := fun w z => by rw [Rat.intCast_zero]; grind
    rw [e1, e1] at h
    exact h
  exact ⟨hE, fun u => ⟨u, fun _ _ => qm_ss_rf _⟩, fun u => ⟨u, fun _ _ => qm_ss_rf _⟩, fun v => qm_forth hD hV v, fun v => (qm_forth (fun L hL M hM => qm_ss_sy (hD L hL M hM)) (fun L hL hb => qm_ss_sy (hV L hL hb)) v).imp fun _ q L hL => qm_ss_sy (q L hL)⟩
theorem qm_same {Ls : List (Int × Int × Int)} {d : Nat} {P : Rat → Rat → Prop} {y x x' : Rat} {mk : Rat → Prop} (hi : qm_inv Ls d P) (hd : d ≤ 1) (h0 : qm_cov0 Ls y mk) (h1 : d = 1 → qm_cov1 Ls mk) (hc : ∀ m, mk m → qm_ss (x - m) (x' - m)) : P x y ↔ P x' y := by
  rcases (show d = 0 ∨ d = 1 by omega) with e | e
  · subst e
    exact hi _ _ _ _ (qm_cell0 h0 hc)
  · subst e
    exact hi _ _ _ _ (qm_cell1 h0 (h1 rfl) hc)
/-- rising marks M 0 .. M (n - 1); the stops: each mark, and one fraction ahead of, between and behind them -/
def qm_inc (M : Nat → Rat) (n : Nat) : Prop := ∀ i j, i < j → j < n → M i < M j
def qm_stops (M : Nat → Rat) (n : Nat) (st : Nat → Rat) : Prop := ∀ k, k ≤ n → (k < n → st (2 * k + 1) = M k) ∧ (∀ j, j < k → M j < st (2 * k)) ∧ (∀ j, k ≤ j → j < n → st (2 * k) < M j)
theorem qm_place (M : Nat → Rat) (x : Rat) : ∀ n, qm_inc M n → ∃ k, k ≤ n ∧ (∀ j, j < k → M j < x) ∧ (∀ j, k ≤ j → j < n → x ≤ M j)
  | 0, _ => ⟨0, Nat.le_refl 0, fun j h => absurd h (Nat.not_lt_zero j), fun j _ h => absurd h (Nat.not_lt_zero j)⟩
  | n + 1, hi => by
    obtain ⟨k, hk, h1, h2⟩ := qm_place M x n (fun i j h h' => hi i j h (by omega))
    rcases Nat.lt_or_ge k n with q | q
    · refine ⟨k, by omega, h1, fun j a b => ?_⟩
      rcases Nat.lt_or_ge j n with c | c
      · exact h2 j a c
      · have e : j = n := by omega
        subst e
        exact Rat.le_trans (h2 k (Nat.le_refl k) q) (Rat.le_of_lt (hi k j q (by omega)))
    · have e : k = n := by omega
      subst e
      rcases Rat.le_total (a := x) (b := M k) with c | c
      · refine ⟨k, by omega, h1, fun j a b => ?_⟩
        have e : j = k := by omega
        subst e
        exact c
      · by_cases e : x = M k
        · refine ⟨k, by omega, h1, fun j a b => ?_⟩
          have e2 : j = k := by omega
          subst e2
          rw [e]; exact Rat.le_refl
        · refine ⟨k + 1, by omega, fun j a => ?_, fun j a b => by omega⟩
          rcases Nat.lt_or_ge j k with d | d
          · exact h1 j d
          · have e2 : j = k := by omega
            subst e2
            exact Rat.lt_of_le_of_ne c (fun q => e q.symm)
theorem qm_stop {M : Nat → Rat} {n : Nat} {st : Nat → Rat} (hi : qm_inc M n) (hs : qm_stops M n st) (x : Rat) : ∃ s, s < 2 * n + 1 ∧ ∀ j, j < n → qm_ss (x - M j) (st s - M j) := by
  obtain ⟨k, hk, h1, h2⟩ := qm_place M x n hi
  by_cases h : k < n ∧ x = M k
  · refine ⟨2 * k + 1, by omega, fun j _ => ?_⟩
    rw [((hs k hk).1 h.1), h.2]
    exact qm_ss_rf _
  · refine ⟨2 * k, by omega, fun j hj => ?_⟩
    obtain ⟨-, s1, s2⟩ := hs k hk
    rcases Nat.lt_or_ge j k with c | c
    · have a := h1 j c
      have b := s1 j c
      exact qm_ss_pos2 (by grind) (by grind)
    · have b := s2 j c hj
      have a : x < M j := by
        have hkn : k < n := by omega
        have hne : x ≠ M k := fun q => h ⟨hkn, q⟩
        have a0 : x < M k := Rat.lt_of_le_of_ne (h2 k (Nat.le_refl k) hkn) hne
        rcases Nat.lt_or_ge k j with d | d
        · have := hi k j d hj
          grind
        · have e : j = k := by omega
          rw [e]; exact a0
      exact qm_ss_neg2 (by grind) (by grind)
theorem qm_some {Ls : List (Int × Int × Int)} {d : Nat} {P : Rat → Rat → Prop} {y : Rat} {M st : Nat → Rat} {n : Nat} (hi : qm_inv Ls d P) (hd : d ≤ 1) (hM : qm_inc M n) (hs : qm_stops M n st) (h0 : qm_cov0 Ls y (fun m => ∃ j, j < n ∧ m = M j)) (h1 : d = 1 → qm_cov1 Ls (fun m => ∃ j, j < n ∧ m = M j)) : (∃ u, P u y) ↔ ∃ s, s < 2 * n + 1 ∧ P (st s) y := by
  constructor
  · intro ⟨u, hu⟩
    obtain ⟨s, a, b⟩ := qm_stop hM hs u
    exact ⟨s, a, (qm_same hi hd h0 h1 (fun m ⟨j, hj, e⟩ => by rw [e]; exact b j hj)).mp hu⟩
  · intro ⟨s, _, h⟩
    exact ⟨_, h⟩
theorem qm_every {Ls : List (Int × Int × Int)} {d : Nat} {P : Rat → Rat → Prop} {y : Rat} {M st : Nat → Rat} {n : Nat} (hi : qm_inv Ls d P) (hd : d ≤ 1) (hM : qm_inc M n) (hs : qm_stops M n st) (h0 : qm_cov0 Ls y (fun m => ∃ j, j < n ∧ m = M j)) (h1 : d = 1 → qm_cov1 Ls (fun m => ∃ j, j < n ∧ m = M j)) : (∀ u, P u y) ↔ ∀ s, s < 2 * n + 1 → P (st s) y := by
  constructor
  · intro h s _
    exact h _
  · intro h u
    obtain ⟨s, a, b⟩ := qm_stop hM hs u
    exact (qm_same hi hd h0 h1 (fun m ⟨j, hj, e⟩ => by rw [e]; exact b j hj)).mpr (h s a)
/-- a fraction out of two whole numbers -/
def qm_fr (u d : Int) : Rat := (u : Rat) / (d : Rat)
theorem qm_fr_mul {u d : Int} (hd : 0 < d) : (d : Rat) * qm_fr u d = (u : Rat) := by
  have h : (d : Rat) ≠ 0 := fun q => by have := Rat.intCast_eq_zero_iff.mp q; omega
  unfold qm_fr
  rw [Rat.mul_comm]
  exact Rat.div_mul_cancel h
theorem qm_fr_pos {d : Int} (hd : 0 < d) : (0 : Rat) < (d : Rat) := Rat.intCast_pos.mpr hd
theorem qm_fr_lt {u d v e : Int} (hd : 0 < d) (he : 0 < e) : qm_fr u d < qm_fr v e ↔ u * e < v * d := by
  have h1 := qm_fr_mul (u := u) hd
  have h2 := qm_fr_mul (u := v) he
  have p1 := qm_fr_pos hd
  have p2 := qm_fr_pos he
  have p : (0 : Rat) < (d : Rat) * (e : Rat) := Rat.mul_pos p1 p2
  rw [← Rat.intCast_lt_intCast, Rat.intCast_mul, Rat.intCast_mul, ← Rat.mul_lt_mul_left p]
  have a1 : (d : Rat) * (e : Rat) * qm_fr u d = (u : Rat) * (e : Rat) := by rw [← h1]; grind
  have a2 : (d : Rat) * (e : Rat) * qm_fr v e = (v : Rat) * (d : Rat) := by rw [← h2]; grind
  rw [a1, a2]
theorem qm_fr_eq {u d v e : Int} (hd : 0 < d) (he : 0 < e) : qm_fr u d = qm_fr v e ↔ u * e = v * d := by
  have h1 := qm_fr_lt (u := u) (v := v) hd he
  have h2 := qm_fr_lt (u := v) (v := u) he hd
  constructor
  · intro h
    have a : ¬ u * e < v * d := fun q => by have := h1.mpr q; grind
    have b : ¬ v * d < u * e := fun q => by have := h2.mpr q; grind
    omega
  · intro h
    have a : ¬ qm_fr u d < qm_fr v e := fun q => by have := h1.mp q; omega
    have b : ¬ qm_fr v e < qm_fr u d := fun q => by have := h2.mp q; omega
    grind
theorem qm_fr_int (u : Int) : qm_fr u 1 = (u : Rat) := by
  have h := qm_fr_mul (u := u) (d := 1) (by decide)
  rw [Rat.intCast_one, Rat.one_mul] at h
  exact h
/-- the sum whose sign an atom asks for -/
theorem qm_at_fr (L : Int × Int × Int) {u d v e : Int} (hd : 0 < d) (he : 0 < e) : ((d * e : Int) : Rat) * qm_at L (qm_fr u d) (qm_fr v e) = ((L.1 * u * e + L.2.1 * v * d + L.2.2 * d * e : Int) : Rat) := by
  have h1 := qm_fr_mul (u := u) hd
  have h2 := qm_fr_mul (u := v) he
  unfold qm_at
  simp only [Rat.intCast_add, Rat.intCast_mul]
  rw [← h1, ← h2]
  grind
theorem qm_at_ss (L : Int × Int × Int) {u d v e : Int} (hd : 0 < d) (he : 0 < e) : qm_ss (qm_at L (qm_fr u d) (qm_fr v e)) ((L.1 * u * e + L.2.1 * v * d + L.2.2 * d * e : Int) : Rat) := by
  have h := qm_at_fr L hd he (u := u) (v := v)
  have p : 0 < d * e := Int.mul_pos hd he
  have hp : (0 : Rat) < ((d * e : Int) : Rat) := qm_fr_pos p
  rw [← h]
  refine ⟨(Rat.mul_neg_iff_of_pos_left hp).symm, ?_⟩
  rw [Rat.mul_eq_zero]
  constructor
  · exact Or.inr
  · intro q
    rcases q with q | q
    · rw [q] at hp; exact absurd hp Rat.lt_irrefl
    · exact q

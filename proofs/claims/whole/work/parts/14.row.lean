/-! A rising row of fractions in two arrays of longs. -/
def mk_v (f g : Nat → Int64) (i : Nat) : Rat := qm_fr (f i).toInt (g i).toInt
def mk_row (f g : Nat → Int64) (n B : Nat) : Prop := (∀ i, i < n → 0 < (g i).toInt ∧ (g i).toInt ≤ B ∧ (f i).toInt.natAbs ≤ B) ∧ qm_inc (mk_v f g) n
/-- what Marks.insert does to a row -/
def mk_ins (n : Nat) (f g : Nat → Int64) (u d : Int) (B n' : Nat) (f' g' : Nat → Int64) : Prop := n' ≤ 21 ∧ n ≤ n' ∧ n' ≤ n + 1 ∧ mk_row f' g' n' B ∧ (∀ i, i < n → ∃ j, j < n' ∧ mk_v f' g' j = mk_v f g i) ∧ (d ≠ 0 → n < 21 → ∃ j, j < n' ∧ mk_v f' g' j = qm_fr u d)
theorem mk_ins_0 {n : Nat} {f g : Nat → Int64} {u d : Int} {B : Nat} (hn : n ≤ 21) (hr : mk_row f g n B) (h : d = 0 ∨ 21 ≤ n) : mk_ins n f g u d B n f g := by
  refine ⟨hn, Nat.le_refl n, Nat.le_succ n, hr, fun i hi => ⟨i, hi, rfl⟩, fun h1 h2 => ?_⟩
  rcases h with h | h
  · exact absurd h h1
  · omega
theorem qm_fr_neg {u d : Int} (hd : d ≠ 0) : qm_fr (-u) (-d) = qm_fr u d := by
  unfold qm_fr
  have h : (d : Rat) ≠ 0 := fun q => hd (Rat.intCast_eq_zero_iff.mp q)
  rw [Rat.intCast_neg, Rat.intCast_neg]
  have h1 : (-(u : Rat)) / (-(d : Rat)) * (-(d : Rat)) = -(u : Rat) := Rat.div_mul_cancel (fun q => h (by grind))
  have h2 : (u : Rat) / (d : Rat) * (d : Rat) = (u : Rat) := Rat.div_mul_cancel h
  have h3 : (-(u : Rat)) / (-(d : Rat)) * (d : Rat) = (u : Rat) / (d : Rat) * (d : Rat) := by grind
  have h4 := congrArg (fun z => z * (d : Rat)⁻¹) h3
  simp only [Rat.mul_assoc, Rat.mul_inv_cancel _ h, Rat.mul_one] at h4
  exact h4
theorem mk_ins_eq {n : Nat} {f g : Nat → Int64} {u d : Int} {B k : Nat} (hn : n ≤ 21) (hr : mk_row f g n B) (hk : k < n) (h : mk_v f g k = qm_fr u d) : mk_ins n f g u d B n f g :=
  ⟨hn, Nat.le_refl n, Nat.le_succ n, hr, fun i hi => ⟨i, hi, rfl⟩, fun _ _ => ⟨k, hk, h⟩⟩
theorem mk_cpy {f : Nat → Int64} {n k : Nat} {x : Int64} (hk : k ≤ n) : (∀ i, i < k → vp_updL (va_cpy f f k (k + 1) (n - k)) k x i = f i) ∧ vp_updL (va_cpy f f k (k + 1) (n - k)) k x k = x ∧ ∀ i, k ≤ i → i < n → vp_updL (va_cpy f f k (k + 1) (n - k)) k x (i + 1) = f i := by
  refine ⟨fun i hi => ?_, ?_, fun i h1 h2 => ?_⟩
  · rw [pk_uLn (by omega), pk_cpy_out (by omega)]
  · exact pk_uLs
  · rw [pk_uLn (by omega), pk_cpy_in (by omega) (by omega)]
    congr 1
    omega
theorem mk_ins_in {n : Nat} {f g : Nat → Int64} {u d : Int} {B k : Nat} {up dn : Int64} (hn : n < 21) (hr : mk_row f g n B) (hk : k ≤ n) (hd : 0 < dn.toInt) (hdB : dn.toInt ≤ B) (huB : up.toInt.natAbs ≤ B) (hv : qm_fr up.toInt dn.toInt = qm_fr u d)
    (h1 : ∀ i, k ≤ i → i < n → qm_fr up.toInt dn.toInt < mk_v f g i) (h2 : ∀ i, i < k → mk_v f g i < qm_fr up.toInt dn.toInt) :
    mk_ins n f g u d B (n + 1) (vp_updL (va_cpy f f k (k + 1) (n - k)) k up) (vp_updL (va_cpy g g k (k + 1) (n - k)) k dn) := by
  obtain ⟨a1, a2, a3⟩ := mk_cpy (f := f) (n := n) (k := k) (x := up) hk
  obtain ⟨b1, b2, b3⟩ := mk_cpy (f := g) (n := n) (k := k) (x := dn) hk
  generalize vp_updL (va_cpy f f k (k + 1) (n - k)) k up = f' at a1 a2 a3 ⊢
  generalize vp_updL (va_cpy g g k (k + 1) (n - k)) k dn = g' at b1 b2 b3 ⊢
  obtain ⟨r1, r2⟩ := hr
  have v1 : ∀ i, i < k → mk_v f' g' i = mk_v f g i := fun i hi => by unfold mk_v; rw [a1 i hi, b1 i hi]
  have v2 : mk_v f' g' k = qm_fr up.toInt dn.toInt := by unfold mk_v; rw [a2, b2]
  have v3 : ∀ i, k ≤ i → i < n → mk_v f' g' (i + 1) = mk_v f g i := fun i h h' => by unfold mk_v; rw [a3 i h h', b3 i h h']
  refine ⟨by omega, by omega, Nat.le_refl _, ⟨fun i hi => ?_, fun i j hij hj => ?_⟩, fun i hi => ?_, fun _ _ => ⟨k, by omega, by rw [v2, hv]⟩⟩
  · rcases Nat.lt_trichotomy i k with c | c | c
    · rw [a1 i c, b1 i c]; exact r1 i (by omega)
    · subst c; rw [a2, b2]; exact ⟨hd, hdB, huB⟩
    · obtain ⟨z, rfl⟩ : ∃ z, i = z + 1 := ⟨i - 1, by omega⟩
      rw [a3 z (by omega) (by omega), b3 z (by omega) (by omega)]; exact r1 z (by omega)
  · rcases Nat.lt_trichotomy i k with c | c | c
    · rw [v1 i c]
      rcases Nat.lt_trichotomy j k with e | e | e
      · rw [v1 j e]; exact r2 i j hij (by omega)
      · subst e; rw [v2]; exact h2 i c
      · obtain ⟨z, rfl⟩ : ∃ z, j = z + 1 := ⟨j - 1, by omega⟩
        rw [v3 z (by omega) (by omega)]; exact r2 i z (by omega) (by omega)
    · subst c
      obtain ⟨z, rfl⟩ : ∃ z, j = z + 1 := ⟨j - 1, by omega⟩
      rw [v2, v3 z (by omega) (by omega)]; exact h1 z (by omega) (by omega)
    · obtain ⟨z, rfl⟩ : ∃ z, j = z + 1 := ⟨j - 1, by omega⟩
      obtain ⟨y, rfl⟩ : ∃ y, i = y + 1 := ⟨i - 1, by omega⟩
      rw [v3 z (by omega) (by omega), v3 y (by omega) (by omega)]; exact r2 y z (by omega) (by omega)
  · rcases Nat.lt_or_ge i k with c | c
    · exact ⟨i, by omega, v1 i c⟩
    · exact ⟨i + 1, by omega, v3 i c hi⟩
/-- a mark compared with a fraction, by the products that the machine makes -/
theorem mk_cmp {a b u d : Int64} {B : Nat} (hB : B ≤ 1000000) (hb : 0 < b.toInt) (hbB : b.toInt ≤ B) (haB : a.toInt.natAbs ≤ B) (hd : 0 < d.toInt) (hdB : d.toInt ≤ B) (huB : u.toInt.natAbs ≤ B) : (a * d).toInt = a.toInt * d.toInt ∧ (u * b).toInt = u.toInt * b.toInt := by
  have h1 : (a.toInt * d.toInt).natAbs ≤ B * B := nm_mulb haB (by omega)
  have h2 : (u.toInt * b.toInt).natAbs ≤ B * B := nm_mulb huB (by omega)
  have h3 : B * B ≤ 1000000 * 1000000 := Nat.mul_le_mul hB hB
  exact ⟨nm_lmul (by omega), nm_lmul (by omega)⟩
/-- the cells of a Marks object -/
def mk_S (cJ : ClassId) (M : Nat → Option va_E) (k a b n : Nat) (f g : Nat → Int64) : Prop := M k = some (.inr (2, [.ref a, .ref b, .int (nI n)])) ∧ M a = some (.inl (cJ, 21, .inr (.inl f))) ∧ M b = some (.inl (cJ, 21, .inr (.inl g)))

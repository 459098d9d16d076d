/-! The reference: trial, gather -/
theorem tr_mid {a b c d : Int} (hb : 0 < b) (hd : 0 < d) (h : qm_fr a b < qm_fr c d) : qm_fr a b < qm_fr (a * d + c * b) (2 * b * d) ∧ qm_fr (a * d + c * b) (2 * b * d) < qm_fr c d := by
  have h2 : 0 < 2 * b * d := Int.mul_pos (by omega) hd
  rw [qm_fr_lt hb hd] at h
  have k : 0 < c * b - a * d := by omega
  rw [qm_fr_lt hb h2, qm_fr_lt h2 hd]
  have e1 : (a * d + c * b) * b - a * (2 * b * d) = b * (c * b - a * d) := by grind
  have e2 : c * (2 * b * d) - (a * d + c * b) * d = d * (c * b - a * d) := by grind
  have p1 := Int.mul_pos hb k
  have p2 := Int.mul_pos hd k
  omega
def gs_v (st : Nat → Nat → Int32) (j o : Nat) (x y : Int) (of : Nat) (AB BE : Nat → Int64) (n1 t : Nat) : Prop := (st 3 (4 * t + j)).toInt * y ≠ 0 → kh of AB BE n1 (qm_fr (-((st 3 (4 * t + o)).toInt * x + (st 3 (4 * t + 2)).toInt * y)) ((st 3 (4 * t + j)).toInt * y))
def gs_m (st : Nat → Nat → Int32) (j o : Nat) (of : Nat) (AB BE : Nat → Int64) (n1 s9 t9 : Nat) : Prop := ((st 3 (4 * s9 + j)).toInt * (st 3 (4 * t9 + o)).toInt - (st 3 (4 * t9 + j)).toInt * (st 3 (4 * s9 + o)).toInt) ≠ 0 → kh of AB BE n1 (qm_fr ((st 3 (4 * s9 + o)).toInt * (st 3 (4 * t9 + 2)).toInt - (st 3 (4 * t9 + o)).toInt * (st 3 (4 * s9 + 2)).toInt) ((st 3 (4 * s9 + j)).toInt * (st 3 (4 * t9 + o)).toInt - (st 3 (4 * t9 + j)).toInt * (st 3 (4 * s9 + o)).toInt))
def gs_O (st : Nat → Nat → Int32) (w : Nat → Int32) (j o : Nat) (x y : Int) (of N Dn dp : Nat) (AB BE : Nat → Int64) (n1 s9 : Nat) : Prop := kr (kf of AB) (kf of BE) n1 N Dn ∧ 2 * n1 ≤ sm (na st w) s9 * (sm (na st w) s9 + 3) ∧ (∀ t, t < s9 → w t = 1 → st 0 t = 0 → gs_v st j o x y of AB BE n1 t) ∧ (0 < dp → ∀ t r, t < s9 → r < t → w t = 1 → st 0 t = 0 → w r = 1 → st 0 r = 0 → gs_m st j o of AB BE n1 t r)
def gs_N (st : Nat → Nat → Int32) (w : Nat → Int32) (j o : Nat) (x y : Int) (of N Dn dp : Nat) (AB BE : Nat → Int64) (n1 s9 t9 : Nat) : Prop := kr (kf of AB) (kf of BE) n1 N Dn ∧ 2 * n1 ≤ sm (na st w) s9 * (sm (na st w) s9 + 3) + 2 + 2 * sm (na st w) t9 ∧ (∀ t, t ≤ s9 → w t = 1 → st 0 t = 0 → gs_v st j o x y of AB BE n1 t) ∧ (0 < dp → (∀ t r, t < s9 → r < t → w t = 1 → st 0 t = 0 → w r = 1 → st 0 r = 0 → gs_m st j o of AB BE n1 t r) ∧ ∀ r, r < t9 → w r = 1 → st 0 r = 0 → gs_m st j o of AB BE n1 s9 r)
theorem gs_sq (c : Nat) : (c + 1) * (c + 1 + 3) = c * (c + 3) + 2 * c + 4 := by grind
theorem gs_40 {c : Nat} (h : c ≤ 5) : c * (c + 3) ≤ 40 := Nat.mul_le_mul h (show c + 3 ≤ 8 by omega)
theorem gs_54 {c : Nat} (h : c ≤ 6) : c * (c + 3) ≤ 54 := Nat.mul_le_mul h (show c + 3 ≤ 9 by omega)
theorem na_1 {st : Nat → Nat → Int32} {w : Nat → Int32} {t : Nat} (h : w t = 1) (k : st 0 t = 0) : na st w t = 1 := by unfold na; rw [if_pos ⟨h, k⟩]
theorem na_0 {st : Nat → Nat → Int32} {w : Nat → Int32} {t : Nat} (h : ¬ (w t = 1 ∧ st 0 t = 0)) : na st w t = 0 := by unfold na; rw [if_neg h]
theorem na_c {st : Nat → Nat → Int32} {w : Nat → Int32} {s : Nat} (h6 : sm (na st w) 60 ≤ 6) (hs : s < 60) (h : w s = 1) (k : st 0 s = 0) : sm (na st w) s ≤ 5 ∧ sm (na st w) (s + 1) = sm (na st w) s + 1 := by
  have e : sm (na st w) (s + 1) = sm (na st w) s + 1 := by show sm (na st w) s + na st w s = _; rw [na_1 h k]
  have := sm_mono (f := na st w) (show s + 1 ≤ 60 by omega)
  omega
/-- from one atom to the next -/
theorem gs_skip {st : Nat → Nat → Int32} {w : Nat → Int32} {j o : Nat} {x y : Int} {of N Dn dp : Nat} {AB BE : Nat → Int64} {n1 s9 : Nat} (h : gs_O st w j o x y of N Dn dp AB BE n1 s9) (hw : ¬ (w s9 = 1 ∧ st 0 s9 = 0)) : gs_O st w j o x y of N Dn dp AB BE n1 (s9 + 1) := by
  obtain ⟨h1, h2, h3, h4⟩ := h
  have e : sm (na st w) (s9 + 1) = sm (na st w) s9 := by show sm (na st w) s9 + na st w s9 = _; rw [na_0 hw]; rfl
  refine ⟨h1, by rw [e]; exact h2, fun t ht a b => ?_, fun hd t r ht hr a b c d => ?_⟩
  · rcases Nat.lt_or_ge t s9 with z | z
    · exact h3 t z a b
    · exact (hw (by rw [show s9 = t by omega]; exact ⟨a, b⟩)).elim
  · rcases Nat.lt_or_ge t s9 with z | z
    · exact h4 hd t r z hr a b c d
    · exact (hw (by rw [show s9 = t by omega]; exact ⟨a, b⟩)).elim
theorem gs_vk {st : Nat → Nat → Int32} {j o : Nat} {x y : Int} {of N Dn n0 n1 t : Nat} {AB BE AB1 BE1 : Nat → Int64} (k : kq of n0 N Dn AB BE n1 AB1 BE1) (h : gs_v st j o x y of AB BE n0 t) : gs_v st j o x y of AB1 BE1 n1 t := fun z => kh_kq (h z) k
theorem gs_mk {st : Nat → Nat → Int32} {j o : Nat} {of N Dn n0 n1 t r : Nat} {AB BE AB1 BE1 : Nat → Int64} (k : kq of n0 N Dn AB BE n1 AB1 BE1) (h : gs_m st j o of AB BE n0 t r) : gs_m st j o of AB1 BE1 n1 t r := fun z => kh_kq (h z) k
theorem gs_ON {st : Nat → Nat → Int32} {w : Nat → Int32} {j o : Nat} {x y : Int} {of N Dn dp : Nat} {AB BE AB1 BE1 : Nat → Int64} {n0 n1 s9 : Nat} (h : gs_O st w j o x y of N Dn dp AB BE n0 s9) (k : kq of n0 N Dn AB BE n1 AB1 BE1) (hn : n1 ≤ n0 + 1) (hv : gs_v st j o x y of AB1 BE1 n1 s9) : gs_N st w j o x y of N Dn dp AB1 BE1 n1 s9 0 := by
  obtain ⟨h1, h2, h3, h4⟩ := h
  refine ⟨k.2.1, by show _ ≤ _ + 2 + 2 * 0; omega, fun t ht a b => ?_, fun hd => ⟨fun t r ht hr a b c d => gs_mk k (h4 hd t r ht hr a b c d), fun r hr => absurd hr (Nat.not_lt_zero r)⟩⟩
  rcases Nat.lt_or_ge t s9 with z | z
  · exact gs_vk k (h3 t z a b)
  · rw [show t = s9 by omega]; exact hv
theorem gs_NN {st : Nat → Nat → Int32} {w : Nat → Int32} {j o : Nat} {x y : Int} {of N Dn dp : Nat} {AB BE AB1 BE1 : Nat → Int64} {n0 n1 s9 t9 : Nat} (h : gs_N st w j o x y of N Dn dp AB BE n0 s9 t9) (k : kq of n0 N Dn AB BE n1 AB1 BE1) (hn : n1 ≤ n0 + na st w t9) (hv : w t9 = 1 → st 0 t9 = 0 → gs_m st j o of AB1 BE1 n1 s9 t9) : gs_N st w j o x y of N Dn dp AB1 BE1 n1 s9 (t9 + 1) := by
  obtain ⟨h1, h2, h3, h4⟩ := h
  have e : sm (na st w) (t9 + 1) = sm (na st w) t9 + na st w t9 := rfl
  refine ⟨k.2.1, by omega, fun t ht a b => gs_vk k (h3 t ht a b), fun hd => ⟨fun t r ht hr a b c d => gs_mk k ((h4 hd).1 t r ht hr a b c d), fun r hr c d => ?_⟩⟩
  rcases Nat.lt_or_ge r t9 with z | z
  · exact gs_mk k ((h4 hd).2 r z c d)
  · have e : r = t9 := by omega
    subst e
    exact hv c d
theorem gs_NO {st : Nat → Nat → Int32} {w : Nat → Int32} {j o : Nat} {x y : Int} {of N Dn dp : Nat} {AB BE AB1 BE1 : Nat → Int64} {n0 n1 s9 t9 : Nat} (h6 : sm (na st w) 60 ≤ 6) (hs : s9 < 60) (hw : w s9 = 1) (h0 : st 0 s9 = 0) (h : gs_N st w j o x y of N Dn dp AB BE n0 s9 t9) (ht9 : t9 ≤ s9) (hx : s9 ≤ t9 ∨ ¬ 0 < dp) (k : kq of n0 N Dn AB BE n1 AB1 BE1) (hn : n1 ≤ n0 + 1) : gs_O st w j o x y of N Dn dp AB1 BE1 n1 (s9 + 1) := by
  obtain ⟨h1, h2, h3, h4⟩ := h
  obtain ⟨c1, c2⟩ := na_c h6 hs hw h0
  have hm := sm_mono (f := na st w) ht9
  refine ⟨k.2.1, ?_, fun t ht a b => gs_vk k (h3 t (by omega) a b), fun hd t r ht hr a b c d => ?_⟩
  · rw [c2, gs_sq]; omega
  · rcases Nat.lt_or_ge t s9 with z | z
    · exact gs_mk k ((h4 hd).1 t r z hr a b c d)
    · have e : t = s9 := by omega
      subst e
      exact gs_mk k ((h4 hd).2 r (by omega) c d)
/-- every line of a needed node is a needed atom's -/
theorem nl_need {n : Nat} {mt : Nat → Option nq} {st : Nat → Nat → Int32} {p : Nat} {w : Nat → Int32} (hM : mt_ok n mt st) (hw : nd_need mt st p w) : ∀ (k s : Nat), s < k → ∀ q, mt s = some q → w s = 1 → ∀ l ∈ nL q, ∃ t, t < 60 ∧ w t = 1 ∧ st 0 t = 0 ∧ l = ((st 3 (4 * t)).toInt, (st 3 (4 * t + 1)).toInt, (st 3 (4 * t + 2)).toInt) := by
  intro k
  induction k with
  | zero => intro s h; omega
  | succ k ih =>
    intro s hs q hq hws l hl
    obtain ⟨hsn, hrs, hmo, -, -, -, -, hk⟩ := hM.2.2 s q hq
    have hn := hM.1
    have hnk := hmo.1
    have hnc := hw.2.2.2.1 s q (by omega) hws hq
    unfold nk_ok at hnk
    unfold mt_k at hk
    unfold nc_ok at hnc
    rcases hK : nK q with op | ⟨a, b, kk⟩ | a | ⟨j, a, kk⟩
    · rw [hK] at hnk hk
      obtain ⟨l9, e9, -⟩ := hnk
      obtain ⟨k0, k1, -⟩ := hk
      rw [e9] at hl
      have el := List.mem_singleton.mp hl
      obtain ⟨z1, z2, z3⟩ := k1 l9 e9
      exact ⟨s, by omega, hws, k0, by rw [z1, z2, z3, el]⟩
    · rw [hK] at hnk hnc
      obtain ⟨q1, q2, u1, u2, u3, u4, u5, u6, u7⟩ := hnk
      have ra := (hM.2.2 a q1 u1).2.1
      have rb := (hM.2.2 b q2 u2).2.1
      rw [u6] at hl
      rcases List.mem_append.mp hl with h | h
      · exact ih a (by omega) q1 u1 hnc.1 l h
      · exact ih b (by omega) q2 u2 hnc.2 l h
    · rw [hK] at hnk hnc
      obtain ⟨q1, u1, u3, u5, u6, u7⟩ := hnk
      have ra := (hM.2.2 a q1 u1).2.1
      rw [u6] at hl
      exact ih a (by omega) q1 u1 hnc l hl
    · rw [hK] at hnk hnc
      obtain ⟨q1, u0, u1, u3, u5, u6, u7⟩ := hnk
      have ra := (hM.2.2 a q1 u1).2.1
      rw [u6] at hl
      exact ih a (by omega) q1 u1 hnc l hl
theorem nl_needj {n : Nat} {mt : Nat → Option nq} {st : Nat → Nat → Int32} {p : Nat} {w : Nat → Int32} {q : nq} (hM : mt_ok n mt st) (hw : nd_need mt st p w) (hq : mt p = some q) {j o : Nat} (hjo : j + o = 1) : ∀ l ∈ nl_j j (nL q), ∃ t, t ≤ p ∧ w t = 1 ∧ st 0 t = 0 ∧ l = ((st 3 (4 * t + j)).toInt, (st 3 (4 * t + o)).toInt, (st 3 (4 * t + 2)).toInt) := by
  intro l hl
  unfold nl_j at hl
  rcases (show j = 0 ∨ j = 1 by omega) with e | e
  · subst e
    have e2 : o = 1 := by omega
    subst e2
    rw [if_pos rfl] at hl
    obtain ⟨t, a, b, c, d⟩ := nl_need hM hw (p + 1) p (Nat.lt_succ_self p) q hq hw.2.1 l hl
    exact ⟨t, hw.2.2.1 t a b, b, c, d⟩
  · subst e
    have e2 : o = 0 := by omega
    subst e2
    rw [if_neg (by decide)] at hl
    obtain ⟨l2, hl2, rfl⟩ := List.mem_map.mp hl
    obtain ⟨t, a, b, c, d⟩ := nl_need hM hw (p + 1) p (Nat.lt_succ_self p) q hq hw.2.1 l2 hl2
    exact ⟨t, hw.2.2.1 t a b, b, c, by rw [d]; rfl⟩
/-- the marks cover the lines of p -/
theorem gs_cov {n : Nat} {mt : Nat → Option nq} {st : Nat → Nat → Int32} {p : Nat} {w : Nat → Int32} {q : nq} (hM : mt_ok n mt st) (hw : nd_need mt st p w) (hq : mt p = some q) {j o : Nat} (hjo : j + o = 1) {x y : Int} (hy : 0 < y) {of N Dn n1 : Nat} {AB BE : Nat → Int64} (h : gs_O st w j o x y of N Dn (nd q) AB BE n1 (p + 1)) :
    qm_cov0 (nl_j j (nL q)) (qm_fr x y) (fun m => ∃ i, i < n1 ∧ m = mk_v (kf of AB) (kf of BE) i) ∧ (0 < nd q → qm_cov1 (nl_j j (nL q)) (fun m => ∃ i, i < n1 ∧ m = mk_v (kf of AB) (kf of BE) i)) := by
  obtain ⟨h1, h2, h3, h4⟩ := h
  refine ⟨fun L hL hne => ?_, fun hd L hL M hMm hne => ?_⟩
  · obtain ⟨t, ht, w1, w2, rfl⟩ := nl_needj hM hw hq hjo L hL
    dsimp only at hne ⊢
    have hd9 : (st 3 (4 * t + j)).toInt * y ≠ 0 := fun z => (Int.mul_eq_zero.mp z).elim hne (by omega)
    obtain ⟨i, hi, e⟩ := h3 t (by omega) w1 w2 hd9
    refine ⟨_, ⟨i, hi, rfl⟩, ?_⟩
    rw [e]
    unfold qm_at
    dsimp only
    generalize (st 3 (4 * t + j)).toInt = a at *
    generalize (st 3 (4 * t + o)).toInt = b at *
    generalize (st 3 (4 * t + 2)).toInt = c at *
    have hyq : (y : Rat) ≠ 0 := fun z => by have := Rat.intCast_eq_zero_iff.mp z; omega
    have k1 : (y : Rat) * qm_fr x y = (x : Rat) := qm_fr_mul hy
    have k2 : qm_fr (-(b * x + c * y)) (a * y) * ((a * y : Int) : Rat) = ((-(b * x + c * y) : Int) : Rat) := by
      unfold qm_fr
      exact Rat.div_mul_cancel (fun z => hd9 (Rat.intCast_eq_zero_iff.mp z))
    simp only [Rat.intCast_mul, Rat.intCast_neg, Rat.intCast_add] at k2
    have k3 : (y : Rat) * ((a : Rat) * qm_fr (-(b * x + c * y)) (a * y) + (b : Rat) * qm_fr x y + (c : Rat)) = 0 := by
      have : (y : Rat) * ((a : Rat) * qm_fr (-(b * x + c * y)) (a * y) + (b : Rat) * qm_fr x y + (c : Rat)) = qm_fr (-(b * x + c * y)) (a * y) * ((a : Rat) * (y : Rat)) + (b : Rat) * ((y : Rat) * qm_fr x y) + (c : Rat) * (y : Rat) := by grind
      rw [this, k1, k2]
      grind
    exact (Rat.mul_eq_zero.mp k3).resolve_left hyq
  · have root : ∀ (a b c a' b' c' : Int), a * b' - a' * b ≠ 0 → qm_D (a, b, c) (a', b', c') (qm_fr (b * c' - b' * c) (a * b' - a' * b)) = 0 := by
      intro a b c a' b' c' hd
      have k2 : qm_fr (b * c' - b' * c) (a * b' - a' * b) * ((a * b' - a' * b : Int) : Rat) = ((b * c' - b' * c : Int) : Rat) := by
        unfold qm_fr
        exact Rat.div_mul_cancel (fun z => hd (Rat.intCast_eq_zero_iff.mp z))
      simp only [Rat.intCast_mul, Rat.intCast_sub] at k2
      unfold qm_D qm_A
      dsimp only
      generalize qm_fr (b * c' - b' * c) (a * b' - a' * b) = m at *
      grind
    obtain ⟨t, ht, w1, w2, rfl⟩ := nl_needj hM hw hq hjo L hL
    obtain ⟨r, hr, w3, w4, rfl⟩ := nl_needj hM hw hq hjo M hMm
    dsimp only at hne
    rcases Nat.lt_trichotomy r t with z | z | z
    · have hd9 : (st 3 (4 * t + j)).toInt * (st 3 (4 * r + o)).toInt - (st 3 (4 * r + j)).toInt * (st 3 (4 * t + o)).toInt ≠ 0 := fun e => hne (by rw [Int.mul_comm (st 3 (4 * r + o)).toInt, Int.mul_comm (st 3 (4 * t + o)).toInt]; exact e)
      obtain ⟨i, hi, e⟩ := h4 hd t r (by omega) z w1 w2 w3 w4 hd9
      exact ⟨_, ⟨i, hi, rfl⟩, by rw [e]; exact root _ _ _ _ _ _ hd9⟩
    · subst z
      exact absurd (by rw [Int.mul_comm]; omega) hne
    · have hd9 : (st 3 (4 * r + j)).toInt * (st 3 (4 * t + o)).toInt - (st 3 (4 * t + j)).toInt * (st 3 (4 * r + o)).toInt ≠ 0 := fun e => hne (by rw [Int.mul_comm (st 3 (4 * r + o)).toInt, Int.mul_comm (st 3 (4 * t + o)).toInt]; omega)
      obtain ⟨i, hi, e⟩ := h4 hd r t (by omega) z w3 w4 w1 w2 hd9
      refine ⟨_, ⟨i, hi, rfl⟩, ?_⟩
      rw [e]
      have h9 := root _ _ (st 3 (4 * r + 2)).toInt _ _ (st 3 (4 * t + 2)).toInt hd9
      unfold qm_D at h9 ⊢
      dsimp only at h9 ⊢
      grind
theorem upd_upd (f : Nat → Int32) (k : Nat) (x y : Int32) : upd (upd f k x) k y = upd f k y := by
  funext i
  by_cases h : i = k
  · subst h; rw [pk_us, pk_us]
  · rw [pk_un h, pk_un h, pk_un h]


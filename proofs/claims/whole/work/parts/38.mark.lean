/-! The reference: its nodes; mark -/
def mo_ok (mt : Nat → Option nq) (q : nq) : Prop := nk_ok mt q ∧ 1 ≤ (nL q).length ∧ (nL q).length ≤ 6 ∧ nd q ≤ 2 ∧ (∀ l ∈ nL q, l.1.natAbs ≤ 5 ∧ l.2.1.natAbs ≤ 5 ∧ l.2.2.natAbs ≤ 5) ∧ qm_inv (nL q) (nd q) (nP q) ∧ (nx q = false → ∀ x x' y, nP q x y ↔ nP q x' y) ∧ (ny q = false → ∀ x y y', nP q x y ↔ nP q x y')
def mt_k (st : Nat → Nat → Int32) (s : Nat) (q : nq) : Prop := match nK q with
  | .inl op => st 0 s = 0 ∧ (∀ l, nL q = [l] → (st 3 (4 * s)).toInt = l.1 ∧ (st 3 (4 * s + 1)).toInt = l.2.1 ∧ (st 3 (4 * s + 2)).toInt = l.2.2) ∧ st 3 (4 * s + 3) = nI op
  | .inr (.inl (a, b, k)) => st 0 s = (if k = true then 1 else 2) ∧ st 1 s = nI a ∧ st 2 s = nI b
  | .inr (.inr (.inl a)) => st 0 s = 3 ∧ st 1 s = nI a ∧ st 2 s = -1
  | .inr (.inr (.inr (j, a, k))) => st 0 s = (if k = true then 5 else 4) ∧ st 1 s = nI a ∧ st 2 s = -1 ∧ st 4 s = nI j
def mt_c (st : Nat → Nat → Int32) (s : Nat) (q : nq) : Prop := st 5 s = (if nx q = true then 1 else 0) ∧ st 6 s = (if ny q = true then 1 else 0) ∧ st 7 s = nI (nL q).length ∧ st 8 s = nI (nd q) ∧ mt_k st s q
def mt_ok (n : Nat) (mt : Nat → Option nq) (st : Nat → Nat → Int32) : Prop := n ≤ 60 ∧ (∀ s, s < n → ∃ q, mt s = some q) ∧ ∀ s q, mt s = some q → s < n ∧ nr q = s ∧ mo_ok mt q ∧ mt_c st s q
/-- a node's child is needed with it -/
def nc_ok (w : Nat → Int32) (q : nq) : Prop := match nK q with
  | .inl _ => True
  | .inr (.inl (a, b, _)) => w a = 1 ∧ w b = 1
  | .inr (.inr (.inl a)) => w a = 1
  | .inr (.inr (.inr (_, a, _))) => w a = 1
def sm (f : Nat → Nat) : Nat → Nat
  | 0 => 0
  | k + 1 => sm f k + f k
theorem sm_congr {f g : Nat → Nat} : ∀ k, (∀ i, i < k → f i = g i) → sm f k = sm g k
  | 0, _ => rfl
  | k + 1, h => by
    show sm f k + f k = sm g k + g k
    rw [sm_congr k (fun i hi => h i (by omega)), h k (by omega)]
theorem sm_zero {f : Nat → Nat} : ∀ k, (∀ i, i < k → f i = 0) → sm f k = 0
  | 0, _ => rfl
  | k + 1, h => by
    show sm f k + f k = 0
    rw [sm_zero k (fun i hi => h i (by omega)), h k (by omega)]
theorem sm_up {f : Nat → Nat} {a x : Nat} : ∀ k, sm (va_up f a x) k + (if a < k then f a else 0) = sm f k + (if a < k then x else 0)
  | 0 => by rw [if_neg (Nat.not_lt_zero a), if_neg (Nat.not_lt_zero a)]; rfl
  | k + 1 => by
    have ih := sm_up (f := f) (a := a) (x := x) k
    show sm (va_up f a x) k + va_up f a x k + _ = sm f k + f k + _
    by_cases e : k = a
    · subst e
      rw [if_neg (Nat.lt_irrefl k), if_neg (Nat.lt_irrefl k)] at ih
      rw [va_up_self, if_pos (Nat.lt_succ_self k), if_pos (Nat.lt_succ_self k)]
      omega
    · rw [va_up_ne _ _ e]
      by_cases c : a < k
      · rw [if_pos c, if_pos c] at ih
        rw [if_pos (by omega), if_pos (by omega)]; omega
      · rw [if_neg c, if_neg c] at ih
        rw [if_neg (by omega), if_neg (by omega)]; omega
theorem sm_mono {f : Nat → Nat} {a b : Nat} (h : a ≤ b) : sm f a ≤ sm f b := by
  induction b with
  | zero => rw [Nat.le_zero.mp h]; exact Nat.le_refl _
  | succ b ih =>
    rcases Nat.lt_or_ge b a with c | c
    · rw [show a = b + 1 by omega]; exact Nat.le_refl _
    · exact Nat.le_trans (ih c) (Nat.le_add_right _ _)
def mz (mt : Nat → Option nq) (t : Nat) : Nat := match mt t with
  | some q => (nL q).length
  | none => 0
/-- the needed atoms -/
def na (st : Nat → Nat → Int32) (w : Nat → Int32) (t : Nat) : Nat := if w t = 1 ∧ st 0 t = 0 then 1 else 0
/-- what mark gives: p and all below it, and at most six atoms among them -/
def nd_need (mt : Nat → Option nq) (st : Nat → Nat → Int32) (p : Nat) (w : Nat → Int32) : Prop := (∀ t, t < 60 → w t = 0 ∨ w t = 1) ∧ w p = 1 ∧ (∀ t, t < 60 → w t = 1 → t ≤ p) ∧ (∀ t q, t < 60 → w t = 1 → mt t = some q → nc_ok w q) ∧ sm (na st w) 60 ≤ 6 ∧ (∀ t qt qp, t < 60 → w t = 1 → mt t = some qt → mt p = some qp → nd qt ≤ nd qp)
/-- half way: the nodes from k on are done -/
def nd_half (mt : Nat → Option nq) (st : Nat → Nat → Int32) (p k : Nat) (w : Nat → Int32) : Prop := (∀ t, t < 60 → w t = 0 ∨ w t = 1) ∧ w p = 1 ∧ (∀ t, t < 60 → w t = 1 → t ≤ p) ∧ (∀ t q, k ≤ t → t < 60 → w t = 1 → mt t = some q → nc_ok w q) ∧ sm (fun t => if w t = 1 then (if t < k then mz mt t else if st 0 t = 0 then 1 else 0) else 0) 60 ≤ mz mt p ∧ (∀ t qt qp, t < 60 → w t = 1 → mt t = some qt → mt p = some qp → nd qt ≤ nd qp)
theorem nd_first {n : Nat} {mt : Nat → Option nq} {st : Nat → Nat → Int32} {p : Nat} {w : Nat → Int32} (hM : mt_ok n mt st) (hp : p < n) (hw : ∀ t, t < 60 → w t = if t = p then 1 else 0) : nd_half mt st p (p + 1) w := by
  have hn := hM.1
  have h1 : ∀ t, t < 60 → w t = 1 → t = p := fun t ht h => by
    rw [hw t ht] at h
    by_cases e : t = p
    · exact e
    · rw [if_neg e] at h; exact absurd h (by decide)
  refine ⟨fun t ht => ?_, by rw [hw p (by omega), if_pos rfl], fun t ht h => Nat.le_of_eq (h1 t ht h), fun t q hk ht h => absurd (h1 t ht h) (by omega), ?_, fun t qt qp ht h h2 h3 => by rw [h1 t ht h, h3] at h2; rw [Option.some.inj h2]; exact Nat.le_refl _⟩
  · rw [hw t ht]; split
    · exact Or.inr rfl
    · exact Or.inl rfl
  · have e : sm (fun t => if w t = 1 then (if t < p + 1 then mz mt t else if st 0 t = 0 then 1 else 0) else 0) 60 = sm (va_up (fun _ => 0) p (mz mt p)) 60 := sm_congr 60 (fun t ht => by
      by_cases c : t = p
      · rw [c, va_up_self, hw p (by omega), if_pos rfl, if_pos rfl, if_pos (by omega)]
      · rw [va_up_ne _ _ c, hw t ht, if_neg c, if_neg (by decide)])
    rw [e]
    have := sm_up (f := fun _ => 0) (a := p) (x := mz mt p) 60
    rw [if_pos (by omega), if_pos (by omega), sm_zero 60 (fun _ _ => rfl)] at this
    omega
theorem nd_last {n : Nat} {mt : Nat → Option nq} {st : Nat → Nat → Int32} {p : Nat} {w : Nat → Int32} (hM : mt_ok n mt st) (hp : p < n) (h : nd_half mt st p 0 w) : nd_need mt st p w := by
  obtain ⟨h1, h2, h3, h4, h5, h6⟩ := h
  refine ⟨h1, h2, h3, fun t q ht hw hq => h4 t q (Nat.zero_le t) ht hw hq, ?_, h6⟩
  obtain ⟨q, hq⟩ := hM.2.1 p hp
  have hz : mz mt p ≤ 6 := by unfold mz; rw [hq]; exact ((hM.2.2 p q hq).2.2.1).2.2.1
  have e : sm (na st w) 60 = sm (fun t => if w t = 1 then (if t < 0 then mz mt t else if st 0 t = 0 then 1 else 0) else 0) 60 := sm_congr 60 (fun t _ => by
    unfold na
    by_cases c : w t = 1
    · rw [if_pos c, if_neg (Nat.not_lt_zero t)]
      by_cases c2 : st 0 t = 0
      · rw [if_pos ⟨c, c2⟩, if_pos c2]
      · rw [if_neg (fun z => c2 z.2), if_neg c2]
    · rw [if_neg c, if_neg (fun z => c z.1)])
  omega
/-- a node that is not needed, or an atom: nothing to do -/
theorem nd_skip {n : Nat} {mt : Nat → Option nq} {st : Nat → Nat → Int32} {p k : Nat} {w : Nat → Int32} (hM : mt_ok n mt st) (hk : k < n) (h : nd_half mt st p (k + 1) w) (hw : ¬ w k = 1 ∨ st 0 k = 0) : nd_half mt st p k w := by
  obtain ⟨h1, h2, h3, h4, h5, h6⟩ := h
  obtain ⟨q, hq⟩ := hM.2.1 k hk
  obtain ⟨-, -, mo, -, -, -, -, mk⟩ := hM.2.2 k q hq
  refine ⟨h1, h2, h3, fun t q2 hkt ht hwt hq2 => ?_, ?_, h6⟩
  · rcases Nat.lt_or_ge k t with c | c
    · exact h4 t q2 c ht hwt hq2
    · have e : t = k := by omega
      subst e
      rcases hw with hw | hw
      · exact absurd hwt hw
      · have : q2 = q := Option.some.inj (hq2.symm.trans hq)
        subst this
        unfold mt_k at mk
        unfold nc_ok
        rcases hK : nK q2 with op | ⟨a, b, kk⟩ | a | ⟨j, a, kk⟩
        · trivial
        · rw [hK] at mk; rw [hw] at mk; exact absurd mk.1 (by cases kk <;> decide)
        · rw [hK] at mk; rw [hw] at mk; exact absurd mk.1 (by decide)
        · rw [hK] at mk; rw [hw] at mk; exact absurd mk.1 (by cases kk <;> decide)
  · rw [← sm_congr 60 (f := fun t => if w t = 1 then (if t < k + 1 then mz mt t else if st 0 t = 0 then 1 else 0) else 0) (fun t ht => ?_)]
    · exact h5
    · by_cases c : w t = 1
      · rw [if_pos c, if_pos c]
        rcases Nat.lt_trichotomy t k with d | d | d
        · rw [if_pos (by omega), if_pos d]
        · subst d
          rw [if_pos (by omega), if_neg (Nat.lt_irrefl t)]
          rcases hw with hw | hw
          · exact absurd c hw
          · rw [if_pos hw]
            unfold mz
            rw [hq]
            unfold mt_k at mk
            have hk2 := mo.1
            unfold nk_ok at hk2
            rcases hK : nK q with op | ⟨a, b, kk⟩ | a | ⟨j, a, kk⟩
            · rw [hK] at hk2
              obtain ⟨l9, e9, -⟩ := hk2
              show (nL q).length = 1
              rw [e9]; rfl
            · rw [hK] at mk; rw [hw] at mk; exact absurd mk.1 (by cases kk <;> decide)
            · rw [hK] at mk; rw [hw] at mk; exact absurd mk.1 (by decide)
            · rw [hK] at mk; rw [hw] at mk; exact absurd mk.1 (by cases kk <;> decide)
        · rw [if_neg (show ¬ t < k + 1 by omega), if_neg (show ¬ t < k by omega)]
      · rw [if_neg c, if_neg c]
/-- a needed node with children: they are needed too -/
theorem nd_step {n : Nat} {mt : Nat → Option nq} {st : Nat → Nat → Int32} {p k : Nat} {w w' : Nat → Int32} {q : nq} (hM : mt_ok n mt st) (hp : p < n) (hk : k < n) (hq : mt k = some q) (h : nd_half mt st p (k + 1) w) (hwk : w k = 1) (h0 : ¬ st 0 k = 0) (hc : nc_ok w' q)
    (hup : ∀ t, t < 60 → w' t = w t ∨ (w' t = 1 ∧ t < k)) (hz : ∃ a b, (∀ t, t < 60 → t ≠ a → t ≠ b → w' t = w t) ∧ a < k ∧ b < k ∧ ((a ≠ b ∧ mz mt a + mz mt b ≤ mz mt k) ∨ (a = b ∧ mz mt a ≤ mz mt k)) ∧ ∀ t qt, (t = a ∨ t = b) → mt t = some qt → nd qt ≤ nd q) (hm : ∀ t, t < 60 → w t = 1 → w' t = 1) : nd_half mt st p k w' := by
  obtain ⟨h1, h2, h3, h4, h5, h6⟩ := h
  have hn := hM.1
  have hkp := h3 k (by omega) hwk
  have hp60 : p < 60 := by omega
  refine ⟨fun t ht => ?_, hm p hp60 h2, fun t ht hw => ?_, fun t q2 hkt ht hwt hq2 => ?_, ?_, ?_⟩
  · rcases hup t ht with e | e
    · rw [e]; exact h1 t ht
    · exact Or.inr e.1
  · rcases hup t ht with e | e
    · rw [e] at hw; exact h3 t ht hw
    · omega
  · rcases Nat.lt_or_ge k t with c | c
    · have ew : w' t = w t := (hup t ht).resolve_right (by omega)
      rw [ew] at hwt
      have hcc := h4 t q2 c ht hwt hq2
      have hlt : ∀ a qa, mt a = some qa → a < 60 := fun a qa ha => by have := (hM.2.2 a qa ha).1; omega
      have hmo := (hM.2.2 t q2 hq2).2.2.1.1
      unfold nk_ok at hmo
      unfold nc_ok at hcc ⊢
      rcases hK : nK q2 with op | ⟨a, b, kk⟩ | a | ⟨j, a, kk⟩
      · trivial
      · rw [hK] at hcc hmo
        obtain ⟨q1, q3, u1, u2, -⟩ := hmo
        exact ⟨hm a (hlt a _ u1) hcc.1, hm b (hlt b _ u2) hcc.2⟩
      · rw [hK] at hcc hmo
        obtain ⟨q1, u1, -⟩ := hmo
        exact hm a (hlt a _ u1) hcc
      · rw [hK] at hcc hmo
        obtain ⟨q1, -, u1, -⟩ := hmo
        exact hm a (hlt a _ u1) hcc
    · have e : t = k := by omega
      subst e
      have : q2 = q := Option.some.inj (hq2.symm.trans hq)
      rw [this]; exact hc
  · obtain ⟨a, b, z1, z2, z3, z4, -⟩ := hz
    obtain ⟨g, hg⟩ : ∃ g : Nat → Nat, g = fun t => if w t = 1 then (if t < k + 1 then mz mt t else if st 0 t = 0 then 1 else 0) else 0 := ⟨_, rfl⟩
    have hgk : g k = mz mt k := by rw [hg]; dsimp only; rw [if_pos hwk, if_pos (by omega)]
    rw [← hg] at h5
    obtain ⟨g', hg'⟩ : ∃ g' : Nat → Nat, g' = fun t => if w' t = 1 then (if t < k then mz mt t else if st 0 t = 0 then 1 else 0) else 0 := ⟨_, rfl⟩
    rw [← hg']
    have e1 := sm_up (f := g) (a := k) (x := 0) 60
    rw [if_pos (by omega), if_pos (by omega)] at e1
    have pw : ∀ t, t < 60 → t ≠ a → t ≠ b → g' t = va_up g k 0 t := fun t ht ha hb => by
      rw [hg', hg]
      dsimp only
      rw [z1 t ht ha hb]
      by_cases c : t = k
      · rw [c, va_up_self, if_pos hwk, if_neg (Nat.lt_irrefl k), if_neg h0]
      · rw [va_up_ne _ _ c]
        by_cases d : w t = 1
        · rw [if_pos d, if_pos d]
          by_cases f : t < k
          · rw [if_pos f, if_pos (by omega)]
          · rw [if_neg f, if_neg (show ¬ t < k + 1 by omega)]
        · rw [if_neg d, if_neg d]
    have le : ∀ t, t < k → g' t ≤ mz mt t := fun t ht => by
      rw [hg']
      show (if w' t = 1 then (if t < k then mz mt t else if st 0 t = 0 then 1 else 0) else 0) ≤ mz mt t
      by_cases c : w' t = 1
      · rw [if_pos c, if_pos ht]; exact Nat.le_refl _
      · rw [if_neg c]; exact Nat.zero_le _
    rcases z4 with ⟨z5, z6⟩ | ⟨z5, z6⟩
    · have e2 := sm_up (f := va_up g k 0) (a := a) (x := g' a) 60
      have e3 := sm_up (f := va_up (va_up g k 0) a (g' a)) (a := b) (x := g' b) 60
      rw [if_pos (by omega), if_pos (by omega)] at e2 e3
      have e4 : sm g' 60 = sm (va_up (va_up (va_up g k 0) a (g' a)) b (g' b)) 60 := sm_congr 60 (fun t ht => by
        by_cases c : t = b
        · rw [c, va_up_self]
        · rw [va_up_ne _ _ c]
          by_cases d : t = a
          · rw [d, va_up_self]
          · rw [va_up_ne _ _ d]; exact pw t ht d c)
      have l1 := le a z2
      have l2 := le b z3
      omega
    · subst z5
      have e2 := sm_up (f := va_up g k 0) (a := a) (x := g' a) 60
      rw [if_pos (by omega), if_pos (by omega)] at e2
      have e4 : sm g' 60 = sm (va_up (va_up g k 0) a (g' a)) 60 := sm_congr 60 (fun t ht => by
        by_cases d : t = a
        · rw [d, va_up_self]
        · rw [va_up_ne _ _ d]; exact pw t ht d d)
      have l1 := le a z2
      omega
  · obtain ⟨a, b, z1, -, -, -, z5⟩ := hz
    intro t qt qp ht hw hqt hqp
    by_cases c : t = a ∨ t = b
    · exact Nat.le_trans (z5 t qt c hqt) (h6 k q qp (by omega) hwk hq hqp)
    · rw [z1 t ht (fun z => c (Or.inl z)) (fun z => c (Or.inr z))] at hw
      exact h6 t qt qp ht hw hqt hqp
section G38
variable (l : Launch) (D : va_G) (cI cJ cZ cN : ClassId) (md kd on tw nu le fx fy si de ne it po ma ab be li fr to : Nat)
set_option maxHeartbeats 4000000 in
set_option maxRecDepth 100000 in
theorem c_Md_mark (cd : Int32) (n : Nat) (up dn : Int64) (pz : Int32) (NE IT : Nat → Int32) (PO : Nat → Int64) (MA : Nat → Int32) (AB BE : Nat → Int64) (p0 o sz : Nat) (mt : Nat → Option nq) (st : Nat → Nat → Int32) (M : Nat → Option va_E) (hD : md_D md kd on tw nu le fx fy si de ne it po ma ab be li fr to) (hK : md_W cI cJ cZ md kd on tw nu le fx fy si de ne it po ma ab be li fr to M cd n up dn pz NE IT PO MA AB BE) (hT : md_T cI cZ kd on tw nu le fx fy si de M st) (hM : mt_ok n mt st) (hp : p0 < n) (ho : o + 60 ≤ 240) : Met l y_Md_mark (.code y_Md_mark b_Md_mark 4 none :: ww) ({ frames := 0, cells := 0, slots := 0, locals := 0 }) (hw_Pc D qcl (qty cI cJ cZ cN) [.ref md, .int (nI p0), .int (nI o)] M sz) (va_Qv (fun M1 => ∃ NE2 : Nat → Int32, (∀ j, (j < o ∨ o + 60 ≤ j) → NE2 j = NE j) ∧ nd_need mt st p0 (fun t => NE2 (o + t)) ∧ md_W cI cJ cZ md kd on tw nu le fx fy si de ne it po ma ab be li fr to M1 cd n up dn pz NE2 IT PO MA AB BE ∧ ∀ x9, x9 ≠ md → x9 ≠ ne → x9 ≠ it → x9 ≠ po → x9 ≠ ma → x9 ≠ ab → x9 ≠ be → M1 x9 = M x9) (hw_B D qcl (qty cI cJ cZ cN) M sz) (hw_A M sz)) 0 0 (hw_A M sz) := by
  have hn := hM.1
  refine hw_met (by decide) (Nat.le_of_ble_eq_true rfl) ?_
  intro p e s m below meth c hx hb hr hml hown hlocks hnm hts hsz hX hW ls hl
  subst hsz
  have hA : ∀ q, s.heap.size ≤ q → hw_A M s.heap.size q := fun q h => Or.inr h
  have hS : va_S (hw_A M s.heap.size) s.heap s.heap [] := va_S.rf
  have hl : lv_has ls 4 [(0, .ref md), (1, .int (nI p0)), (2, .int (nI o))] := hl
  have hown : s.vm.findClass "QuantifierOutModel" = some m.cls := hown
  obtain ⟨Q9, hQ9⟩ : ∃ X : State → Prop, X = MQ below (va_Qv (fun M1 => ∃ NE2 : Nat → Int32, (∀ j, (j < o ∨ o + 60 ≤ j) → NE2 j = NE j) ∧ nd_need mt st p0 (fun t => NE2 (o + t)) ∧ md_W cI cJ cZ md kd on tw nu le fx fy si de ne it po ma ab be li fr to M1 cd n up dn pz NE2 IT PO MA AB BE ∧ ∀ x9, x9 ≠ md → x9 ≠ ne → x9 ≠ it → x9 ≠ po → x9 ≠ ma → x9 ≠ ab → x9 ≠ be → M1 x9 = M x9) (hw_B D qcl (qty cI cJ cZ cN) M s.heap.size) (hw_A M s.heap.size)) [.ref md, .int (nI p0), .int (nI o)].toArray s 0 0 (hw_A M s.heap.size) := ⟨_, rfl⟩
  rw [← hQ9]
  have sweep : ∀ (k : Nat), k ≤ p0 + 1 → ∀ (H : Heap) (locs : List Loc) (M2 : Nat → Option va_E) (NE2 : Nat → Int32) (ls : Array Slot), hw_W D qcl (qty cI cJ cZ cN) (hw_A M s.heap.size) M2 s H → va_S (hw_A M s.heap.size) s.heap H locs → md_W cI cJ cZ md kd on tw nu le fx fy si de ne it po ma ab be li fr to M2 cd n up dn pz NE2 IT PO MA AB BE → (∀ x9, x9 ≠ md → x9 ≠ ne → x9 ≠ it → x9 ≠ po → x9 ≠ ma → x9 ≠ ab → x9 ≠ be → M2 x9 = M x9) → (∀ j, (j < o ∨ o + 60 ≤ j) → NE2 j = NE j) → nd_half mt st p0 k (fun t => NE2 (o + t)) → lv_has ls 4 [(3, .int (nI k - 1)), (0, .ref md), (1, .int (nI p0)), (2, .int (nI o))] → W p l e ({ frames := 0, cells := 0, slots := 0, locals := 0 }) s m [.ref md, .int (nI p0), .int (nI o)].toArray below meth c H locs 0 0 Q9 (F0 m 34 ls []) := by
    intro k
    induction k with
    | zero =>
      intro hk H locs M2 NE2 ls hW hS hK2 hf2 hout hh hl
      refine lv_iload_n hx hb d_Md_mark_34 rfl (lv_at hl 0 rfl) ?_
      refine lv_if_lt (tgt := 105) hx hb d_Md_mark_35 (by decide) (fun c_35 => ?_) (fun c_35 => ?_)
      · skip
        rw [hQ9]
        exact hw_retv hx hb hr hlocks hW hS ⟨NE2, hout, nd_last hM hp hh, hK2, hf2⟩ d_Md_mark_105
      · skip
        exact absurd (show (nI 0 - 1 : Int32) < 0 by decide) c_35
    | succ k ihk =>
      intro hk H locs M2 NE2 ls hW hS hK2 hf2 hout hh hl
      have ek : nI (k + 1) - 1 = nI k := nI_pred k
      rw [ek] at hl
      have hT2 := md_T.kept hD hT hf2
      obtain ⟨q, hq⟩ := hM.2.1 k (by omega)
      obtain ⟨-, hrk, hmo, c5, c6, c7, c8, ck⟩ := hM.2.2 k q hq
      refine lv_iload_n hx hb d_Md_mark_34 rfl (lv_at hl 0 rfl) ?_
      refine lv_if_lt (tgt := 105) hx hb d_Md_mark_35 (by decide) (fun c_35 => ?_) (fun c_35 => ?_)
      · skip
        exact absurd c_35 (nI_pos (by omega))
      · skip
        have w2_md := hK2.1
        have w2_md : M2 md = some (.inr (8, [.int cd, .int (nI n), .ref kd, .ref on, .ref tw, .ref nu, .ref le, .ref fx, .ref fy, .ref si, .ref de, .ref ne, .ref it, .ref po, .ref ma, .ref ab, .ref be, .long up, .long dn, .ref li, .int pz, .ref fr, .ref to])) := w2_md
        have w2_ne := hK2.2.1
        have w2_ne : M2 ne = some (.inl (cZ, 240, .inl NE2)) := w2_ne
        have t2_kd : M2 kd = some (.inl (cI, 60, .inl (st 0))) := hT2.1
        have t2_on : M2 on = some (.inl (cI, 60, .inl (st 1))) := hT2.2.1
        have t2_tw : M2 tw = some (.inl (cI, 60, .inl (st 2))) := hT2.2.2.1
        have again : ∀ (H : Heap) (locs : List Loc) (M3 : Nat → Option va_E) (NE3 : Nat → Int32) (ls : Array Slot), hw_W D qcl (qty cI cJ cZ cN) (hw_A M s.heap.size) M3 s H → va_S (hw_A M s.heap.size) s.heap H locs → md_W cI cJ cZ md kd on tw nu le fx fy si de ne it po ma ab be li fr to M3 cd n up dn pz NE3 IT PO MA AB BE → (∀ x9, x9 ≠ md → x9 ≠ ne → x9 ≠ it → x9 ≠ po → x9 ≠ ma → x9 ≠ ab → x9 ≠ be → M3 x9 = M x9) → (∀ j, (j < o ∨ o + 60 ≤ j) → NE3 j = NE j) → nd_half mt st p0 k (fun t => NE3 (o + t)) → lv_has ls 4 [(3, .int (nI k)), (0, .ref md), (1, .int (nI p0)), (2, .int (nI o))] → W p l e ({ frames := 0, cells := 0, slots := 0, locals := 0 }) s m [.ref md, .int (nI p0), .int (nI o)].toArray below meth c H locs 0 0 Q9 (F0 m 99 ls []) := by
          intro H locs M3 NE3 ls hW hS hK3 hf3 hout3 hh3 hl
          obtain ⟨k9, ek9⟩ : ∃ y9 : Int32, y9 = (nI k) + Int32.ofInt (-1) := ⟨_, rfl⟩
          refine lv_iinc (v := k9) (lv' := [(3, .int k9), (0, .ref md), (1, .int (nI p0)), (2, .int (nI o))]) hx hb d_Md_mark_99 hl (k := 0) rfl ek9.symm (by decide) rfl (fun ls hl => ?_)
          have ek9b : k9 = nI k - 1 := by rw [ek9, Int32.sub_eq_add_neg]; rfl
          subst ek9b
          refine lv_goto (tgt := 34) hx hb d_Md_mark_102 (by decide) ?_
          exact ihk (by omega) H locs M3 NE3 ls hW hS hK3 hf3 hout3 hh3 (lv_sub hl [0, 1, 2, 3] rfl)
        refine lv_aload_n hx hb d_Md_mark_38 rfl (lv_at hl 1 rfl) ?_
        refine hw_get (own := "QuantifierOutModel") (v := .ref ne) hx hb hts i_Md hown hW w2_md rfl 11 (by decide) (hts _ tw_614) (fun _ h9 => h9) rfl d_Md_mark_39 ?_
        refine lv_iload_n hx hb d_Md_mark_42 rfl (lv_at hl 3 rfl) ?_
        refine lv_iload_n hx hb d_Md_mark_43 rfl (lv_at hl 0 rfl) ?_
        refine lv_iadd hx hb d_Md_mark_44 ?_
        refine lv_topi (fun x1 ex1 => ?_)
        have eix1 : x1 = nI (o + k) := by rw [ex1]; exact nI_add o k
        refine hw_zld hx hb hW 2 w2_ne rfl (o + k) eix1 (by omega) (by decide) d_Md_mark_45 ?_
        refine lv_if_eq (tgt := 99) hx hb d_Md_mark_46 (by decide) (fun c_46 => ?_) (fun c_46 => ?_)
        · skip
          exact again H locs M2 NE2 ls hW hS hK2 hf2 hout (nd_skip hM (by omega) hh (Or.inl (fun z9 => by rw [c_46] at z9; exact absurd z9 (by decide)))) hl
        · skip
          have hwk : NE2 (o + k) = 1 := (hh.1 k (by omega)).resolve_left c_46
          refine lv_aload_n hx hb d_Md_mark_49 rfl (lv_at hl 1 rfl) ?_
          refine hw_get (own := "QuantifierOutModel") (v := .ref kd) hx hb hts i_Md hown hW w2_md rfl 2 (by decide) (hts _ tw_605) (fun _ h9 => h9) rfl d_Md_mark_50 ?_
          refine lv_iload_n hx hb d_Md_mark_53 rfl (lv_at hl 0 rfl) ?_
          refine hw_ild hx hb hW 0 t2_kd rfl k rfl (by omega) (by decide) d_Md_mark_54 ?_
          refine lv_if_ne (tgt := 61) hx hb d_Md_mark_55 (by decide) (fun c_55 => ?_) (fun c_55 => ?_)
          · skip
            unfold mt_k at ck
            have hnk := hmo.1
            unfold nk_ok at hnk
            have hmz : ∀ a qa, mt a = some qa → mz mt a = (nL qa).length := fun a qa ha => by unfold mz; rw [ha]
            rcases hKK : nK q with op | ⟨a, b, kk⟩ | a | ⟨j, a, kk⟩
            · rw [hKK] at ck; exact absurd ck.1 c_55
            · skip
              rw [hKK] at ck hnk
              obtain ⟨k0, k1, k2⟩ := ck
              obtain ⟨q1, q2, u1, u2, u3, u4, u5, u6, u7⟩ := hnk
              have ra := (hM.2.2 a q1 u1).2.1; have rb := (hM.2.2 b q2 u2).2.1
              have hak : a < k := by omega
              have hbk : b < k := by omega
              refine lv_aload_n hx hb d_Md_mark_61 rfl (lv_at hl 1 rfl) ?_
              refine hw_get (own := "QuantifierOutModel") (v := .ref ne) hx hb hts i_Md hown hW w2_md rfl 11 (by decide) (hts _ tw_614) (fun _ h9 => h9) rfl d_Md_mark_62 ?_
              refine lv_iload_n hx hb d_Md_mark_65 rfl (lv_at hl 3 rfl) ?_
              refine lv_aload_n hx hb d_Md_mark_66 rfl (lv_at hl 1 rfl) ?_
              refine hw_get (own := "QuantifierOutModel") (v := .ref on) hx hb hts i_Md hown hW w2_md rfl 3 (by decide) (hts _ tw_606) (fun _ h9 => h9) rfl d_Md_mark_67 ?_
              refine lv_iload_n hx hb d_Md_mark_70 rfl (lv_at hl 0 rfl) ?_
              refine hw_ild hx hb hW 0 t2_on rfl k rfl (by omega) (by decide) d_Md_mark_71 ?_
              rw [k1]
              refine lv_iadd hx hb d_Md_mark_72 ?_
              refine lv_topi (fun x2 ex2 => ?_)
              refine lv_iconst (v := 1) hx hb d_Md_mark_73 (by decide) ?_
              have ecx2 : x2 = nI (o + a) := by rw [ex2]; exact nI_add o a
              refine hw_zst hx hb hW hS 2 w2_ne rfl (o + a) ecx2 (by omega) (by decide) rfl d_Md_mark_74 (fun H locs hW hS => ?_)
              have hW : hw_W D qcl (qty cI cJ cZ cN) _ (va_up M2 ne (some (.inl (cZ, 240, .inl (upd NE2 (o + a) 1))))) s H := hW
              generalize hMw3 : va_up M2 ne (some (.inl (cZ, 240, .inl (upd NE2 (o + a) 1)))) = Mw3 at hW
              have w2_md : Mw3 md = some (.inr (8, [.int cd, .int (nI n), .ref kd, .ref on, .ref tw, .ref nu, .ref le, .ref fx, .ref fy, .ref si, .ref de, .ref ne, .ref it, .ref po, .ref ma, .ref ab, .ref be, .long up, .long dn, .ref li, .int pz, .ref fr, .ref to])) := by rw [← hMw3, va_up_ne _ _ (show md ≠ ne from hD 0 10 (by decide) (by decide))]; exact w2_md
              have t2_kd : Mw3 kd = some (.inl (cI, 60, .inl (st 0))) := by rw [← hMw3, va_up_ne _ _ (show kd ≠ ne from hD 1 10 (by decide) (by decide))]; exact t2_kd
              have t2_on : Mw3 on = some (.inl (cI, 60, .inl (st 1))) := by rw [← hMw3, va_up_ne _ _ (show on ≠ ne from hD 2 10 (by decide) (by decide))]; exact t2_on
              have t2_tw : Mw3 tw = some (.inl (cI, 60, .inl (st 2))) := by rw [← hMw3, va_up_ne _ _ (show tw ≠ ne from hD 3 10 (by decide) (by decide))]; exact t2_tw
              have w2_ne : Mw3 ne = some (.inl (cZ, 240, .inl (upd NE2 (o + a) 1))) := by rw [← hMw3]; exact va_up_self _ _ _
              have hfr_Mw3 : ∀ x9, x9 ≠ ne → Mw3 x9 = M2 x9 := fun x9 z9 => by rw [← hMw3, va_up_ne _ _ z9]
              refine lv_aload_n hx hb d_Md_mark_75 rfl (lv_at hl 1 rfl) ?_
              refine hw_get (own := "QuantifierOutModel") (v := .ref tw) hx hb hts i_Md hown hW w2_md rfl 4 (by decide) (hts _ tw_607) (fun _ h9 => h9) rfl d_Md_mark_76 ?_
              refine lv_iload_n hx hb d_Md_mark_79 rfl (lv_at hl 0 rfl) ?_
              refine hw_ild hx hb hW 0 t2_tw rfl k rfl (by omega) (by decide) d_Md_mark_80 ?_
              rw [k2]
              refine lv_iconst (v := (-1)) hx hb d_Md_mark_81 (by decide) ?_
              refine lv_icmp_eq (tgt := 99) hx hb d_Md_mark_82 (by decide) (fun c_82 => ?_) (fun c_82 => ?_)
              · skip
                exact absurd c_82 (fun z9 => by have h9 := congrArg Int32.toInt z9; rw [nI_toInt (by omega)] at h9; have h8 : (-1 : Int32).toInt = -1 := rfl; omega)
              · skip
                refine lv_aload_n hx hb d_Md_mark_85 rfl (lv_at hl 1 rfl) ?_
                refine hw_get (own := "QuantifierOutModel") (v := .ref ne) hx hb hts i_Md hown hW w2_md rfl 11 (by decide) (hts _ tw_614) (fun _ h9 => h9) rfl d_Md_mark_86 ?_
                refine lv_iload_n hx hb d_Md_mark_89 rfl (lv_at hl 3 rfl) ?_
                refine lv_aload_n hx hb d_Md_mark_90 rfl (lv_at hl 1 rfl) ?_
                refine hw_get (own := "QuantifierOutModel") (v := .ref tw) hx hb hts i_Md hown hW w2_md rfl 4 (by decide) (hts _ tw_607) (fun _ h9 => h9) rfl d_Md_mark_91 ?_
                refine lv_iload_n hx hb d_Md_mark_94 rfl (lv_at hl 0 rfl) ?_
                refine hw_ild hx hb hW 0 t2_tw rfl k rfl (by omega) (by decide) d_Md_mark_95 ?_
                rw [k2]
                refine lv_iadd hx hb d_Md_mark_96 ?_
                refine lv_topi (fun x4 ex4 => ?_)
                refine lv_iconst (v := 1) hx hb d_Md_mark_97 (by decide) ?_
                have ecx4 : x4 = nI (o + b) := by rw [ex4]; exact nI_add o b
                refine hw_zst hx hb hW hS 2 w2_ne rfl (o + b) ecx4 (by omega) (by decide) rfl d_Md_mark_98 (fun H locs hW hS => ?_)
                have hW : hw_W D qcl (qty cI cJ cZ cN) _ (va_up Mw3 ne (some (.inl (cZ, 240, .inl (upd (upd NE2 (o + a) 1) (o + b) 1))))) s H := hW
                generalize hMw5 : va_up Mw3 ne (some (.inl (cZ, 240, .inl (upd (upd NE2 (o + a) 1) (o + b) 1)))) = Mw5 at hW
                have w2_md : Mw5 md = some (.inr (8, [.int cd, .int (nI n), .ref kd, .ref on, .ref tw, .ref nu, .ref le, .ref fx, .ref fy, .ref si, .ref de, .ref ne, .ref it, .ref po, .ref ma, .ref ab, .ref be, .long up, .long dn, .ref li, .int pz, .ref fr, .ref to])) := by rw [← hMw5, va_up_ne _ _ (show md ≠ ne from hD 0 10 (by decide) (by decide))]; exact w2_md
                have t2_kd : Mw5 kd = some (.inl (cI, 60, .inl (st 0))) := by rw [← hMw5, va_up_ne _ _ (show kd ≠ ne from hD 1 10 (by decide) (by decide))]; exact t2_kd
                have t2_on : Mw5 on = some (.inl (cI, 60, .inl (st 1))) := by rw [← hMw5, va_up_ne _ _ (show on ≠ ne from hD 2 10 (by decide) (by decide))]; exact t2_on
                have t2_tw : Mw5 tw = some (.inl (cI, 60, .inl (st 2))) := by rw [← hMw5, va_up_ne _ _ (show tw ≠ ne from hD 3 10 (by decide) (by decide))]; exact t2_tw
                have w2_ne : Mw5 ne = some (.inl (cZ, 240, .inl (upd (upd NE2 (o + a) 1) (o + b) 1))) := by rw [← hMw5]; exact va_up_self _ _ _
                have hfr_Mw5 : ∀ x9, x9 ≠ ne → Mw5 x9 = Mw3 x9 := fun x9 z9 => by rw [← hMw5, va_up_ne _ _ z9]
                refine again H locs Mw5 _ ls hW hS ⟨w2_md, w2_ne, (((hfr_Mw5 it (Ne.symm (show ne ≠ it from hD 10 11 (by decide) (by decide))))).trans (hfr_Mw3 it (Ne.symm (show ne ≠ it from hD 10 11 (by decide) (by decide))))).trans hK2.2.2.1, (((hfr_Mw5 po (Ne.symm (show ne ≠ po from hD 10 12 (by decide) (by decide))))).trans (hfr_Mw3 po (Ne.symm (show ne ≠ po from hD 10 12 (by decide) (by decide))))).trans hK2.2.2.2.1, (((hfr_Mw5 ma (Ne.symm (show ne ≠ ma from hD 10 13 (by decide) (by decide))))).trans (hfr_Mw3 ma (Ne.symm (show ne ≠ ma from hD 10 13 (by decide) (by decide))))).trans hK2.2.2.2.2.1, (((hfr_Mw5 ab (Ne.symm (show ne ≠ ab from hD 10 14 (by decide) (by decide))))).trans (hfr_Mw3 ab (Ne.symm (show ne ≠ ab from hD 10 14 (by decide) (by decide))))).trans hK2.2.2.2.2.2.1, (((hfr_Mw5 be (Ne.symm (show ne ≠ be from hD 10 15 (by decide) (by decide))))).trans (hfr_Mw3 be (Ne.symm (show ne ≠ be from hD 10 15 (by decide) (by decide))))).trans hK2.2.2.2.2.2.2⟩ (fun x9 z0 z1 z2 z3 z4 z5 z6 => (((hfr_Mw5 x9 z1)).trans (hfr_Mw3 x9 z1)).trans (hf2 x9 z0 z1 z2 z3 z4 z5 z6)) (fun j9 hj9 => by rw [pk_un (by omega), pk_un (by omega)]; exact hout j9 hj9) ?_ hl
                refine nd_step hM hp (by omega) hq hh hwk c_55 ?_ ?_ ⟨a, b, ?_, hak, hbk, ?_, ?_⟩ ?_
                · unfold nc_ok; rw [hKK]; dsimp only; exact ⟨by by_cases z9 : a = b; rw [z9]; exact pk_us; rw [pk_un (by omega)]; exact pk_us, pk_us⟩
                · intro t ht; by_cases z9 : t = b; exact Or.inr ⟨by rw [z9]; exact pk_us, by omega⟩; by_cases z8 : t = a; exact Or.inr ⟨by rw [pk_un (by omega), z8]; exact pk_us, by omega⟩; exact Or.inl (by rw [pk_un (by omega), pk_un (by omega)])
                · intro t ht z8 z9; rw [pk_un (by omega), pk_un (by omega)]
                · rw [hmz a q1 u1, hmz b q2 u2, hmz k q hq, u6, List.length_append]; by_cases z9 : a = b; exact Or.inr ⟨z9, by omega⟩; exact Or.inl ⟨z9, by omega⟩
                · intro t qt h8 h9; rcases h8 with rfl | rfl; rw [Option.some.inj (h9.symm.trans u1)]; omega; rw [Option.some.inj (h9.symm.trans u2)]; omega
                · intro t ht h9; by_cases z9 : t = b; rw [z9]; exact pk_us; by_cases z8 : t = a; rw [pk_un (by omega), z8]; exact pk_us; rw [pk_un (by omega), pk_un (by omega)]; exact h9
            · skip
              rw [hKK] at ck hnk
              obtain ⟨k0, k1, k2⟩ := ck
              obtain ⟨q1, u1, u3, u5, u6, u7⟩ := hnk
              have ra := (hM.2.2 a q1 u1).2.1
              have hak : a < k := by omega
              refine lv_aload_n hx hb d_Md_mark_61 rfl (lv_at hl 1 rfl) ?_
              refine hw_get (own := "QuantifierOutModel") (v := .ref ne) hx hb hts i_Md hown hW w2_md rfl 11 (by decide) (hts _ tw_614) (fun _ h9 => h9) rfl d_Md_mark_62 ?_
              refine lv_iload_n hx hb d_Md_mark_65 rfl (lv_at hl 3 rfl) ?_
              refine lv_aload_n hx hb d_Md_mark_66 rfl (lv_at hl 1 rfl) ?_
              refine hw_get (own := "QuantifierOutModel") (v := .ref on) hx hb hts i_Md hown hW w2_md rfl 3 (by decide) (hts _ tw_606) (fun _ h9 => h9) rfl d_Md_mark_67 ?_
              refine lv_iload_n hx hb d_Md_mark_70 rfl (lv_at hl 0 rfl) ?_
              refine hw_ild hx hb hW 0 t2_on rfl k rfl (by omega) (by decide) d_Md_mark_71 ?_
              rw [k1]
              refine lv_iadd hx hb d_Md_mark_72 ?_
              refine lv_topi (fun x6 ex6 => ?_)
              refine lv_iconst (v := 1) hx hb d_Md_mark_73 (by decide) ?_
              have ecx6 : x6 = nI (o + a) := by rw [ex6]; exact nI_add o a
              refine hw_zst hx hb hW hS 2 w2_ne rfl (o + a) ecx6 (by omega) (by decide) rfl d_Md_mark_74 (fun H locs hW hS => ?_)
              have hW : hw_W D qcl (qty cI cJ cZ cN) _ (va_up M2 ne (some (.inl (cZ, 240, .inl (upd NE2 (o + a) 1))))) s H := hW
              generalize hMw7 : va_up M2 ne (some (.inl (cZ, 240, .inl (upd NE2 (o + a) 1)))) = Mw7 at hW
              have w2_md : Mw7 md = some (.inr (8, [.int cd, .int (nI n), .ref kd, .ref on, .ref tw, .ref nu, .ref le, .ref fx, .ref fy, .ref si, .ref de, .ref ne, .ref it, .ref po, .ref ma, .ref ab, .ref be, .long up, .long dn, .ref li, .int pz, .ref fr, .ref to])) := by rw [← hMw7, va_up_ne _ _ (show md ≠ ne from hD 0 10 (by decide) (by decide))]; exact w2_md
              have t2_kd : Mw7 kd = some (.inl (cI, 60, .inl (st 0))) := by rw [← hMw7, va_up_ne _ _ (show kd ≠ ne from hD 1 10 (by decide) (by decide))]; exact t2_kd
              have t2_on : Mw7 on = some (.inl (cI, 60, .inl (st 1))) := by rw [← hMw7, va_up_ne _ _ (show on ≠ ne from hD 2 10 (by decide) (by decide))]; exact t2_on
              have t2_tw : Mw7 tw = some (.inl (cI, 60, .inl (st 2))) := by rw [← hMw7, va_up_ne _ _ (show tw ≠ ne from hD 3 10 (by decide) (by decide))]; exact t2_tw
              have w2_ne : Mw7 ne = some (.inl (cZ, 240, .inl (upd NE2 (o + a) 1))) := by rw [← hMw7]; exact va_up_self _ _ _
              have hfr_Mw7 : ∀ x9, x9 ≠ ne → Mw7 x9 = M2 x9 := fun x9 z9 => by rw [← hMw7, va_up_ne _ _ z9]
              refine lv_aload_n hx hb d_Md_mark_75 rfl (lv_at hl 1 rfl) ?_
              refine hw_get (own := "QuantifierOutModel") (v := .ref tw) hx hb hts i_Md hown hW w2_md rfl 4 (by decide) (hts _ tw_607) (fun _ h9 => h9) rfl d_Md_mark_76 ?_
              refine lv_iload_n hx hb d_Md_mark_79 rfl (lv_at hl 0 rfl) ?_
              refine hw_ild hx hb hW 0 t2_tw rfl k rfl (by omega) (by decide) d_Md_mark_80 ?_
              rw [k2]
              refine lv_iconst (v := (-1)) hx hb d_Md_mark_81 (by decide) ?_
              refine lv_icmp_eq (tgt := 99) hx hb d_Md_mark_82 (by decide) (fun c_82 => ?_) (fun c_82 => ?_)
              · skip
                refine again H locs Mw7 _ ls hW hS ⟨w2_md, w2_ne, ((hfr_Mw7 it (Ne.symm (show ne ≠ it from hD 10 11 (by decide) (by decide))))).trans hK2.2.2.1, ((hfr_Mw7 po (Ne.symm (show ne ≠ po from hD 10 12 (by decide) (by decide))))).trans hK2.2.2.2.1, ((hfr_Mw7 ma (Ne.symm (show ne ≠ ma from hD 10 13 (by decide) (by decide))))).trans hK2.2.2.2.2.1, ((hfr_Mw7 ab (Ne.symm (show ne ≠ ab from hD 10 14 (by decide) (by decide))))).trans hK2.2.2.2.2.2.1, ((hfr_Mw7 be (Ne.symm (show ne ≠ be from hD 10 15 (by decide) (by decide))))).trans hK2.2.2.2.2.2.2⟩ (fun x9 z0 z1 z2 z3 z4 z5 z6 => ((hfr_Mw7 x9 z1)).trans (hf2 x9 z0 z1 z2 z3 z4 z5 z6)) (fun j9 hj9 => by rw [pk_un (by omega)]; exact hout j9 hj9) ?_ hl
                refine nd_step hM hp (by omega) hq hh hwk c_55 ?_ ?_ ⟨a, a, ?_, hak, hak, ?_, ?_⟩ ?_
                · unfold nc_ok; rw [hKK]; dsimp only; exact pk_us
                · intro t ht; by_cases z8 : t = a; exact Or.inr ⟨by rw [z8]; exact pk_us, by omega⟩; exact Or.inl (by rw [pk_un (by omega)])
                · intro t ht z8 z9; rw [pk_un (by omega)]
                · rw [hmz a q1 u1, hmz k q hq, u6]; exact Or.inr ⟨rfl, Nat.le_refl _⟩
                · intro t qt h8 h9; have h8 : t = a := h8.elim id id; subst h8; rw [Option.some.inj (h9.symm.trans u1)]; omega
                · intro t ht h9; by_cases z8 : t = a; rw [z8]; exact pk_us; rw [pk_un (by omega)]; exact h9
              · skip
                exact absurd rfl c_82
            · skip
              rw [hKK] at ck hnk
              obtain ⟨k0, k1, k2, k3⟩ := ck
              obtain ⟨q1, u0, u1, u3, u5, u6, u7⟩ := hnk
              have ra := (hM.2.2 a q1 u1).2.1
              have hak : a < k := by omega
              refine lv_aload_n hx hb d_Md_mark_61 rfl (lv_at hl 1 rfl) ?_
              refine hw_get (own := "QuantifierOutModel") (v := .ref ne) hx hb hts i_Md hown hW w2_md rfl 11 (by decide) (hts _ tw_614) (fun _ h9 => h9) rfl d_Md_mark_62 ?_
              refine lv_iload_n hx hb d_Md_mark_65 rfl (lv_at hl 3 rfl) ?_
              refine lv_aload_n hx hb d_Md_mark_66 rfl (lv_at hl 1 rfl) ?_
              refine hw_get (own := "QuantifierOutModel") (v := .ref on) hx hb hts i_Md hown hW w2_md rfl 3 (by decide) (hts _ tw_606) (fun _ h9 => h9) rfl d_Md_mark_67 ?_
              refine lv_iload_n hx hb d_Md_mark_70 rfl (lv_at hl 0 rfl) ?_
              refine hw_ild hx hb hW 0 t2_on rfl k rfl (by omega) (by decide) d_Md_mark_71 ?_
              rw [k1]
              refine lv_iadd hx hb d_Md_mark_72 ?_
              refine lv_topi (fun x8 ex8 => ?_)
              refine lv_iconst (v := 1) hx hb d_Md_mark_73 (by decide) ?_
              have ecx8 : x8 = nI (o + a) := by rw [ex8]; exact nI_add o a
              refine hw_zst hx hb hW hS 2 w2_ne rfl (o + a) ecx8 (by omega) (by decide) rfl d_Md_mark_74 (fun H locs hW hS => ?_)
              have hW : hw_W D qcl (qty cI cJ cZ cN) _ (va_up M2 ne (some (.inl (cZ, 240, .inl (upd NE2 (o + a) 1))))) s H := hW
              generalize hMw9 : va_up M2 ne (some (.inl (cZ, 240, .inl (upd NE2 (o + a) 1)))) = Mw9 at hW
              have w2_md : Mw9 md = some (.inr (8, [.int cd, .int (nI n), .ref kd, .ref on, .ref tw, .ref nu, .ref le, .ref fx, .ref fy, .ref si, .ref de, .ref ne, .ref it, .ref po, .ref ma, .ref ab, .ref be, .long up, .long dn, .ref li, .int pz, .ref fr, .ref to])) := by rw [← hMw9, va_up_ne _ _ (show md ≠ ne from hD 0 10 (by decide) (by decide))]; exact w2_md
              have t2_kd : Mw9 kd = some (.inl (cI, 60, .inl (st 0))) := by rw [← hMw9, va_up_ne _ _ (show kd ≠ ne from hD 1 10 (by decide) (by decide))]; exact t2_kd
              have t2_on : Mw9 on = some (.inl (cI, 60, .inl (st 1))) := by rw [← hMw9, va_up_ne _ _ (show on ≠ ne from hD 2 10 (by decide) (by decide))]; exact t2_on
              have t2_tw : Mw9 tw = some (.inl (cI, 60, .inl (st 2))) := by rw [← hMw9, va_up_ne _ _ (show tw ≠ ne from hD 3 10 (by decide) (by decide))]; exact t2_tw
              have w2_ne : Mw9 ne = some (.inl (cZ, 240, .inl (upd NE2 (o + a) 1))) := by rw [← hMw9]; exact va_up_self _ _ _
              have hfr_Mw9 : ∀ x9, x9 ≠ ne → Mw9 x9 = M2 x9 := fun x9 z9 => by rw [← hMw9, va_up_ne _ _ z9]
              refine lv_aload_n hx hb d_Md_mark_75 rfl (lv_at hl 1 rfl) ?_
              refine hw_get (own := "QuantifierOutModel") (v := .ref tw) hx hb hts i_Md hown hW w2_md rfl 4 (by decide) (hts _ tw_607) (fun _ h9 => h9) rfl d_Md_mark_76 ?_
              refine lv_iload_n hx hb d_Md_mark_79 rfl (lv_at hl 0 rfl) ?_
              refine hw_ild hx hb hW 0 t2_tw rfl k rfl (by omega) (by decide) d_Md_mark_80 ?_
              rw [k2]
              refine lv_iconst (v := (-1)) hx hb d_Md_mark_81 (by decide) ?_
              refine lv_icmp_eq (tgt := 99) hx hb d_Md_mark_82 (by decide) (fun c_82 => ?_) (fun c_82 => ?_)
              · skip
                refine again H locs Mw9 _ ls hW hS ⟨w2_md, w2_ne, ((hfr_Mw9 it (Ne.symm (show ne ≠ it from hD 10 11 (by decide) (by decide))))).trans hK2.2.2.1, ((hfr_Mw9 po (Ne.symm (show ne ≠ po from hD 10 12 (by decide) (by decide))))).trans hK2.2.2.2.1, ((hfr_Mw9 ma (Ne.symm (show ne ≠ ma from hD 10 13 (by decide) (by decide))))).trans hK2.2.2.2.2.1, ((hfr_Mw9 ab (Ne.symm (show ne ≠ ab from hD 10 14 (by decide) (by decide))))).trans hK2.2.2.2.2.2.1, ((hfr_Mw9 be (Ne.symm (show ne ≠ be from hD 10 15 (by decide) (by decide))))).trans hK2.2.2.2.2.2.2⟩ (fun x9 z0 z1 z2 z3 z4 z5 z6 => ((hfr_Mw9 x9 z1)).trans (hf2 x9 z0 z1 z2 z3 z4 z5 z6)) (fun j9 hj9 => by rw [pk_un (by omega)]; exact hout j9 hj9) ?_ hl
                refine nd_step hM hp (by omega) hq hh hwk c_55 ?_ ?_ ⟨a, a, ?_, hak, hak, ?_, ?_⟩ ?_
                · unfold nc_ok; rw [hKK]; dsimp only; exact pk_us
                · intro t ht; by_cases z8 : t = a; exact Or.inr ⟨by rw [z8]; exact pk_us, by omega⟩; exact Or.inl (by rw [pk_un (by omega)])
                · intro t ht z8 z9; rw [pk_un (by omega)]
                · rw [hmz a q1 u1, hmz k q hq, u6]; exact Or.inr ⟨rfl, Nat.le_refl _⟩
                · intro t qt h8 h9; have h8 : t = a := h8.elim id id; subst h8; rw [Option.some.inj (h9.symm.trans u1)]; omega
                · intro t ht h9; by_cases z8 : t = a; rw [z8]; exact pk_us; rw [pk_un (by omega)]; exact h9
              · skip
                exact absurd rfl c_82
          · skip
            refine lv_goto (tgt := 99) hx hb d_Md_mark_58 (by decide) ?_
            exact again H locs M2 NE2 ls hW hS hK2 hf2 hout (nd_skip hM (by omega) hh (Or.inr c_55)) hl
  have clear : ∀ (z s9 : Nat), s9 + z = 60 → ∀ (H : Heap) (locs : List Loc) (M2 : Nat → Option va_E) (NE2 : Nat → Int32) (ls : Array Slot), hw_W D qcl (qty cI cJ cZ cN) (hw_A M s.heap.size) M2 s H → va_S (hw_A M s.heap.size) s.heap H locs → md_W cI cJ cZ md kd on tw nu le fx fy si de ne it po ma ab be li fr to M2 cd n up dn pz NE2 IT PO MA AB BE → (∀ x9, x9 ≠ md → x9 ≠ ne → x9 ≠ it → x9 ≠ po → x9 ≠ ma → x9 ≠ ab → x9 ≠ be → M2 x9 = M x9) → (∀ j, (j < o ∨ o + 60 ≤ j) → NE2 j = NE j) → (∀ t, t < s9 → NE2 (o + t) = if t = p0 then 1 else 0) → lv_has ls 4 [(3, .int (nI s9)), (0, .ref md), (1, .int (nI p0)), (2, .int (nI o))] → W p l e ({ frames := 0, cells := 0, slots := 0, locals := 0 }) s m [.ref md, .int (nI p0), .int (nI o)].toArray below meth c H locs 0 0 Q9 (F0 m 2 ls []) := by
    intro z
    induction z with
    | zero =>
      intro s9 hz H locs M2 NE2 ls hW hS hK2 hf2 hout hd9 hl
      have hs9 : s9 = 60 := by omega
      subst hs9
      refine lv_iload_n hx hb d_Md_mark_2 rfl (lv_at hl 0 rfl) ?_
      refine lv_bipush (v := 60) hx hb d_Md_mark_3 (by decide) ?_
      refine lv_icmp_ge (tgt := 32) hx hb d_Md_mark_5 (by decide) (fun c_5 => ?_) (fun c_5 => ?_)
      · skip
        refine lv_iload_n hx hb d_Md_mark_32 rfl (lv_at hl 2 rfl) ?_
        refine lv_istore_n (lv' := [(3, .int (nI p0)), (0, .ref md), (1, .int (nI p0)), (2, .int (nI o))]) hx hb d_Md_mark_33 rfl hl (by decide) rfl (fun ls hl => ?_)
        have hl9 : lv_has ls 4 [(3, .int (nI (p0 + 1) - 1)), (0, .ref md), (1, .int (nI p0)), (2, .int (nI o))] := by rw [nI_pred]; exact lv_sub hl [0, 1, 2, 3] rfl
        exact sweep (p0 + 1) (Nat.le_refl _) H locs M2 NE2 ls hW hS hK2 hf2 hout (nd_first hM hp (fun t ht => hd9 t ht)) hl9
      · skip
        exact absurd (nI_le (Nat.le_refl 60) (by omega)) c_5
    | succ z ihz =>
      intro s9 hz H locs M2 NE2 ls hW hS hK2 hf2 hout hd9 hl
      refine lv_iload_n hx hb d_Md_mark_2 rfl (lv_at hl 0 rfl) ?_
      refine lv_bipush (v := 60) hx hb d_Md_mark_3 (by decide) ?_
      refine lv_icmp_ge (tgt := 32) hx hb d_Md_mark_5 (by decide) (fun c_5 => ?_) (fun c_5 => ?_)
      · skip
        exact absurd c_5 (nI_ge (b := 60) (by omega) (by omega))
      · skip
        have w2_md := hK2.1
        have w2_md : M2 md = some (.inr (8, [.int cd, .int (nI n), .ref kd, .ref on, .ref tw, .ref nu, .ref le, .ref fx, .ref fy, .ref si, .ref de, .ref ne, .ref it, .ref po, .ref ma, .ref ab, .ref be, .long up, .long dn, .ref li, .int pz, .ref fr, .ref to])) := w2_md
        have w2_ne := hK2.2.1
        have w2_ne : M2 ne = some (.inl (cZ, 240, .inl NE2)) := w2_ne
        refine lv_aload_n hx hb d_Md_mark_8 rfl (lv_at hl 1 rfl) ?_
        refine hw_get (own := "QuantifierOutModel") (v := .ref ne) hx hb hts i_Md hown hW w2_md rfl 11 (by decide) (hts _ tw_614) (fun _ h9 => h9) rfl d_Md_mark_9 ?_
        refine lv_iload_n hx hb d_Md_mark_12 rfl (lv_at hl 3 rfl) ?_
        refine lv_iload_n hx hb d_Md_mark_13 rfl (lv_at hl 0 rfl) ?_
        refine lv_iadd hx hb d_Md_mark_14 ?_
        refine lv_topi (fun x10 ex10 => ?_)
        refine lv_iload_n hx hb d_Md_mark_15 rfl (lv_at hl 0 rfl) ?_
        refine lv_iload_n hx hb d_Md_mark_16 rfl (lv_at hl 2 rfl) ?_
        refine lv_icmp_ne (tgt := 24) hx hb d_Md_mark_17 (by decide) (fun c_17 => ?_) (fun c_17 => ?_)
        · skip
          refine lv_iconst (v := 0) hx hb d_Md_mark_24 (by decide) ?_
          have eix10 : x10 = nI (o + s9) := by rw [ex10]; exact nI_add o s9
          refine hw_zst hx hb hW hS 2 w2_ne rfl (o + s9) eix10 (by omega) (by decide) rfl d_Md_mark_25 (fun H locs hW hS => ?_)
          have hW : hw_W D qcl (qty cI cJ cZ cN) _ (va_up M2 ne (some (.inl (cZ, 240, .inl (upd NE2 (o + s9) 0))))) s H := hW
          generalize hMw11 : va_up M2 ne (some (.inl (cZ, 240, .inl (upd NE2 (o + s9) 0)))) = Mw11 at hW
          have w2_md : Mw11 md = some (.inr (8, [.int cd, .int (nI n), .ref kd, .ref on, .ref tw, .ref nu, .ref le, .ref fx, .ref fy, .ref si, .ref de, .ref ne, .ref it, .ref po, .ref ma, .ref ab, .ref be, .long up, .long dn, .ref li, .int pz, .ref fr, .ref to])) := by rw [← hMw11, va_up_ne _ _ (show md ≠ ne from hD 0 10 (by decide) (by decide))]; exact w2_md
          have w2_ne : Mw11 ne = some (.inl (cZ, 240, .inl (upd NE2 (o + s9) 0))) := by rw [← hMw11]; exact va_up_self _ _ _
          have hfr_Mw11 : ∀ x9, x9 ≠ ne → Mw11 x9 = M2 x9 := fun x9 z9 => by rw [← hMw11, va_up_ne _ _ z9]
          obtain ⟨k9, ek9⟩ : ∃ y9 : Int32, y9 = (nI s9) + Int32.ofInt (1) := ⟨_, rfl⟩
          refine lv_iinc (v := k9) (lv' := [(3, .int k9), (0, .ref md), (1, .int (nI p0)), (2, .int (nI o))]) hx hb d_Md_mark_26 hl (k := 0) rfl ek9.symm (by decide) rfl (fun ls hl => ?_)
          have ek9b : k9 = nI (s9 + 1) := by rw [ek9]; exact nI_add s9 1
          subst ek9b
          refine lv_goto (tgt := 2) hx hb d_Md_mark_29 (by decide) ?_
          refine ihz (s9 + 1) (by omega) H locs Mw11 _ ls hW hS ⟨w2_md, w2_ne, ((hfr_Mw11 it (Ne.symm (show ne ≠ it from hD 10 11 (by decide) (by decide))))).trans hK2.2.2.1, ((hfr_Mw11 po (Ne.symm (show ne ≠ po from hD 10 12 (by decide) (by decide))))).trans hK2.2.2.2.1, ((hfr_Mw11 ma (Ne.symm (show ne ≠ ma from hD 10 13 (by decide) (by decide))))).trans hK2.2.2.2.2.1, ((hfr_Mw11 ab (Ne.symm (show ne ≠ ab from hD 10 14 (by decide) (by decide))))).trans hK2.2.2.2.2.2.1, ((hfr_Mw11 be (Ne.symm (show ne ≠ be from hD 10 15 (by decide) (by decide))))).trans hK2.2.2.2.2.2.2⟩ (fun x9 z0 z1 z2 z3 z4 z5 z6 => ((hfr_Mw11 x9 z1)).trans (hf2 x9 z0 z1 z2 z3 z4 z5 z6)) (fun j9 hj9 => by rw [pk_un (by omega)]; exact hout j9 hj9) (fun t ht => ?_) (lv_sub hl [0, 1, 2, 3] rfl)
          by_cases z9 : t = s9
          · rw [z9, pk_us, if_neg (fun z8 => c_17 (by rw [z8]))]
          · rw [pk_un (by omega)]; exact hd9 t (by omega)
        · skip
          refine lv_iconst (v := 1) hx hb d_Md_mark_20 (by decide) ?_
          refine lv_goto (tgt := 25) hx hb d_Md_mark_21 (by decide) ?_
          have eix10 : x10 = nI (o + s9) := by rw [ex10]; exact nI_add o s9
          refine hw_zst hx hb hW hS 2 w2_ne rfl (o + s9) eix10 (by omega) (by decide) rfl d_Md_mark_25 (fun H locs hW hS => ?_)
          have hW : hw_W D qcl (qty cI cJ cZ cN) _ (va_up M2 ne (some (.inl (cZ, 240, .inl (upd NE2 (o + s9) 1))))) s H := hW
          generalize hMw12 : va_up M2 ne (some (.inl (cZ, 240, .inl (upd NE2 (o + s9) 1)))) = Mw12 at hW
          have w2_md : Mw12 md = some (.inr (8, [.int cd, .int (nI n), .ref kd, .ref on, .ref tw, .ref nu, .ref le, .ref fx, .ref fy, .ref si, .ref de, .ref ne, .ref it, .ref po, .ref ma, .ref ab, .ref be, .long up, .long dn, .ref li, .int pz, .ref fr, .ref to])) := by rw [← hMw12, va_up_ne _ _ (show md ≠ ne from hD 0 10 (by decide) (by decide))]; exact w2_md
          have w2_ne : Mw12 ne = some (.inl (cZ, 240, .inl (upd NE2 (o + s9) 1))) := by rw [← hMw12]; exact va_up_self _ _ _
          have hfr_Mw12 : ∀ x9, x9 ≠ ne → Mw12 x9 = M2 x9 := fun x9 z9 => by rw [← hMw12, va_up_ne _ _ z9]
          obtain ⟨k9, ek9⟩ : ∃ y9 : Int32, y9 = (nI s9) + Int32.ofInt (1) := ⟨_, rfl⟩
          refine lv_iinc (v := k9) (lv' := [(3, .int k9), (0, .ref md), (1, .int (nI p0)), (2, .int (nI o))]) hx hb d_Md_mark_26 hl (k := 0) rfl ek9.symm (by decide) rfl (fun ls hl => ?_)
          have ek9b : k9 = nI (s9 + 1) := by rw [ek9]; exact nI_add s9 1
          subst ek9b
          refine lv_goto (tgt := 2) hx hb d_Md_mark_29 (by decide) ?_
          refine ihz (s9 + 1) (by omega) H locs Mw12 _ ls hW hS ⟨w2_md, w2_ne, ((hfr_Mw12 it (Ne.symm (show ne ≠ it from hD 10 11 (by decide) (by decide))))).trans hK2.2.2.1, ((hfr_Mw12 po (Ne.symm (show ne ≠ po from hD 10 12 (by decide) (by decide))))).trans hK2.2.2.2.1, ((hfr_Mw12 ma (Ne.symm (show ne ≠ ma from hD 10 13 (by decide) (by decide))))).trans hK2.2.2.2.2.1, ((hfr_Mw12 ab (Ne.symm (show ne ≠ ab from hD 10 14 (by decide) (by decide))))).trans hK2.2.2.2.2.2.1, ((hfr_Mw12 be (Ne.symm (show ne ≠ be from hD 10 15 (by decide) (by decide))))).trans hK2.2.2.2.2.2.2⟩ (fun x9 z0 z1 z2 z3 z4 z5 z6 => ((hfr_Mw12 x9 z1)).trans (hf2 x9 z0 z1 z2 z3 z4 z5 z6)) (fun j9 hj9 => by rw [pk_un (by omega)]; exact hout j9 hj9) (fun t ht => ?_) (lv_sub hl [0, 1, 2, 3] rfl)
          by_cases z9 : t = s9
          · rw [z9, pk_us, if_pos ((nI_eq (by omega) (by omega)).mp c_17)]
          · rw [pk_un (by omega)]; exact hd9 t (by omega)
  refine lv_iconst (v := 0) hx hb d_Md_mark_0 (by decide) ?_
  refine lv_istore_n (lv' := [(3, .int 0), (0, .ref md), (1, .int (nI p0)), (2, .int (nI o))]) hx hb d_Md_mark_1 rfl hl (by decide) rfl (fun ls hl => ?_)
  exact clear 60 0 rfl _ _ M NE ls hW hS hK (fun _ _ _ _ _ _ _ _ => rfl) (fun _ _ => rfl) (fun t ht => absurd ht (Nat.not_lt_zero t)) (lv_sub hl [0, 1, 2, 3] rfl)
end G38

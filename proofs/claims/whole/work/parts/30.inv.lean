/-! The invariant of a QuantifierOut object; Z: cells of others -/
abbrev qo_L (h0 na v va vb om oa ob im ia ib ro mk ka kb fa la : Nat) : List Nat := [h0, na, v, va, vb, om, oa, ob, im, ia, ib, ro, mk, ka, kb, fa, la]
def qo_I (cI cJ cN : ClassId) (h0 na v va vb om oa ob im ia ib ro mk ka kb fa la : Nat) (Z : Nat → Prop) (M : Nat → Option va_E) (tb : Nat → Option nq) (n : Nat) (ad : Nat → Nat) (qs : Nat → nq) : Prop :=
  qo_C cN M h0 na v ro n ad ∧ (∀ i, i < n → tb (ad i) = some (qs i)) ∧ tb_ok cI M tb ∧ (∃ fv gv, ev_S cJ M v va vb om oa ob im ia ib fv gv) ∧ ev_D va vb om oa ob im ia ib ∧ (∃ ow, pc_ok cI cJ M tb ro mk ka kb fa la ow) ∧ pc_D va vb om oa ob im ia ib mk ka kb fa la ∧
  (∀ a2 q2 la2 gr ex ci, tb a2 = some q2 → nd_c M a2 ci (nd_fr (nx q2) (ny q2)) (nI (nd q2)) la2 gr ex → la2 ≠ fa ∧ la2 ≠ la ∧ ¬ Z la2) ∧ (∀ z, Z z → M z ≠ none) ∧ (∀ x ∈ qo_L h0 na v va vb om oa ob im ia ib ro mk ka kb fa la, ¬ Z x) ∧ ∀ a q, tb a = some q → ¬ Z a
theorem tb_ex {cI : ClassId} {M : Nat → Option va_E} {tb : Nat → Option nq} (hT : tb_ok cI M tb) {a : Nat} {q : nq} (h : tb a = some q) : M a ≠ none := by
  obtain ⟨⟨la, gr, F, h1, _⟩, _⟩ := hT a q h
  rw [h1.2]
  exact Option.some_ne_none _
/-- the lines' array of a node is the one its cell names -/
theorem nd_la {M : Nat → Option va_E} {a ci ci' la la' : Nat} {fr fr' dp dp' gr gr' : Int32} {ex ex' : List Value} (h : nd_c M a ci fr dp la gr ex) (h' : nd_c M a ci' fr' dp' la' gr' ex') : la = la' := by
  have e := Option.some.inj (h.2.symm.trans h'.2)
  simp only [Sum.inr.injEq, Prod.mk.injEq, List.cons.injEq, Value.ref.injEq] at e
  exact e.2.2.2.1
/-- what other cells do is nothing to the object -/
theorem qo_other {cI cJ cN : ClassId} {h0 na v va vb om oa ob im ia ib ro mk ka kb fa la : Nat} {Z : Nat → Prop} {M M1 : Nat → Option va_E} {tb : Nat → Option nq} {n : Nat} {ad : Nat → Nat} {qs : Nat → nq} (h : qo_I cI cJ cN h0 na v va vb om oa ob im ia ib ro mk ka kb fa la Z M tb n ad qs) (hM : ∀ x, ¬ Z x → M x ≠ none → M1 x = M x) (hZ : ∀ z, Z z → M1 z ≠ none) : qo_I cI cJ cN h0 na v va vb om oa ob im ia ib ro mk ka kb fa la Z M1 tb n ad qs := by
  obtain ⟨⟨c1, c2, c3⟩, i1, hT, ⟨fv, gv, ⟨v1, v2, v3⟩, ⟨n8, f8, g8, o1, o2, o3⟩, ⟨n9, f9, g9, j1, j2, j3⟩⟩, hD, ⟨ow, n0, f0, g0, m0, Ff, Fl, ⟨p1, ⟨k1, k2, k3⟩, p2, p3⟩, hR⟩, hD2, hla, hz, hL, hN⟩ := h
  have g : ∀ x e, x ∈ qo_L h0 na v va vb om oa ob im ia ib ro mk ka kb fa la → M x = some e → M1 x = some e := fun x e hx he => (hM x (hL x hx) (by rw [he]; exact Option.some_ne_none _)).trans he
  have hT1 : tb_ok cI M1 tb := by
    intro a q ha
    obtain ⟨⟨la2, gr, F, k1, k2, k3⟩, k4⟩ := hT a q ha
    have h1 := hla a q la2 gr _ _ ha k1
    exact ⟨⟨la2, gr, F, ⟨k1.1, (hM a (hN a q ha) (tb_ex hT ha)).trans k1.2⟩, (hM la2 h1.2.2 (by rw [k2]; exact Option.some_ne_none _)).trans k2, k3⟩, k4⟩
  refine ⟨⟨g _ _ (by simp) c1, g _ _ (by simp) c2, c3⟩, i1, hT1, ⟨fv, gv, ⟨g _ _ (by simp) v1, g _ _ (by simp) v2, g _ _ (by simp) v3⟩, ⟨n8, f8, g8, g _ _ (by simp) o1, g _ _ (by simp) o2, g _ _ (by simp) o3⟩, ⟨n9, f9, g9, g _ _ (by simp) j1, g _ _ (by simp) j2, g _ _ (by simp) j3⟩⟩, hD, ⟨ow, n0, f0, g0, m0, Ff, Fl, ⟨g _ _ (by simp) p1, ⟨g _ _ (by simp) k1, g _ _ (by simp) k2, g _ _ (by simp) k3⟩, g _ _ (by simp) p2, g _ _ (by simp) p3⟩, hR⟩, hD2, ?_, hZ, hL, hN⟩
  intro a2 q2 la2 gr ex ci ha hc
  obtain ⟨⟨la3, gr3, F3, k1, _⟩, _⟩ := hT a2 q2 ha
  have hc' : nd_c M a2 ci (nd_fr (nx q2) (ny q2)) (nI (nd q2)) la2 gr ex := ⟨hc.1, (hM a2 (hN a2 q2 ha) (tb_ex hT ha)).symm.trans hc.2⟩
  exact hla a2 q2 la2 gr ex ci ha hc'
theorem nk_ok_up {tb : Nat → Option nq} {b : Nat} {q0 q : nq} (hb : tb b = none) (h : nk_ok tb q) : nk_ok (va_up tb b (some q0)) q := by
  have g : ∀ a q1, tb a = some q1 → va_up tb b (some q0) a = some q1 := fun a q1 h1 => by
    rw [va_up_ne _ _ (fun e => by rw [e, hb] at h1; cases h1)]; exact h1
  unfold nk_ok at h ⊢
  split at h
  · exact h
  · obtain ⟨q1, q2, h1, h2, h3⟩ := h
    exact ⟨q1, q2, g _ _ h1, g _ _ h2, h3⟩
  · obtain ⟨q1, h1, h3⟩ := h
    exact ⟨q1, g _ _ h1, h3⟩
  · obtain ⟨q1, h0, h1, h3⟩ := h
    exact ⟨q1, h0, g _ _ h1, h3⟩
/-- a number more, for a node that is there -/
theorem qo_old {cI cJ cN : ClassId} {h0 na v va vb om oa ob im ia ib ro mk ka kb fa la : Nat} {Z : Nat → Prop} {M M1 : Nat → Option va_E} {tb : Nat → Option nq} {n : Nat} {ad : Nat → Nat} {qs : Nat → nq} {b : Nat} {q : nq} (h : qo_I cI cJ cN h0 na v va vb om oa ob im ia ib ro mk ka kb fa la Z M tb n ad qs) (hb : tb b = some q) (hC : qo_C cN M1 h0 na v ro (n + 1) (va_up ad n b)) (hf : ∀ x, x ≠ h0 → x ≠ na → M1 x = M x) : qo_I cI cJ cN h0 na v va vb om oa ob im ia ib ro mk ka kb fa la Z M1 tb (n + 1) (va_up ad n b) (va_up qs n q) ∧ ∀ z, Z z → M1 z = M z := by
  obtain ⟨⟨c1, c2, c3⟩, i1, hT, ⟨fv, gv, ⟨v1, v2, v3⟩, ⟨n8, f8, g8, o1, o2, o3⟩, ⟨n9, f9, g9, j1, j2, j3⟩⟩, hD, ⟨ow, n0, f0, g0, m0, Ff, Fl, ⟨p1, ⟨k1, k2, k3⟩, p2, p3⟩, hR⟩, hD2, hla, hz, hL, hN⟩ := h
  have hf2 : ∀ x e, M x = some e → (∀ z, e ≠ .inr (0, z)) → (∀ c k f, e ≠ .inl (c, k, .inr (.inr (.inr (.inr f))))) → M1 x = some e := fun x e he w1 w2 => by
    rw [hf x (fun z9 => by subst z9; exact w1 _ (Option.some.inj (he.symm.trans c1))) (fun z9 => by subst z9; exact w2 _ _ _ (Option.some.inj (he.symm.trans c2)))]; exact he
  have s1 : ∀ {ci : Nat} {f : List Value}, ci ≠ 0 → ∀ z, (Sum.inr (ci, f) : va_E) ≠ .inr (0, z) := fun h9 z e => by simp only [Sum.inr.injEq, Prod.mk.injEq] at e; exact h9 e.1
  have hnode : ∀ a2 q2, tb a2 = some q2 → M1 a2 = M a2 := fun a2 q2 ha => by
    obtain ⟨⟨la2, gr, F, k1, _⟩, _⟩ := hT a2 q2 ha
    rw [hf2 a2 _ k1.2 (s1 (by have := k1.1; omega)) (fun _ _ _ e => by cases e), k1.2]
  have hZh : ∀ z, Z z → M1 z = M z := fun z h9 => hf z (fun e => hL h0 (by simp) (e ▸ h9)) (fun e => hL na (by simp) (e ▸ h9))
  have hT1 : tb_ok cI M1 tb := by
    intro a q2 ha
    obtain ⟨⟨la2, gr, F, k1, k2, k3⟩, k4⟩ := hT a q2 ha
    exact ⟨⟨la2, gr, F, ⟨k1.1, (hnode a q2 ha).trans k1.2⟩, hf2 la2 _ k2 (fun _ e => by cases e) (fun _ _ _ e => by simp at e), k3⟩, k4⟩
  refine ⟨⟨hC, fun i hi => ?_, hT1, ⟨fv, gv, ⟨hf2 _ _ v1 (s1 (by omega)) (fun _ _ _ e => by cases e), hf2 _ _ v2 (fun _ e => by cases e) (fun _ _ _ e => by simp at e), hf2 _ _ v3 (fun _ e => by cases e) (fun _ _ _ e => by simp at e)⟩, ⟨n8, f8, g8, hf2 _ _ o1 (s1 (by omega)) (fun _ _ _ e => by cases e), hf2 _ _ o2 (fun _ e => by cases e) (fun _ _ _ e => by simp at e), hf2 _ _ o3 (fun _ e => by cases e) (fun _ _ _ e => by simp at e)⟩, ⟨n9, f9, g9, hf2 _ _ j1 (s1 (by omega)) (fun _ _ _ e => by cases e), hf2 _ _ j2 (fun _ e => by cases e) (fun _ _ _ e => by simp at e), hf2 _ _ j3 (fun _ e => by cases e) (fun _ _ _ e => by simp at e)⟩⟩, hD, ⟨ow, n0, f0, g0, m0, Ff, Fl, ⟨hf2 _ _ p1 (s1 (by omega)) (fun _ _ _ e => by cases e), ⟨hf2 _ _ k1 (s1 (by omega)) (fun _ _ _ e => by cases e), hf2 _ _ k2 (fun _ e => by cases e) (fun _ _ _ e => by simp at e), hf2 _ _ k3 (fun _ e => by cases e) (fun _ _ _ e => by simp at e)⟩, hf2 _ _ p2 (fun _ e => by cases e) (fun _ _ _ e => by simp at e), hf2 _ _ p3 (fun _ e => by cases e) (fun _ _ _ e => by simp at e)⟩, hR⟩, hD2, ?_, fun z h9 => by rw [hZh z h9]; exact hz z h9, hL, hN⟩, hZh⟩
  · by_cases e : i = n
    · rw [e, va_up_self, va_up_self]; exact hb
    · rw [va_up_ne _ _ e, va_up_ne _ _ e]; exact i1 i (by omega)
  · intro a2 q2 la2 gr ex ci ha hc
    exact hla a2 q2 la2 gr ex ci ha ⟨hc.1, (hnode a2 q2 ha).symm.trans hc.2⟩
/-- new cells lie beside; then a node among them is in the table -/
theorem qo_grow {cI cJ cN : ClassId} {h0 na v va vb om oa ob im ia ib ro mk ka kb fa la : Nat} {Z : Nat → Prop} {M M1 : Nat → Option va_E} {tb : Nat → Option nq} {n : Nat} {ad : Nat → Nat} {qs : Nat → nq} {b : Nat} {q : nq} (h : qo_I cI cJ cN h0 na v va vb om oa ob im ia ib ro mk ka kb fa la Z M tb n ad qs) (hb : M b = none) (hM : ∀ x, M x ≠ none → M1 x = M x) (hq : nq_cell cI M1 b q) (hok : nq_ok (va_up tb b (some q)) q) (hlb : ∀ la2 gr ex ci, nd_c M1 b ci (nd_fr (nx q) (ny q)) (nI (nd q)) la2 gr ex → la2 ≠ fa ∧ la2 ≠ la ∧ ¬ Z la2) : qo_I cI cJ cN h0 na v va vb om oa ob im ia ib ro mk ka kb fa la Z M1 (va_up tb b (some q)) n ad qs := by
  have h2 := qo_other h (fun x _ hx => hM x hx) (fun z hz9 => by obtain ⟨-, -, -, -, -, -, -, -, hz, -⟩ := h; rw [hM z (hz z hz9)]; exact hz z hz9)
  obtain ⟨hC, i1, hT, hE, hD, ⟨ow, n0, f0, g0, m0, Ff, Fl, hP, hR⟩, hD2, hla, hz, hL, hN⟩ := h2
  have htb : tb b = none := by
    cases e : tb b with
    | none => rfl
    | some q9 =>
      obtain ⟨-, -, hT0, -⟩ := h
      exact absurd hb (tb_ex hT0 e)
  have g : ∀ a q1, tb a = some q1 → va_up tb b (some q) a = some q1 := fun a q1 h1 => by
    rw [va_up_ne _ _ (fun e => by rw [e, htb] at h1; cases h1)]; exact h1
  have g2 : ∀ a q1, va_up tb b (some q) a = some q1 → (a = b ∧ q1 = q) ∨ tb a = some q1 := fun a q1 h1 => by
    by_cases e : a = b
    · rw [e, va_up_self] at h1; exact Or.inl ⟨e, (Option.some.inj h1).symm⟩
    · rw [va_up_ne _ _ e] at h1; exact Or.inr h1
  refine ⟨hC, fun i hi => g _ _ (i1 i hi), ?_, hE, hD, ⟨ow, n0, f0, g0, m0, Ff, Fl, hP, fun a ha => ?_⟩, hD2, ?_, hz, hL, ?_⟩
  · intro a q1 h1
    rcases g2 a q1 h1 with ⟨rfl, rfl⟩ | h3
    · exact ⟨hq, hok⟩
    · obtain ⟨k1, k2, k3⟩ := hT a q1 h3
      exact ⟨k1, nk_ok_up htb k2, k3⟩
  · obtain ⟨q1, a1, a2⟩ := hR a ha
    exact ⟨q1, g _ _ a1, a2⟩
  · intro a2 q2 la2 gr ex ci ha hc
    rcases g2 a2 q2 ha with ⟨rfl, rfl⟩ | h3
    · exact hlb la2 gr ex ci hc
    · exact hla a2 q2 la2 gr ex ci h3 hc
  · intro a q1 h1 hz9
    rcases g2 a q1 h1 with ⟨rfl, rfl⟩ | h3
    · obtain ⟨-, -, -, -, -, -, -, -, hz0, -⟩ := h
      exact hz0 a hz9 hb
    · exact hN a q1 h3 hz9
/-- what a look at the nodes leaves behind -/
theorem qo_look {cI cJ cN : ClassId} {h0 na v va vb om oa ob im ia ib ro mk ka kb fa la : Nat} {Z : Nat → Prop} {M M1 : Nat → Option va_E} {tb : Nat → Option nq} {n : Nat} {ad : Nat → Nat} {qs : Nat → nq} (h : qo_I cI cJ cN h0 na v va vb om oa ob im ia ib ro mk ka kb fa la Z M tb n ad qs) (hf : gd_fr va vb om oa ob im ia ib tb M M1) (hT1 : tb_ok cI M1 tb) (hE1 : ∃ fv gv, ev_S cJ M1 v va vb om oa ob im ia ib fv gv) : qo_I cI cJ cN h0 na v va vb om oa ob im ia ib ro mk ka kb fa la Z M1 tb n ad qs ∧ ∀ z, Z z → M1 z = M z := by
  obtain ⟨⟨c1, c2, c3⟩, i1, hT, ⟨fv, gv, ⟨v1, v2, v3⟩, ⟨n8, f8, g8, o1, o2, o3⟩, ⟨n9, f9, g9, j1, j2, j3⟩⟩, hD, ⟨ow, n0, f0, g0, m0, Ff, Fl, ⟨p1, ⟨k1, k2, k3⟩, p2, p3⟩, hR⟩, hD2, hla, hz, hL, hN⟩ := h
  obtain ⟨e1, e2, e3, e4, e5, e6, e7, e8, e9, e10, e11, e12, e13, e14, e15, e16⟩ := id hD2
  have hZh : ∀ z, Z z → M1 z = M z := fun z h9 => by
    have ne : ∀ y ∈ qo_L h0 na v va vb om oa ob im ia ib ro mk ka kb fa la, z ≠ y := fun y hy e => hL y hy (e ▸ h9)
    refine hf.1 z ?_ (ne _ (by simp)) (ne _ (by simp)) (ne _ (by simp)) (ne _ (by simp)) (ne _ (by simp)) (ne _ (by simp)) (ne _ (by simp)) (ne _ (by simp))
    cases e : tb z with
    | none => rfl
    | some q9 => exact absurd h9 (hN z q9 e)
  have nt : ∀ x e, M x = some e → (∀ ci f, (ci = 1 ∨ ci = 3 ∨ ci = 4 ∨ ci = 6) → e ≠ .inr (ci, f)) → tb x = none := fun x e he w => gd_tb_none hT (fun ci fs h9 => by
    have := Option.some.inj (he.symm.trans h9)
    have w2 : ¬ (ci = 1 ∨ ci = 3 ∨ ci = 4 ∨ ci = 6) := fun z => w ci fs z this
    omega)
  have wi : ∀ {ci : Nat} {f : List Value}, (ci ≠ 1 ∧ ci ≠ 3 ∧ ci ≠ 4 ∧ ci ≠ 6) → ∀ ci' f', (ci' = 1 ∨ ci' = 3 ∨ ci' = 4 ∨ ci' = 6) → (Sum.inr (ci, f) : va_E) ≠ .inr (ci', f') := fun h9 ci' f' w e => by simp only [Sum.inr.injEq, Prod.mk.injEq] at e; omega
  have fo : ∀ x e, M x = some e → (∀ ci f, (ci = 1 ∨ ci = 3 ∨ ci = 4 ∨ ci = 6) → e ≠ .inr (ci, f)) → (∀ c k f, e ≠ .inl (c, k, .inr (.inl f))) → (∀ f, e ≠ .inr (2, f)) → M1 x = some e := fun x e he w1 w2 w3 => by
    rw [hf.1 x (nt x e he w1) (fun z => by subst z; exact w2 _ _ _ (Option.some.inj (he.symm.trans v2))) (fun z => by subst z; exact w2 _ _ _ (Option.some.inj (he.symm.trans v3))) (fun z => by subst z; exact w3 _ (Option.some.inj (he.symm.trans o1))) (fun z => by subst z; exact w2 _ _ _ (Option.some.inj (he.symm.trans o2))) (fun z => by subst z; exact w2 _ _ _ (Option.some.inj (he.symm.trans o3))) (fun z => by subst z; exact w3 _ (Option.some.inj (he.symm.trans j1))) (fun z => by subst z; exact w2 _ _ _ (Option.some.inj (he.symm.trans j2))) (fun z => by subst z; exact w2 _ _ _ (Option.some.inj (he.symm.trans j3)))]; exact he
  have il : ∀ {c : ClassId} {k : Nat} {x} , ∀ (ci : Nat) (f : List Value), (ci = 1 ∨ ci = 3 ∨ ci = 4 ∨ ci = 6) → (Sum.inl (c, k, x) : va_E) ≠ .inr (ci, f) := fun ci f _ e => by cases e
  have mkk : M1 mk = some (.inr (2, [.ref ka, .ref kb, .int (nI n0)])) := by
    rw [hf.1 mk (nt _ _ k1 (wi (by omega))) (hw_ne k1 v2 (by simp)) (hw_ne k1 v3 (by simp)) (Ne.symm e14) (hw_ne k1 o2 (by simp)) (hw_ne k1 o3 (by simp)) (Ne.symm e15) (hw_ne k1 j2 (by simp)) (hw_ne k1 j3 (by simp))]; exact k1
  have kaa : M1 ka = some (.inl (cJ, 21, .inr (.inl f0))) := by
    rw [hf.1 ka (nt _ _ k2 il) (Ne.symm e2) (Ne.symm e4) (hw_ne k2 o1 (by simp)) (Ne.symm e6) (Ne.symm e8) (hw_ne k2 j1 (by simp)) (Ne.symm e10) (Ne.symm e12)]; exact k2
  have kbb : M1 kb = some (.inl (cJ, 21, .inr (.inl g0))) := by
    rw [hf.1 kb (nt _ _ k3 il) (Ne.symm e3) (Ne.symm e5) (hw_ne k3 o1 (by simp)) (Ne.symm e7) (Ne.symm e9) (hw_ne k3 j1 (by simp)) (Ne.symm e11) (Ne.symm e13)]; exact k3
  refine ⟨⟨⟨fo _ _ c1 (wi (by omega)) (fun _ _ _ e => by cases e) (fun _ e => by simp at e), fo _ _ c2 il (fun _ _ _ e => by simp at e) (fun _ e => by cases e), c3⟩, i1, hT1, hE1, hD, ⟨ow, n0, f0, g0, m0, Ff, Fl, ⟨fo _ _ p1 (wi (by omega)) (fun _ _ _ e => by cases e) (fun _ e => by simp at e), ⟨mkk, kaa, kbb⟩, fo _ _ p2 il (fun _ _ _ e => by simp at e) (fun _ e => by cases e), fo _ _ p3 il (fun _ _ _ e => by simp at e) (fun _ e => by cases e)⟩, hR⟩, hD2, ?_, fun z h9 => by rw [hZh z h9]; exact hz z h9, hL, hN⟩, hZh⟩
  intro a2 q2 la2 gr ex ci ha hc
  obtain ⟨⟨la3, gr3, F3, k1, _⟩, _⟩ := hT a2 q2 ha
  obtain ⟨g, hg⟩ := hf.2 a2 q2 _ _ ha k1.2
  have e : la2 = la3 := nd_la hc (show nd_c M1 a2 _ _ _ la3 g _ from ⟨k1.1, hg⟩)
  rw [e]
  exact hla a2 q2 la3 gr3 _ _ ha k1

/-! Pieces.find -/
/-- the set of a node with one free letter -/
def nS (q : nq) (u : Rat) : Prop := nP_j (if nx q = true then 0 else 1) (nP q) u 0
def pj_I (t : Nat → Prop) (m : Nat) (fs ls : Nat → Nat) (s : Nat) (ip : Int32) : Prop := qi_runs t m fs ls s ∧ (∀ k, k < m → 2 * k ≤ fs k) ∧ ((ip = 1 ∧ 0 < m ∧ ls (m - 1) + 1 = s) ∨ (ip = 0 ∧ (0 < m → ls (m - 1) + 1 < s ∧ ¬ t (ls (m - 1) + 1))))
theorem pj_0 (t : Nat → Prop) (fs ls : Nat → Nat) : pj_I t 0 fs ls 0 0 := ⟨⟨fun k h => absurd h (Nat.not_lt_zero k), fun j h => absurd h (Nat.not_lt_zero j), fun i k _ h => absurd h (Nat.not_lt_zero k)⟩, fun k h => absurd h (Nat.not_lt_zero k), Or.inr ⟨rfl, fun h => absurd h (Nat.lt_irrefl 0)⟩⟩
theorem pj_no {t : Nat → Prop} {m : Nat} {fs ls : Nat → Nat} {s : Nat} {ip : Int32} (h : pj_I t m fs ls s ip) (ht : ¬ t s) : pj_I t m fs ls (s + 1) 0 := by
  obtain ⟨⟨r1, r2, r3⟩, h2, h3⟩ := h
  refine ⟨⟨fun k hk => ⟨(r1 k hk).1, by have := (r1 k hk).2.1; omega, (r1 k hk).2.2⟩, fun j hj htj => ?_, r3⟩, h2, Or.inr ⟨rfl, fun hm => ?_⟩⟩
  · rcases Nat.lt_or_ge j s with c | c
    · exact r2 j c htj
    · have e : j = s := by omega
      subst e
      exact absurd htj ht
  · rcases h3 with ⟨_, _, e⟩ | ⟨_, e⟩
    · rw [e]; exact ⟨by omega, ht⟩
    · exact ⟨by have := (e hm).1; omega, (e hm).2⟩
theorem pj_in {t : Nat → Prop} {m : Nat} {fs ls : Nat → Nat} {s : Nat} {ip : Int32} (h : pj_I t m fs ls s ip) (ht : t s) (hi : ¬ ip = 0) : 0 < m ∧ pj_I t m fs (va_up ls (m - 1) s) (s + 1) 1 := by
  obtain ⟨⟨r1, r2, r3⟩, h2, h3⟩ := h
  have us : va_up ls (m - 1) s (m - 1) = s := va_up_self _ _ _
  have un : ∀ k, k ≠ m - 1 → va_up ls (m - 1) s k = ls k := fun k hk => va_up_ne _ _ hk
  rcases h3 with ⟨_, hm, e⟩ | ⟨e, _⟩
  · refine ⟨hm, ⟨fun k hk => ?_, fun j hj htj => ?_, fun i k hik hk => ?_⟩, h2, Or.inl ⟨rfl, hm, by rw [us]⟩⟩
    · by_cases c : k = m - 1
      · obtain ⟨a, b, d⟩ := r1 k hk
        rw [c, us]
        rw [c] at a b d
        refine ⟨by omega, by omega, fun j j1 j2 => ?_⟩
        rcases Nat.lt_or_ge j s with q | q
        · exact d j j1 (by omega)
        · rw [show j = s by omega]; exact ht
      · rw [un k c]
        obtain ⟨a, b, d⟩ := r1 k hk
        exact ⟨a, by omega, d⟩
    · rcases Nat.lt_or_ge j s with q | q
      · obtain ⟨k, hk, a, b⟩ := r2 j q htj
        refine ⟨k, hk, a, ?_⟩
        by_cases c : k = m - 1
        · rw [c, us]; omega
        · rw [un k c]; exact b
      · refine ⟨m - 1, by omega, ?_, by rw [us]; omega⟩
        have := (r1 (m - 1) (by omega)).1
        omega
    · rw [un i (by omega)]
      exact r3 i k hik hk
  · exact absurd e hi
theorem pj_new {t : Nat → Prop} {m : Nat} {fs ls : Nat → Nat} {s : Nat} {ip : Int32} (h : pj_I t m fs ls s ip) (ht : t s) (hi : ip = 0) : 2 * m ≤ s ∧ pj_I t (m + 1) (va_up fs m s) (va_up ls m s) (s + 1) 1 := by
  obtain ⟨⟨r1, r2, r3⟩, h2, h3⟩ := h
  have us : va_up ls m s m = s := va_up_self _ _ _
  have un : ∀ k, k ≠ m → va_up ls m s k = ls k := fun k hk => va_up_ne _ _ hk
  have vs : va_up fs m s m = s := va_up_self _ _ _
  have vn : ∀ k, k ≠ m → va_up fs m s k = fs k := fun k hk => va_up_ne _ _ hk
  rcases h3 with ⟨e, _⟩ | ⟨_, e⟩
  · rw [hi] at e; exact absurd e (by decide)
  · have hms : 2 * m ≤ s := by
      rcases Nat.eq_zero_or_pos m with q | q
      · omega
      · have a := (e q).1
        have b := (r1 (m - 1) (by omega)).1
        have c := h2 (m - 1) (by omega)
        omega
    refine ⟨hms, ⟨fun k hk => ?_, fun j hj htj => ?_, fun i k hik hk => ?_⟩, fun k hk => ?_, Or.inl ⟨rfl, by omega, by rw [show m + 1 - 1 = m by omega, us]⟩⟩
    · by_cases c : k = m
      · rw [c, us, vs]
        exact ⟨Nat.le_refl s, by omega, fun j j1 j2 => by rw [show j = s by omega]; exact ht⟩
      · rw [un k c, vn k c]
        obtain ⟨a, b, d⟩ := r1 k (by omega)
        exact ⟨a, by omega, d⟩
    · rcases Nat.lt_or_ge j s with q | q
      · obtain ⟨k, hk, a, b⟩ := r2 j q htj
        exact ⟨k, by omega, by rw [vn k (by omega)]; exact a, by rw [un k (by omega)]; exact b⟩
      · exact ⟨m, by omega, by rw [vs]; omega, by rw [us]; omega⟩
    · rw [un i (by omega)]
      by_cases c : k = m
      · rw [c, vs]
        rcases Nat.lt_or_ge i (m - 1) with q | q
        · have a := r3 i (m - 1) q (by omega)
          have b := (r1 (m - 1) (by omega)).1
          have d := (e (by omega)).1
          exact ⟨by omega, a.2⟩
        · rw [show i = m - 1 by omega]
          exact e (by omega)
      · rw [vn k c]
        exact r3 i k hik (by omega)
    · by_cases c : k = m
      · rw [c, vs]; exact hms
      · rw [vn k c]; exact h2 k (by omega)
/-- the row of pieces belongs to the node q -/
def pc_R (q : nq) (n : Nat) (f g : Nat → Int64) (m : Nat) (Ff Fl : Nat → Int32) : Prop := n ≤ 21 ∧ mk_row f g n 50 ∧ m ≤ 22 ∧ ∃ fs ls : Nat → Nat, (∀ k, k < m → Ff k = nI (fs k) ∧ Fl k = nI (ls k) ∧ fs k ≤ ls k ∧ ls k < 2 * n + 1) ∧ qp_sys (nS q) m (fun k => qi_L (mk_v f g) (fs k)) (fun k => qi_R (mk_v f g) n (ls k))
def pc_S (cI cJ : ClassId) (M : Nat → Option va_E) (h mk ka kb fa la : Nat) (ow : Option Nat) (n : Nat) (f g : Nat → Int64) (m : Nat) (Ff Fl : Nat → Int32) : Prop := M h = some (.inr (5, [.ref mk, .ref fa, .ref la, .int (nI m), va_rf ow])) ∧ mk_S cJ M mk ka kb n f g ∧ M fa = some (.inl (cI, 22, .inl Ff)) ∧ M la = some (.inl (cI, 22, .inl Fl))
/-- .. and what it says is true, if it is anybody's -/
def pc_ok (cI cJ : ClassId) (M : Nat → Option va_E) (tb : Nat → Option nq) (h mk ka kb fa la : Nat) (ow : Option Nat) : Prop := ∃ (n : Nat) (f g : Nat → Int64) (m : Nat) (Ff Fl : Nat → Int32), pc_S cI cJ M h mk ka kb fa la ow n f g m Ff Fl ∧ ∀ a, ow = some a → ∃ q, tb a = some q ∧ pc_R q n f g m Ff Fl
/-- the row's cells are apart from the others -/
def pc_D (va vb om oa ob im ia ib mk ka kb fa la : Nat) : Prop := ka ≠ kb ∧ va ≠ ka ∧ va ≠ kb ∧ vb ≠ ka ∧ vb ≠ kb ∧ oa ≠ ka ∧ oa ≠ kb ∧ ob ≠ ka ∧ ob ≠ kb ∧ ia ≠ ka ∧ ia ≠ kb ∧ ib ≠ ka ∧ ib ≠ kb ∧ om ≠ mk ∧ im ≠ mk ∧ fa ≠ la
theorem qi_stx {M : Nat → Rat} {n : Nat} (hi : qm_inc M n) : ∃ st, qm_stops M n st := by
  have h : ∀ s, ∃ x, s < 2 * n + 1 → qi_at M n s x := fun s => by
    by_cases hs : s < 2 * n + 1
    · rcases Nat.mod_two_eq_zero_or_one s with e | e
      · obtain ⟨v, h1, h2⟩ := qm_between ((List.range (s / 2)).map M) (((List.range n).filter (fun j => decide (s / 2 ≤ j))).map M) (by
          intro a ha b hb
          obtain ⟨i, hi1, rfl⟩ := List.mem_map.mp ha
          obtain ⟨j, hj1, rfl⟩ := List.mem_map.mp hb
          obtain ⟨hj1, hj2⟩ := List.mem_filter.mp hj1
          have := List.mem_range.mp hi1
          have := List.mem_range.mp hj1
          have := of_decide_eq_true hj2
          exact hi i j (by omega) (by omega))
        refine ⟨v, fun _ => Or.inr ⟨s / 2, by omega, by omega, fun j hj => h1 _ (List.mem_map.mpr ⟨j, List.mem_range.mpr hj, rfl⟩), fun j hj hn => h2 _ (List.mem_map.mpr ⟨j, List.mem_filter.mpr ⟨List.mem_range.mpr hn, decide_eq_true hj⟩, rfl⟩)⟩⟩
      · exact ⟨M (s / 2), fun _ => Or.inl ⟨s / 2, by omega, by omega, rfl⟩⟩
    · exact ⟨0, fun h => absurd h hs⟩
  obtain ⟨st, hst⟩ := Classical.axiomOfChoice h
  refine ⟨st, fun k hk => ⟨fun hkn => ?_, fun j hj => ?_, fun j h1 h2 => ?_⟩⟩
  · rcases hst (2 * k + 1) (by omega) with ⟨i, i1, i2, i3⟩ | ⟨i, i1, i2, _⟩
    · rw [i3, show i = k by omega]
    · omega
  · rcases hst (2 * k) (by omega) with ⟨i, i1, i2, i3⟩ | ⟨i, i1, i2, i3, i4⟩
    · omega
    · exact i3 j (by omega)
  · rcases hst (2 * k) (by omega) with ⟨i, i1, i2, i3⟩ | ⟨i, i1, i2, i3, i4⟩
    · omega
    · exact i4 j (by omega) h2
section G23
variable (l : Launch) (D : va_G) (cI cJ cZ cN : ClassId) (v va vb om oa ob im ia ib : Nat) (tb : Nat → Option nq)
set_option maxHeartbeats 4000000 in
set_option maxRecDepth 100000 in
theorem c_Pc_find (h0 mk ka kb fa la a sz : Nat) (ow : Option Nat) (q : nq) (hq : tb a = some q) (fv gv : Nat → Int64) (M : Nat → Option va_E) (hT : tb_ok cI M tb) (hE : ev_S cJ M v va vb om oa ob im ia ib fv gv) (hD : ev_D va vb om oa ob im ia ib) (hD2 : pc_D va vb om oa ob im ia ib mk ka kb fa la) (hP : pc_ok cI cJ M tb h0 mk ka kb fa la ow) (hla9 : ∀ a2 q2 la2 gr ex ci, tb a2 = some q2 → nd_c M a2 ci (nd_fr (nx q2) (ny q2)) (nI (nd q2)) la2 gr ex → la2 ≠ fa ∧ la2 ≠ la) (hd : nd q ≤ 1) (hxy : nx q ≠ ny q) : Met l y_Pc_find (.code y_Pc_find b_Pc_find 7 none :: ww) ({ frames := 25, cells := 0, slots := 0, locals := 1400 }) (hw_Pc D qcl (qty cI cJ cZ cN) [.ref h0, .ref a, .ref v] M sz) (va_Qv (fun M1 => (∃ fv2 gv2, ev_S cJ M1 v va vb om oa ob im ia ib fv2 gv2) ∧ pc_ok cI cJ M1 tb h0 mk ka kb fa la (some a) ∧ ∀ r9, r9 ≠ h0 → r9 ≠ mk → r9 ≠ ka → r9 ≠ kb → r9 ≠ fa → r9 ≠ la → r9 ≠ va → r9 ≠ vb → r9 ≠ im → r9 ≠ ia → r9 ≠ ib → M1 r9 = M r9) (hw_B D qcl (qty cI cJ cZ cN) M sz) (hw_A M sz)) 0 0 (hw_A M sz) := by
  obtain ⟨n0, f0, g0, m0, Ff0, Fl0, ⟨hc, hmk0, hfa0, hla0⟩, hR⟩ := id hP
  obtain ⟨⟨lq, gr, F, hnd, hlq, hF, hg⟩, hok⟩ := hT a q hq
  obtain ⟨_, b1, b2, b3, b4, b5, b6, b7, b8⟩ := id hok
  obtain ⟨hV, ⟨n8, f8, g8, hmo⟩, ⟨n9, f9, g9, hmi⟩⟩ := id hE
  obtain ⟨d1, d2, d3, d4, d5, d6, d7, d8, d9, d10, d11, d12, d13, d14, d15, d16⟩ := id hD
  obtain ⟨e1, e2, e3, e4, e5, e6, e7, e8, e9, e10, e11, e12, e13, e14, e15, e16⟩ := id hD2
  have hc00 := hc
  have hlqf := hla9 a q lq gr _ _ hq hnd
  have u_h0_mk : h0 ≠ mk := hw_ne hc hmk0.1 (by simp)
  have u_h0_ka : h0 ≠ ka := hw_ne hc hmk0.2.1 (by simp)
  have u_h0_kb : h0 ≠ kb := hw_ne hc hmk0.2.2 (by simp)
  have u_h0_fa : h0 ≠ fa := hw_ne hc hfa0 (by simp)
  have u_h0_la : h0 ≠ la := hw_ne hc hla0 (by simp)
  have u_h0_v : h0 ≠ v := hw_ne hc hV.1 (by simp)
  have u_h0_va : h0 ≠ va := hw_ne hc hV.2.1 (by simp)
  have u_h0_vb : h0 ≠ vb := hw_ne hc hV.2.2 (by simp)
  have u_h0_om : h0 ≠ om := hw_ne hc hmo.1 (by simp)
  have u_h0_oa : h0 ≠ oa := hw_ne hc hmo.2.1 (by simp)
  have u_h0_ob : h0 ≠ ob := hw_ne hc hmo.2.2 (by simp)
  have u_h0_im : h0 ≠ im := hw_ne hc hmi.1 (by simp)
  have u_h0_ia : h0 ≠ ia := hw_ne hc hmi.2.1 (by simp)
  have u_h0_ib : h0 ≠ ib := hw_ne hc hmi.2.2 (by simp)
  have u_h0_lq : h0 ≠ lq := hw_ne hc hlq (by simp)
  have u_mk_ka : mk ≠ ka := hw_ne hmk0.1 hmk0.2.1 (by simp)
  have u_mk_kb : mk ≠ kb := hw_ne hmk0.1 hmk0.2.2 (by simp)
  have u_mk_fa : mk ≠ fa := hw_ne hmk0.1 hfa0 (by simp)
  have u_mk_la : mk ≠ la := hw_ne hmk0.1 hla0 (by simp)
  have u_mk_v : mk ≠ v := hw_ne hmk0.1 hV.1 (by simp)
  have u_mk_va : mk ≠ va := hw_ne hmk0.1 hV.2.1 (by simp)
  have u_mk_vb : mk ≠ vb := hw_ne hmk0.1 hV.2.2 (by simp)
  have u_mk_oa : mk ≠ oa := hw_ne hmk0.1 hmo.2.1 (by simp)
  have u_mk_ob : mk ≠ ob := hw_ne hmk0.1 hmo.2.2 (by simp)
  have u_mk_ia : mk ≠ ia := hw_ne hmk0.1 hmi.2.1 (by simp)
  have u_mk_ib : mk ≠ ib := hw_ne hmk0.1 hmi.2.2 (by simp)
  have u_mk_lq : mk ≠ lq := hw_ne hmk0.1 hlq (by simp)
  have u_ka_fa : ka ≠ fa := hw_ne hmk0.2.1 hfa0 (by simp)
  have u_ka_la : ka ≠ la := hw_ne hmk0.2.1 hla0 (by simp)
  have u_ka_v : ka ≠ v := hw_ne hmk0.2.1 hV.1 (by simp)
  have u_ka_om : ka ≠ om := hw_ne hmk0.2.1 hmo.1 (by simp)
  have u_ka_im : ka ≠ im := hw_ne hmk0.2.1 hmi.1 (by simp)
  have u_ka_lq : ka ≠ lq := hw_ne hmk0.2.1 hlq (by simp)
  have u_kb_fa : kb ≠ fa := hw_ne hmk0.2.2 hfa0 (by simp)
  have u_kb_la : kb ≠ la := hw_ne hmk0.2.2 hla0 (by simp)
  have u_kb_v : kb ≠ v := hw_ne hmk0.2.2 hV.1 (by simp)
  have u_kb_om : kb ≠ om := hw_ne hmk0.2.2 hmo.1 (by simp)
  have u_kb_im : kb ≠ im := hw_ne hmk0.2.2 hmi.1 (by simp)
  have u_kb_lq : kb ≠ lq := hw_ne hmk0.2.2 hlq (by simp)
  have u_fa_v : fa ≠ v := hw_ne hfa0 hV.1 (by simp)
  have u_fa_va : fa ≠ va := hw_ne hfa0 hV.2.1 (by simp)
  have u_fa_vb : fa ≠ vb := hw_ne hfa0 hV.2.2 (by simp)
  have u_fa_om : fa ≠ om := hw_ne hfa0 hmo.1 (by simp)
  have u_fa_oa : fa ≠ oa := hw_ne hfa0 hmo.2.1 (by simp)
  have u_fa_ob : fa ≠ ob := hw_ne hfa0 hmo.2.2 (by simp)
  have u_fa_im : fa ≠ im := hw_ne hfa0 hmi.1 (by simp)
  have u_fa_ia : fa ≠ ia := hw_ne hfa0 hmi.2.1 (by simp)
  have u_fa_ib : fa ≠ ib := hw_ne hfa0 hmi.2.2 (by simp)
  have u_la_v : la ≠ v := hw_ne hla0 hV.1 (by simp)
  have u_la_va : la ≠ va := hw_ne hla0 hV.2.1 (by simp)
  have u_la_vb : la ≠ vb := hw_ne hla0 hV.2.2 (by simp)
  have u_la_om : la ≠ om := hw_ne hla0 hmo.1 (by simp)
  have u_la_oa : la ≠ oa := hw_ne hla0 hmo.2.1 (by simp)
  have u_la_ob : la ≠ ob := hw_ne hla0 hmo.2.2 (by simp)
  have u_la_im : la ≠ im := hw_ne hla0 hmi.1 (by simp)
  have u_la_ia : la ≠ ia := hw_ne hla0 hmi.2.1 (by simp)
  have u_la_ib : la ≠ ib := hw_ne hla0 hmi.2.2 (by simp)
  have u_v_va : v ≠ va := hw_ne hV.1 hV.2.1 (by simp)
  have u_v_vb : v ≠ vb := hw_ne hV.1 hV.2.2 (by simp)
  have u_v_om : v ≠ om := hw_ne hV.1 hmo.1 (by simp)
  have u_v_oa : v ≠ oa := hw_ne hV.1 hmo.2.1 (by simp)
  have u_v_ob : v ≠ ob := hw_ne hV.1 hmo.2.2 (by simp)
  have u_v_im : v ≠ im := hw_ne hV.1 hmi.1 (by simp)
  have u_v_ia : v ≠ ia := hw_ne hV.1 hmi.2.1 (by simp)
  have u_v_ib : v ≠ ib := hw_ne hV.1 hmi.2.2 (by simp)
  have u_v_lq : v ≠ lq := hw_ne hV.1 hlq (by simp)
  have u_va_om : va ≠ om := hw_ne hV.2.1 hmo.1 (by simp)
  have u_va_im : va ≠ im := hw_ne hV.2.1 hmi.1 (by simp)
  have u_va_lq : va ≠ lq := hw_ne hV.2.1 hlq (by simp)
  have u_vb_om : vb ≠ om := hw_ne hV.2.2 hmo.1 (by simp)
  have u_vb_im : vb ≠ im := hw_ne hV.2.2 hmi.1 (by simp)
  have u_vb_lq : vb ≠ lq := hw_ne hV.2.2 hlq (by simp)
  have u_om_oa : om ≠ oa := hw_ne hmo.1 hmo.2.1 (by simp)
  have u_om_ob : om ≠ ob := hw_ne hmo.1 hmo.2.2 (by simp)
  have u_om_ia : om ≠ ia := hw_ne hmo.1 hmi.2.1 (by simp)
  have u_om_ib : om ≠ ib := hw_ne hmo.1 hmi.2.2 (by simp)
  have u_om_lq : om ≠ lq := hw_ne hmo.1 hlq (by simp)
  have u_oa_im : oa ≠ im := hw_ne hmo.2.1 hmi.1 (by simp)
  have u_oa_lq : oa ≠ lq := hw_ne hmo.2.1 hlq (by simp)
  have u_ob_im : ob ≠ im := hw_ne hmo.2.2 hmi.1 (by simp)
  have u_ob_lq : ob ≠ lq := hw_ne hmo.2.2 hlq (by simp)
  have u_im_ia : im ≠ ia := hw_ne hmi.1 hmi.2.1 (by simp)
  have u_im_ib : im ≠ ib := hw_ne hmi.1 hmi.2.2 (by simp)
  have u_im_lq : im ≠ lq := hw_ne hmi.1 hlq (by simp)
  have u_ia_lq : ia ≠ lq := hw_ne hmi.2.1 hlq (by simp)
  have u_ib_lq : ib ≠ lq := hw_ne hmi.2.2 hlq (by simp)
  have u_a_h0 : a ≠ h0 := by rcases hnd with ⟨k9, hnd⟩; exact hw_ne hnd hc (by intro z9; simp only [Sum.inr.injEq, Prod.mk.injEq] at z9; omega)
  have u_a_mk : a ≠ mk := by rcases hnd with ⟨k9, hnd⟩; exact hw_ne hnd hmk0.1 (by intro z9; simp only [Sum.inr.injEq, Prod.mk.injEq] at z9; omega)
  have u_a_ka : a ≠ ka := hw_ne hnd.2 hmk0.2.1 (by simp)
  have u_a_kb : a ≠ kb := hw_ne hnd.2 hmk0.2.2 (by simp)
  have u_a_fa : a ≠ fa := hw_ne hnd.2 hfa0 (by simp)
  have u_a_la : a ≠ la := hw_ne hnd.2 hla0 (by simp)
  have u_a_v : a ≠ v := by rcases hnd with ⟨k9, hnd⟩; exact hw_ne hnd hV.1 (by intro z9; simp only [Sum.inr.injEq, Prod.mk.injEq] at z9; omega)
  have u_a_va : a ≠ va := hw_ne hnd.2 hV.2.1 (by simp)
  have u_a_vb : a ≠ vb := hw_ne hnd.2 hV.2.2 (by simp)
  have u_a_om : a ≠ om := by rcases hnd with ⟨k9, hnd⟩; exact hw_ne hnd hmo.1 (by intro z9; simp only [Sum.inr.injEq, Prod.mk.injEq] at z9; omega)
  have u_a_oa : a ≠ oa := hw_ne hnd.2 hmo.2.1 (by simp)
  have u_a_ob : a ≠ ob := hw_ne hnd.2 hmo.2.2 (by simp)
  have u_a_im : a ≠ im := by rcases hnd with ⟨k9, hnd⟩; exact hw_ne hnd hmi.1 (by intro z9; simp only [Sum.inr.injEq, Prod.mk.injEq] at z9; omega)
  have u_a_ia : a ≠ ia := hw_ne hnd.2 hmi.2.1 (by simp)
  have u_a_ib : a ≠ ib := hw_ne hnd.2 hmi.2.2 (by simp)
  have u_a_lq : a ≠ lq := hw_ne hnd.2 hlq (by simp)
  refine hw_met (by decide) (Nat.le_of_ble_eq_true rfl) ?_
  intro p e s m below meth c hx hb hr hml hown hlocks hnm hts hsz hX hW ls hl
  subst hsz
  have hA : ∀ q, s.heap.size ≤ q → hw_A M s.heap.size q := fun q h => Or.inr h
  have hS : va_S (hw_A M s.heap.size) s.heap s.heap [] := va_S.rf
  have hl : lv_has ls 7 [(0, .ref h0), (1, .ref a), (2, .ref v)] := hl
  have hown : s.vm.findClass "QuantifierOut$Pieces" = some m.cls := hown
  obtain ⟨Q9, hQ9⟩ : ∃ X : State → Prop, X = MQ below (va_Qv (fun M1 => (∃ fv2 gv2, ev_S cJ M1 v va vb om oa ob im ia ib fv2 gv2) ∧ pc_ok cI cJ M1 tb h0 mk ka kb fa la (some a) ∧ ∀ r9, r9 ≠ h0 → r9 ≠ mk → r9 ≠ ka → r9 ≠ kb → r9 ≠ fa → r9 ≠ la → r9 ≠ va → r9 ≠ vb → r9 ≠ im → r9 ≠ ia → r9 ≠ ib → M1 r9 = M r9) (hw_B D qcl (qty cI cJ cZ cN) M s.heap.size) (hw_A M s.heap.size)) [.ref h0, .ref a, .ref v].toArray s 0 0 (hw_A M s.heap.size) := ⟨_, rfl⟩
  rw [← hQ9]
  refine lv_aload_n hx hb d_Pc_find_0 rfl (lv_at hl 1 rfl) ?_
  refine lv_aload_n hx hb d_Pc_find_1 rfl (lv_at hl 0 rfl) ?_
  refine hw_get (own := "QuantifierOut$Pieces") (v := va_rf ow) hx hb hts i_Pc hown hW hc rfl 4 (by decide) (hts _ tw_84) (fun _ h9 => h9) rfl d_Pc_find_2 ?_
  refine lv_acmp_ne (rx := some a) (ry := ow) (tgt := 9) hx hb d_Pc_find_5 (by decide) (fun c_5 => ?_) (fun c_5 => ?_)
  · skip
    refine lv_aload_n hx hb d_Pc_find_9 rfl (lv_at hl 0 rfl) ?_
    refine lv_aload_n hx hb d_Pc_find_10 rfl (lv_at hl 1 rfl) ?_
    refine hw_put (own := "QuantifierOut$Pieces") (v := .ref a) (ty := .object "QuantifierOut$Node") hx hb hts i_Pc ft_Pc tk_Pc n_Pc hown hW hS hc rfl 4 (by decide) (hts _ tw_84) (fun _ h9 => h9) rfl (tk_Pc 4 (by decide)) rfl rfl (Nat.le_of_ble_eq_true rfl) d_Pc_find_11 (fun H locs hW hS => ?_)
    have hW : hw_W D qcl (qty cI cJ cZ cN) _ (va_up M h0 (some (.inr (5, [.ref mk, .ref fa, .ref la, .int (nI m0), .ref a])))) s H := hW
    generalize hMw1 : va_up M h0 (some (.inr (5, [.ref mk, .ref fa, .ref la, .int (nI m0), .ref a]))) = Mw1 at hW
    have hc : Mw1 h0 = some (.inr (5, [.ref mk, .ref fa, .ref la, .int (nI m0), .ref a])) := by rw [← hMw1]; exact va_up_self _ _ _
    refine lv_aload_n hx hb d_Pc_find_14 rfl (lv_at hl 0 rfl) ?_
    refine lv_iconst (v := 0) hx hb d_Pc_find_15 (by decide) ?_
    refine hw_put (own := "QuantifierOut$Pieces") (v := .int 0) (ty := .int) hx hb hts i_Pc ft_Pc tk_Pc n_Pc hown hW hS hc rfl 3 (by decide) (hts _ tw_82) (fun _ h9 => h9) rfl (tk_Pc 3 (by decide)) rfl rfl (Nat.le_of_ble_eq_true rfl) d_Pc_find_16 (fun H locs hW hS => ?_)
    have hW : hw_W D qcl (qty cI cJ cZ cN) _ (va_up Mw1 h0 (some (.inr (5, [.ref mk, .ref fa, .ref la, .int 0, .ref a])))) s H := hW
    generalize hMw2 : va_up Mw1 h0 (some (.inr (5, [.ref mk, .ref fa, .ref la, .int 0, .ref a]))) = Mw2 at hW
    have hc : Mw2 h0 = some (.inr (5, [.ref mk, .ref fa, .ref la, .int 0, .ref a])) := by rw [← hMw2]; exact va_up_self _ _ _
    refine lv_aload_n hx hb d_Pc_find_19 rfl (lv_at hl 1 rfl) ?_
    refine lv_iconst (v := 0) hx hb d_Pc_find_20 (by decide) ?_
    have fr2 : ∀ r9, r9 ≠ h0 → Mw2 r9 = M r9 := fun r9 z1 => by rw [← hMw2, va_up_ne _ _ z1, ← hMw1, va_up_ne _ _ z1]
    have hnd2 : nd_c Mw2 a (nk_ci (nK q)) (nd_fr (nx q) (ny q)) (nI (nd q)) lq gr (nk_ex q) := ⟨hnd.1, (fr2 a u_a_h0).trans hnd.2⟩
    refine hw_calli (nd_runF (n := 1) (own := "QuantifierOut$Pieces") (As := [.int 0]) (rest := []) hx hb hml hown hts hX hW hl.1 (c_Nd_isFree l D cI cJ cZ cN a (nk_ci (nK q)) lq 0 _ (nx q) (ny q) (nI (nd q)) gr (nk_ex q) Mw2 hnd2 (by omega)) hnd2 tw_525 tw_425 tw_426 tw_427 tw_428 tw_429 tw_424 tw_11 tw_430 (by decide +kernel) rfl rfl ⟨by decide, by decide⟩ rfl rfl (Nat.le_of_ble_eq_true rfl) d_Pc_find_21 ⟨by decide, by decide⟩) hW hS hA (fun rf Mf H locs hp hz hW hS => ?_)
    obtain ⟨erf, eMf⟩ := hp
    rw [eMf] at hW
    rw [if_pos rfl] at erf
    have rest : ∀ (j o : Nat) (H : Heap) (locs : List Loc) (ls : Array Slot), j + o = 1 → j = (if nx q = true then 0 else 1) → hw_W D qcl (qty cI cJ cZ cN) (hw_A M s.heap.size) Mw2 s H → va_S (hw_A M s.heap.size) s.heap H locs → lv_has ls 7 [(0, .ref h0), (1, .ref a), (2, .ref v)] → W p l e ({ frames := 25, cells := 0, slots := 0, locals := 1400 }) s m [.ref h0, .ref a, .ref v].toArray below meth c H locs 0 0 Q9 (F0 m 32 ls [.int (nI j)]) := by
      intro j o H locs ls hjo hjd hW hS hl
      refine lv_istore_n (lv' := [(3, .int (nI j)), (0, .ref h0), (1, .ref a), (2, .ref v)]) hx hb d_Pc_find_32 rfl hl (by decide) rfl (fun ls hl => ?_)
      refine lv_aload_n hx hb d_Pc_find_33 rfl (lv_at hl 3 rfl) ?_
      refine lv_iconst (v := 0) hx hb d_Pc_find_34 (by decide) ?_
      refine lv_iconst (v := 0) hx hb d_Pc_find_35 (by decide) ?_
      have hV2 : vs_S cJ Mw2 v va vb om im fv gv := ⟨(fr2 v (Ne.symm u_h0_v)).trans hV.1, (fr2 va (Ne.symm u_h0_va)).trans hV.2.1, (fr2 vb (Ne.symm u_h0_vb)).trans hV.2.2⟩
      refine hw_callv (hw_runV (n := 2) (own := "QuantifierOut$Pieces") (As := [.int 0, .int 0]) (rest := []) hx hb hml hown hts hX hW hl.1 (c_Vs_putWhole l D cI cJ cZ cN v va vb om im _ fv gv 0 0 Mw2 hV2 d1) hV2.1 rfl tw_526 tw_444 tw_445 tw_2 tw_446 (by decide +kernel) rfl rfl ⟨by decide, by decide⟩ rfl rfl (Nat.le_of_ble_eq_true rfl) d_Pc_find_36 ⟨by decide, by decide⟩) hW hS hA (fun M3 H locs hp hz hW hS => ?_)
      have h0l : (0 : Int32).toInt64 = 0 := rfl
      rw [h0l] at hp
      obtain ⟨fw, hfw⟩ : ∃ X, X = vp_updL (vp_updL fv 0 0) 1 0 := ⟨_, rfl⟩
      obtain ⟨gw, hgw⟩ : ∃ X, X = vp_updL (vp_updL gv 0 1) 1 1 := ⟨_, rfl⟩
      rw [← hfw, ← hgw] at hp
      have hw0 : ∀ i, i < 2 → fw i = 0 ∧ gw i = 1 := by
        intro i hi
        rw [hfw, hgw]
        rcases (show i = 0 ∨ i = 1 by omega) with z | z <;> subst z <;> exact ⟨rfl, rfl⟩
      have fr3 : ∀ r9, r9 ≠ h0 → r9 ≠ va → r9 ≠ vb → M3 r9 = M r9 := fun r9 z1 z2 z3 => by rw [hp, va_up_ne _ _ z3, va_up_ne _ _ z2]; exact fr2 r9 z1
      have hc3 : M3 h0 = some (.inr (5, [.ref mk, .ref fa, .ref la, .int 0, va_rf (some a)])) := by rw [hp, va_up_ne _ _ u_h0_vb, va_up_ne _ _ u_h0_va, ← hMw2]; exact va_up_self _ _ _
      have hV3 : vs_S cJ M3 v va vb om im fw gw := ⟨(fr3 v (Ne.symm u_h0_v) u_v_va u_v_vb).trans hV.1, by rw [hp, va_up_ne _ _ d1, va_up_self], by rw [hp, va_up_self]⟩
      have hmk3 : mk_S cJ M3 mk ka kb n0 f0 g0 := ⟨(fr3 mk (Ne.symm u_h0_mk) u_mk_va u_mk_vb).trans hmk0.1, (fr3 ka (Ne.symm u_h0_ka) (Ne.symm e2) (Ne.symm e4)).trans hmk0.2.1, (fr3 kb (Ne.symm u_h0_kb) (Ne.symm e3) (Ne.symm e5)).trans hmk0.2.2⟩
      have hnd3 : nd_c M3 a (nk_ci (nK q)) (nd_fr (nx q) (ny q)) (nI (nd q)) lq gr (nk_ex q) := ⟨hnd.1, (fr3 a u_a_h0 u_a_va u_a_vb).trans hnd.2⟩
      have hlq3 : M3 lq = some (.inl (cI, 3 * (nL q).length, .inl F)) := (fr3 lq (Ne.symm u_h0_lq) (Ne.symm u_va_lq) (Ne.symm u_vb_lq)).trans hlq
      obtain ⟨wo1, wo2⟩ := hw0 o (by omega)
      refine lv_aload_n hx hb d_Pc_find_39 rfl (lv_at hl 1 rfl) ?_
      refine hw_get (own := "QuantifierOut$Pieces") (v := .ref mk) hx hb hts i_Pc hown hW hc3 rfl 0 (by decide) (hts _ tw_79) (fun _ h9 => h9) rfl d_Pc_find_40 ?_
      refine lv_aload_n hx hb d_Pc_find_43 rfl (lv_at hl 2 rfl) ?_
      refine lv_iload_n hx hb d_Pc_find_44 rfl (lv_at hl 0 rfl) ?_
      refine lv_aload_n hx hb d_Pc_find_45 rfl (lv_at hl 3 rfl) ?_
      refine hw_callv (hw_runV (n := 3) (own := "QuantifierOut$Pieces") (As := [.ref a, .int (nI j), .ref v]) (rest := []) hx hb hml hown hts hX hW hl.1 (c_Mk_gather l D cI cJ cZ cN mk ka kb n0 50 1 _ lq (nL q).length (nd q) j o v va vb om im a (nk_ci (nK q)) (nx q) (ny q) gr (nk_ex q) f0 g0 fw gw F M3 hmk3 e1 (by omega) (by omega) hnd3 (by omega) hlq3 b2 hjo (nl_len hF b5) hV3 (by rw [wo1]; decide) (by rw [wo2]; decide) (by omega) e2 e3 e4 e5) hmk3.1 rfl tw_527 tw_471 tw_472 tw_3 tw_473 (by decide +kernel) rfl rfl ⟨by decide, by decide⟩ rfl rfl (Nat.le_of_ble_eq_true rfl) d_Pc_find_46 ⟨by decide, by decide⟩) hW hS hA (fun Mg H locs hp hz hW hS => ?_)
      obtain ⟨n, f, g, hmk, hfg, hn21, hro, hnf, hcv⟩ := hp
      rw [wo1, wo2] at hcv
      have h1l : (1 : Int64).toInt = 1 := rfl
      have h0i : (0 : Int64).toInt = 0 := rfl
      rw [h1l, h0i] at hcv
      have hfree : (if j = 0 then nx q else ny q) = true := by
        cases hnx : nx q
        · rw [hnx] at hjd hxy; rw [if_neg (by decide)] at hjd; rw [hjd, if_neg (by decide)]; cases hny : ny q; exact absurd hny.symm hxy; rfl
        · rw [hnx, if_pos rfl] at hjd; rw [hjd, if_pos rfl]
      have hq0 : qm_fr 0 1 = 0 := by rw [qm_fr_int]; rfl
      have hcell := ga_cell (j := j) (o := o) (x := 0) (y := 1) (n := n) (f := f) (g := g) hF hjo (by decide) b6 hd (Or.inr (hcv hfree))
      rw [hq0] at hcell
      have hnS : ∀ u, nS q u ↔ nP_j j (nP q) u 0 := fun u => by unfold nS; rw [← hjd]
      obtain ⟨tt, htt⟩ : ∃ t : Nat → Prop, t = fun s9 => ∃ u, qi_at (mk_v f g) n s9 u ∧ nS q u := ⟨_, rfl⟩
      have htS : ∀ s9 u, qi_at (mk_v f g) n s9 u → (nS q u ↔ tt s9) := by
        intro s9 u hu
        rw [htt]
        refine ⟨fun z => ⟨u, hu, z⟩, fun ⟨u2, hu2, z⟩ => ?_⟩
        rw [hnS] at z ⊢
        exact (hcell s9 u u2 hu hu2).mpr z
      have loop : ∀ (z sN : Nat), sN ≤ 2 * n + 1 → 2 * n + 2 ≤ sN + z → ∀ (H : Heap) (locs : List Loc) (M2 : Nat → Option va_E) (x y : Int64) (ip : Int32) (mm : Nat) (Ff Fl : Nat → Int32) (fs lS : Nat → Nat) (ls : Array Slot), hw_W D qcl (qty cI cJ cZ cN) (hw_A M s.heap.size) M2 s H → va_S (hw_A M s.heap.size) s.heap H locs → (∀ r9, r9 ≠ h0 → r9 ≠ mk → r9 ≠ ka → r9 ≠ kb → r9 ≠ fa → r9 ≠ la → r9 ≠ va → r9 ≠ vb → r9 ≠ im → r9 ≠ ia → r9 ≠ ib → M2 r9 = M r9) → pc_S cI cJ M2 h0 mk ka kb fa la (some a) n f g mm Ff Fl → vs_S cJ M2 v va vb om im (vp_updL fw j x) (vp_updL gw j y) → (∃ n f g, mk_S cJ M2 im ia ib n f g) → (∀ k, k < mm → Ff k = nI (fs k) ∧ Fl k = nI (lS k)) → pj_I tt mm fs lS sN ip → lv_has ls 7 [(5, .int (nI sN)), (4, .int ip), (3, .int (nI j)), (0, .ref h0), (1, .ref a), (2, .ref v)] → W p l e ({ frames := 25, cells := 0, slots := 0, locals := 1400 }) s m [.ref h0, .ref a, .ref v].toArray below meth c H locs 0 0 Q9 (F0 m 55 ls []) := by
        intro z
        induction z with
        | zero => intro sN z1 z2; exact absurd z2 (by omega)
        | succ z ihz =>
          intro sN hsN hz9 H locs M2 x y ip mm Ff Fl fs lS ls hW hS hfr hpc hV2 hI2 hFs hJ hl
          obtain ⟨hc2, hmk2, hfa2, hla2⟩ := id hpc
          have hm2 : ∀ k, k < mm → 2 * k ≤ 2 * n := fun k hk => by have h7 := hJ.2.1 k hk; have h8 := hJ.1.1 k hk; omega
          have hm22 : mm ≤ 22 := by rcases Nat.eq_zero_or_pos mm with z1 | z1; omega; have := hm2 (mm - 1) (by omega); omega
          refine lv_iload hx hb d_Pc_find_55 (lv_at hl 0 rfl) ?_
          refine lv_aload_n hx hb d_Pc_find_57 rfl (lv_at hl 3 rfl) ?_
          refine hw_get (own := "QuantifierOut$Pieces") (v := .ref mk) hx hb hts i_Pc hown hW hc2 rfl 0 (by decide) (hts _ tw_79) (fun _ h9 => h9) rfl d_Pc_find_58 ?_
          refine hw_calli (hw_runV (n := 0) (own := "QuantifierOut$Pieces") (As := []) (rest := [.int (nI sN)]) hx hb hml hown hts hX hW hl.1 (c_Mk_stops l D cI cJ cZ cN mk ka kb n _ M2 hmk2.1 (by omega)) hmk2.1 rfl tw_528 tw_489 tw_490 tw_3 tw_491 (by decide +kernel) rfl rfl ⟨by decide, by decide⟩ rfl rfl (Nat.le_of_ble_eq_true rfl) d_Pc_find_61 ⟨by decide, by decide⟩) hW hS hA (fun st9 M3 H locs hp hz hW hS => ?_)
          obtain ⟨est, eM3⟩ := hp
          rw [eM3] at hW
          subst est
          refine lv_icmp_ge (tgt := 160) hx hb d_Pc_find_64 (by decide) (fun c_64 => ?_) (fun c_64 => ?_)
          · skip
            have hge : 2 * n + 1 ≤ sN := (nI_leI (by omega) (by omega)).mp c_64
            have hse : sN = 2 * n + 1 := by omega
            subst hse
            rw [hQ9]
            obtain ⟨st, hst⟩ := qi_stx hro.2
            refine hw_retv hx hb hr hlocks hW hS ⟨⟨_, _, hV2, ⟨n8, f8, g8, (hfr om (Ne.symm u_h0_om) e14 (Ne.symm u_ka_om) (Ne.symm u_kb_om) (Ne.symm u_fa_om) (Ne.symm u_la_om) (Ne.symm u_va_om) (Ne.symm u_vb_om) d16 u_om_ia u_om_ib).trans hmo.1, (hfr oa (Ne.symm u_h0_oa) (Ne.symm u_mk_oa) e6 e7 (Ne.symm u_fa_oa) (Ne.symm u_la_oa) (Ne.symm d2) (Ne.symm d6) u_oa_im d12 d13).trans hmo.2.1, (hfr ob (Ne.symm u_h0_ob) (Ne.symm u_mk_ob) e8 e9 (Ne.symm u_fa_ob) (Ne.symm u_la_ob) (Ne.symm d3) (Ne.symm d7) u_ob_im d14 d15).trans hmo.2.2⟩, hI2⟩, ⟨n, f, g, mm, Ff, Fl, hpc, fun a9 ha9 => ?_⟩, hfr⟩ d_Pc_find_160
            cases ha9
            exact ⟨q, hq, hn21, hro, hm22, fs, lS, fun k9 hk9 => ⟨(hFs k9 hk9).1, (hFs k9 hk9).2, (hJ.1.1 k9 hk9).1, (hJ.1.1 k9 hk9).2.1⟩, qi_sys hro.2 hst hJ.1 (fun s9 _ u hu => htS s9 u hu)⟩
          · skip
            have hlt : sN < 2 * n + 1 := by
              rcases Nat.lt_or_ge sN (2 * n + 1) with z9 | z9
              · exact z9
              · exact absurd ((nI_leI (by omega) (by omega)).mpr z9) c_64
            refine lv_aload_n hx hb d_Pc_find_67 rfl (lv_at hl 3 rfl) ?_
            refine hw_get (own := "QuantifierOut$Pieces") (v := .ref mk) hx hb hts i_Pc hown hW hc2 rfl 0 (by decide) (hts _ tw_79) (fun _ h9 => h9) rfl d_Pc_find_68 ?_
            refine lv_iload hx hb d_Pc_find_71 (lv_at hl 0 rfl) ?_
            refine lv_iload_n hx hb d_Pc_find_73 rfl (lv_at hl 2 rfl) ?_
            refine lv_aload_n hx hb d_Pc_find_74 rfl (lv_at hl 5 rfl) ?_
            refine hw_callv (hw_runV (n := 3) (own := "QuantifierOut$Pieces") (As := [.int (nI sN), .int (nI j), .ref v]) (rest := []) hx hb hml hown hts hX hW hl.1 (c_Mk_moveTo l D cI cJ cZ cN mk ka kb n 50 _ sN j v va vb om im f g (vp_updL fw j x) (vp_updL gw j y) M2 hmk2 hn21 hro (by omega) hlt (by omega) hV2 d1) hmk2.1 rfl tw_529 tw_493 tw_494 tw_3 tw_495 (by decide +kernel) rfl rfl ⟨by decide, by decide⟩ rfl rfl (Nat.le_of_ble_eq_true rfl) d_Pc_find_75 ⟨by decide, by decide⟩) hW hS hA (fun M3 H locs hp hz hW hS => ?_)
            obtain ⟨xq3, yq3, eM3, hmo3⟩ := hp
            rw [uL_uL, uL_uL] at eM3
            have hM3 : ∀ r9, r9 ≠ va → r9 ≠ vb → M3 r9 = M2 r9 := fun r9 z1 z2 => by rw [eM3, va_up_ne _ _ z2, va_up_ne _ _ z1]
            have hV3 : vs_S cJ M3 v va vb om im (vp_updL fw j xq3) (vp_updL gw j yq3) := ⟨(hM3 v u_v_va u_v_vb).trans hV2.1, by rw [eM3, va_up_ne _ _ d1, va_up_self], by rw [eM3, va_up_self]⟩
            have hpc3 : pc_S cI cJ M3 h0 mk ka kb fa la (some a) n f g mm Ff Fl := ⟨(hM3 h0 u_h0_va u_h0_vb).trans hc2, ⟨(hM3 mk u_mk_va u_mk_vb).trans hmk2.1, (hM3 ka (Ne.symm e2) (Ne.symm e4)).trans hmk2.2.1, (hM3 kb (Ne.symm e3) (Ne.symm e5)).trans hmk2.2.2⟩, (hM3 fa u_fa_va u_fa_vb).trans hfa2, (hM3 la u_la_va u_la_vb).trans hla2⟩
            obtain ⟨n7, f7, g7, hI3⟩ := hI2
            have hI4 : mk_S cJ M3 im ia ib n7 f7 g7 := ⟨(hM3 im (Ne.symm u_va_im) (Ne.symm u_vb_im)).trans hI3.1, (hM3 ia (Ne.symm d4) (Ne.symm d8)).trans hI3.2.1, (hM3 ib (Ne.symm d5) (Ne.symm d9)).trans hI3.2.2⟩
            have hfr3 : ∀ r9, r9 ≠ h0 → r9 ≠ mk → r9 ≠ ka → r9 ≠ kb → r9 ≠ fa → r9 ≠ la → r9 ≠ va → r9 ≠ vb → r9 ≠ im → r9 ≠ ia → r9 ≠ ib → M3 r9 = M r9 := fun r9 z0 z1 z2 z3 z4 z5 z6 z7 z8 z9 z10 => (hM3 r9 z6 z7).trans (hfr r9 z0 z1 z2 z3 z4 z5 z6 z7 z8 z9 z10)
            have hE3 : ev_S cJ M3 v va vb om oa ob im ia ib (vp_updL fw j xq3) (vp_updL gw j yq3) := ⟨hV3, ⟨n8, f8, g8, (hfr3 om (Ne.symm u_h0_om) e14 (Ne.symm u_ka_om) (Ne.symm u_kb_om) (Ne.symm u_fa_om) (Ne.symm u_la_om) (Ne.symm u_va_om) (Ne.symm u_vb_om) d16 u_om_ia u_om_ib).trans hmo.1, (hfr3 oa (Ne.symm u_h0_oa) (Ne.symm u_mk_oa) e6 e7 (Ne.symm u_fa_oa) (Ne.symm u_la_oa) (Ne.symm d2) (Ne.symm d6) u_oa_im d12 d13).trans hmo.2.1, (hfr3 ob (Ne.symm u_h0_ob) (Ne.symm u_mk_ob) e8 e9 (Ne.symm u_fa_ob) (Ne.symm u_la_ob) (Ne.symm d3) (Ne.symm d7) u_ob_im d14 d15).trans hmo.2.2⟩, ⟨n7, f7, g7, hI4⟩⟩
            have hT3 : tb_ok cI M3 tb := by
              intro a2 q2 ha2
              obtain ⟨⟨la2, gr2, F2, k1, k2, k3, k4⟩, k5⟩ := hT a2 q2 ha2
              have hl2 := hla9 a2 q2 la2 gr2 _ _ ha2 k1
              have k6 : ∀ x9 y9 z9, M x9 = some (.inr (y9, z9)) → (y9 = 5 ∨ y9 = 2 ∨ y9 = 7) → a2 ≠ x9 := fun x9 y9 z9 w1 w2 w3 => by subst w3; have := Option.some.inj (w1.symm.trans k1.2); simp only [Sum.inr.injEq, Prod.mk.injEq] at this; have := k1.1; omega
              refine ⟨⟨la2, gr2, F2, ⟨k1.1, (hfr3 a2 (k6 _ _ _ hc00 (by omega)) (k6 _ _ _ hmk0.1 (by omega)) (hw_ne k1.2 hmk0.2.1 (by simp)) (hw_ne k1.2 hmk0.2.2 (by simp)) (hw_ne k1.2 hfa0 (by simp)) (hw_ne k1.2 hla0 (by simp)) (hw_ne k1.2 hV.2.1 (by simp)) (hw_ne k1.2 hV.2.2 (by simp)) (k6 _ _ _ hmi.1 (by omega)) (hw_ne k1.2 hmi.2.1 (by simp)) (hw_ne k1.2 hmi.2.2 (by simp))).trans k1.2⟩, ?_, k3, k4⟩, k5⟩
              exact (hfr3 la2 (hw_ne k2 hc00 (by simp)) (hw_ne k2 hmk0.1 (by simp)) (hw_ne k2 hmk0.2.1 (by simp)) (hw_ne k2 hmk0.2.2 (by simp)) hl2.1 hl2.2 (hw_ne k2 hV.2.1 (by simp)) (hw_ne k2 hV.2.2 (by simp)) (hw_ne k2 hmi.1 (by simp)) (hw_ne k2 hmi.2.1 (by simp)) (hw_ne k2 hmi.2.2 (by simp))).trans k2
            have hb3 : vx_b (vp_updL fw j xq3) (vp_updL gw j yq3) (nd q) := by
              intro i hi
              have hvv := VB_mono hd
              have hv1 : VB 1 = 1201 := rfl
              by_cases z1 : i = j
              · subst z1; rw [pk_uLs, pk_uLs]; exact ⟨hmo3.1, by have := hmo3.2.1; omega, by have := hmo3.2.2.1; omega⟩
              · rw [pk_uLn z1, pk_uLn z1, (hw0 i hi).1, (hw0 i hi).2, h1l, h0i]; exact ⟨by omega, by omega, by omega⟩
            refine lv_aload_n hx hb d_Pc_find_78 rfl (lv_at hl 4 rfl) ?_
            refine lv_aload_n hx hb d_Pc_find_79 rfl (lv_at hl 5 rfl) ?_
            obtain ⟨⟨la_a, gr_a, F_a, hc_a, _⟩, _⟩ := hT3 a q hq
            have hrk : nr q ≤ 15 := by have : nk_neg (nK q) ≤ 1 := by { unfold nk_neg; split <;> omega }; omega
            refine hw_calli (it_run 1 rfl (own := "QuantifierOut$Pieces") (rest := []) hx hb hml hown hts hX hW hl.1 (it_all l D cI cJ cZ cN v va vb om oa ob im ia ib tb hD 15 a q hq hrk M3 _ (vp_updL fw j xq3) (vp_updL gw j yq3) hT3 hE3 hb3) hc_a.2 tw_530 rfl rfl ⟨by decide, by decide⟩ rfl (Nat.le_of_ble_eq_true rfl) d_Pc_find_80 ⟨Nat.le_refl 0, Nat.le_refl 0⟩) hW hS hA (fun r3 M4 H locs hp3 hz hW hS => ?_)
            obtain ⟨p1, p2, p3⟩ := hp3
            rw [qf_XY hjo (nP q), (hw0 o (by omega)).1, (hw0 o (by omega)).2, h1l, h0i, hq0] at p1
            have htr : it_b r3 (tt sN) := by
              have h7 := (hnS _).symm.trans (htS sN _ hmo3.2.2.2)
              rcases p1 with ⟨z1, z2⟩ | ⟨z1, z2⟩
              · exact Or.inl ⟨z1, h7.mp z2⟩
              · exact Or.inr ⟨z1, fun z => z2 (h7.mpr z)⟩
            have hq4 : ∀ r9, r9 ≠ im → r9 ≠ ia → r9 ≠ ib → M4 r9 = M3 r9 := fun r9 z1 z2 z3 => p2 r9 (Or.inr ⟨z1, z2, z3⟩) (Or.inl (by omega))
            have hpc4 : pc_S cI cJ M4 h0 mk ka kb fa la (some a) n f g mm Ff Fl := ⟨(hq4 h0 u_h0_im u_h0_ia u_h0_ib).trans hpc3.1, ⟨(hq4 mk (Ne.symm e15) u_mk_ia u_mk_ib).trans hpc3.2.1.1, (hq4 ka u_ka_im (Ne.symm e10) (Ne.symm e12)).trans hpc3.2.1.2.1, (hq4 kb u_kb_im (Ne.symm e11) (Ne.symm e13)).trans hpc3.2.1.2.2⟩, (hq4 fa u_fa_im u_fa_ia u_fa_ib).trans hpc3.2.2.1, (hq4 la u_la_im u_la_ia u_la_ib).trans hpc3.2.2.2⟩
            have hfr4 : ∀ r9, r9 ≠ h0 → r9 ≠ mk → r9 ≠ ka → r9 ≠ kb → r9 ≠ fa → r9 ≠ la → r9 ≠ va → r9 ≠ vb → r9 ≠ im → r9 ≠ ia → r9 ≠ ib → M4 r9 = M r9 := fun r9 z0 z1 z2 z3 z4 z5 z6 z7 z8 z9 z10 => (hq4 r9 z8 z9 z10).trans (hfr3 r9 z0 z1 z2 z3 z4 z5 z6 z7 z8 z9 z10)
            have again : ∀ (H : Heap) (locs : List Loc) (M2 : Nat → Option va_E) (mm : Nat) (Ff Fl : Nat → Int32) (fs lS : Nat → Nat) (ls : Array Slot), hw_W D qcl (qty cI cJ cZ cN) (hw_A M s.heap.size) M2 s H → va_S (hw_A M s.heap.size) s.heap H locs → (∀ r9, r9 ≠ h0 → r9 ≠ mk → r9 ≠ ka → r9 ≠ kb → r9 ≠ fa → r9 ≠ la → r9 ≠ va → r9 ≠ vb → r9 ≠ im → r9 ≠ ia → r9 ≠ ib → M2 r9 = M r9) → pc_S cI cJ M2 h0 mk ka kb fa la (some a) n f g mm Ff Fl → vs_S cJ M2 v va vb om im (vp_updL fw j xq3) (vp_updL gw j yq3) → (∃ n f g, mk_S cJ M2 im ia ib n f g) → (∀ k, k < mm → Ff k = nI (fs k) ∧ Fl k = nI (lS k)) → pj_I tt mm fs lS (sN + 1) r3 → lv_has ls 7 [(6, .int r3), (5, .int (nI sN)), (4, .int ip), (3, .int (nI j)), (0, .ref h0), (1, .ref a), (2, .ref v)] → W p l e ({ frames := 25, cells := 0, slots := 0, locals := 1400 }) s m [.ref h0, .ref a, .ref v].toArray below meth c H locs 0 0 Q9 (F0 m 150 ls []) := by
              intro H locs M2 mm Ff Fl fs lS ls hW hS hfr hpc hV2 hI2 hFs hJ hl
              refine lv_iload hx hb d_Pc_find_150 (lv_at hl 0 rfl) ?_
              refine lv_istore (lv' := [(4, .int r3), (6, .int r3), (5, .int (nI sN)), (3, .int (nI j)), (0, .ref h0), (1, .ref a), (2, .ref v)]) hx hb d_Pc_find_152 hl (by decide) rfl (fun ls hl => ?_)
              obtain ⟨s9, es9⟩ : ∃ y9 : Int32, y9 = (nI sN) + Int32.ofInt (1) := ⟨_, rfl⟩
              refine lv_iinc (v := s9) (lv' := [(5, .int s9), (4, .int r3), (6, .int r3), (3, .int (nI j)), (0, .ref h0), (1, .ref a), (2, .ref v)]) hx hb d_Pc_find_154 hl (k := 2) rfl es9.symm (by decide) rfl (fun ls hl => ?_)
              have es : s9 = nI (sN + 1) := by rw [es9]; exact nI_add sN 1
              subst es
              refine lv_goto (tgt := 55) hx hb d_Pc_find_157 (by decide) ?_
              exact ihz (sN + 1) (by omega) (by omega) H locs M2 xq3 yq3 r3 mm Ff Fl fs lS ls hW hS hfr hpc hV2 hI2 hFs hJ (lv_sub hl [0, 1, 3, 4, 5, 6] rfl)
            refine lv_istore (lv' := [(6, .int r3), (5, .int (nI sN)), (4, .int ip), (3, .int (nI j)), (0, .ref h0), (1, .ref a), (2, .ref v)]) hx hb d_Pc_find_83 hl (by decide) rfl (fun ls hl => ?_)
            refine lv_iload hx hb d_Pc_find_85 (lv_at hl 0 rfl) ?_
            refine lv_if_eq (tgt := 125) hx hb d_Pc_find_87 (by decide) (fun c_87 => ?_) (fun c_87 => ?_)
            · skip
              refine lv_iload hx hb d_Pc_find_125 (lv_at hl 0 rfl) ?_
              refine lv_if_eq (tgt := 150) hx hb d_Pc_find_127 (by decide) (fun c_127 => ?_) (fun c_127 => ?_)
              · skip
                exact again H locs M4 mm Ff Fl fs lS ls hW hS hfr4 hpc4 p3.1 p3.2.2 hFs (by rw [c_87]; exact pj_no hJ (it_b0 htr c_87)) (lv_sub hl [0, 1, 2, 3, 4, 5, 6] rfl)
              · skip
                exact absurd c_87 c_127
            · skip
              have ht := it_b1 htr c_87
              have er3 : r3 = 1 := by rcases htr with ⟨z1, _⟩ | ⟨z1, _⟩; exact z1; exact absurd z1 c_87
              refine lv_iload hx hb d_Pc_find_90 (lv_at hl 2 rfl) ?_
              refine lv_if_ne (tgt := 125) hx hb d_Pc_find_92 (by decide) (fun c_92 => ?_) (fun c_92 => ?_)
              · skip
                obtain ⟨hmp, hJ2⟩ := pj_in hJ ht c_92
                have hk4 := hpc4.1; have hl4 := hpc4.2.2.2
                refine lv_iload hx hb d_Pc_find_125 (lv_at hl 0 rfl) ?_
                refine lv_if_eq (tgt := 150) hx hb d_Pc_find_127 (by decide) (fun c_127 => ?_) (fun c_127 => ?_)
                · skip
                  exact absurd c_127 c_87
                · skip
                  refine lv_aload_n hx hb d_Pc_find_130 rfl (lv_at hl 4 rfl) ?_
                  refine hw_get (own := "QuantifierOut$Pieces") (v := .int (nI mm)) hx hb hts i_Pc hown hW hk4 rfl 3 (by decide) (hts _ tw_82) (fun _ h9 => h9) rfl d_Pc_find_131 ?_
                  refine lv_if_le (tgt := 150) hx hb d_Pc_find_134 (by decide) (fun c_134 => ?_) (fun c_134 => ?_)
                  · skip
                    exact absurd c_134 (nI_nle hmp (by omega))
                  · skip
                    refine lv_aload_n hx hb d_Pc_find_137 rfl (lv_at hl 4 rfl) ?_
                    refine hw_get (own := "QuantifierOut$Pieces") (v := .ref la) hx hb hts i_Pc hown hW hk4 rfl 2 (by decide) (hts _ tw_81) (fun _ h9 => h9) rfl d_Pc_find_138 ?_
                    refine lv_aload_n hx hb d_Pc_find_141 rfl (lv_at hl 4 rfl) ?_
                    refine hw_get (own := "QuantifierOut$Pieces") (v := .int (nI mm)) hx hb hts i_Pc hown hW hk4 rfl 3 (by decide) (hts _ tw_82) (fun _ h9 => h9) rfl d_Pc_find_142 ?_
                    refine lv_iconst (v := 1) hx hb d_Pc_find_145 (by decide) ?_
                    refine lv_isub hx hb d_Pc_find_146 ?_
                    refine lv_topi (fun x3 ex3 => ?_)
                    refine lv_iload hx hb d_Pc_find_147 (lv_at hl 1 rfl) ?_
                    refine hw_ist hx hb hW hS 0 hl4 rfl (mm - 1) (by rw [ex3, show mm = mm - 1 + 1 by omega]; exact nI_pred (mm - 1)) (by omega) (by decide) d_Pc_find_149 (fun H locs hW hS => ?_)
                    have hW : hw_W D qcl (qty cI cJ cZ cN) _ (va_up M4 la (some (.inl (cI, 22, .inl (upd Fl (mm - 1) (nI sN)))))) s H := hW
                    generalize hMw4 : va_up M4 la (some (.inl (cI, 22, .inl (upd Fl (mm - 1) (nI sN))))) = Mw4 at hW
                    have n_h0_la : h0 ≠ la := (hw_ne hk4 hl4 (by simp))
                    have hk4 : Mw4 h0 = some (.inr (5, [.ref mk, .ref fa, .ref la, .int (nI mm), va_rf (some a)])) := by rw [← hMw4, va_up_ne _ _ n_h0_la]; exact hk4
                    have hl4 : Mw4 la = some (.inl (cI, 22, .inl (upd Fl (mm - 1) (nI sN)))) := by rw [← hMw4]; exact va_up_self _ _ _
                    have g9 : ∀ r9, r9 ≠ la → Mw4 r9 = M4 r9 := fun r9 z1 => by rw [← hMw4, va_up_ne _ _ z1]
                    have hpc9 : pc_S cI cJ Mw4 h0 mk ka kb fa la (some a) n f g mm Ff (upd Fl (mm - 1) (nI sN)) := ⟨hk4, ⟨(g9 mk u_mk_la).trans hpc4.2.1.1, (g9 ka u_ka_la).trans hpc4.2.1.2.1, (g9 kb u_kb_la).trans hpc4.2.1.2.2⟩, (g9 fa e16).trans hpc4.2.2.1, hl4⟩
                    have hV9 : vs_S cJ Mw4 v va vb om im (vp_updL fw j xq3) (vp_updL gw j yq3) := ⟨(g9 v (Ne.symm u_la_v)).trans p3.1.1, (g9 va (Ne.symm u_la_va)).trans p3.1.2.1, (g9 vb (Ne.symm u_la_vb)).trans p3.1.2.2⟩
                    obtain ⟨n6, f6, g6, hI6⟩ := p3.2.2
                    have hI9 : ∃ n f g, mk_S cJ Mw4 im ia ib n f g := ⟨n6, f6, g6, (g9 im (Ne.symm u_la_im)).trans hI6.1, (g9 ia (Ne.symm u_la_ia)).trans hI6.2.1, (g9 ib (Ne.symm u_la_ib)).trans hI6.2.2⟩
                    have hfr9 : ∀ r9, r9 ≠ h0 → r9 ≠ mk → r9 ≠ ka → r9 ≠ kb → r9 ≠ fa → r9 ≠ la → r9 ≠ va → r9 ≠ vb → r9 ≠ im → r9 ≠ ia → r9 ≠ ib → Mw4 r9 = M r9 := fun r9 z0 z1 z2 z3 z4 z5 z6 z7 z8 z9 z10 => (g9 r9 z5).trans (hfr4 r9 z0 z1 z2 z3 z4 z5 z6 z7 z8 z9 z10)
                    refine again H locs Mw4 mm Ff (upd Fl (mm - 1) (nI sN)) fs (va_up lS (mm - 1) sN) ls hW hS hfr9 hpc9 hV9 hI9 (fun k9 hk9 => ?_) (by rw [er3]; exact hJ2) (lv_sub hl [0, 1, 2, 3, 4, 5, 6] rfl)
                    have h7 := hFs k9 hk9
                    by_cases z1 : k9 = mm - 1
                    · rw [z1] at h7 ⊢; rw [pk_us, va_up_self]; exact ⟨h7.1, rfl⟩
                    · rw [pk_un z1, va_up_ne _ _ z1]; exact h7
              · skip
                have c_92 := c_92
                obtain ⟨hms, hJ2⟩ := pj_new hJ ht c_92
                have hk4 := hpc4.1; have hf4 := hpc4.2.2.1; have hl4 := hpc4.2.2.2
                refine lv_aload_n hx hb d_Pc_find_95 rfl (lv_at hl 4 rfl) ?_
                refine hw_get (own := "QuantifierOut$Pieces") (v := .int (nI mm)) hx hb hts i_Pc hown hW hk4 rfl 3 (by decide) (hts _ tw_82) (fun _ h9 => h9) rfl d_Pc_find_96 ?_
                refine lv_bipush (v := 22) hx hb d_Pc_find_99 (by decide) ?_
                refine lv_icmp_ge (tgt := 125) hx hb d_Pc_find_101 (by decide) (fun c_101 => ?_) (fun c_101 => ?_)
                · skip
                  exact absurd ((nI_leI (a := 22) (by omega) (by omega)).mp c_101) (by omega)
                · skip
                  refine lv_aload_n hx hb d_Pc_find_104 rfl (lv_at hl 4 rfl) ?_
                  refine hw_get (own := "QuantifierOut$Pieces") (v := .ref fa) hx hb hts i_Pc hown hW hk4 rfl 1 (by decide) (hts _ tw_80) (fun _ h9 => h9) rfl d_Pc_find_105 ?_
                  refine lv_aload_n hx hb d_Pc_find_108 rfl (lv_at hl 4 rfl) ?_
                  refine hw_get (own := "QuantifierOut$Pieces") (v := .int (nI mm)) hx hb hts i_Pc hown hW hk4 rfl 3 (by decide) (hts _ tw_82) (fun _ h9 => h9) rfl d_Pc_find_109 ?_
                  refine lv_iload hx hb d_Pc_find_112 (lv_at hl 1 rfl) ?_
                  refine hw_ist hx hb hW hS 0 hf4 rfl mm rfl (by omega) (by decide) d_Pc_find_114 (fun H locs hW hS => ?_)
                  have hW : hw_W D qcl (qty cI cJ cZ cN) _ (va_up M4 fa (some (.inl (cI, 22, .inl (upd Ff mm (nI sN)))))) s H := hW
                  generalize hMw5 : va_up M4 fa (some (.inl (cI, 22, .inl (upd Ff mm (nI sN))))) = Mw5 at hW
                  have n_h0_fa : h0 ≠ fa := (hw_ne hk4 hf4 (by simp))
                  have hk4 : Mw5 h0 = some (.inr (5, [.ref mk, .ref fa, .ref la, .int (nI mm), va_rf (some a)])) := by rw [← hMw5, va_up_ne _ _ n_h0_fa]; exact hk4
                  have hl4 : Mw5 la = some (.inl (cI, 22, .inl Fl)) := by rw [← hMw5, va_up_ne _ _ (Ne.symm e16)]; exact hl4
                  have hf4 : Mw5 fa = some (.inl (cI, 22, .inl (upd Ff mm (nI sN)))) := by rw [← hMw5]; exact va_up_self _ _ _
                  refine lv_aload_n hx hb d_Pc_find_115 rfl (lv_at hl 4 rfl) ?_
                  refine lv_dup hx hb d_Pc_find_116 rfl ?_
                  refine hw_get (own := "QuantifierOut$Pieces") (v := .int (nI mm)) hx hb hts i_Pc hown hW hk4 rfl 3 (by decide) (hts _ tw_82) (fun _ h9 => h9) rfl d_Pc_find_117 ?_
                  refine lv_iconst (v := 1) hx hb d_Pc_find_120 (by decide) ?_
                  refine lv_iadd hx hb d_Pc_find_121 ?_
                  refine lv_topi (fun x6 ex6 => ?_)
                  refine hw_put (own := "QuantifierOut$Pieces") (v := .int x6) (ty := .int) hx hb hts i_Pc ft_Pc tk_Pc n_Pc hown hW hS hk4 rfl 3 (by decide) (hts _ tw_82) (fun _ h9 => h9) rfl (tk_Pc 3 (by decide)) rfl rfl (Nat.le_of_ble_eq_true rfl) d_Pc_find_122 (fun H locs hW hS => ?_)
                  have hW : hw_W D qcl (qty cI cJ cZ cN) _ (va_up Mw5 h0 (some (.inr (5, [.ref mk, .ref fa, .ref la, .int x6, va_rf (some a)])))) s H := hW
                  generalize hMw7 : va_up Mw5 h0 (some (.inr (5, [.ref mk, .ref fa, .ref la, .int x6, va_rf (some a)]))) = Mw7 at hW
                  have n_la_h0 : la ≠ h0 := (hw_ne hl4 hk4 (by simp))
                  have hl4 : Mw7 la = some (.inl (cI, 22, .inl Fl)) := by rw [← hMw7, va_up_ne _ _ n_la_h0]; exact hl4
                  have hf4 : Mw7 fa = some (.inl (cI, 22, .inl (upd Ff mm (nI sN)))) := by rw [← hMw7, va_up_ne _ _ (Ne.symm n_h0_fa)]; exact hf4
                  have hk4 : Mw7 h0 = some (.inr (5, [.ref mk, .ref fa, .ref la, .int x6, va_rf (some a)])) := by rw [← hMw7]; exact va_up_self _ _ _
                  refine lv_iload hx hb d_Pc_find_125 (lv_at hl 0 rfl) ?_
                  have esz : x6 = nI (mm + 1) := by rw [ex6]; exact nI_1 mm
                  refine lv_if_eq (tgt := 150) hx hb d_Pc_find_127 (by decide) (fun c_127 => ?_) (fun c_127 => ?_)
                  · skip
                    exact absurd c_127 c_87
                  · skip
                    refine lv_aload_n hx hb d_Pc_find_130 rfl (lv_at hl 4 rfl) ?_
                    refine hw_get (own := "QuantifierOut$Pieces") (v := .int x6) hx hb hts i_Pc hown hW hk4 rfl 3 (by decide) (hts _ tw_82) (fun _ h9 => h9) rfl d_Pc_find_131 ?_
                    refine lv_if_le (tgt := 150) hx hb d_Pc_find_134 (by decide) (fun c_134 => ?_) (fun c_134 => ?_)
                    · skip
                      exact absurd c_134 (by rw [esz]; exact nI_nle (by omega) (by omega))
                    · skip
                      refine lv_aload_n hx hb d_Pc_find_137 rfl (lv_at hl 4 rfl) ?_
                      refine hw_get (own := "QuantifierOut$Pieces") (v := .ref la) hx hb hts i_Pc hown hW hk4 rfl 2 (by decide) (hts _ tw_81) (fun _ h9 => h9) rfl d_Pc_find_138 ?_
                      refine lv_aload_n hx hb d_Pc_find_141 rfl (lv_at hl 4 rfl) ?_
                      refine hw_get (own := "QuantifierOut$Pieces") (v := .int x6) hx hb hts i_Pc hown hW hk4 rfl 3 (by decide) (hts _ tw_82) (fun _ h9 => h9) rfl d_Pc_find_142 ?_
                      refine lv_iconst (v := 1) hx hb d_Pc_find_145 (by decide) ?_
                      refine lv_isub hx hb d_Pc_find_146 ?_
                      refine lv_topi (fun x8 ex8 => ?_)
                      refine lv_iload hx hb d_Pc_find_147 (lv_at hl 1 rfl) ?_
                      refine hw_ist hx hb hW hS 0 hl4 rfl mm (by rw [ex8, esz]; exact nI_pred mm) (by omega) (by decide) d_Pc_find_149 (fun H locs hW hS => ?_)
                      have hW : hw_W D qcl (qty cI cJ cZ cN) _ (va_up Mw7 la (some (.inl (cI, 22, .inl (upd Fl mm (nI sN)))))) s H := hW
                      generalize hMw9 : va_up Mw7 la (some (.inl (cI, 22, .inl (upd Fl mm (nI sN))))) = Mw9 at hW
                      have hf4 : Mw9 fa = some (.inl (cI, 22, .inl (upd Ff mm (nI sN)))) := by rw [← hMw9, va_up_ne _ _ e16]; exact hf4
                      have hk4 : Mw9 h0 = some (.inr (5, [.ref mk, .ref fa, .ref la, .int x6, va_rf (some a)])) := by rw [← hMw9, va_up_ne _ _ (Ne.symm n_la_h0)]; exact hk4
                      have hl4 : Mw9 la = some (.inl (cI, 22, .inl (upd Fl mm (nI sN)))) := by rw [← hMw9]; exact va_up_self _ _ _
                      have g9 : ∀ r9, r9 ≠ la → r9 ≠ h0 → r9 ≠ fa → Mw9 r9 = M4 r9 := fun r9 z1 z2 z3 => by rw [← hMw9, va_up_ne _ _ z1, ← hMw7, va_up_ne _ _ z2, ← hMw5, va_up_ne _ _ z3]
                      rw [esz] at hk4
                      have hpc9 : pc_S cI cJ Mw9 h0 mk ka kb fa la (some a) n f g (mm + 1) (upd Ff mm (nI sN)) (upd Fl mm (nI sN)) := ⟨hk4, ⟨(g9 mk u_mk_la (Ne.symm u_h0_mk) u_mk_fa).trans hpc4.2.1.1, (g9 ka u_ka_la (Ne.symm u_h0_ka) u_ka_fa).trans hpc4.2.1.2.1, (g9 kb u_kb_la (Ne.symm u_h0_kb) u_kb_fa).trans hpc4.2.1.2.2⟩, hf4, hl4⟩
                      have hV9 : vs_S cJ Mw9 v va vb om im (vp_updL fw j xq3) (vp_updL gw j yq3) := ⟨(g9 v (Ne.symm u_la_v) (Ne.symm u_h0_v) (Ne.symm u_fa_v)).trans p3.1.1, (g9 va (Ne.symm u_la_va) (Ne.symm u_h0_va) (Ne.symm u_fa_va)).trans p3.1.2.1, (g9 vb (Ne.symm u_la_vb) (Ne.symm u_h0_vb) (Ne.symm u_fa_vb)).trans p3.1.2.2⟩
                      obtain ⟨n6, f6, g6, hI6⟩ := p3.2.2
                      have hI9 : ∃ n f g, mk_S cJ Mw9 im ia ib n f g := ⟨n6, f6, g6, (g9 im (Ne.symm u_la_im) (Ne.symm u_h0_im) (Ne.symm u_fa_im)).trans hI6.1, (g9 ia (Ne.symm u_la_ia) (Ne.symm u_h0_ia) (Ne.symm u_fa_ia)).trans hI6.2.1, (g9 ib (Ne.symm u_la_ib) (Ne.symm u_h0_ib) (Ne.symm u_fa_ib)).trans hI6.2.2⟩
                      have hfr9 : ∀ r9, r9 ≠ h0 → r9 ≠ mk → r9 ≠ ka → r9 ≠ kb → r9 ≠ fa → r9 ≠ la → r9 ≠ va → r9 ≠ vb → r9 ≠ im → r9 ≠ ia → r9 ≠ ib → Mw9 r9 = M r9 := fun r9 z0 z1 z2 z3 z4 z5 z6 z7 z8 z9 z10 => (g9 r9 z5 z0 z4).trans (hfr4 r9 z0 z1 z2 z3 z4 z5 z6 z7 z8 z9 z10)
                      refine again H locs Mw9 (mm + 1) (upd Ff mm (nI sN)) (upd Fl mm (nI sN)) (va_up fs mm sN) (va_up lS mm sN) ls hW hS hfr9 hpc9 hV9 hI9 (fun k9 hk9 => ?_) (by rw [er3]; exact hJ2) (lv_sub hl [0, 1, 2, 3, 4, 5, 6] rfl)
                      by_cases z1 : k9 = mm
                      · rw [z1, pk_us, pk_us, va_up_self, va_up_self]; exact ⟨rfl, rfl⟩
                      · rw [pk_un z1, pk_un z1, va_up_ne _ _ z1, va_up_ne _ _ z1]; exact hFs k9 (by omega)
      have hfrg : ∀ r9, r9 ≠ h0 → r9 ≠ mk → r9 ≠ ka → r9 ≠ kb → r9 ≠ fa → r9 ≠ la → r9 ≠ va → r9 ≠ vb → r9 ≠ im → r9 ≠ ia → r9 ≠ ib → Mg r9 = M r9 := fun r9 z0 z1 z2 z3 z4 z5 z6 z7 z8 z9 z10 => (hfg r9 z1 z2 z3).trans (fr3 r9 z0 z6 z7)
      have hcg : Mg h0 = some (.inr (5, [.ref mk, .ref fa, .ref la, .int 0, va_rf (some a)])) := (hfg h0 u_h0_mk u_h0_ka u_h0_kb).trans hc3
      have hpcg : pc_S cI cJ Mg h0 mk ka kb fa la (some a) n f g 0 Ff0 Fl0 := ⟨hcg, hmk, (hfg fa (Ne.symm u_mk_fa) (Ne.symm u_ka_fa) (Ne.symm u_kb_fa)).trans ((fr3 fa (Ne.symm u_h0_fa) u_fa_va u_fa_vb).trans hfa0), (hfg la (Ne.symm u_mk_la) (Ne.symm u_ka_la) (Ne.symm u_kb_la)).trans ((fr3 la (Ne.symm u_h0_la) u_la_va u_la_vb).trans hla0)⟩
      have hVg : vs_S cJ Mg v va vb om im (vp_updL fw j (fw j)) (vp_updL gw j (gw j)) := by
        rw [uL_id, uL_id]
        exact ⟨(hfg v (Ne.symm u_mk_v) (Ne.symm u_ka_v) (Ne.symm u_kb_v)).trans hV3.1, (hfg va (Ne.symm u_mk_va) e2 e3).trans hV3.2.1, (hfg vb (Ne.symm u_mk_vb) e4 e5).trans hV3.2.2⟩
      refine lv_iconst (v := 0) hx hb d_Pc_find_49 (by decide) ?_
      refine lv_istore (lv' := [(4, .int 0), (3, .int (nI j)), (0, .ref h0), (1, .ref a), (2, .ref v)]) hx hb d_Pc_find_50 hl (by decide) rfl (fun ls hl => ?_)
      refine lv_iconst (v := 0) hx hb d_Pc_find_52 (by decide) ?_
      refine lv_istore (lv' := [(5, .int 0), (4, .int 0), (3, .int (nI j)), (0, .ref h0), (1, .ref a), (2, .ref v)]) hx hb d_Pc_find_53 hl (by decide) rfl (fun ls hl => ?_)
      exact loop (2 * n + 2) 0 (by omega) (by omega) H locs Mg (fw j) (gw j) 0 0 Ff0 Fl0 (fun _ => 0) (fun _ => 0) ls hW hS hfrg hpcg hVg ⟨n9, f9, g9, (hfg im e15 (Ne.symm u_ka_im) (Ne.symm u_kb_im)).trans ((fr3 im (Ne.symm u_h0_im) (Ne.symm u_va_im) (Ne.symm u_vb_im)).trans hmi.1), (hfg ia (Ne.symm u_mk_ia) e10 e11).trans ((fr3 ia (Ne.symm u_h0_ia) (Ne.symm d4) (Ne.symm d8)).trans hmi.2.1), (hfg ib (Ne.symm u_mk_ib) e12 e13).trans ((fr3 ib (Ne.symm u_h0_ib) (Ne.symm d5) (Ne.symm d9)).trans hmi.2.2)⟩ (fun k9 hk9 => absurd hk9 (Nat.not_lt_zero k9)) (pj_0 tt _ _) (lv_sub hl [0, 1, 2, 3, 4, 5] rfl)
    refine lv_if_eq (tgt := 31) hx hb d_Pc_find_24 (by decide) (fun c_24 => ?_) (fun c_24 => ?_)
    · skip
      refine lv_iconst (v := 1) hx hb d_Pc_find_31 (by decide) ?_
      have hnx : nx q = false := by cases hz : nx q; rfl; rw [hz] at erf; rw [c_24] at erf; exact absurd erf (by decide)
      exact rest 1 0 H locs ls rfl (by rw [hnx]; rfl) hW hS (lv_sub hl [0, 1, 2] rfl)
    · skip
      refine lv_iconst (v := 0) hx hb d_Pc_find_27 (by decide) ?_
      refine lv_goto (tgt := 32) hx hb d_Pc_find_28 (by decide) ?_
      have hnx : nx q = true := by cases hz : nx q; rw [hz] at erf; exact absurd erf c_24; rfl
      exact rest 0 1 H locs ls rfl (by rw [hnx]; rfl) hW hS (lv_sub hl [0, 1, 2] rfl)
  · skip
    rw [hQ9]
    exact hw_retv hx hb hr hlocks hW hS ⟨⟨fv, gv, hE⟩, by rw [c_5]; exact hP, fun _ _ _ _ _ _ _ _ _ _ _ _ => rfl⟩ d_Pc_find_8
end G23

/-! Node.grid, findGrid -/
theorem gd_ne {P : Rat → Rat → Prop} {g : Int32} (h : gd_ok P g) : ¬ g = -1 := fun e => by
  have h1 := h.2 31 (by omega) (by omega)
  rw [e, b_m1 31 (by omega)] at h1
  cases h1
theorem gp_0 (P : Rat → Rat → Prop) : gp_ok P 0 0 := ⟨fun i h => absurd h (Nat.not_lt_zero i), fun i _ _ => b_0 i⟩
theorem bt_1 : ∀ i, i < 32 → bt 1 i = decide (i = 0) := by decide +kernel
theorem bt_one (k : Nat) (hk : k < 32) {i : Nat} (hi : i < 32) : bt ((1 : Int32) <<< (nI k &&& 31)) i = decide (i = k) := by
  rw [b_shl k hk 1 hi]
  by_cases h : k ≤ i
  · rw [decide_eq_true h, Bool.true_and, bt_1 (i - k) (by omega)]
    by_cases e : i = k
    · rw [decide_eq_true e, decide_eq_true (by omega)]
    · rw [decide_eq_false e, decide_eq_false (by omega)]
  · rw [decide_eq_false h, Bool.false_and, decide_eq_false (by omega)]
theorem gp_yes {P : Rat → Rat → Prop} {k : Nat} {g : Int32} (h : gp_ok P k g) (hk : k < 25) (hp : gP P k) : gp_ok P (k + 1) (g ||| ((1 : Int32) <<< (nI k &&& 31))) := by
  refine ⟨fun i hi => ?_, fun i h1 h2 => ?_⟩
  · rw [b_or, bt_one k (by omega) (by omega)]
    by_cases e : i = k
    · rw [decide_eq_true e, Bool.or_true, e]; exact ⟨fun _ => hp, fun _ => rfl⟩
    · rw [decide_eq_false e, Bool.or_false]; exact h.1 i (by omega)
  · rw [b_or, bt_one k (by omega) h2, h.2 i (by omega) h2, decide_eq_false (by omega)]; rfl
theorem gp_no {P : Rat → Rat → Prop} {k : Nat} {g : Int32} (h : gp_ok P k g) (hk : k < 25) (hp : ¬ gP P k) : gp_ok P (k + 1) g := by
  refine ⟨fun i hi => ?_, fun i h1 h2 => h.2 i (by omega) h2⟩
  by_cases e : i = k
  · rw [e, h.2 k (Nat.le_refl k) (by omega)]; exact ⟨fun z => (by cases z), fun z => absurd z hp⟩
  · exact h.1 i (by omega)
theorem bt_rd (g : Int32) (k : Nat) (hk : k < 32) : ((g >>> (nI k &&& 31)) &&& 1) = if bt g k = true then 1 else 0 := by
  apply b_ext
  intro i hi
  rw [b_and, b_sshr k hk g hi, bt_1 i hi]
  by_cases e : i = 0
  · subst e
    rw [decide_eq_true rfl, Bool.and_true, Nat.add_zero, if_pos hk]
    cases bt g k
    · rw [if_neg (by decide), b_0]
    · rw [if_pos rfl]; rfl
  · rw [decide_eq_false e, Bool.and_false]
    split
    · rw [bt_1 i hi, decide_eq_false e]
    · rw [b_0]
theorem gd_and {P P1 P2 : Rat → Rat → Prop} {g1 g2 : Int32} (h1 : gd_ok P1 g1) (h2 : gd_ok P2 g2) (h : ∀ x y, P x y ↔ P1 x y ∧ P2 x y) : gd_ok P (g1 &&& g2) := by
  refine ⟨fun i hi => ?_, fun i a b => ?_⟩
  · rw [b_and, Bool.and_eq_true, h1.1 i hi, h2.1 i hi]; exact (h _ _).symm
  · rw [b_and, h1.2 i a b]; rfl
theorem gd_or {P P1 P2 : Rat → Rat → Prop} {g1 g2 : Int32} (h1 : gd_ok P1 g1) (h2 : gd_ok P2 g2) (h : ∀ x y, P x y ↔ P1 x y ∨ P2 x y) : gd_ok P (g1 ||| g2) := by
  refine ⟨fun i hi => ?_, fun i a b => ?_⟩
  · rw [b_or, Bool.or_eq_true, h1.1 i hi, h2.1 i hi]; exact (h _ _).symm
  · rw [b_or, h1.2 i a b, h2.2 i a b]; rfl
theorem bt_wg : ∀ i, i < 32 → bt 33554431 i = decide (i < 25) := by decide +kernel
theorem gd_not {P P1 : Rat → Rat → Prop} {g1 : Int32} (h1 : gd_ok P1 g1) (h : ∀ x y, P x y ↔ ¬ P1 x y) : gd_ok P (33554431 &&& (g1 ^^^ (-1))) := by
  refine ⟨fun i hi => ?_, fun i a b => ?_⟩
  · rw [b_and, b_xor, b_m1 i (by omega), bt_wg i (by omega), decide_eq_true hi, Bool.true_and, Bool.xor_true]
    have h2 : gP P i ↔ ¬ gP P1 i := h _ _
    rw [h2, ← h1.1 i hi]
    cases bt g1 i <;> simp
  · rw [b_and, bt_wg i b, decide_eq_false (by omega)]; rfl
theorem gd_eq {P1 P2 : Rat → Rat → Prop} {g1 g2 : Int32} (h1 : gd_ok P1 g1) (h2 : gd_ok P2 g2) : g1 = g2 ↔ ∀ i, i < 25 → (gP P1 i ↔ gP P2 i) := by
  constructor
  · intro e i hi
    rw [← h1.1 i hi, ← h2.1 i hi, e]
  · intro h
    refine b_ext fun i hi => ?_
    rcases Nat.lt_or_ge i 25 with c | c
    · have := (h1.1 i c).trans ((h i c).trans (h2.1 i c).symm)
      cases e1 : bt g1 i <;> cases e2 : bt g2 i <;> simp_all
    · rw [h1.2 i c hi, h2.2 i c hi]
/-- what may have changed: the values, the marks, and the grids of nodes -/
def gd_fr (va vb om oa ob im ia ib : Nat) (tb : Nat → Option nq) (M M1 : Nat → Option va_E) : Prop := (∀ x, tb x = none → x ≠ va → x ≠ vb → x ≠ om → x ≠ oa → x ≠ ob → x ≠ im → x ≠ ia → x ≠ ib → M1 x = M x) ∧ ∀ x q ci fs, tb x = some q → M x = some (.inr (ci, fs)) → ∃ g : Int32, M1 x = some (.inr (ci, fs.set 3 (.int g)))
theorem gd_fr_tr {va vb om oa ob im ia ib : Nat} {tb : Nat → Option nq} {M M1 M2 : Nat → Option va_E} (h1 : gd_fr va vb om oa ob im ia ib tb M M1) (h2 : gd_fr va vb om oa ob im ia ib tb M1 M2) : gd_fr va vb om oa ob im ia ib tb M M2 := by
  refine ⟨fun x a b c d e f g h i => (h2.1 x a b c d e f g h i).trans (h1.1 x a b c d e f g h i), fun x q ci fs hx hm => ?_⟩
  obtain ⟨g1, k1⟩ := h1.2 x q ci fs hx hm
  obtain ⟨g2, k2⟩ := h2.2 x q ci _ hx k1
  exact ⟨g2, by rw [k2, List.set_set]⟩
theorem gd_tb_none {cI : ClassId} {M : Nat → Option va_E} {tb : Nat → Option nq} (hT : tb_ok cI M tb) {x : Nat} (h : ∀ ci fs, M x = some (.inr (ci, fs)) → ci ≠ 1 ∧ ci ≠ 3 ∧ ci ≠ 4 ∧ ci ≠ 6) : tb x = none := by
  cases e : tb x with
  | none => rfl
  | some q =>
    obtain ⟨⟨la, gr, F, ⟨h1, h2⟩, _⟩, _⟩ := hT x q e
    have := h _ _ h2
    omega
theorem gd_fr_of {cI cJ : ClassId} {v va vb om oa ob im ia ib : Nat} {fv gv : Nat → Int64} {M M1 : Nat → Option va_E} {tb : Nat → Option nq} (hT : tb_ok cI M tb) (hE : ev_S cJ M v va vb om oa ob im ia ib fv gv) (h : ∀ x, x ≠ va → x ≠ vb → x ≠ om → x ≠ oa → x ≠ ob → x ≠ im → x ≠ ia → x ≠ ib → M1 x = M x) : gd_fr va vb om oa ob im ia ib tb M M1 ∧ tb_ok cI M1 tb := by
  obtain ⟨⟨j1, j2, j3⟩, ⟨n1, f1, g1, k1, k2, k3⟩, ⟨n2, f2, g2, m1, m2, m3⟩⟩ := hE
  refine ⟨⟨fun x _ b c d e f g h9 i => h x b c d e f g h9 i, fun x q ci fs hx hm => ?_⟩, tb_kept hT (fun a e ha h1 h2 => h a ?_ ?_ ?_ ?_ ?_ ?_ ?_ ?_)⟩
  · obtain ⟨⟨la, gr, F, ⟨a1, a2⟩, _⟩, _⟩ := hT x q hx
    have hn : ∀ y e, M y = some e → (e = .inl (cJ, 2, .inr (.inl fv)) ∨ (∃ c n f, e = .inl (c, n, .inr (.inl f))) ∨ ∃ z, e = .inr (2, z)) → x ≠ y := fun y e h8 h9 e9 => by
      subst e9
      rw [a2] at h8
      have e5 := Option.some.inj h8
      rcases h9 with h9 | ⟨_, _, _, h9⟩ | ⟨z, h9⟩
      · rw [h9] at e5; cases e5
      · rw [h9] at e5; cases e5
      · rw [h9] at e5; simp only [Sum.inr.injEq, Prod.mk.injEq] at e5; omega
    refine ⟨gr, ?_⟩
    rw [h x (hn _ _ j2 (Or.inr (Or.inl ⟨_, _, _, rfl⟩))) (hn _ _ j3 (Or.inr (Or.inl ⟨_, _, _, rfl⟩))) (hn _ _ k1 (Or.inr (Or.inr ⟨_, rfl⟩))) (hn _ _ k2 (Or.inr (Or.inl ⟨_, _, _, rfl⟩))) (hn _ _ k3 (Or.inr (Or.inl ⟨_, _, _, rfl⟩))) (hn _ _ m1 (Or.inr (Or.inr ⟨_, rfl⟩))) (hn _ _ m2 (Or.inr (Or.inl ⟨_, _, _, rfl⟩))) (hn _ _ m3 (Or.inr (Or.inl ⟨_, _, _, rfl⟩))), hm]
    rw [a2] at hm
    have e5 := Option.some.inj hm
    simp only [Sum.inr.injEq, Prod.mk.injEq] at e5
    obtain ⟨e6, e7⟩ := e5
    rw [← e7]
    rfl
  · intro z; subst z; exact h2 _ _ _ (Option.some.inj (ha.symm.trans j2))
  · intro z; subst z; exact h2 _ _ _ (Option.some.inj (ha.symm.trans j3))
  · intro z; subst z; exact h1 _ (Option.some.inj (ha.symm.trans k1))
  · intro z; subst z; exact h2 _ _ _ (Option.some.inj (ha.symm.trans k2))
  · intro z; subst z; exact h2 _ _ _ (Option.some.inj (ha.symm.trans k3))
  · intro z; subst z; exact h1 _ (Option.some.inj (ha.symm.trans m1))
  · intro z; subst z; exact h2 _ _ _ (Option.some.inj (ha.symm.trans m2))
  · intro z; subst z; exact h2 _ _ _ (Option.some.inj (ha.symm.trans m3))
def gd_post (cI cJ : ClassId) (v va vb om oa ob im ia ib : Nat) (tb : Nat → Option nq) (q : nq) (M : Nat → Option va_E) (r : Int32) (M1 : Nat → Option va_E) : Prop := gd_ok (nP q) r ∧ gd_fr va vb om oa ob im ia ib tb M M1 ∧ tb_ok cI M1 tb ∧ ∃ fv gv, ev_S cJ M1 v va vb om oa ob im ia ib fv gv
def gd_rm (N : Nat) : Room := { frames := 2 * N + 25, cells := 0, slots := 0, locals := 60 * N + 1400 }
def fg_rm (N : Nat) : Room := { frames := 2 * N + 24, cells := 0, slots := 0, locals := 60 * N + 1370 }
def gd_Met (l : Launch) (D : va_G) (cI cJ cZ cN : ClassId) (v va vb om oa ob im ia ib : Nat) (tb : Nat → Option nq) (N : Nat) : Prop :=
  ∀ a q, tb a = some q → nr q ≤ N → ∀ (M : Nat → Option va_E) (sz : Nat) (fv gv : Nat → Int64), tb_ok cI M tb → ev_S cJ M v va vb om oa ob im ia ib fv gv →
    Met l y_Nd_grid (.code y_Nd_grid b_Nd_grid 2 (some .int) :: ww) (gd_rm N) (hw_Pc D qcl (qty cI cJ cZ cN) [.ref a, .ref v] M sz) (va_Qi (gd_post cI cJ v va vb om oa ob im ia ib tb q M) (hw_B D qcl (qty cI cJ cZ cN) M sz) (hw_A M sz)) 0 0 (hw_A M sz)
def fg_y (k : nk) : MethodName := match k with
  | .inl _ => y_Nd_findGrid
  | .inr (.inl _) => y_Pr_findGrid
  | .inr (.inr (.inl _)) => y_Ng_findGrid
  | .inr (.inr (.inr _)) => y_Nd_findGrid
def fg_bc (k : nk) : ByteArray := match k with
  | .inl _ => b_Nd_findGrid
  | .inr (.inl _) => b_Pr_findGrid
  | .inr (.inr (.inl _)) => b_Ng_findGrid
  | .inr (.inr (.inr _)) => b_Nd_findGrid
def fg_ml (k : nk) : Nat := match k with
  | .inl _ => 8
  | .inr (.inl _) => 4
  | .inr (.inr (.inl _)) => 2
  | .inr (.inr (.inr _)) => 8
theorem fg_ml_le (k : nk) : fg_ml k ≤ 8 := by unfold fg_ml; split <;> decide
section G25
section
variable {p : Program} {l : Launch} {e : Env} {R : Room} {s : State} {m : MethodId} {args : Array Value} {below : List Frame} {meth : Method} {c : Code} {H : Heap} {locs : List Loc} {cells slots : Nat} {Q : State → Prop}
variable {cc : ByteArray} {pc : Nat} {ls : Array Slot} {rest : List Value} {D : va_G} {A : Nat → Prop} {tys : List (ClassId × FieldType)} {M : Nat → Option va_E} {H0 : Heap} {a : Nat}
theorem fg_run {k : nk} {nL index : Nat} {rm : Room} {Qc : Array Value → State → Outcome → State → Prop} {free : Addr → Prop} {own : String} {b v : Nat} {fs : List Value} {st0 : List Value}
    (hx : p.tables.exec = Jvm.exec) (hb : c.code = cc) (hml : c.maxLocals = nL) (hown : s.vm.findClass own = some m.cls) (hts : ∀ w ∈ ww, w.before args s = true) (hX : hw_X s) (hW : hw_W D qcl tys A M s H) (hl : ls.size = nL)
    (hM : Met l (fg_y k) (.code (fg_y k) (fg_bc k) (fg_ml k) (some .int) :: ww) rm (hw_Pc D qcl tys [.ref b, .ref v] M H.size) Qc 0 0 free)
    (hbM : M b = some (.inr (nk_ci k, fs)))
    (w1 : Cond.methodLink own index y_Nd_findGrid ∈ ww)
    (hrc : rm.cells = 0) (hrs : rm.slots = 0) (hR : rm.frames + 1 ≤ R.frames ∧ 8 + (8 + 11) + rm.locals ≤ R.locals) (hst : st0 = .ref v :: .ref b :: rest) (hrw : (rest.map fun v => v.category).sum ≤ 8)
    (hdg : decode cc pc = .ok (.invokevirtual index, 3)) (hf : cells ≤ R.cells ∧ slots ≤ R.slots) :
    va_Run p l e R s m args below meth c H locs cells slots 0 0 (F0 m pc ls st0) rest (Qc [Value.ref b, Value.ref v].toArray) free := by
  have hdecl : va_Decl s y_Nd_findGrid := va_Decl.of (hts _ tw_580) (hts _ tw_593)
  have hR2 : ∀ z, z ≤ 8 → rm.frames + 1 ≤ R.frames ∧ 8 + (z + 11) + rm.locals ≤ R.locals := fun z hz => ⟨hR.1, by omega⟩
  match k, hM, hbM with
  | .inl _, hM, hbM => exact hw_runU (n := 1) (C := "QuantifierOut$Atom") (As := [.ref v]) hx hb hml hown hts hX hW hl hM hbM rfl hdecl w1 tw_581 tw_582 tw_580 tw_11 tw_593 (by decide +kernel) hrc hrs (hR2 8 (by decide)) rfl hst hrw hdg hf
  | .inr (.inl _), hM, hbM => exact hw_runU (n := 1) (C := "QuantifierOut$Pair") (As := [.ref v]) hx hb hml hown hts hX hW hl hM hbM rfl hdecl w1 tw_581 tw_588 tw_589 tw_14 tw_590 (by decide +kernel) hrc hrs (hR2 4 (by decide)) rfl hst hrw hdg hf
  | .inr (.inr (.inl _)), hM, hbM => exact hw_runU (n := 1) (C := "QuantifierOut$Negation") (As := [.ref v]) hx hb hml hown hts hX hW hl hM hbM rfl hdecl w1 tw_581 tw_583 tw_584 tw_17 tw_585 (by decide +kernel) hrc hrs (hR2 2 (by decide)) rfl hst hrw hdg hf
  | .inr (.inr (.inr _)), hM, hbM => exact hw_runU (n := 1) (C := "QuantifierOut$Quantified") (As := [.ref v]) hx hb hml hown hts hX hW hl hM hbM rfl hdecl w1 tw_581 tw_592 tw_580 tw_11 tw_593 (by decide +kernel) hrc hrs (hR2 8 (by decide)) rfl hst hrw hdg hf
theorem nd_put3 (hexec : p.tables.exec = Jvm.exec) (hb : c.code = cc) {own : String} {index : Nat} (hts : ∀ w ∈ ww, w.before args s = true) (hown : s.vm.findClass own = some m.cls) (hW : hw_W D qcl tys A M s H) (hS : va_S A H0 H locs) {ci la : Nat} {fr dp gr v : Int32} {ex : List Value} (he : nd_c M a ci fr dp la gr ex) (hlink : Cond.fieldLink own index "QuantifierOut$Node" "grid" "I" ∈ ww) (hdg : decode cc pc = .ok (.putfield index, 3))
    (kk : ∀ (H1 : Heap) (locs1 : List Loc), hw_W D qcl tys A (va_up M a (some (.inr (ci, .int fr :: .int dp :: .ref la :: .int v :: ex)))) s H1 → va_S A H0 H1 locs1 → W p l e R s m args below meth c H1 locs1 cells slots Q (F0 m (pc + 3) ls rest)) : W p l e R s m args below meth c H locs cells slots Q (F0 m pc ls (.int v :: .ref a :: rest)) := by
  obtain ⟨hci, he⟩ := he
  have hlen : 3 < (Value.int fr :: .int dp :: .ref la :: .int gr :: ex).length := by show 3 < ex.length + 1 + 1 + 1 + 1; omega
  rcases hci with rfl | rfl | rfl | rfl
  · exact hw_put (ty := .int) (C := "QuantifierOut$Atom") (T := F_At) (N := 8) hexec hb hts i_At ft_At tk_At n_At hown hW hS he rfl 3 (by decide) (hts _ hlink) (fun _ h9 => h9) rfl (tk_At 3 (by decide)) rfl rfl hlen hdg kk
  · exact hw_put (ty := .int) (C := "QuantifierOut$Negation") (T := F_Ng) (N := 5) hexec hb hts i_Ng ft_Ng tk_Ng n_Ng hown hW hS he rfl 3 (by decide) (hts _ hlink) (fun _ h9 => h9) rfl (tk_Ng 3 (by decide)) rfl rfl hlen hdg kk
  · exact hw_put (ty := .int) (C := "QuantifierOut$Pair") (T := F_Pr) (N := 7) hexec hb hts i_Pr ft_Pr tk_Pr n_Pr hown hW hS he rfl 3 (by decide) (hts _ hlink) (fun _ h9 => h9) rfl (tk_Pr 3 (by decide)) rfl rfl hlen hdg kk
  · exact hw_put (ty := .int) (C := "QuantifierOut$Quantified") (T := F_Qf) (N := 7) hexec hb hts i_Qf ft_Qf tk_Qf n_Qf hown hW hS he rfl 3 (by decide) (hts _ hlink) (fun _ h9 => h9) rfl (tk_Qf 3 (by decide)) rfl rfl hlen hdg kk
end
variable (l : Launch) (D : va_G) (cI cJ cZ cN : ClassId) (v va vb om oa ob im ia ib : Nat) (tb : Nat → Option nq)
set_option maxHeartbeats 4000000 in
set_option maxRecDepth 100000 in
theorem c_Ng_findGrid (N : Nat) (ih : gd_Met l D cI cJ cZ cN v va vb om oa ob im ia ib tb N) (h0 : Nat) (q : nq) (hq : tb h0 = some q) (M : Nat → Option va_E) (sz : Nat) (fv gv : Nat → Int64) (hT : tb_ok cI M tb) (hE : ev_S cJ M v va vb om oa ob im ia ib fv gv) (hN : nr q ≤ N + 1) (a : Nat) (hK : nK q = .inr (.inr (.inl a))) : Met l y_Ng_findGrid (.code y_Ng_findGrid b_Ng_findGrid 2 (some .int) :: ww) (fg_rm (N + 1)) (hw_Pc D qcl (qty cI cJ cZ cN) [.ref h0, .ref v] M sz) (va_Qi (gd_post cI cJ v va vb om oa ob im ia ib tb q M) (hw_B D qcl (qty cI cJ cZ cN) M sz) (hw_A M sz)) 0 0 (hw_A M sz) := by
  obtain ⟨⟨la, gr, F, ⟨_, hc⟩, hla, hF, hg⟩, hok⟩ := hT h0 q hq
  have hk := hok.1
  unfold nk_ok at hk
  unfold nk_ex nk_ci at hc
  rw [hK] at hk hc
  dsimp only at hk hc
  obtain ⟨q1, h1, h2, h3, h4, h5, _⟩ := hk
  refine hw_met (by decide) (Nat.le_of_ble_eq_true rfl) ?_
  intro p e s m below meth c hx hb hr hml hown hlocks hnm hts hsz hX hW ls hl
  subst hsz
  have hA : ∀ q, s.heap.size ≤ q → hw_A M s.heap.size q := fun q h => Or.inr h
  have hS : va_S (hw_A M s.heap.size) s.heap s.heap [] := va_S.rf
  have hl : lv_has ls 2 [(0, .ref h0), (1, .ref v)] := hl
  have hown : s.vm.findClass "QuantifierOut$Negation" = some m.cls := hown
  refine lv_ldc (own := "QuantifierOut$Negation") (v := 33554431) hx hb hown (hts _ tw_586) d_Ng_findGrid_0 ?_
  refine lv_aload_n hx hb d_Ng_findGrid_2 rfl (lv_at hl 0 rfl) ?_
  refine hw_get (own := "QuantifierOut$Negation") (v := .ref a) hx hb hts i_Ng hown hW hc rfl 4 (by decide) (hts _ tw_368) (fun _ h9 => h9) rfl d_Ng_findGrid_3 ?_
  refine lv_aload_n hx hb d_Ng_findGrid_6 rfl (lv_at hl 1 rfl) ?_
  obtain ⟨⟨la_a, gr_a, F_a, hc_a, _⟩, _⟩ := hT a q1 h1
  refine hw_calli (nd_runF (n := 1) (own := "QuantifierOut$Negation") (As := [.ref v]) (rest := [.int 33554431]) hx hb hml hown hts hX hW hl.1 (ih a q1 h1 (by omega) M _ _ _ hT hE) hc_a tw_587 tw_573 tw_574 tw_575 tw_576 tw_577 tw_572 tw_11 tw_578 (by decide +kernel) rfl rfl ⟨by show 2 * N + 25 + 1 ≤ 2 * (N + 1) + 24; omega, by show 8 + (2 + 11) + (60 * N + 1400) ≤ 60 * (N + 1) + 1370; omega⟩ rfl rfl (Nat.le_of_ble_eq_true rfl) d_Ng_findGrid_7 ⟨Nat.le_refl 0, Nat.le_refl 0⟩) hW hS hA (fun r1 M1 H locs hp hz hW hS => ?_)
  obtain ⟨p1, p2, p3, p4⟩ := hp
  refine lv_iconst (v := (-1)) hx hb d_Ng_findGrid_10 (by decide) ?_
  refine lv_ixor hx hb d_Ng_findGrid_11 ?_
  refine lv_topi (fun x1 ex1 => ?_)
  refine lv_iand hx hb d_Ng_findGrid_12 ?_
  refine lv_topi (fun x2 ex2 => ?_)
  refine hw_reti hx hb hr hlocks hW hS ⟨?_, p2, p3, p4⟩ d_Ng_findGrid_13
  rw [ex2, ex1]
  exact gd_not p1 h5
set_option maxHeartbeats 4000000 in
set_option maxRecDepth 100000 in
theorem c_Pr_findGrid (N : Nat) (ih : gd_Met l D cI cJ cZ cN v va vb om oa ob im ia ib tb N) (h0 : Nat) (q : nq) (hq : tb h0 = some q) (M : Nat → Option va_E) (sz : Nat) (fv gv : Nat → Int64) (hT : tb_ok cI M tb) (hE : ev_S cJ M v va vb om oa ob im ia ib fv gv) (hN : nr q ≤ N + 1) (a b : Nat) (kk : Bool) (hK : nK q = .inr (.inl (a, b, kk))) : Met l y_Pr_findGrid (.code y_Pr_findGrid b_Pr_findGrid 4 (some .int) :: ww) (fg_rm (N + 1)) (hw_Pc D qcl (qty cI cJ cZ cN) [.ref h0, .ref v] M sz) (va_Qi (gd_post cI cJ v va vb om oa ob im ia ib tb q M) (hw_B D qcl (qty cI cJ cZ cN) M sz) (hw_A M sz)) 0 0 (hw_A M sz) := by
  obtain ⟨⟨la, gr, F, ⟨hci, hc⟩, hla, hF, hg⟩, hok⟩ := hT h0 q hq
  have hk := hok.1
  unfold nk_ok at hk
  unfold nk_ex nk_ci at hc
  rw [hK] at hk hc
  dsimp only at hk hc
  obtain ⟨q1, q2, h1, h2, h3, h4, h5, h6, h7⟩ := hk
  refine hw_met (by decide) (Nat.le_of_ble_eq_true rfl) ?_
  intro p e s m below meth c hx hb hr hml hown hlocks hnm hts hsz hX hW ls hl
  subst hsz
  have hA : ∀ q, s.heap.size ≤ q → hw_A M s.heap.size q := fun q h => Or.inr h
  have hS : va_S (hw_A M s.heap.size) s.heap s.heap [] := va_S.rf
  have hl : lv_has ls 4 [(0, .ref h0), (1, .ref v)] := hl
  have hown : s.vm.findClass "QuantifierOut$Pair" = some m.cls := hown
  refine lv_aload_n hx hb d_Pr_findGrid_0 rfl (lv_at hl 0 rfl) ?_
  refine hw_get (own := "QuantifierOut$Pair") (v := .ref a) hx hb hts i_Pr hown hW hc rfl 4 (by decide) (hts _ tw_324) (fun _ h9 => h9) rfl d_Pr_findGrid_1 ?_
  refine lv_aload_n hx hb d_Pr_findGrid_4 rfl (lv_at hl 1 rfl) ?_
  obtain ⟨⟨la_a, gr_a, F_a, hc_a, _⟩, _⟩ := hT a q1 h1
  refine hw_calli (nd_runF (n := 1) (own := "QuantifierOut$Pair") (As := [.ref v]) (rest := []) hx hb hml hown hts hX hW hl.1 (ih a q1 h1 (by omega) M _ _ _ hT hE) hc_a tw_591 tw_573 tw_574 tw_575 tw_576 tw_577 tw_572 tw_11 tw_578 (by decide +kernel) rfl rfl ⟨by show 2 * N + 25 + 1 ≤ 2 * (N + 1) + 24; omega, by show 8 + (2 + 11) + (60 * N + 1400) ≤ 60 * (N + 1) + 1370; omega⟩ rfl rfl (Nat.le_of_ble_eq_true rfl) d_Pr_findGrid_5 ⟨Nat.le_refl 0, Nat.le_refl 0⟩) hW hS hA (fun r1 M1 H locs hp hz hW hS => ?_)
  obtain ⟨p1, p2, p3, fv1, gv1, p4⟩ := hp
  obtain ⟨g1, hc1⟩ := p2.2 h0 q _ _ hq hc
  have hc1 : M1 h0 = some (.inr (4, [.int (nd_fr (nx q) (ny q)), .int (nI (nd q)), .ref la, .int g1, .ref a, .ref b, .int (if kk = true then 1 else 0)])) := hc1
  refine lv_istore_n (lv' := [(2, .int r1), (0, .ref h0), (1, .ref v)]) hx hb d_Pr_findGrid_8 rfl hl (by decide) rfl (fun ls hl => ?_)
  refine lv_aload_n hx hb d_Pr_findGrid_9 rfl (lv_at hl 1 rfl) ?_
  refine hw_get (own := "QuantifierOut$Pair") (v := .ref b) hx hb hts i_Pr hown hW hc1 rfl 5 (by decide) (hts _ tw_325) (fun _ h9 => h9) rfl d_Pr_findGrid_10 ?_
  refine lv_aload_n hx hb d_Pr_findGrid_13 rfl (lv_at hl 2 rfl) ?_
  obtain ⟨⟨la_b, gr_b, F_b, hc_b, _⟩, _⟩ := p3 b q2 h2
  refine hw_calli (nd_runF (n := 1) (own := "QuantifierOut$Pair") (As := [.ref v]) (rest := []) hx hb hml hown hts hX hW hl.1 (ih b q2 h2 (by omega) M1 _ _ _ p3 p4) hc_b tw_591 tw_573 tw_574 tw_575 tw_576 tw_577 tw_572 tw_11 tw_578 (by decide +kernel) rfl rfl ⟨by show 2 * N + 25 + 1 ≤ 2 * (N + 1) + 24; omega, by show 8 + (2 + 11) + (60 * N + 1400) ≤ 60 * (N + 1) + 1370; omega⟩ rfl rfl (Nat.le_of_ble_eq_true rfl) d_Pr_findGrid_14 ⟨Nat.le_refl 0, Nat.le_refl 0⟩) hW hS hA (fun r2 M2 H locs hp hz hW hS => ?_)
  obtain ⟨s1, s2, s3, s4⟩ := hp
  obtain ⟨g2, hc2⟩ := s2.2 h0 q _ _ hq hc1
  have hc2 : M2 h0 = some (.inr (4, [.int (nd_fr (nx q) (ny q)), .int (nI (nd q)), .ref la, .int g2, .ref a, .ref b, .int (if kk = true then 1 else 0)])) := hc2
  refine lv_istore_n (lv' := [(3, .int r2), (2, .int r1), (0, .ref h0), (1, .ref v)]) hx hb d_Pr_findGrid_17 rfl hl (by decide) rfl (fun ls hl => ?_)
  refine lv_aload_n hx hb d_Pr_findGrid_18 rfl (lv_at hl 2 rfl) ?_
  refine hw_get (own := "QuantifierOut$Pair") (v := .int (if kk = true then 1 else 0)) hx hb hts i_Pr hown hW hc2 rfl 6 (by decide) (hts _ tw_326) (fun _ h9 => h9) rfl d_Pr_findGrid_19 ?_
  refine lv_if_eq (tgt := 31) hx hb d_Pr_findGrid_22 (by decide) (fun c_22 => ?_) (fun c_22 => ?_)
  · skip
    have hkk : kk = false := by cases kk; rfl; exact absurd c_22 (by decide)
    have h7 : ∀ x y, nP q x y ↔ nP q1 x y ∨ nP q2 x y := fun x y => by rw [h7 x y, hkk, if_neg (by decide)]
    refine lv_iload_n hx hb d_Pr_findGrid_31 rfl (lv_at hl 1 rfl) ?_
    refine lv_iload_n hx hb d_Pr_findGrid_32 rfl (lv_at hl 0 rfl) ?_
    refine lv_ior hx hb d_Pr_findGrid_33 ?_
    refine lv_topi (fun x1 ex1 => ?_)
    refine hw_reti hx hb hr hlocks hW hS ⟨?_, gd_fr_tr p2 s2, s3, s4⟩ d_Pr_findGrid_34
    rw [ex1]
    exact gd_or p1 s1 h7
  · skip
    have hkk : kk = true := by cases kk; exact absurd rfl c_22; rfl
    have h7 : ∀ x y, nP q x y ↔ nP q1 x y ∧ nP q2 x y := fun x y => by rw [h7 x y, hkk, if_pos rfl]
    refine lv_iload_n hx hb d_Pr_findGrid_25 rfl (lv_at hl 1 rfl) ?_
    refine lv_iload_n hx hb d_Pr_findGrid_26 rfl (lv_at hl 0 rfl) ?_
    refine lv_iand hx hb d_Pr_findGrid_27 ?_
    refine lv_topi (fun x2 ex2 => ?_)
    refine lv_goto (tgt := 34) hx hb d_Pr_findGrid_28 (by decide) ?_
    refine hw_reti hx hb hr hlocks hW hS ⟨?_, gd_fr_tr p2 s2, s3, s4⟩ d_Pr_findGrid_34
    rw [ex2]
    exact gd_and p1 s1 h7
set_option maxHeartbeats 4000000 in
set_option maxRecDepth 100000 in
theorem c_Nd_findGrid (N : Nat) (h0 : Nat) (q : nq) (hq : tb h0 = some q) (M : Nat → Option va_E) (sz : Nat) (fv gv : Nat → Int64) (hT : tb_ok cI M tb) (hE : ev_S cJ M v va vb om oa ob im ia ib fv gv) (hD : ev_D va vb om oa ob im ia ib) : Met l y_Nd_findGrid (.code y_Nd_findGrid b_Nd_findGrid 8 (some .int) :: ww) (fg_rm N) (hw_Pc D qcl (qty cI cJ cZ cN) [.ref h0, .ref v] M sz) (va_Qi (gd_post cI cJ v va vb om oa ob im ia ib tb q M) (hw_B D qcl (qty cI cJ cZ cN) M sz) (hw_A M sz)) 0 0 (hw_A M sz) := by
  obtain ⟨⟨la0, gr0, F0_, hc, hla, hF, hg⟩, hok⟩ := hT h0 q hq
  obtain ⟨_, b1, b2, b3, b4, b5, b6, b7, b8⟩ := id hok
  have hrk : nr q ≤ 15 := by have : nk_neg (nK q) ≤ 1 := by { unfold nk_neg; split <;> omega }; omega
  refine hw_met (by decide) (Nat.le_of_ble_eq_true rfl) ?_
  intro p e s m below meth c hx hb hr hml hown hlocks hnm hts hsz hX hW ls hl
  subst hsz
  have hA : ∀ q, s.heap.size ≤ q → hw_A M s.heap.size q := fun q h => Or.inr h
  have hS : va_S (hw_A M s.heap.size) s.heap s.heap [] := va_S.rf
  have hl : lv_has ls 8 [(0, .ref h0), (1, .ref v)] := hl
  have hown : s.vm.findClass "QuantifierOut$Node" = some m.cls := hown
  obtain ⟨Q9, hQ9⟩ : ∃ X : State → Prop, X = MQ below (va_Qi (gd_post cI cJ v va vb om oa ob im ia ib tb q M) (hw_B D qcl (qty cI cJ cZ cN) M s.heap.size) (hw_A M s.heap.size)) [.ref h0, .ref v].toArray s 0 0 (hw_A M s.heap.size) := ⟨_, rfl⟩
  rw [← hQ9]
  refine lv_iconst (v := 0) hx hb d_Nd_findGrid_0 (by decide) ?_
  refine lv_istore_n (lv' := [(2, .int 0), (0, .ref h0), (1, .ref v)]) hx hb d_Nd_findGrid_1 rfl hl (by decide) rfl (fun ls hl => ?_)
  refine lv_iconst (v := 0) hx hb d_Nd_findGrid_2 (by decide) ?_
  refine lv_istore_n (lv' := [(3, .int 0), (2, .int 0), (0, .ref h0), (1, .ref v)]) hx hb d_Nd_findGrid_3 rfl hl (by decide) rfl (fun ls hl => ?_)
  have loop : ∀ (z pl : Nat), pl + z = 25 → ∀ (H : Heap) (locs : List Loc) (M2 : Nat → Option va_E) (f2 g2 : Nat → Int64) (fo : Int32) (ls : Array Slot), hw_W D qcl (qty cI cJ cZ cN) (hw_A M s.heap.size) M2 s H → va_S (hw_A M s.heap.size) s.heap H locs → (∀ x, x ≠ va → x ≠ vb → x ≠ om → x ≠ oa → x ≠ ob → x ≠ im → x ≠ ia → x ≠ ib → M2 x = M x) → ev_S cJ M2 v va vb om oa ob im ia ib f2 g2 → gp_ok (nP q) pl fo → lv_has ls 8 [(3, .int (nI pl)), (2, .int fo), (0, .ref h0), (1, .ref v)] → W p l e (fg_rm N) s m [.ref h0, .ref v].toArray below meth c H locs 0 0 Q9 (F0 m 4 ls []) := by
    intro z
    induction z with
    | zero =>
      intro pl hz H locs M2 f2 g2 fo ls hW hS hfr hE2 hgp hl
      have hpl : pl = 25 := by omega
      subst hpl
      refine lv_iload_n hx hb d_Nd_findGrid_4 rfl (lv_at hl 0 rfl) ?_
      refine lv_bipush (v := 25) hx hb d_Nd_findGrid_5 (by decide) ?_
      refine lv_icmp_ge (tgt := 117) hx hb d_Nd_findGrid_7 (by decide) (fun c_7 => ?_) (fun c_7 => ?_)
      · skip
        refine lv_iload_n hx hb d_Nd_findGrid_117 rfl (lv_at hl 1 rfl) ?_
        rw [hQ9]
        obtain ⟨k1, k2⟩ := gd_fr_of hT hE hfr
        exact hw_reti hx hb hr hlocks hW hS ⟨hgp, k1, k2, f2, g2, hE2⟩ d_Nd_findGrid_118
      · skip
        exact absurd (nI_le (Nat.le_refl 25) (by omega)) c_7
    | succ z ihz =>
      intro pl hz H locs M2 f2 g2 fo ls hW hS hfr hE2 hgp hl
      refine lv_iload_n hx hb d_Nd_findGrid_4 rfl (lv_at hl 0 rfl) ?_
      refine lv_bipush (v := 25) hx hb d_Nd_findGrid_5 (by decide) ?_
      refine lv_icmp_ge (tgt := 117) hx hb d_Nd_findGrid_7 (by decide) (fun c_7 => ?_) (fun c_7 => ?_)
      · skip
        exact absurd c_7 (nI_ge (b := 25) (by omega) (by omega))
      · skip
        obtain ⟨hgf, hT2⟩ := gd_fr_of hT hE hfr
        obtain ⟨⟨la2, gr2, F2, hc2, hla2, _⟩, _⟩ := hT2 h0 q hq
        have again : ∀ (H : Heap) (locs : List Loc) (M2 : Nat → Option va_E) (f2 g2 : Nat → Int64) (fo : Int32) (ls : Array Slot), hw_W D qcl (qty cI cJ cZ cN) (hw_A M s.heap.size) M2 s H → va_S (hw_A M s.heap.size) s.heap H locs → (∀ x, x ≠ va → x ≠ vb → x ≠ om → x ≠ oa → x ≠ ob → x ≠ im → x ≠ ia → x ≠ ib → M2 x = M x) → ev_S cJ M2 v va vb om oa ob im ia ib f2 g2 → gp_ok (nP q) (pl + 1) fo → lv_has ls 8 [(3, .int (nI pl)), (2, .int fo), (0, .ref h0), (1, .ref v)] → W p l e (fg_rm N) s m [.ref h0, .ref v].toArray below meth c H locs 0 0 Q9 (F0 m 111 ls []) := by
          intro H locs M2 f2 g2 fo ls hW hS hfr hE2 hgp hl
          obtain ⟨k9, ek9⟩ : ∃ y9 : Int32, y9 = (nI pl) + Int32.ofInt (1) := ⟨_, rfl⟩
          refine lv_iinc (v := k9) (lv' := [(3, .int k9), (2, .int fo), (0, .ref h0), (1, .ref v)]) hx hb d_Nd_findGrid_111 hl (k := 0) rfl ek9.symm (by decide) rfl (fun ls hl => ?_)
          have ek : k9 = nI (pl + 1) := by rw [ek9]; exact nI_add pl 1
          subst ek
          refine lv_goto (tgt := 4) hx hb d_Nd_findGrid_114 (by decide) ?_
          exact ihz (pl + 1) (by omega) H locs M2 f2 g2 fo ls hW hS hfr hE2 hgp (lv_sub hl [0, 1, 2, 3] rfl)
        have have100 : ∀ (H : Heap) (locs : List Loc) (M2 : Nat → Option va_E) (f2 g2 : Nat → Int64) (tr : Int32) (ls : Array Slot), hw_W D qcl (qty cI cJ cZ cN) (hw_A M s.heap.size) M2 s H → va_S (hw_A M s.heap.size) s.heap H locs → (∀ x, x ≠ va → x ≠ vb → x ≠ om → x ≠ oa → x ≠ ob → x ≠ im → x ≠ ia → x ≠ ib → M2 x = M x) → ev_S cJ M2 v va vb om oa ob im ia ib f2 g2 → it_b tr (gP (nP q) pl) → lv_has ls 8 [(7, .int tr), (3, .int (nI pl)), (2, .int fo), (0, .ref h0), (1, .ref v)] → W p l e (fg_rm N) s m [.ref h0, .ref v].toArray below meth c H locs 0 0 Q9 (F0 m 100 ls []) := by
          intro H locs M2 f2 g2 tr ls hW hS hfr hE2 htr hl
          refine lv_iload hx hb d_Nd_findGrid_100 (lv_at hl 0 rfl) ?_
          refine lv_if_eq (tgt := 111) hx hb d_Nd_findGrid_102 (by decide) (fun c_102 => ?_) (fun c_102 => ?_)
          · skip
            exact again H locs M2 f2 g2 fo ls hW hS hfr hE2 (gp_no hgp (by omega) (it_b0 htr c_102)) (lv_sub hl [1, 2, 3, 4] rfl)
          · skip
            refine lv_iload_n hx hb d_Nd_findGrid_105 rfl (lv_at hl 2 rfl) ?_
            refine lv_iconst (v := 1) hx hb d_Nd_findGrid_106 (by decide) ?_
            refine lv_iload_n hx hb d_Nd_findGrid_107 rfl (lv_at hl 1 rfl) ?_
            refine lv_ishl hx hb d_Nd_findGrid_108 ?_
            refine lv_topi (fun x1 ex1 => ?_)
            refine lv_ior hx hb d_Nd_findGrid_109 ?_
            refine lv_topi (fun x2 ex2 => ?_)
            refine lv_istore_n (lv' := [(2, .int x2), (7, .int tr), (3, .int (nI pl)), (0, .ref h0), (1, .ref v)]) hx hb d_Nd_findGrid_110 rfl hl (by decide) rfl (fun ls hl => ?_)
            exact again H locs M2 f2 g2 x2 ls hW hS hfr hE2 (by rw [ex2, ex1]; exact gp_yes hgp (by omega) (it_b1 htr c_102)) (lv_sub hl [2, 0, 3, 4] rfl)
        obtain ⟨tx, htx⟩ : ∃ t : Nat, t = if nx q = true then pl / 5 else 0 := ⟨_, rfl⟩
        obtain ⟨ty, hty⟩ : ∃ t : Nat, t = if ny q = true then pl % 5 else 0 := ⟨_, rfl⟩
        have htx4 : tx ≤ pl / 5 := by rw [htx]; split <;> omega
        have hty4 : ty ≤ pl % 5 := by rw [hty]; split <;> omega
        have have50 : ∀ (H : Heap) (locs : List Loc) (ls : Array Slot), hw_W D qcl (qty cI cJ cZ cN) (hw_A M s.heap.size) M2 s H → va_S (hw_A M s.heap.size) s.heap H locs → lv_has ls 8 [(5, .int (nI (pl % 5))), (4, .int (nI (pl / 5))), (3, .int (nI pl)), (2, .int fo), (0, .ref h0), (1, .ref v)] → W p l e (fg_rm N) s m [.ref h0, .ref v].toArray below meth c H locs 0 0 Q9 (F0 m 50 ls [.int (nI ty), .int (nI (tx * 5))]) := by
          intro H locs ls hW hS hl
          refine lv_iadd hx hb d_Nd_findGrid_50 ?_
          refine lv_topi (fun x3 ex3 => ?_)
          have etw : x3 = nI (tx * 5 + ty) := by rw [ex3]; exact nI_add _ _
          rw [etw]
          refine lv_istore (lv' := [(6, .int (nI (tx * 5 + ty))), (5, .int (nI (pl % 5))), (4, .int (nI (pl / 5))), (3, .int (nI pl)), (2, .int fo), (0, .ref h0), (1, .ref v)]) hx hb d_Nd_findGrid_51 hl (by decide) rfl (fun ls hl => ?_)
          refine lv_iload hx hb d_Nd_findGrid_53 (lv_at hl 0 rfl) ?_
          refine lv_iload_n hx hb d_Nd_findGrid_55 rfl (lv_at hl 3 rfl) ?_
          refine lv_icmp_ge (tgt := 79) hx hb d_Nd_findGrid_56 (by decide) (fun c_56 => ?_) (fun c_56 => ?_)
          · skip
            refine lv_aload_n hx hb d_Nd_findGrid_79 rfl (lv_at hl 6 rfl) ?_
            refine lv_iload hx hb d_Nd_findGrid_80 (lv_at hl 2 rfl) ?_
            refine lv_bipush (v := (-2)) hx hb d_Nd_findGrid_82 (by decide) ?_
            refine lv_iadd hx hb d_Nd_findGrid_84 ?_
            refine lv_topi (fun x4 ex4 => ?_)
            refine lv_iload hx hb d_Nd_findGrid_85 (lv_at hl 1 rfl) ?_
            refine lv_bipush (v := (-2)) hx hb d_Nd_findGrid_87 (by decide) ?_
            refine lv_iadd hx hb d_Nd_findGrid_89 ?_
            refine lv_topi (fun x5 ex5 => ?_)
            refine hw_callv (hw_runV (n := 2) (own := "QuantifierOut$Node") (As := [.int x4, .int x5]) (rest := []) hx hb hml hown hts hX hW hl.1 (c_Vs_putWhole l D cI cJ cZ cN v va vb om im _ f2 g2 x4 x5 M2 hE2.1 hD.1) hE2.1.1 rfl tw_595 tw_444 tw_445 tw_2 tw_446 (by decide +kernel) rfl rfl ⟨by show 1 + 1 ≤ 2 * N + 24; omega, by show 8 + (3 + 11) + 30 ≤ 60 * N + 1370; omega⟩ rfl rfl (Nat.le_of_ble_eq_true rfl) d_Nd_findGrid_90 ⟨Nat.le_refl 0, Nat.le_refl 0⟩) hW hS hA (fun M3 H locs hp hz hW hS => ?_)
            obtain ⟨f3, hf3⟩ : ∃ X, X = vp_updL (vp_updL f2 0 x4.toInt64) 1 x5.toInt64 := ⟨_, rfl⟩
            obtain ⟨g3, hg3⟩ : ∃ X, X = vp_updL (vp_updL g2 0 1) 1 1 := ⟨_, rfl⟩
            rw [← hf3, ← hg3] at hp
            have fr3 : ∀ r9, r9 ≠ va → r9 ≠ vb → M3 r9 = M2 r9 := fun r9 z2 z3 => by rw [hp, va_up_ne _ _ z3, va_up_ne _ _ z2]
            obtain ⟨hV, ⟨n8, f8, g8, hmo⟩, ⟨n9, f9, g9, hmi⟩⟩ := id hE2
            obtain ⟨d1, d2, d3, d4, d5, d6, d7, d8, d9, d10, d11, d12, d13, d14, d15, d16⟩ := id hD
            have hE3 : ev_S cJ M3 v va vb om oa ob im ia ib f3 g3 := ⟨⟨(fr3 v (hw_ne hV.1 hV.2.1 (by simp)) (hw_ne hV.1 hV.2.2 (by simp))).trans hV.1, by rw [hp, va_up_ne _ _ d1, va_up_self], by rw [hp, va_up_self]⟩, ⟨n8, f8, g8, (fr3 om (hw_ne hmo.1 hV.2.1 (by simp)) (hw_ne hmo.1 hV.2.2 (by simp))).trans hmo.1, (fr3 oa (Ne.symm d2) (Ne.symm d6)).trans hmo.2.1, (fr3 ob (Ne.symm d3) (Ne.symm d7)).trans hmo.2.2⟩, ⟨n9, f9, g9, (fr3 im (hw_ne hmi.1 hV.2.1 (by simp)) (hw_ne hmi.1 hV.2.2 (by simp))).trans hmi.1, (fr3 ia (Ne.symm d4) (Ne.symm d8)).trans hmi.2.1, (fr3 ib (Ne.symm d5) (Ne.symm d9)).trans hmi.2.2⟩⟩
            have hfr3 : (∀ x, x ≠ va → x ≠ vb → x ≠ om → x ≠ oa → x ≠ ob → x ≠ im → x ≠ ia → x ≠ ib → M3 x = M x) := fun x z1 z2 z3 z4 z5 z6 z7 z8 => (fr3 x z1 z2).trans (hfr x z1 z2 z3 z4 z5 z6 z7 z8)
            have hT3 := (gd_fr_of hT hE hfr3).2
            have hX3 : x4.toInt = ((pl / 5 : Nat) : Int) - 2 := by rw [ex4, nm_iadd (by rw [nI_toInt (by omega)]; have : (-2 : Int32).toInt = -2 := rfl; omega), nI_toInt (by omega)]; rfl
            have hY3 : x5.toInt = ((pl % 5 : Nat) : Int) - 2 := by rw [ex5, nm_iadd (by rw [nI_toInt (by omega)]; have : (-2 : Int32).toInt = -2 := rfl; omega), nI_toInt (by omega)]; rfl
            have c0 : f3 0 = x4.toInt64 := by rw [hf3]; rfl
            have c1 : f3 1 = x5.toInt64 := by rw [hf3]; rfl
            have c2 : g3 0 = 1 := by rw [hg3]; rfl
            have c3 : g3 1 = 1 := by rw [hg3]; rfl
            have h1l : (1 : Int64).toInt = 1 := rfl
            have hb3 : vx_b f3 g3 (nd q) := by
              intro i hi
              have hv2 := VB_mono b3
              have hv3 : VB 2 = 60 := rfl
              rcases (show i = 0 ∨ i = 1 by omega) with z9 | z9 <;> subst z9
              · rw [c0, c2, nm_i2l, h1l, hX3]; exact ⟨by omega, by omega, by omega⟩
              · rw [c1, c3, nm_i2l, h1l, hY3]; exact ⟨by omega, by omega, by omega⟩
            refine lv_aload_n hx hb d_Nd_findGrid_93 rfl (lv_at hl 5 rfl) ?_
            refine lv_aload_n hx hb d_Nd_findGrid_94 rfl (lv_at hl 6 rfl) ?_
            obtain ⟨⟨la3, gr3, F3, hc3, _⟩, _⟩ := hT3 h0 q hq
            refine hw_calli (it_run 1 rfl (own := "QuantifierOut$Node") (rest := []) hx hb hml hown hts hX hW hl.1 (it_all l D cI cJ cZ cN v va vb om oa ob im ia ib tb hD 15 h0 q hq hrk M3 _ f3 g3 hT3 hE3 hb3) hc3.2 tw_596 rfl rfl ⟨by show 15 + 5 + 1 ≤ 2 * N + 24; omega, by show 8 + (9 + 11) + (60 * 15 + 260) ≤ 60 * N + 1370; omega⟩ rfl (Nat.le_of_ble_eq_true rfl) d_Nd_findGrid_95 ⟨Nat.le_refl 0, Nat.le_refl 0⟩) hW hS hA (fun tr M4 H locs hp4 hz hW hS => ?_)
            obtain ⟨q1, q2, q3⟩ := hp4
            have hvX : vX f3 g3 = ((((pl / 5 : Nat) : Int) - 2 : Int) : Rat) := by unfold vX; rw [c0, c2, nm_i2l, h1l, hX3, qm_fr_int]
            have hvY : vY f3 g3 = ((((pl % 5 : Nat) : Int) - 2 : Int) : Rat) := by unfold vY; rw [c1, c3, nm_i2l, h1l, hY3, qm_fr_int]
            rw [hvX, hvY] at q1
            refine lv_istore (lv' := [(7, .int tr), (6, .int (nI (tx * 5 + ty))), (5, .int (nI (pl % 5))), (4, .int (nI (pl / 5))), (3, .int (nI pl)), (2, .int fo), (0, .ref h0), (1, .ref v)]) hx hb d_Nd_findGrid_98 hl (by decide) rfl (fun ls hl => ?_)
            have hfr4 : (∀ x, x ≠ va → x ≠ vb → x ≠ om → x ≠ oa → x ≠ ob → x ≠ im → x ≠ ia → x ≠ ib → M4 x = M x) := fun x z1 z2 z3 z4 z5 z6 z7 z8 => (q2 x (Or.inr ⟨z6, z7, z8⟩) (Or.inr ⟨z3, z4, z5⟩)).trans (hfr3 x z1 z2 z3 z4 z5 z6 z7 z8)
            exact have100 H locs M4 f3 g3 tr ls hW hS hfr4 q3 q1 (lv_sub hl [0, 4, 5, 6, 7] rfl)
          · skip
            have htw : tx * 5 + ty < pl := by
              rcases Nat.lt_or_ge (tx * 5 + ty) pl with z9 | z9
              · exact z9
              · exact absurd ((nI_leI (by omega) (by omega)).mpr z9) c_56
            have hgt : gP (nP q) (tx * 5 + ty) ↔ gP (nP q) pl := by
              unfold gP
              have z1 : (tx * 5 + ty) / 5 = tx := by omega
              have z2 : (tx * 5 + ty) % 5 = ty := by omega
              rw [z1, z2]
              have z3 : ∀ y9, nP q ((((tx : Nat) : Int) - 2 : Int) : Rat) y9 ↔ nP q ((((pl / 5 : Nat) : Int) - 2 : Int) : Rat) y9 := fun y9 => by
                cases hnx : nx q
                · exact b7 hnx _ _ _
                · rw [htx, hnx, if_pos rfl]
              have z4 : ∀ x9, nP q x9 ((((ty : Nat) : Int) - 2 : Int) : Rat) ↔ nP q x9 ((((pl % 5 : Nat) : Int) - 2 : Int) : Rat) := fun x9 => by
                cases hny : ny q
                · exact b8 hny _ _ _
                · rw [hty, hny, if_pos rfl]
              exact (z3 _).trans (z4 _)
            have hbt := hgp.1 (tx * 5 + ty) htw
            refine lv_iload_n hx hb d_Nd_findGrid_59 rfl (lv_at hl 4 rfl) ?_
            refine lv_iload hx hb d_Nd_findGrid_60 (lv_at hl 0 rfl) ?_
            refine lv_ishr hx hb d_Nd_findGrid_62 ?_
            refine lv_topi (fun x6 ex6 => ?_)
            refine lv_iconst (v := 1) hx hb d_Nd_findGrid_63 (by decide) ?_
            refine lv_iand hx hb d_Nd_findGrid_64 ?_
            refine lv_topi (fun x7 ex7 => ?_)
            refine lv_iconst (v := 1) hx hb d_Nd_findGrid_65 (by decide) ?_
            have ebit : x7 = if bt fo (tx * 5 + ty) = true then 1 else 0 := by rw [ex7, ex6]; exact bt_rd fo _ (by omega)
            refine lv_icmp_ne (tgt := 73) hx hb d_Nd_findGrid_66 (by decide) (fun c_66 => ?_) (fun c_66 => ?_)
            · skip
              refine lv_iconst (v := 0) hx hb d_Nd_findGrid_73 (by decide) ?_
              refine lv_istore (lv' := [(7, .int 0), (6, .int (nI (tx * 5 + ty))), (5, .int (nI (pl % 5))), (4, .int (nI (pl / 5))), (3, .int (nI pl)), (2, .int fo), (0, .ref h0), (1, .ref v)]) hx hb d_Nd_findGrid_74 hl (by decide) rfl (fun ls hl => ?_)
              refine lv_goto (tgt := 100) hx hb d_Nd_findGrid_76 (by decide) ?_
              have hbf : ¬ bt fo (tx * 5 + ty) = true := fun z9 => c_66 (by rw [ebit, if_pos z9])
              exact have100 H locs M2 f2 g2 0 ls hW hS hfr hE2 (Or.inr ⟨rfl, fun z9 => hbf (hbt.mpr (hgt.mpr z9))⟩) (lv_sub hl [0, 4, 5, 6, 7] rfl)
            · skip
              refine lv_iconst (v := 1) hx hb d_Nd_findGrid_69 (by decide) ?_
              refine lv_goto (tgt := 74) hx hb d_Nd_findGrid_70 (by decide) ?_
              refine lv_istore (lv' := [(7, .int 1), (6, .int (nI (tx * 5 + ty))), (5, .int (nI (pl % 5))), (4, .int (nI (pl / 5))), (3, .int (nI pl)), (2, .int fo), (0, .ref h0), (1, .ref v)]) hx hb d_Nd_findGrid_74 hl (by decide) rfl (fun ls hl => ?_)
              refine lv_goto (tgt := 100) hx hb d_Nd_findGrid_76 (by decide) ?_
              have hbf : bt fo (tx * 5 + ty) = true := by cases hz9 : bt fo (tx * 5 + ty); rw [hz9, if_neg (by decide)] at ebit; rw [ebit] at c_66; exact absurd c_66 (by decide); rfl
              exact have100 H locs M2 f2 g2 1 ls hW hS hfr hE2 (Or.inl ⟨rfl, hgt.mp (hbt.mp hbf)⟩) (lv_sub hl [0, 4, 5, 6, 7] rfl)
        have have34 : ∀ (H : Heap) (locs : List Loc) (ls : Array Slot), hw_W D qcl (qty cI cJ cZ cN) (hw_A M s.heap.size) M2 s H → va_S (hw_A M s.heap.size) s.heap H locs → lv_has ls 8 [(5, .int (nI (pl % 5))), (4, .int (nI (pl / 5))), (3, .int (nI pl)), (2, .int fo), (0, .ref h0), (1, .ref v)] → W p l e (fg_rm N) s m [.ref h0, .ref v].toArray below meth c H locs 0 0 Q9 (F0 m 34 ls [.int (nI tx)]) := by
          intro H locs ls hW hS hl
          refine lv_iconst (v := 5) hx hb d_Nd_findGrid_34 (by decide) ?_
          refine lv_imul hx hb d_Nd_findGrid_35 ?_
          refine lv_topi (fun x8 ex8 => ?_)
          have et5 : x8 = nI (tx * 5) := by rw [ex8]; exact pk_mul tx 5
          rw [et5]
          refine lv_aload_n hx hb d_Nd_findGrid_36 rfl (lv_at hl 4 rfl) ?_
          refine lv_iconst (v := 1) hx hb d_Nd_findGrid_37 (by decide) ?_
          refine hw_calli (nd_runF (n := 1) (own := "QuantifierOut$Node") (As := [.int 1]) (rest := [.int (nI (tx * 5))]) hx hb hml hown hts hX hW hl.1 (c_Nd_isFree l D cI cJ cZ cN h0 (nk_ci (nK q)) la2 1 _ (nx q) (ny q) (nI (nd q)) gr2 (nk_ex q) M2 hc2 (by omega)) hc2 tw_594 tw_425 tw_426 tw_427 tw_428 tw_429 tw_424 tw_11 tw_430 (by decide +kernel) rfl rfl ⟨by show 0 + 1 ≤ 2 * N + 24; omega, by show 8 + (2 + 11) + 0 ≤ 60 * N + 1370; omega⟩ rfl rfl (Nat.le_of_ble_eq_true rfl) d_Nd_findGrid_38 ⟨Nat.le_refl 0, Nat.le_refl 0⟩) hW hS hA (fun ry Mfry H locs hpf hz hW hS => ?_)
          obtain ⟨ery, eMf⟩ := hpf
          rw [eMf] at hW
          have ery : ry = if ny q = true then 1 else 0 := ery
          refine lv_if_eq (tgt := 49) hx hb d_Nd_findGrid_41 (by decide) (fun c_41 => ?_) (fun c_41 => ?_)
          · skip
            refine lv_iconst (v := 0) hx hb d_Nd_findGrid_49 (by decide) ?_
            have hny : ny q = false := by cases hz9 : ny q; rfl; rw [hz9] at ery; rw [c_41] at ery; exact absurd ery (by decide)
            have : ty = 0 := by rw [hty, hny]; rfl
            subst this
            exact have50 H locs ls hW hS hl
          · skip
            refine lv_iload hx hb d_Nd_findGrid_44 (lv_at hl 0 rfl) ?_
            refine lv_goto (tgt := 50) hx hb d_Nd_findGrid_46 (by decide) ?_
            have hny : ny q = true := by cases hz9 : ny q; rw [hz9] at ery; exact absurd ery c_41; rfl
            have : ty = pl % 5 := by rw [hty, hny, if_pos rfl]
            rw [← this]
            exact have50 H locs ls hW hS hl
        refine lv_iload_n hx hb d_Nd_findGrid_10 rfl (lv_at hl 0 rfl) ?_
        refine lv_iconst (v := 5) hx hb d_Nd_findGrid_11 (by decide) ?_
        refine lv_idiv hx hb d_Nd_findGrid_12 (by decide) ?_
        refine lv_topi (fun xd exd => ?_)
        have exd2 : xd = nI (pl / 5) := by rw [exd]; exact pk_div (a := pl) (d := 5) (by omega) (by omega) (by omega)
        rw [exd2]
        refine lv_istore (lv' := [(4, .int (nI (pl / 5))), (3, .int (nI pl)), (2, .int fo), (0, .ref h0), (1, .ref v)]) hx hb d_Nd_findGrid_13 hl (by decide) rfl (fun ls hl => ?_)
        refine lv_iload_n hx hb d_Nd_findGrid_15 rfl (lv_at hl 1 rfl) ?_
        refine lv_iconst (v := 5) hx hb d_Nd_findGrid_16 (by decide) ?_
        refine lv_irem hx hb d_Nd_findGrid_17 (by decide) ?_
        refine lv_topi (fun yd eyd => ?_)
        have eyd2 : yd = nI (pl % 5) := by rw [eyd]; exact pk_rem (a := pl) (d := 5) (by omega) (by omega) (by omega)
        rw [eyd2]
        refine lv_istore (lv' := [(5, .int (nI (pl % 5))), (4, .int (nI (pl / 5))), (3, .int (nI pl)), (2, .int fo), (0, .ref h0), (1, .ref v)]) hx hb d_Nd_findGrid_18 hl (by decide) rfl (fun ls hl => ?_)
        refine lv_aload_n hx hb d_Nd_findGrid_20 rfl (lv_at hl 4 rfl) ?_
        refine lv_iconst (v := 0) hx hb d_Nd_findGrid_21 (by decide) ?_
        refine hw_calli (nd_runF (n := 1) (own := "QuantifierOut$Node") (As := [.int 0]) (rest := []) hx hb hml hown hts hX hW hl.1 (c_Nd_isFree l D cI cJ cZ cN h0 (nk_ci (nK q)) la2 0 _ (nx q) (ny q) (nI (nd q)) gr2 (nk_ex q) M2 hc2 (by omega)) hc2 tw_594 tw_425 tw_426 tw_427 tw_428 tw_429 tw_424 tw_11 tw_430 (by decide +kernel) rfl rfl ⟨by show 0 + 1 ≤ 2 * N + 24; omega, by show 8 + (2 + 11) + 0 ≤ 60 * N + 1370; omega⟩ rfl rfl (Nat.le_of_ble_eq_true rfl) d_Nd_findGrid_22 ⟨Nat.le_refl 0, Nat.le_refl 0⟩) hW hS hA (fun rx Mfrx H locs hpf hz hW hS => ?_)
        obtain ⟨erx, eMf⟩ := hpf
        rw [eMf] at hW
        rw [if_pos rfl] at erx
        refine lv_if_eq (tgt := 33) hx hb d_Nd_findGrid_25 (by decide) (fun c_25 => ?_) (fun c_25 => ?_)
        · skip
          refine lv_iconst (v := 0) hx hb d_Nd_findGrid_33 (by decide) ?_
          have hnx : nx q = false := by cases hz9 : nx q; rfl; rw [hz9] at erx; rw [c_25] at erx; exact absurd erx (by decide)
          have : tx = 0 := by rw [htx, hnx]; rfl
          subst this
          exact have34 H locs ls hW hS hl
        · skip
          refine lv_iload hx hb d_Nd_findGrid_28 (lv_at hl 1 rfl) ?_
          refine lv_goto (tgt := 34) hx hb d_Nd_findGrid_30 (by decide) ?_
          have hnx : nx q = true := by cases hz9 : nx q; rw [hz9] at erx; exact absurd erx c_25; rfl
          have : tx = pl / 5 := by rw [htx, hnx, if_pos rfl]
          rw [← this]
          exact have34 H locs ls hW hS hl
  exact loop 25 0 rfl s.heap [] M fv gv 0 ls hW hS (fun _ _ _ _ _ _ _ _ _ => rfl) hE (gp_0 _) (lv_sub hl [0, 1, 2, 3] rfl)
theorem fg_all (N : Nat) (ih : ∀ N', N' < N → gd_Met l D cI cJ cZ cN v va vb om oa ob im ia ib tb N') (hD : ev_D va vb om oa ob im ia ib) (a : Nat) (q : nq) (hq : tb a = some q) (hN : nr q ≤ N) (M : Nat → Option va_E) (sz : Nat) (fv gv : Nat → Int64) (hT : tb_ok cI M tb) (hE : ev_S cJ M v va vb om oa ob im ia ib fv gv) :
    Met l (fg_y (nK q)) (.code (fg_y (nK q)) (fg_bc (nK q)) (fg_ml (nK q)) (some .int) :: ww) (fg_rm N) (hw_Pc D qcl (qty cI cJ cZ cN) [.ref a, .ref v] M sz) (va_Qi (gd_post cI cJ v va vb om oa ob im ia ib tb q M) (hw_B D qcl (qty cI cJ cZ cN) M sz) (hw_A M sz)) 0 0 (hw_A M sz) := by
  have hk := (hT a q hq).2.1
  unfold nk_ok at hk
  rcases hK : nK q with op | ⟨a1, b1, k1⟩ | a1 | ⟨j1, a1, k1⟩
  · exact c_Nd_findGrid l D cI cJ cZ cN v va vb om oa ob im ia ib tb N a q hq M sz fv gv hT hE hD
  · rw [hK] at hk
    obtain ⟨q1, q2, h1, h2, h3, h4, _⟩ := hk
    obtain ⟨N', rfl⟩ : ∃ N', N = N' + 1 := ⟨N - 1, by omega⟩
    exact c_Pr_findGrid l D cI cJ cZ cN v va vb om oa ob im ia ib tb N' (ih N' (by omega)) a q hq M sz fv gv hT hE hN a1 b1 k1 hK
  · rw [hK] at hk
    obtain ⟨q1, h1, h2, _⟩ := hk
    obtain ⟨N', rfl⟩ : ∃ N', N = N' + 1 := ⟨N - 1, by omega⟩
    exact c_Ng_findGrid l D cI cJ cZ cN v va vb om oa ob im ia ib tb N' (ih N' (by omega)) a q hq M sz fv gv hT hE hN a1 hK
  · exact c_Nd_findGrid l D cI cJ cZ cN v va vb om oa ob im ia ib tb N a q hq M sz fv gv hT hE hD
set_option maxHeartbeats 4000000 in
set_option maxRecDepth 100000 in
theorem c_Nd_grid (N : Nat) (ih : ∀ N', N' < N → gd_Met l D cI cJ cZ cN v va vb om oa ob im ia ib tb N') (hD : ev_D va vb om oa ob im ia ib) (h0 : Nat) (q : nq) (hq : tb h0 = some q) (M : Nat → Option va_E) (sz : Nat) (fv gv : Nat → Int64) (hT : tb_ok cI M tb) (hE : ev_S cJ M v va vb om oa ob im ia ib fv gv) (hN : nr q ≤ N) : Met l y_Nd_grid (.code y_Nd_grid b_Nd_grid 2 (some .int) :: ww) (gd_rm N) (hw_Pc D qcl (qty cI cJ cZ cN) [.ref h0, .ref v] M sz) (va_Qi (gd_post cI cJ v va vb om oa ob im ia ib tb q M) (hw_B D qcl (qty cI cJ cZ cN) M sz) (hw_A M sz)) 0 0 (hw_A M sz) := by
  obtain ⟨⟨la, gr, F, hc, hla, hF, hg⟩, hok⟩ := id (hT h0 q hq)
  refine hw_met (by decide) (Nat.le_of_ble_eq_true rfl) ?_
  intro p e s m below meth c hx hb hr hml hown hlocks hnm hts hsz hX hW ls hl
  subst hsz
  have hA : ∀ q, s.heap.size ≤ q → hw_A M s.heap.size q := fun q h => Or.inr h
  have hS : va_S (hw_A M s.heap.size) s.heap s.heap [] := va_S.rf
  have hl : lv_has ls 2 [(0, .ref h0), (1, .ref v)] := hl
  have hown : s.vm.findClass "QuantifierOut$Node" = some m.cls := hown
  refine lv_aload_n hx hb d_Nd_grid_0 rfl (lv_at hl 0 rfl) ?_
  refine nd_get3 (own := "QuantifierOut$Node") hx hb hts hown hW hc tw_246 d_Nd_grid_1 ?_
  refine lv_iconst (v := (-1)) hx hb d_Nd_grid_4 (by decide) ?_
  refine lv_icmp_ne (tgt := 17) hx hb d_Nd_grid_5 (by decide) (fun c_5 => ?_) (fun c_5 => ?_)
  · skip
    refine lv_aload_n hx hb d_Nd_grid_17 rfl (lv_at hl 0 rfl) ?_
    refine nd_get3 (own := "QuantifierOut$Node") hx hb hts hown hW hc tw_246 d_Nd_grid_18 ?_
    exact hw_reti hx hb hr hlocks hW hS ⟨hg.resolve_left c_5, (gd_fr_of hT hE (fun _ _ _ _ _ _ _ _ _ => rfl)).1, hT, fv, gv, hE⟩ d_Nd_grid_21
  · skip
    refine lv_aload_n hx hb d_Nd_grid_8 rfl (lv_at hl 0 rfl) ?_
    refine lv_aload_n hx hb d_Nd_grid_9 rfl (lv_at hl 0 rfl) ?_
    refine lv_aload_n hx hb d_Nd_grid_10 rfl (lv_at hl 1 rfl) ?_
    refine hw_calli (fg_run (k := nK q) (own := "QuantifierOut$Node") (rest := [.ref h0]) hx hb hml hown hts hX hW hl.1 (fg_all l D cI cJ cZ cN v va vb om oa ob im ia ib tb N ih hD h0 q hq hN M _ fv gv hT hE) hc.2 tw_579 rfl rfl ⟨by show 2 * N + 24 + 1 ≤ 2 * N + 25; omega, by show 8 + (8 + 11) + (60 * N + 1370) ≤ 60 * N + 1400; omega⟩ rfl (Nat.le_of_ble_eq_true rfl) d_Nd_grid_11 ⟨Nat.le_refl 0, Nat.le_refl 0⟩) hW hS hA (fun r1 M1 H locs hp hz hW hS => ?_)
    obtain ⟨p1, p2, p3, fv1, gv1, p4⟩ := hp
    obtain ⟨g1, hc1⟩ := p2.2 h0 q _ _ hq hc.2
    have hc1 : nd_c M1 h0 (nk_ci (nK q)) (nd_fr (nx q) (ny q)) (nI (nd q)) la g1 (nk_ex q) := ⟨hc.1, hc1⟩
    refine nd_put3 (own := "QuantifierOut$Node") hx hb hts hown hW hS hc1 tw_246 d_Nd_grid_14 (fun H locs hW hS => ?_)
    generalize hM2 : va_up M1 h0 (some (.inr (nk_ci (nK q), .int (nd_fr (nx q) (ny q)) :: .int (nI (nd q)) :: .ref la :: .int r1 :: nk_ex q))) = M2 at hW
    have hc2 : nd_c M2 h0 (nk_ci (nK q)) (nd_fr (nx q) (ny q)) (nI (nd q)) la r1 (nk_ex q) := ⟨hc.1, by rw [← hM2]; exact va_up_self _ _ _⟩
    have hn2 : ∀ x, x ≠ h0 → M2 x = M1 x := fun x z1 => by rw [← hM2]; exact va_up_ne _ _ z1
    refine lv_aload_n hx hb d_Nd_grid_17 rfl (lv_at hl 0 rfl) ?_
    refine nd_get3 (own := "QuantifierOut$Node") hx hb hts hown hW hc2 tw_246 d_Nd_grid_18 ?_
    refine hw_reti hx hb hr hlocks hW hS ⟨p1, ⟨?_, ?_⟩, ?_, fv1, gv1, ?_⟩ d_Nd_grid_21
    · intro x z0 z1 z2 z3 z4 z5 z6 z7 z8
      rw [hn2 x (fun z9 => by rw [z9, hq] at z0; cases z0)]; exact p2.1 x z0 z1 z2 z3 z4 z5 z6 z7 z8
    · intro x q9 ci fs hx9 hm9
      by_cases z9 : x = h0
      · subst z9
        rw [hc.2] at hm9
        have e5 := Option.some.inj hm9
        simp only [Sum.inr.injEq, Prod.mk.injEq] at e5
        obtain ⟨e6, e7⟩ := e5
        exact ⟨r1, by rw [← e6, ← e7]; exact hc2.2⟩
      · rw [hn2 x z9]; exact p2.2 x q9 ci fs hx9 hm9
    · intro x q9 hx9
      obtain ⟨⟨la9, gr9, F9, k1, k2, k3, k4⟩, k5⟩ := p3 x q9 hx9
      have hl9 : la9 ≠ h0 := hw_ne k2 hc1.2 (by simp)
      by_cases z9 : x = h0
      · subst z9
        have : q9 = q := Option.some.inj (hx9.symm.trans hq)
        subst this
        have e5 := Option.some.inj (k1.2.symm.trans hc1.2)
        simp only [Sum.inr.injEq, Prod.mk.injEq, List.cons.injEq, Value.ref.injEq] at e5
        obtain ⟨_, _, _, e6, _⟩ := e5
        subst e6
        exact ⟨⟨la9, r1, F9, hc2, (hn2 la9 hl9).trans k2, k3, Or.inr p1⟩, k5⟩
      · exact ⟨⟨la9, gr9, F9, ⟨k1.1, (hn2 x z9).trans k1.2⟩, (hn2 la9 hl9).trans k2, k3, k4⟩, k5⟩
    · obtain ⟨⟨j1, j2, j3⟩, ⟨n1, f1, g1, m1, m2, m3⟩, ⟨n2, f2, g2, o1, o2, o3⟩⟩ := p4
      have hci : ∀ x9 y9 z9, M1 x9 = some (.inr (y9, z9)) → (y9 = 2 ∨ y9 = 7) → x9 ≠ h0 := fun x9 y9 z9 w1 w2 w3 => by subst w3; have := Option.some.inj (w1.symm.trans hc1.2); simp only [Sum.inr.injEq, Prod.mk.injEq] at this; have := hc1.1; omega
      exact ⟨⟨(hn2 v (hci _ _ _ j1 (by omega))).trans j1, (hn2 va (hw_ne j2 hc1.2 (by simp))).trans j2, (hn2 vb (hw_ne j3 hc1.2 (by simp))).trans j3⟩, ⟨n1, f1, g1, (hn2 om (hci _ _ _ m1 (by omega))).trans m1, (hn2 oa (hw_ne m2 hc1.2 (by simp))).trans m2, (hn2 ob (hw_ne m3 hc1.2 (by simp))).trans m3⟩, ⟨n2, f2, g2, (hn2 im (hci _ _ _ o1 (by omega))).trans o1, (hn2 ia (hw_ne o2 hc1.2 (by simp))).trans o2, (hn2 ib (hw_ne o3 hc1.2 (by simp))).trans o3⟩⟩
theorem gd_all (hD : ev_D va vb om oa ob im ia ib) (N : Nat) : gd_Met l D cI cJ cZ cN v va vb om oa ob im ia ib tb N := by
  have h : ∀ n N', N' < n → gd_Met l D cI cJ cZ cN v va vb om oa ob im ia ib tb N' := by
    intro n
    induction n with
    | zero => intro N' h; omega
    | succ n ih =>
      intro N' hN'
      intro a q hq hr M sz fv gv hT hE
      exact c_Nd_grid l D cI cJ cZ cN v va vb om oa ob im ia ib tb N' (fun N2 h2 => ih N2 (by omega)) hD a q hq M sz fv gv hT hE hr
  exact h (N + 1) N (by omega)
end G25

/-! QuantifierOut: atom, both, either, not, some, every -/
/-- the object stands, with n nodes of the meanings qs -/
def qo_J (cI cJ cN : ClassId) (h0 na v va vb om oa ob im ia ib ro mk ka kb fa la : Nat) (Z : Nat → Prop) (M : Nat → Option va_E) (n : Nat) (qs : Nat → nq) : Prop := ∃ (tb : Nat → Option nq) (ad : Nat → Nat), qo_I cI cJ cN h0 na v va vb om oa ob im ia ib ro mk ka kb fa la Z M tb n ad qs
/-- a node more, of which X is true -/
def qo_P (cI cJ cN : ClassId) (h0 na v va vb om oa ob im ia ib ro mk ka kb fa la : Nat) (Z : Nat → Prop) (M : Nat → Option va_E) (n : Nat) (qs : Nat → nq) (X : nq → Prop) (r : Int32) (M1 : Nat → Option va_E) : Prop := r = nI n ∧ n < 60 ∧ (∃ q, X q ∧ qo_J cI cJ cN h0 na v va vb om oa ob im ia ib ro mk ka kb fa la Z M1 (n + 1) (va_up qs n q)) ∧ ∀ z, Z z → M1 z = M z
/-- refused: the world is as it was -/
def qo_N (X : String → Prop) (M : Nat → Option va_E) (E : String) (M1 : Nat → Option va_E) : Prop := X E ∧ M1 = M
theorem nq_atom {tb : Nat → Option nq} {L : Int × Int × Int} {o : Nat} (ho : o < 3) (hL : L.1.natAbs ≤ 5 ∧ L.2.1.natAbs ≤ 5 ∧ L.2.2.natAbs ≤ 5) : nq_ok tb (qm_atom L o, [L], true, true, 0, 0, .inl o) :=
  ⟨⟨L, rfl, fun _ _ => Iff.rfl, ho, rfl, rfl, rfl⟩, Nat.le_refl 1, by show 1 ≤ 6; omega, Nat.zero_le 2, Nat.le_refl 2, fun l hl => by rw [List.mem_singleton.mp hl]; exact hL, qm_inv_atom L o, (fun h => by cases h), (fun h => by cases h)⟩
def np_P (kk : Bool) (P1 P2 : Rat → Rat → Prop) (x y : Rat) : Prop := if kk = true then P1 x y ∧ P2 x y else P1 x y ∨ P2 x y
def np_q (a b : Nat) (kk : Bool) (q1 q2 : nq) : nq := (np_P kk (nP q1) (nP q2), nL q1 ++ nL q2, nx q1 || nx q2, ny q1 || ny q2, max (nd q1) (nd q2), max (nr q1) (nr q2) + 1, .inr (.inl (a, b, kk)))
theorem nq_pair {tb : Nat → Option nq} {a b : Nat} {kk : Bool} {q1 q2 : nq} (h1 : tb a = some q1) (h2 : tb b = some q2) (k1 : nq_ok tb q1) (k2 : nq_ok tb q2) (hl : (nL q1).length + (nL q2).length ≤ 6) : nq_ok tb (np_q a b kk q1 q2) := by
  obtain ⟨-, a1, a2, a3, a4, a5, a6, a7, a8⟩ := k1
  obtain ⟨-, b1, b2, b3, b4, b5, b6, b7, b8⟩ := k2
  have n1 : nk_neg (nK q1) ≤ 1 := by unfold nk_neg; split <;> omega
  have n2 : nk_neg (nK q2) ≤ 1 := by unfold nk_neg; split <;> omega
  have hlen : (nL (np_q a b kk q1 q2)).length = (nL q1).length + (nL q2).length := List.length_append
  have hdd : nd (np_q a b kk q1 q2) = max (nd q1) (nd q2) := rfl
  have hrr : nr (np_q a b kk q1 q2) = max (nr q1) (nr q2) + 1 := rfl
  have hkk : nk_neg (nK (np_q a b kk q1 q2)) = 0 := rfl
  refine ⟨⟨q1, q2, h1, h2, ?_, ?_, rfl, rfl, fun _ _ => Iff.rfl⟩, by omega, by omega, by omega, by omega, ?_, ?_, ?_, ?_⟩
  · show nr q1 < max (nr q1) (nr q2) + 1; omega
  · show nr q2 < max (nr q1) (nr q2) + 1; omega
  · intro l hl9
    rcases List.mem_append.mp hl9 with h | h
    · exact a5 l h
    · exact b5 l h
  · cases kk
    · exact qm_inv_or a6 b6
    · exact qm_inv_and a6 b6
  · intro hx x x' y
    have e1 : nx q1 = false := by cases h : nx q1; rfl; exact absurd hx (by show ¬ (nx q1 || nx q2) = false; rw [h]; simp)
    have e2 : nx q2 = false := by cases h : nx q2; rfl; exact absurd hx (by show ¬ (nx q1 || nx q2) = false; rw [h]; simp)
    show np_P kk (nP q1) (nP q2) x y ↔ np_P kk (nP q1) (nP q2) x' y
    unfold np_P
    rw [a7 e1 x x' y, b7 e2 x x' y]
  · intro hx x y y'
    have e1 : ny q1 = false := by cases h : ny q1; rfl; exact absurd hx (by show ¬ (ny q1 || ny q2) = false; rw [h]; simp)
    have e2 : ny q2 = false := by cases h : ny q2; rfl; exact absurd hx (by show ¬ (ny q1 || ny q2) = false; rw [h]; simp)
    show np_P kk (nP q1) (nP q2) x y ↔ np_P kk (nP q1) (nP q2) x y'
    unfold np_P
    rw [a8 e1 x y y', b8 e2 x y y']
def nn_q (a : Nat) (q1 : nq) : nq := (fun x y => ¬ nP q1 x y, nL q1, nx q1, ny q1, nd q1, nr q1 + 1, .inr (.inr (.inl a)))
theorem nq_not {tb : Nat → Option nq} {a : Nat} {q1 : nq} (h1 : tb a = some q1) (k1 : nq_ok tb q1) (hk : nk_neg (nK q1) = 0) : nq_ok tb (nn_q a q1) := by
  obtain ⟨-, a1, a2, a3, a4, a5, a6, a7, a8⟩ := k1
  refine ⟨⟨q1, h1, Nat.lt_succ_self _, rfl, rfl, fun _ _ => Iff.rfl, rfl, rfl⟩, a1, a2, a3, ?_, a5, qm_inv_not a6, fun h x x' y => not_congr (a7 h x x' y), fun h x y y' => not_congr (a8 h x y y')⟩
  show nr q1 + 1 + 2 ≤ 2 * (nL q1).length + 2 * nd q1 + 1
  omega
def nu_P (j : Nat) (kk : Bool) (P1 : Rat → Rat → Prop) (x y : Rat) : Prop := if kk = true then (if j = 0 then ∀ u, P1 u y else ∀ u, P1 x u) else (if j = 0 then ∃ u, P1 u y else ∃ u, P1 x u)
def nu_q (a j : Nat) (kk : Bool) (q1 : nq) : nq := (nu_P j kk (nP q1), nL q1, (if j = 0 then false else nx q1), (if j = 0 then ny q1 else false), nd q1 + 1, nr q1 + 1, .inr (.inr (.inr (j, a, kk))))
theorem nq_quant {tb : Nat → Option nq} {a j : Nat} {kk : Bool} {q1 : nq} (hj : j < 2) (h1 : tb a = some q1) (k1 : nq_ok tb q1) (hd : nd q1 < 2) : nq_ok tb (nu_q a j kk q1) := by
  obtain ⟨-, a1, a2, a3, a4, a5, a6, a7, a8⟩ := k1
  have n1 : nk_neg (nK q1) ≤ 1 := by unfold nk_neg; split <;> omega
  refine ⟨⟨q1, hj, h1, Nat.lt_succ_self _, rfl, rfl, fun _ _ => Iff.rfl⟩, a1, a2, by show nd q1 + 1 ≤ 2; omega, ?_, a5, ?_, ?_, ?_⟩
  · show nr q1 + 1 + 2 ≤ 2 * (nL q1).length + 2 * (nd q1 + 1) + 0
    omega
  · show qm_inv (nL q1) (nd q1 + 1) (nu_P j kk (nP q1))
    rcases (show j = 0 ∨ j = 1 by omega) with rfl | rfl <;> cases kk
    · exact qm_inv_sx a6
    · exact qm_inv_ex a6
    · exact qm_inv_sy a6
    · exact qm_inv_ey a6
  · show (if j = 0 then false else nx q1) = false → ∀ x x' y, nu_P j kk (nP q1) x y ↔ nu_P j kk (nP q1) x' y
    rcases (show j = 0 ∨ j = 1 by omega) with rfl | rfl
    · intro _ x x' y; exact Iff.rfl
    · intro h x x' y
      have h : nx q1 = false := h
      cases kk
      · exact exists_congr fun u => a7 h x x' u
      · exact forall_congr' fun u => a7 h x x' u
  · show (if j = 0 then ny q1 else false) = false → ∀ x y y', nu_P j kk (nP q1) x y ↔ nu_P j kk (nP q1) x y'
    rcases (show j = 0 ∨ j = 1 by omega) with rfl | rfl
    · intro h x y y'
      have h : ny q1 = false := h
      cases kk
      · exact exists_congr fun u => a8 h u y y'
      · exact forall_congr' fun u => a8 h u y y'
    · intro _ x y y'; exact Iff.rfl
section
variable {p : Program} {l : Launch} {e : Env} {R : Room} {s : State} {m : MethodId} {args : Array Value} {below : List Frame} {meth : Method} {c : Code} {H : Heap} {locs : List Loc} {cells slots : Nat} {Q : State → Prop}
variable {cc : ByteArray} {pc : Nat} {ls : Array Slot} {rest : List Value} {D : va_G} {A : Nat → Prop} {tys : List (ClassId × FieldType)} {M : Nat → Option va_E}
theorem op_run {nL index mc ms : Nat} {rm : Room} {Qc : Array Value → State → Outcome → State → Prop} {free : Addr → Prop} {own : String} {b ci lb : Nat} {fr dp gr : Int32} {ex : List Value} {st0 : List Value}
    (hx : p.tables.exec = Jvm.exec) (hb : c.code = cc) (hml : c.maxLocals = nL) (hown : s.vm.findClass own = some m.cls) (hts : ∀ w ∈ ww, w.before args s = true) (hX : hw_X s) (hW : hw_W D qcl tys A M s H) (hl : ls.size = nL)
    (hM : Met l y_Nd_opposite (.code y_Nd_opposite b_Nd_opposite 1 (some (.object "QuantifierOut$Node")) :: ww) rm (hw_Pc D qcl tys [.ref b] M H.size) Qc mc ms free)
    (he : nd_c M b ci fr dp lb gr ex) (hk : ci = 1 ∨ ci = 4 ∨ ci = 6)
    (w1 : Cond.methodLink own index y_Nd_opposite ∈ ww)
    (hrc : rm.cells = mc) (hrs : rm.slots = ms) (hR : rm.frames + 1 ≤ R.frames ∧ 8 + (1 + 11) + rm.locals ≤ R.locals) (hst : st0 = .ref b :: rest) (hrw : (rest.map fun v => v.category).sum ≤ 8)
    (hdg : decode cc pc = .ok (.invokevirtual index, 3)) (hf : cells + mc ≤ R.cells ∧ slots + ms ≤ R.slots) :
    va_Run p l e R s m args below meth c H locs cells slots mc ms (F0 m pc ls st0) rest (Qc [Value.ref b].toArray) free := by
  have hdecl : va_Decl s y_Nd_opposite := va_Decl.of (hts _ tw_353) (hts _ tw_361)
  obtain ⟨_, he⟩ := he
  rcases hk with rfl | rfl | rfl
  · exact hw_runU (n := 0) (C := "QuantifierOut$Atom") (As := []) hx hb hml hown hts hX hW hl hM he rfl hdecl w1 tw_354 tw_355 tw_353 tw_11 tw_361 (by decide +kernel) hrc hrs hR rfl hst hrw hdg hf
  · exact hw_runU (n := 0) (C := "QuantifierOut$Pair") (As := []) hx hb hml hown hts hX hW hl hM he rfl hdecl w1 tw_354 tw_359 tw_353 tw_11 tw_361 (by decide +kernel) hrc hrs hR rfl hst hrw hdg hf
  · exact hw_runU (n := 0) (C := "QuantifierOut$Quantified") (As := []) hx hb hml hown hts hX hW hl hM he rfl hdecl w1 tw_354 tw_360 tw_353 tw_11 tw_361 (by decide +kernel) hrc hrs hR rfl hst hrw hdg hf
end
section G31
variable (l : Launch) (D : va_G) (cI cJ cZ cN : ClassId) (h0 na v va vb om oa ob im ia ib ro mk ka kb fa la : Nat) (Z : Nat → Prop)
set_option maxHeartbeats 4000000 in
set_option maxRecDepth 100000 in
theorem c_Qo_atom (hl0 : l.stackTraces = false) (M : Nat → Option va_E) (sz n : Nat) (tb : Nat → Option nq) (ad : Nat → Nat) (qs : Nat → nq) (hI : qo_I cI cJ cN h0 na v va vb om oa ob im ia ib ro mk ka kb fa la Z M tb n ad qs) (ca cb cc op : Int32) : vx_Met l y_Qo_atom (.code y_Qo_atom b_Qo_atom 5 (some .int) :: ww) ({ frames := 8, cells := 4, slots := 23, locals := 200 }) (hx_Pc D qcl (qty cI cJ cZ cN) [.ref h0, .int ca, .int cb, .int cc, .int op] M sz) (va_Qi (qo_P cI cJ cN h0 na v va vb om oa ob im ia ib ro mk ka kb fa la Z M n qs (fun q => ∃ o : Nat, o < 3 ∧ op = nI o ∧ (ca.toInt.natAbs ≤ 5 ∧ cb.toInt.natAbs ≤ 5 ∧ cc.toInt.natAbs ≤ 5) ∧ nP q = qm_atom (ca.toInt, cb.toInt, cc.toInt) o ∧ nx q = true ∧ ny q = true ∧ (nL q).length = 1 ∧ nd q = 0)) (hw_B D qcl (qty cI cJ cZ cN) M sz) (hw_A M sz)) (hx_X D qcl (qty cI cJ cZ cN) M sz (qo_N (fun E => (n = 60 ∧ E = "java/lang/IllegalStateException") ∨ (n < 60 ∧ ¬ ((ca.toInt.natAbs ≤ 5 ∧ cb.toInt.natAbs ≤ 5 ∧ cc.toInt.natAbs ≤ 5) ∧ ∃ o : Nat, o < 3 ∧ op = nI o) ∧ E = "java/lang/IllegalArgumentException")) M)) 4 23 (hw_A M sz) := by
  obtain ⟨hC, i1, hT, hE, hD, hP, hD2, hla9, hz9, hL9, hN9⟩ := id hI
  obtain ⟨hC1, hC2, hn60⟩ := id hC
  refine hx_met (by decide) (Nat.le_of_ble_eq_true rfl) ?_
  intro p e s m below meth c hx hb hr hml hown hlocks hnm hts hsz hX hW hZ hno ls hl
  subst hsz
  have hA : ∀ q, s.heap.size ≤ q → hw_A M s.heap.size q := fun q h => Or.inr h
  have hS : va_S (hw_A M s.heap.size) s.heap s.heap [] := va_S.rf
  have hl : lv_has ls 5 [(0, .ref h0), (1, .int ca), (2, .int cb), (3, .int cc), (4, .int op)] := hl
  have hown : s.vm.findClass "QuantifierOut" = some m.cls := hown
  obtain ⟨Q9, hQ9⟩ : ∃ X : State → Prop, X = vx_MQ below (va_Qi (qo_P cI cJ cN h0 na v va vb om oa ob im ia ib ro mk ka kb fa la Z M n qs (fun q => ∃ o : Nat, o < 3 ∧ op = nI o ∧ (ca.toInt.natAbs ≤ 5 ∧ cb.toInt.natAbs ≤ 5 ∧ cc.toInt.natAbs ≤ 5) ∧ nP q = qm_atom (ca.toInt, cb.toInt, cc.toInt) o ∧ nx q = true ∧ ny q = true ∧ (nL q).length = 1 ∧ nd q = 0)) (hw_B D qcl (qty cI cJ cZ cN) M s.heap.size) (hw_A M s.heap.size)) (hx_X D qcl (qty cI cJ cZ cN) M s.heap.size (qo_N (fun E => (n = 60 ∧ E = "java/lang/IllegalStateException") ∨ (n < 60 ∧ ¬ ((ca.toInt.natAbs ≤ 5 ∧ cb.toInt.natAbs ≤ 5 ∧ cc.toInt.natAbs ≤ 5) ∧ ∃ o : Nat, o < 3 ∧ op = nI o) ∧ E = "java/lang/IllegalArgumentException")) M)) [.ref h0, .int ca, .int cb, .int cc, .int op].toArray s 4 23 (hw_A M s.heap.size) := ⟨_, rfl⟩
  refine lv_aload_n hx hb d_Qo_atom_0 rfl (lv_at hl 0 rfl) ?_
  refine hx_callv (hx_runV (n := 0) (own := "QuantifierOut") (As := []) (rest := []) hx hb hml hown hts hX hW hl.1 hZ hS hA (c_Qo_checkRoom l D cI cJ cZ cN hl0 h0 na v ro n _ ad M hC) hC1 rfl tw_123 tw_125 ts_0 tw_1 tw_126 (by decide +kernel) rfl rfl ⟨by decide, by decide⟩ rfl rfl (Nat.le_of_ble_eq_true rfl) d_Qo_atom_1 ⟨by decide, by decide⟩) hW hS hA (fun E9 ce9 q9 M1 H locs hpr hW hS hq1 hq2 hq3 => ?_) (fun M1 H locs hpr hz hW hS => ?_)
  · exact hx_out hno hlocks hq1 hq2 hq3 hW hS ⟨Or.inl ⟨hpr.2.1, hpr.1⟩, hpr.2.2⟩ (by decide) (by decide)
  obtain ⟨hnr, eMr⟩ := hpr
  rw [eMr] at hW
  have tail : ∀ (o : Nat), o < 3 → op = nI o → (ca.toInt.natAbs ≤ 5 ∧ cb.toInt.natAbs ≤ 5 ∧ cc.toInt.natAbs ≤ 5) → ∀ (H : Heap) (locs : List Loc) (ls : Array Slot), hw_W D qcl (qty cI cJ cZ cN) (hw_A M s.heap.size) M s H → va_S (hw_A M s.heap.size) s.heap H locs → lv_has ls 5 [(0, .ref h0), (1, .int ca), (2, .int cb), (3, .int cc), (4, .int op)] → W p l e ({ frames := 8, cells := 4, slots := 23, locals := 200 }) s m [.ref h0, .int ca, .int cb, .int cc, .int op].toArray below meth c H locs 1 6 Q9 (F0 m 62 ls []) := by
    intro o ho eo hcs H locs ls hW hS hl
    refine lv_aload_n hx hb d_Qo_atom_62 rfl (lv_at hl 0 rfl) ?_
    have hmono : ∀ x9, M x9 = none → M x9 = none := fun _ z9 => z9
    refine hw_new (ci := 1) (own := "QuantifierOut") (fs := [.int 0, .int 0, .null, .int 0, .int 0, .int 0, .int 0, .int 0]) hx hb hts i_At ft_At tk_At hown (hts _ tw_215) (hts _ tw_216) (hts _ tw_12) hW hS hA rfl (by intro j9 hj9; rcases (show j9 = 0 ∨ j9 = 1 ∨ j9 = 2 ∨ j9 = 3 ∨ j9 = 4 ∨ j9 = 5 ∨ j9 = 6 ∨ j9 = 7 by omega) with rfl | rfl | rfl | rfl | rfl | rfl | rfl | rfl <;> rfl) (Nat.le_of_ble_eq_true rfl) (Nat.le_of_ble_eq_true rfl) d_Qo_atom_63 (fun b H hq_b hW hS => ?_)
    have hW : hw_W D qcl (qty cI cJ cZ cN) _ (va_up M b (some (.inr (1, [.int 0, .int 0, .null, .int 0, .int 0, .int 0, .int 0, .int 0])))) s H := hW
    generalize hMw2 : va_up M b (some (.inr (1, [.int 0, .int 0, .null, .int 0, .int 0, .int 0, .int 0, .int 0]))) = Mw2 at hW
    have hy_b : Mw2 b = some (.inr (1, [.int 0, .int 0, .null, .int 0, .int 0, .int 0, .int 0, .int 0])) := by rw [← hMw2]; exact va_up_self _ _ _
    have z_b : M b = none := hmono b hq_b
    have hmono : ∀ x9, Mw2 x9 = none → M x9 = none := fun x9 z9 => hmono x9 (va_up_none (by rw [hMw2]; exact z9))
    have hfr_Mw2 : ∀ x9, x9 ≠ b → Mw2 x9 = M x9 := fun x9 z9 => by rw [← hMw2, va_up_ne _ _ z9]
    refine lv_dup hx hb d_Qo_atom_66 rfl ?_
    refine lv_iload_n hx hb d_Qo_atom_67 rfl (lv_at hl 1 rfl) ?_
    refine lv_iload_n hx hb d_Qo_atom_68 rfl (lv_at hl 2 rfl) ?_
    refine lv_iload_n hx hb d_Qo_atom_69 rfl (lv_at hl 3 rfl) ?_
    refine lv_iload hx hb d_Qo_atom_70 (lv_at hl 4 rfl) ?_
    refine hw_callv (hw_runI (n := 4) (own := "QuantifierOut") (As := [.int ca, .int cb, .int cc, .int op]) (rest := [.ref b, .ref h0]) hx hb hml hown hts hX hW hl.1 (c_At_init l D cI cJ cZ cN b _ ca cb cc op Mw2 hy_b) tw_217 tw_218 tw_12 tw_219 rfl (by decide +kernel) rfl rfl ⟨by decide, by decide⟩ rfl rfl (Nat.le_of_ble_eq_true rfl) d_Qo_atom_72 ⟨by decide, by decide⟩) hW hS hA (fun Mi H locs hpi hz hW hS => ?_)
    obtain ⟨lb, hlb0, hbc, hlc, hfi⟩ := hpi
    have hlbM : M lb = none := hmono lb hlb0
    have hMi : ∀ x, M x ≠ none → Mi x = M x := fun x z9 => (hfi x (fun e9 => z9 (e9 ▸ z_b)) (fun e9 => z9 (e9 ▸ hlbM))).trans (hfr_Mw2 x (fun e9 => z9 (e9 ▸ z_b)))
    obtain ⟨q, hq⟩ : ∃ q : nq, q = (qm_atom (ca.toInt, cb.toInt, cc.toInt) o, [(ca.toInt, cb.toInt, cc.toInt)], true, true, 0, 0, .inl o) := ⟨_, rfl⟩
    have hcell : nq_cell cI Mi b q := by
      rw [hq]
      refine ⟨lb, -1, _, ⟨Or.inl rfl, ?_⟩, hlc, ?_, Or.inl rfl⟩
      · rw [hbc, eo]; show _ = some (Sum.inr (1, [Value.int 3, Value.int 0, Value.ref lb, Value.int (-1), Value.int (Int32.ofInt ca.toInt), Value.int (Int32.ofInt cb.toInt), Value.int (Int32.ofInt cc.toInt), Value.int (nI o)])); rw [Int32.ofInt_toInt, Int32.ofInt_toInt, Int32.ofInt_toInt]
      · intro t l ht; cases t with | zero => cases ht; exact ⟨rfl, rfl, rfl⟩ | succ t => cases ht
    have hok : nq_ok (va_up tb b (some q)) q := by rw [hq]; exact nq_atom ho hcs
    have hlbs : ∀ la2 gr ex ci, nd_c Mi b ci (nd_fr (nx q) (ny q)) (nI (nd q)) la2 gr ex → la2 ≠ fa ∧ la2 ≠ la ∧ ¬ Z la2 := by
      intro la2 gr ex ci h9
      obtain ⟨la3, gr3, F3, k1, _⟩ := hcell
      have e9 : la2 = lb := nd_la h9 (show nd_c Mi b 1 3 0 lb (-1) _ from ⟨Or.inl rfl, hbc⟩)
      obtain ⟨ow, n0, f0, g0, m0, Ff, Fl, ⟨_, _, p2, p3⟩, _⟩ := hP
      rw [e9]; exact ⟨(fun z9 => by rw [z9, p2] at hlbM; cases hlbM), (fun z9 => by rw [z9, p3] at hlbM; cases hlbM), fun z9 => hz9 lb z9 hlbM⟩
    have hI2 := qo_grow hI z_b hMi hcell hok hlbs
    obtain ⟨⟨la3, gr3, F3, hnc, _⟩, _⟩ := hI2.2.2.1 b q (va_up_self _ _ _)
    refine hw_calli (hw_runV (n := 1) (own := "QuantifierOut") (As := [.ref b]) (rest := []) hx hb hml hown hts hX hW hl.1 (c_Qo_add l D cI cJ cZ cN h0 na v ro n _ ad Mi hI2.1 hnr b _ la3 _ _ gr3 _ hnc) hI2.1.1 rfl tw_264 tw_266 ts_2 tw_1 tw_267 (by decide +kernel) rfl rfl ⟨by decide, by decide⟩ rfl rfl (Nat.le_of_ble_eq_true rfl) d_Qo_atom_75 ⟨by decide, by decide⟩) hW hS hA (fun ra Ma H locs hpa hz hW hS => ?_)
    obtain ⟨era, hCa, hfa⟩ := hpa
    obtain ⟨hI3, hZ3⟩ := qo_old hI2 (va_up_self _ _ _) hCa hfa
    rw [hQ9]
    refine vx_ret (W.widen (k := 4) (n := 23) (by decide) (by decide) ?_)
    exact hw_reti hx hb hr hlocks hW hS ⟨era, hnr, ⟨q, ⟨o, ho, eo, hcs, by rw [hq], by rw [hq], by rw [hq], by rw [hq]; rfl, by rw [hq]⟩, _, _, hI3⟩, fun z z9 => (hZ3 z z9).trans (hMi z (hz9 z z9))⟩ d_Qo_atom_78
  refine lv_iload_n hx hb d_Qo_atom_4 rfl (lv_at hl 1 rfl) ?_
  refine hw_calli (hw_runS (n := 1) (own := "QuantifierOut") (As := [.int ca]) (rest := []) hx hb hml hown hts hX hW hl.1 (c_Qo_isFactor l D cI cJ cZ cN ca _ M) tw_195 tw_196 tw_1 tw_197 (by decide +kernel) rfl rfl ⟨by decide, by decide⟩ rfl rfl (Nat.le_of_ble_eq_true rfl) d_Qo_atom_5 ⟨by decide, by decide⟩) hW hS hA (fun rfca Mf H locs hpf hz hW hS => ?_)
  obtain ⟨hfca, eMf⟩ := hpf
  rw [eMf] at hW
  refine lv_if_eq (tgt := 25) hx hb d_Qo_atom_8 (by decide) (fun c_8 => ?_) (fun c_8 => ?_)
  · skip
    exact hx_throw (is := 42) (text := "a, b and c are -5 .. 5") hx hb hl0 (by rw [hml]; exact hl.1.symm) hown hts hX xf_I tw_198 tw_10 (by decide) xt_44 xb_44 xg_44 hno hlocks hZ hW hS ⟨Or.inr ⟨hnr, fun z9 => it_b0 hfca c_8 z9.1.1, rfl⟩, rfl⟩ d_Qo_atom_25 d_Qo_atom_28 d_Qo_atom_29 d_Qo_atom_31 d_Qo_atom_34 (by decide) (Nat.le_of_ble_eq_true rfl) (by decide) (by decide) (by decide) (by decide)
  · skip
    refine lv_iload_n hx hb d_Qo_atom_11 rfl (lv_at hl 2 rfl) ?_
    refine hw_calli (hw_runS (n := 1) (own := "QuantifierOut") (As := [.int cb]) (rest := []) hx hb hml hown hts hX hW hl.1 (c_Qo_isFactor l D cI cJ cZ cN cb _ M) tw_195 tw_196 tw_1 tw_197 (by decide +kernel) rfl rfl ⟨by decide, by decide⟩ rfl rfl (Nat.le_of_ble_eq_true rfl) d_Qo_atom_12 ⟨by decide, by decide⟩) hW hS hA (fun rfcb Mf H locs hpf hz hW hS => ?_)
    obtain ⟨hfcb, eMf⟩ := hpf
    rw [eMf] at hW
    refine lv_if_eq (tgt := 25) hx hb d_Qo_atom_15 (by decide) (fun c_15 => ?_) (fun c_15 => ?_)
    · skip
      exact hx_throw (is := 42) (text := "a, b and c are -5 .. 5") hx hb hl0 (by rw [hml]; exact hl.1.symm) hown hts hX xf_I tw_198 tw_10 (by decide) xt_44 xb_44 xg_44 hno hlocks hZ hW hS ⟨Or.inr ⟨hnr, fun z9 => it_b0 hfcb c_15 z9.1.2.1, rfl⟩, rfl⟩ d_Qo_atom_25 d_Qo_atom_28 d_Qo_atom_29 d_Qo_atom_31 d_Qo_atom_34 (by decide) (Nat.le_of_ble_eq_true rfl) (by decide) (by decide) (by decide) (by decide)
    · skip
      refine lv_iload_n hx hb d_Qo_atom_18 rfl (lv_at hl 3 rfl) ?_
      refine hw_calli (hw_runS (n := 1) (own := "QuantifierOut") (As := [.int cc]) (rest := []) hx hb hml hown hts hX hW hl.1 (c_Qo_isFactor l D cI cJ cZ cN cc _ M) tw_195 tw_196 tw_1 tw_197 (by decide +kernel) rfl rfl ⟨by decide, by decide⟩ rfl rfl (Nat.le_of_ble_eq_true rfl) d_Qo_atom_19 ⟨by decide, by decide⟩) hW hS hA (fun rfcc Mf H locs hpf hz hW hS => ?_)
      obtain ⟨hfcc, eMf⟩ := hpf
      rw [eMf] at hW
      refine lv_if_ne (tgt := 35) hx hb d_Qo_atom_22 (by decide) (fun c_22 => ?_) (fun c_22 => ?_)
      · skip
        have hcs : ca.toInt.natAbs ≤ 5 ∧ cb.toInt.natAbs ≤ 5 ∧ cc.toInt.natAbs ≤ 5 := ⟨it_b1 hfca c_8, it_b1 hfcb c_15, it_b1 hfcc c_22⟩
        refine lv_iload hx hb d_Qo_atom_35 (lv_at hl 4 rfl) ?_
        refine lv_if_eq (tgt := 62) hx hb d_Qo_atom_37 (by decide) (fun c_37 => ?_) (fun c_37 => ?_)
        · skip
          rw [← hQ9]
          exact tail 0 (by omega) c_37 hcs _ _ ls hW hS hl
        · skip
          refine lv_iload hx hb d_Qo_atom_40 (lv_at hl 4 rfl) ?_
          refine lv_iconst (v := 1) hx hb d_Qo_atom_42 (by decide) ?_
          refine lv_icmp_eq (tgt := 62) hx hb d_Qo_atom_43 (by decide) (fun c_43 => ?_) (fun c_43 => ?_)
          · skip
            rw [← hQ9]
            exact tail 1 (by omega) c_43 hcs _ _ ls hW hS hl
          · skip
            refine lv_iload hx hb d_Qo_atom_46 (lv_at hl 4 rfl) ?_
            refine lv_iconst (v := 2) hx hb d_Qo_atom_48 (by decide) ?_
            refine lv_icmp_eq (tgt := 62) hx hb d_Qo_atom_49 (by decide) (fun c_49 => ?_) (fun c_49 => ?_)
            · skip
              rw [← hQ9]
              exact tail 2 (by omega) c_49 hcs _ _ ls hW hS hl
            · skip
              exact hx_throw (is := 47) (text := "op is 0, 1 or 2") hx hb hl0 (by rw [hml]; exact hl.1.symm) hown hts hX xf_I tw_198 tw_10 (by decide) xt_44 xb_44 xg_44 hno hlocks hZ hW hS ⟨Or.inr ⟨hnr, fun z9 => by obtain ⟨_, o, ho, eo⟩ := z9; rcases (show o = 0 ∨ o = 1 ∨ o = 2 by omega) with rfl | rfl | rfl; exact c_37 eo; exact c_43 eo; exact c_49 eo, rfl⟩, rfl⟩ d_Qo_atom_52 d_Qo_atom_55 d_Qo_atom_56 d_Qo_atom_58 d_Qo_atom_61 (by decide) (Nat.le_of_ble_eq_true rfl) (by decide) (by decide) (by decide) (by decide)
      · skip
        exact hx_throw (is := 42) (text := "a, b and c are -5 .. 5") hx hb hl0 (by rw [hml]; exact hl.1.symm) hown hts hX xf_I tw_198 tw_10 (by decide) xt_44 xb_44 xg_44 hno hlocks hZ hW hS ⟨Or.inr ⟨hnr, fun z9 => it_b0 hfcc c_22 z9.1.2.2, rfl⟩, rfl⟩ d_Qo_atom_25 d_Qo_atom_28 d_Qo_atom_29 d_Qo_atom_31 d_Qo_atom_34 (by decide) (Nat.le_of_ble_eq_true rfl) (by decide) (by decide) (by decide) (by decide)
set_option maxHeartbeats 4000000 in
set_option maxRecDepth 100000 in
theorem c_Qo_addPair (hl0 : l.stackTraces = false) (M : Nat → Option va_E) (sz n : Nat) (tb : Nat → Option nq) (ad : Nat → Nat) (qs : Nat → nq) (hI : qo_I cI cJ cN h0 na v va vb om oa ob im ia ib ro mk ka kb fa la Z M tb n ad qs) (xp xq : Int32) (kk : Bool) : vx_Met l y_Qo_addPair (.code y_Qo_addPair b_Qo_addPair 6 (some .int) :: ww) ({ frames := 8, cells := 5, slots := 43, locals := 260 }) (hx_Pc D qcl (qty cI cJ cZ cN) [.ref h0, .int xp, .int xq, .int (if kk = true then 1 else 0)] M sz) (va_Qi (qo_P cI cJ cN h0 na v va vb om oa ob im ia ib ro mk ka kb fa la Z M n qs (fun q => ∃ i j : Nat, i < n ∧ j < n ∧ xp = nI i ∧ xq = nI j ∧ (nL (qs i)).length + (nL (qs j)).length ≤ 6 ∧ nP q = np_P kk (nP (qs i)) (nP (qs j)) ∧ nx q = (nx (qs i) || nx (qs j)) ∧ ny q = (ny (qs i) || ny (qs j)) ∧ (nL q).length = (nL (qs i)).length + (nL (qs j)).length ∧ nd q = max (nd (qs i)) (nd (qs j)))) (hw_B D qcl (qty cI cJ cZ cN) M sz) (hw_A M sz)) (hx_X D qcl (qty cI cJ cZ cN) M sz (qo_N (fun E => (¬ ((∃ i, i < n ∧ xp = nI i) ∧ ∃ j, j < n ∧ xq = nI j) ∧ E = "java/lang/IndexOutOfBoundsException") ∨ (∃ i j : Nat, i < n ∧ j < n ∧ xp = nI i ∧ xq = nI j ∧ ((n = 60 ∧ E = "java/lang/IllegalStateException") ∨ (n < 60 ∧ 6 < (nL (qs i)).length + (nL (qs j)).length ∧ E = "java/lang/IllegalArgumentException")))) M)) 5 43 (hw_A M sz) := by
  obtain ⟨hC, i1, hT, hE, hD, hP, hD2, hla9, hz9, hL9, hN9⟩ := id hI
  obtain ⟨hC1, hC2, hn60⟩ := id hC
  refine hx_met (by decide) (Nat.le_of_ble_eq_true rfl) ?_
  intro p e s m below meth c hx hb hr hml hown hlocks hnm hts hsz hX hW hZ hno ls hl
  subst hsz
  have hA : ∀ q, s.heap.size ≤ q → hw_A M s.heap.size q := fun q h => Or.inr h
  have hS : va_S (hw_A M s.heap.size) s.heap s.heap [] := va_S.rf
  have hl : lv_has ls 6 [(0, .ref h0), (1, .int xp), (2, .int xq), (3, .int (if kk = true then 1 else 0))] := hl
  have hown : s.vm.findClass "QuantifierOut" = some m.cls := hown
  refine lv_aload_n hx hb d_Qo_addPair_0 rfl (lv_at hl 0 rfl) ?_
  refine lv_iload_n hx hb d_Qo_addPair_1 rfl (lv_at hl 1 rfl) ?_
  refine hx_callq (hx_runV (n := 1) (own := "QuantifierOut") (As := [.int xp]) (rest := []) hx hb hml hown hts hX hW hl.1 hZ hS hA (c_Qo_nodeAt l D cI cJ cZ cN hl0 h0 na v ro n _ ad M hC xp) hC1 rfl tw_280 tw_282 ts_4 tw_1 tw_283 (by decide +kernel) rfl rfl ⟨by decide, by decide⟩ rfl rfl (Nat.le_of_ble_eq_true rfl) d_Qo_addPair_2 ⟨by decide, by decide⟩) hW hS hA (fun E9 ce9 q9 M1 H locs hpn hW hS hq1 hq2 hq3 => ?_) (fun rp M1 H locs hpn hz hW hS => ?_)
  · exact hx_out hno hlocks hq1 hq2 hq3 hW hS ⟨Or.inl ⟨fun z9 => by obtain ⟨⟨i, hi, ei⟩, _⟩ := z9; exact hpn.2.1 i hi ei, hpn.1⟩, hpn.2.2⟩ (by decide) (by decide)
  obtain ⟨i, hi, ei, er, eMn⟩ := hpn
  rw [eMn] at hW
  subst er
  refine lv_astore (lv' := [(4, .ref (ad i)), (0, .ref h0), (1, .int xp), (2, .int xq), (3, .int (if kk = true then 1 else 0))]) hx hb d_Qo_addPair_5 hl (by decide) rfl (fun ls hl => ?_)
  refine lv_aload_n hx hb d_Qo_addPair_7 rfl (lv_at hl 1 rfl) ?_
  refine lv_iload_n hx hb d_Qo_addPair_8 rfl (lv_at hl 3 rfl) ?_
  refine hx_callq (hx_runV (n := 1) (own := "QuantifierOut") (As := [.int xq]) (rest := []) hx hb hml hown hts hX hW hl.1 hZ hS hA (c_Qo_nodeAt l D cI cJ cZ cN hl0 h0 na v ro n _ ad M hC xq) hC1 rfl tw_280 tw_282 ts_4 tw_1 tw_283 (by decide +kernel) rfl rfl ⟨by decide, by decide⟩ rfl rfl (Nat.le_of_ble_eq_true rfl) d_Qo_addPair_9 ⟨by decide, by decide⟩) hW hS hA (fun E9 ce9 q9 M2 H locs hpn hW hS hq1 hq2 hq3 => ?_) (fun rq M2 H locs hpn hz hW hS => ?_)
  · exact hx_out hno hlocks hq1 hq2 hq3 hW hS ⟨Or.inl ⟨fun z9 => by obtain ⟨_, j, hj, ej⟩ := z9; exact hpn.2.1 j hj ej, hpn.1⟩, hpn.2.2⟩ (by decide) (by decide)
  obtain ⟨j, hj, ej, er, eMn⟩ := hpn
  rw [eMn] at hW
  subst er
  refine lv_astore (lv' := [(5, .ref (ad j)), (4, .ref (ad i)), (0, .ref h0), (1, .int xp), (2, .int xq), (3, .int (if kk = true then 1 else 0))]) hx hb d_Qo_addPair_12 hl (by decide) rfl (fun ls hl => ?_)
  refine lv_aload_n hx hb d_Qo_addPair_14 rfl (lv_at hl 2 rfl) ?_
  refine hx_callv (hx_runV (n := 0) (own := "QuantifierOut") (As := []) (rest := []) hx hb hml hown hts hX hW hl.1 hZ hS hA (c_Qo_checkRoom l D cI cJ cZ cN hl0 h0 na v ro n _ ad M hC) hC1 rfl tw_123 tw_125 ts_0 tw_1 tw_126 (by decide +kernel) rfl rfl ⟨by decide, by decide⟩ rfl rfl (Nat.le_of_ble_eq_true rfl) d_Qo_addPair_15 ⟨by decide, by decide⟩) hW hS hA (fun E9 ce9 q9 M3 H locs hpr hW hS hq1 hq2 hq3 => ?_) (fun M3 H locs hpr hz hW hS => ?_)
  · exact hx_out hno hlocks hq1 hq2 hq3 hW hS ⟨Or.inr ⟨i, j, hi, hj, ei, ej, Or.inl ⟨hpr.2.1, hpr.1⟩⟩, hpr.2.2⟩ (by decide) (by decide)
  obtain ⟨hnr, eMr⟩ := hpr
  rw [eMr] at hW
  obtain ⟨q1, hq1⟩ : ∃ q, q = qs i := ⟨_, rfl⟩
  obtain ⟨q2, hq2⟩ : ∃ q, q = qs j := ⟨_, rfl⟩
  have t1 : tb (ad i) = some q1 := by rw [hq1]; exact i1 i hi
  have t2 : tb (ad j) = some q2 := by rw [hq2]; exact i1 j hj
  have e1 := hq1.symm
  have e2 := hq2.symm
  obtain ⟨⟨l1, gr1, F1, n1, lc1, lf1, _⟩, ok1⟩ := id (hT _ _ t1)
  obtain ⟨⟨l2, gr2, F2, n2, lc2, lf2, _⟩, ok2⟩ := id (hT _ _ t2)
  have len1 := ok1.2.2.1
  have len2 := ok2.2.2.1
  refine lv_aload hx hb d_Qo_addPair_18 (lv_at hl 1 rfl) ?_
  refine hw_calli (nd_runF (n := 0) (own := "QuantifierOut") (As := []) (rest := []) hx hb hml hown hts hX hW hl.1 (c_Nd_size l D cI cJ cZ cN (ad i) _ l1 (nL q1).length _ _ _ _ F1 _ M n1 lc1 (by omega)) n1 tw_300 tw_302 tw_303 tw_304 tw_305 tw_306 tw_301 tw_11 tw_307 (by decide +kernel) rfl rfl ⟨by decide, by decide⟩ rfl rfl (Nat.le_of_ble_eq_true rfl) d_Qo_addPair_20 ⟨by decide, by decide⟩) hW hS hA (fun z1 Mz H locs hps hz hW hS => ?_)
  obtain ⟨ez1, eMz⟩ := hps
  rw [eMz] at hW
  refine lv_aload hx hb d_Qo_addPair_23 (lv_at hl 0 rfl) ?_
  refine hw_calli (nd_runF (n := 0) (own := "QuantifierOut") (As := []) (rest := [.int z1]) hx hb hml hown hts hX hW hl.1 (c_Nd_size l D cI cJ cZ cN (ad j) _ l2 (nL q2).length _ _ _ _ F2 _ M n2 lc2 (by omega)) n2 tw_300 tw_302 tw_303 tw_304 tw_305 tw_306 tw_301 tw_11 tw_307 (by decide +kernel) rfl rfl ⟨by decide, by decide⟩ rfl rfl (Nat.le_of_ble_eq_true rfl) d_Qo_addPair_25 ⟨by decide, by decide⟩) hW hS hA (fun z2 Mz H locs hps hz hW hS => ?_)
  obtain ⟨ez2, eMz⟩ := hps
  rw [eMz] at hW
  refine lv_iadd hx hb d_Qo_addPair_28 ?_
  refine lv_topi (fun x4 ex4 => ?_)
  refine lv_bipush (v := 6) hx hb d_Qo_addPair_29 (by decide) ?_
  have esum : x4 = nI ((nL q1).length + (nL q2).length) := by rw [ex4, ez1, ez2]; exact nI_add _ _
  rw [esum]
  refine lv_icmp_le (tgt := 44) hx hb d_Qo_addPair_31 (by decide) (fun c_31 => ?_) (fun c_31 => ?_)
  · skip
    have hle : (nL q1).length + (nL q2).length ≤ 6 := (nI_leI (b := 6) (by omega) (by omega)).mp c_31
    refine lv_aload_n hx hb d_Qo_addPair_44 rfl (lv_at hl 2 rfl) ?_
    have hmono : ∀ x9, M x9 = none → M x9 = none := fun _ z9 => z9
    refine hw_new (ci := 4) (own := "QuantifierOut") (fs := [.int 0, .int 0, .null, .int 0, .null, .null, .int 0]) hx hb hts i_Pr ft_Pr tk_Pr hown (hts _ tw_309) (hts _ tw_310) (hts _ tw_14) hW hS hA rfl (by intro j9 hj9; rcases (show j9 = 0 ∨ j9 = 1 ∨ j9 = 2 ∨ j9 = 3 ∨ j9 = 4 ∨ j9 = 5 ∨ j9 = 6 by omega) with rfl | rfl | rfl | rfl | rfl | rfl | rfl <;> rfl) (Nat.le_of_ble_eq_true rfl) (Nat.le_of_ble_eq_true rfl) d_Qo_addPair_45 (fun b H hq_b hW hS => ?_)
    have hW : hw_W D qcl (qty cI cJ cZ cN) _ (va_up M b (some (.inr (4, [.int 0, .int 0, .null, .int 0, .null, .null, .int 0])))) s H := hW
    generalize hMw5 : va_up M b (some (.inr (4, [.int 0, .int 0, .null, .int 0, .null, .null, .int 0]))) = Mw5 at hW
    have hy_b : Mw5 b = some (.inr (4, [.int 0, .int 0, .null, .int 0, .null, .null, .int 0])) := by rw [← hMw5]; exact va_up_self _ _ _
    have z_b : M b = none := hmono b hq_b
    have hmono : ∀ x9, Mw5 x9 = none → M x9 = none := fun x9 z9 => hmono x9 (va_up_none (by rw [hMw5]; exact z9))
    have hfr_Mw5 : ∀ x9, x9 ≠ b → Mw5 x9 = M x9 := fun x9 z9 => by rw [← hMw5, va_up_ne _ _ z9]
    refine lv_dup hx hb d_Qo_addPair_48 rfl ?_
    refine lv_aload hx hb d_Qo_addPair_49 (lv_at hl 1 rfl) ?_
    refine lv_aload hx hb d_Qo_addPair_51 (lv_at hl 0 rfl) ?_
    refine lv_iload_n hx hb d_Qo_addPair_53 rfl (lv_at hl 5 rfl) ?_
    have hgrow0 : ∀ x, M x ≠ none → Mw5 x = M x := fun x z9 => hfr_Mw5 x (fun e9 => z9 (e9 ▸ z_b))
    have n1b : nd_c Mw5 (ad i) _ _ _ l1 gr1 _ := ⟨n1.1, (hgrow0 _ (by rw [n1.2]; exact Option.some_ne_none _)).trans n1.2⟩
    have n2b : nd_c Mw5 (ad j) _ _ _ l2 gr2 _ := ⟨n2.1, (hgrow0 _ (by rw [n2.2]; exact Option.some_ne_none _)).trans n2.2⟩
    have lc1b := (hgrow0 l1 (by rw [lc1]; exact Option.some_ne_none _)).trans lc1
    have lc2b := (hgrow0 l2 (by rw [lc2]; exact Option.some_ne_none _)).trans lc2
    refine hw_callv (hw_runI (n := 3) (own := "QuantifierOut") (As := [.ref (ad i), .ref (ad j), .int (if kk = true then 1 else 0)]) (rest := [.ref b, .ref h0]) hx hb hml hown hts hX hW hl.1 (c_Pr_init l D cI cJ cZ cN b _ (ad i) _ l1 (ad j) _ l2 (3 * (nL q1).length) (3 * (nL q2).length) _ _ gr1 _ _ gr2 _ _ F1 F2 kk Mw5 hy_b n1b n2b lc1b lc2b (by omega)) tw_311 tw_312 tw_14 tw_313 rfl (by decide +kernel) rfl rfl ⟨by decide, by decide⟩ rfl rfl (Nat.le_of_ble_eq_true rfl) d_Qo_addPair_54 ⟨by decide, by decide⟩) hW hS hA (fun Mi H locs hpi hz hW hS => ?_)
    obtain ⟨lb, F, hlb0, hbc, hlc, hF1, hF2, hfi⟩ := hpi
    have hlbM : M lb = none := hmono lb hlb0
    have hMi : ∀ x, M x ≠ none → Mi x = M x := fun x z9 => (hfi x (fun e9 => z9 (e9 ▸ z_b)) (fun e9 => z9 (e9 ▸ hlbM))).trans (hgrow0 x z9)
    obtain ⟨q, hq⟩ : ∃ q : nq, q = np_q (ad i) (ad j) kk q1 q2 := ⟨_, rfl⟩
    have hdm : (if nI (nd q1) < nI (nd q2) then nI (nd q2) else nI (nd q1)) = nI (max (nd q1) (nd q2)) := by
      have dl1 := ok1.2.2.2.1; have dl2 := ok2.2.2.2.1
      by_cases z9 : nd q1 < nd q2
      · rw [if_pos (nI_lt z9 (by omega)), Nat.max_eq_right (by omega)]
      · rw [if_neg (nI_nlt (by omega) (by omega)), Nat.max_eq_left (by omega)]
    have hbc2 : Mi b = some (.inr (4, [.int (nd_fr (nx q1 || nx q2) (ny q1 || ny q2)), .int (nI (max (nd q1) (nd q2))), .ref lb, .int (-1), .ref (ad i), .ref (ad j), .int (if kk = true then 1 else 0)])) := by rw [hbc, nd_or, hdm]
    have hcell : nq_cell cI Mi b q := by
      rw [hq]
      refine ⟨lb, -1, F, ⟨Or.inr (Or.inr (Or.inl rfl)), hbc2⟩, ?_, ?_, Or.inl rfl⟩
      · rw [hlc]; show some (Sum.inl (cI, 3 * (nL q1).length + 3 * (nL q2).length, _)) = some (Sum.inl (cI, 3 * (nL q1 ++ nL q2).length, _)); rw [List.length_append, Nat.mul_add]
      · intro t l ht
        have ht : (nL q1 ++ nL q2)[t]? = some l := ht
        rcases Nat.lt_or_ge t (nL q1).length with z9 | z9
        · rw [List.getElem?_append_left z9] at ht
          rw [hF1 _ (by omega), hF1 _ (by omega), hF1 _ (by omega)]; exact lf1 t l ht
        · rw [List.getElem?_append_right z9] at ht
          have z8 := (List.getElem?_eq_some_iff.mp ht).1
          obtain ⟨u, rfl⟩ : ∃ u, t = (nL q1).length + u := ⟨t - (nL q1).length, by omega⟩
          rw [show 3 * ((nL q1).length + u) + 1 = 3 * (nL q1).length + (3 * u + 1) by omega, show 3 * ((nL q1).length + u) + 2 = 3 * (nL q1).length + (3 * u + 2) by omega, show 3 * ((nL q1).length + u) = 3 * (nL q1).length + 3 * u by omega, hF2 _ (by omega), hF2 _ (by omega), hF2 _ (by omega)]
          rw [Nat.add_sub_cancel_left] at ht; exact lf2 u l ht
    have htbn : tb b = none := by cases e9 : tb b with | none => rfl | some q9 => exact absurd z_b (tb_ex hT e9)
    have gup : ∀ a9 q9, tb a9 = some q9 → va_up tb b (some q) a9 = some q9 := fun a9 q9 h9 => by rw [va_up_ne _ _ (fun e9 => by rw [e9, htbn] at h9; cases h9)]; exact h9
    have hok : nq_ok (va_up tb b (some q)) q := by rw [hq] at gup ⊢; exact nq_pair (gup _ _ t1) (gup _ _ t2) ⟨nk_ok_up htbn ok1.1, ok1.2⟩ ⟨nk_ok_up htbn ok2.1, ok2.2⟩ hle
    have hlbs : ∀ la2 gr ex ci, nd_c Mi b ci (nd_fr (nx q) (ny q)) (nI (nd q)) la2 gr ex → la2 ≠ fa ∧ la2 ≠ la ∧ ¬ Z la2 := by
      intro la2 gr ex ci h9
      have e9 : la2 = lb := nd_la h9 (show nd_c Mi b 4 _ _ lb (-1) _ from ⟨Or.inr (Or.inr (Or.inl rfl)), hbc⟩)
      obtain ⟨ow, n0, f0, g0, m0, Ff, Fl, ⟨_, _, p2, p3⟩, _⟩ := hP
      rw [e9]; exact ⟨(fun z9 => by rw [z9, p2] at hlbM; cases hlbM), (fun z9 => by rw [z9, p3] at hlbM; cases hlbM), fun z9 => hz9 lb z9 hlbM⟩
    have hI2 := qo_grow hI z_b hMi hcell hok hlbs
    obtain ⟨⟨la3, gr3, F3, hnc, _⟩, _⟩ := hI2.2.2.1 b q (va_up_self _ _ _)
    refine hw_calli (hw_runV (n := 1) (own := "QuantifierOut") (As := [.ref b]) (rest := []) hx hb hml hown hts hX hW hl.1 (c_Qo_add l D cI cJ cZ cN h0 na v ro n _ ad Mi hI2.1 hnr b _ la3 _ _ gr3 _ hnc) hI2.1.1 rfl tw_264 tw_266 ts_2 tw_1 tw_267 (by decide +kernel) rfl rfl ⟨by decide, by decide⟩ rfl rfl (Nat.le_of_ble_eq_true rfl) d_Qo_addPair_57 ⟨by decide, by decide⟩) hW hS hA (fun ra Ma H locs hpa hz hW hS => ?_)
    obtain ⟨era, hCa, hfa⟩ := hpa
    obtain ⟨hI3, hZ3⟩ := qo_old hI2 (va_up_self _ _ _) hCa hfa
    refine vx_ret (W.widen (k := 5) (n := 43) (by decide) (by decide) ?_)
    exact hw_reti hx hb hr hlocks hW hS ⟨era, hnr, ⟨q, ⟨i, j, hi, hj, ei, ej, by rw [e1, e2]; exact hle, by rw [hq, e1, e2]; rfl, by rw [hq, e1, e2]; rfl, by rw [hq, e1, e2]; rfl, by rw [hq, e1, e2]; exact List.length_append, by rw [hq, e1, e2]; rfl⟩, _, _, hI3⟩, fun z z9 => (hZ3 z z9).trans (hMi z (hz9 z z9))⟩ d_Qo_addPair_60
  · skip
    have hbig : 6 < (nL q1).length + (nL q2).length := by
      rcases Nat.lt_or_ge 6 ((nL q1).length + (nL q2).length) with z9 | z9
      · exact z9
      · exact absurd ((nI_leI (b := 6) (by omega) (by omega)).mpr z9) c_31
    exact hx_throw (is := 133) (text := "the size would be above 6") hx hb hl0 (by rw [hml]; exact hl.1.symm) hown hts hX xf_I tw_198 tw_10 (by decide) xt_44 xb_44 xg_44 hno hlocks hZ hW hS ⟨Or.inr ⟨i, j, hi, hj, ei, ej, Or.inr ⟨hnr, by rw [e1, e2]; exact hbig, rfl⟩⟩, rfl⟩ d_Qo_addPair_34 d_Qo_addPair_37 d_Qo_addPair_38 d_Qo_addPair_40 d_Qo_addPair_43 (by decide) (Nat.le_of_ble_eq_true rfl) (by decide) (by decide) (by decide) (by decide)
set_option maxHeartbeats 4000000 in
set_option maxRecDepth 100000 in
theorem c_Qo_both (hl0 : l.stackTraces = false) (M : Nat → Option va_E) (sz n : Nat) (tb : Nat → Option nq) (ad : Nat → Nat) (qs : Nat → nq) (hI : qo_I cI cJ cN h0 na v va vb om oa ob im ia ib ro mk ka kb fa la Z M tb n ad qs) (xp xq : Int32) : vx_Met l y_Qo_both (.code y_Qo_both b_Qo_both 3 (some .int) :: ww) ({ frames := 9, cells := 5, slots := 43, locals := 290 }) (hx_Pc D qcl (qty cI cJ cZ cN) [.ref h0, .int xp, .int xq] M sz) (va_Qi (qo_P cI cJ cN h0 na v va vb om oa ob im ia ib ro mk ka kb fa la Z M n qs (fun q => ∃ i j : Nat, i < n ∧ j < n ∧ xp = nI i ∧ xq = nI j ∧ (nL (qs i)).length + (nL (qs j)).length ≤ 6 ∧ nP q = np_P true (nP (qs i)) (nP (qs j)) ∧ nx q = (nx (qs i) || nx (qs j)) ∧ ny q = (ny (qs i) || ny (qs j)) ∧ (nL q).length = (nL (qs i)).length + (nL (qs j)).length ∧ nd q = max (nd (qs i)) (nd (qs j)))) (hw_B D qcl (qty cI cJ cZ cN) M sz) (hw_A M sz)) (hx_X D qcl (qty cI cJ cZ cN) M sz (qo_N (fun E => (¬ ((∃ i, i < n ∧ xp = nI i) ∧ ∃ j, j < n ∧ xq = nI j) ∧ E = "java/lang/IndexOutOfBoundsException") ∨ (∃ i j : Nat, i < n ∧ j < n ∧ xp = nI i ∧ xq = nI j ∧ ((n = 60 ∧ E = "java/lang/IllegalStateException") ∨ (n < 60 ∧ 6 < (nL (qs i)).length + (nL (qs j)).length ∧ E = "java/lang/IllegalArgumentException")))) M)) 5 43 (hw_A M sz) := by
  obtain ⟨hC, i1, hT, hE, hD, hP, hD2, hla9, hz9, hL9, hN9⟩ := id hI
  obtain ⟨hC1, hC2, hn60⟩ := id hC
  refine hx_met (by decide) (Nat.le_of_ble_eq_true rfl) ?_
  intro p e s m below meth c hx hb hr hml hown hlocks hnm hts hsz hX hW hZ hno ls hl
  subst hsz
  have hA : ∀ q, s.heap.size ≤ q → hw_A M s.heap.size q := fun q h => Or.inr h
  have hS : va_S (hw_A M s.heap.size) s.heap s.heap [] := va_S.rf
  have hl : lv_has ls 3 [(0, .ref h0), (1, .int xp), (2, .int xq)] := hl
  have hown : s.vm.findClass "QuantifierOut" = some m.cls := hown
  refine lv_aload_n hx hb d_Qo_both_0 rfl (lv_at hl 0 rfl) ?_
  refine lv_iload_n hx hb d_Qo_both_1 rfl (lv_at hl 1 rfl) ?_
  refine lv_iload_n hx hb d_Qo_both_2 rfl (lv_at hl 2 rfl) ?_
  refine lv_iconst (v := 1) hx hb d_Qo_both_3 (by decide) ?_
  refine hx_calli (hx_runV (n := 3) (own := "QuantifierOut") (As := [.int xp, .int xq, .int 1]) (rest := []) hx hb hml hown hts hX hW hl.1 hZ hS hA (c_Qo_addPair l D cI cJ cZ cN h0 na v va vb om oa ob im ia ib ro mk ka kb fa la Z hl0 M _ n tb ad qs hI xp xq true) hC1 rfl tw_276 tw_278 ts_3 tw_1 tw_279 (by decide +kernel) rfl rfl ⟨by decide, by decide⟩ rfl rfl (Nat.le_of_ble_eq_true rfl) d_Qo_both_4 ⟨by decide, by decide⟩) hW hS hA (fun E9 ce9 q9 M1 H locs hpp hW hS hq1 hq2 hq3 => ?_) (fun r1 M1 H locs hpp hz hW hS => ?_)
  · exact hx_out hno hlocks hq1 hq2 hq3 hW hS hpp (by decide) (by decide)
  refine vx_ret (W.widen (k := 5) (n := 43) (by decide) (by decide) ?_)
  exact hw_reti hx hb hr hlocks hW hS hpp d_Qo_both_7
set_option maxHeartbeats 4000000 in
set_option maxRecDepth 100000 in
theorem c_Qo_either (hl0 : l.stackTraces = false) (M : Nat → Option va_E) (sz n : Nat) (tb : Nat → Option nq) (ad : Nat → Nat) (qs : Nat → nq) (hI : qo_I cI cJ cN h0 na v va vb om oa ob im ia ib ro mk ka kb fa la Z M tb n ad qs) (xp xq : Int32) : vx_Met l y_Qo_either (.code y_Qo_either b_Qo_either 3 (some .int) :: ww) ({ frames := 9, cells := 5, slots := 43, locals := 290 }) (hx_Pc D qcl (qty cI cJ cZ cN) [.ref h0, .int xp, .int xq] M sz) (va_Qi (qo_P cI cJ cN h0 na v va vb om oa ob im ia ib ro mk ka kb fa la Z M n qs (fun q => ∃ i j : Nat, i < n ∧ j < n ∧ xp = nI i ∧ xq = nI j ∧ (nL (qs i)).length + (nL (qs j)).length ≤ 6 ∧ nP q = np_P false (nP (qs i)) (nP (qs j)) ∧ nx q = (nx (qs i) || nx (qs j)) ∧ ny q = (ny (qs i) || ny (qs j)) ∧ (nL q).length = (nL (qs i)).length + (nL (qs j)).length ∧ nd q = max (nd (qs i)) (nd (qs j)))) (hw_B D qcl (qty cI cJ cZ cN) M sz) (hw_A M sz)) (hx_X D qcl (qty cI cJ cZ cN) M sz (qo_N (fun E => (¬ ((∃ i, i < n ∧ xp = nI i) ∧ ∃ j, j < n ∧ xq = nI j) ∧ E = "java/lang/IndexOutOfBoundsException") ∨ (∃ i j : Nat, i < n ∧ j < n ∧ xp = nI i ∧ xq = nI j ∧ ((n = 60 ∧ E = "java/lang/IllegalStateException") ∨ (n < 60 ∧ 6 < (nL (qs i)).length + (nL (qs j)).length ∧ E = "java/lang/IllegalArgumentException")))) M)) 5 43 (hw_A M sz) := by
  obtain ⟨hC, i1, hT, hE, hD, hP, hD2, hla9, hz9, hL9, hN9⟩ := id hI
  obtain ⟨hC1, hC2, hn60⟩ := id hC
  refine hx_met (by decide) (Nat.le_of_ble_eq_true rfl) ?_
  intro p e s m below meth c hx hb hr hml hown hlocks hnm hts hsz hX hW hZ hno ls hl
  subst hsz
  have hA : ∀ q, s.heap.size ≤ q → hw_A M s.heap.size q := fun q h => Or.inr h
  have hS : va_S (hw_A M s.heap.size) s.heap s.heap [] := va_S.rf
  have hl : lv_has ls 3 [(0, .ref h0), (1, .int xp), (2, .int xq)] := hl
  have hown : s.vm.findClass "QuantifierOut" = some m.cls := hown
  refine lv_aload_n hx hb d_Qo_either_0 rfl (lv_at hl 0 rfl) ?_
  refine lv_iload_n hx hb d_Qo_either_1 rfl (lv_at hl 1 rfl) ?_
  refine lv_iload_n hx hb d_Qo_either_2 rfl (lv_at hl 2 rfl) ?_
  refine lv_iconst (v := 0) hx hb d_Qo_either_3 (by decide) ?_
  refine hx_calli (hx_runV (n := 3) (own := "QuantifierOut") (As := [.int xp, .int xq, .int 0]) (rest := []) hx hb hml hown hts hX hW hl.1 hZ hS hA (c_Qo_addPair l D cI cJ cZ cN h0 na v va vb om oa ob im ia ib ro mk ka kb fa la Z hl0 M _ n tb ad qs hI xp xq false) hC1 rfl tw_276 tw_278 ts_3 tw_1 tw_279 (by decide +kernel) rfl rfl ⟨by decide, by decide⟩ rfl rfl (Nat.le_of_ble_eq_true rfl) d_Qo_either_4 ⟨by decide, by decide⟩) hW hS hA (fun E9 ce9 q9 M1 H locs hpp hW hS hq1 hq2 hq3 => ?_) (fun r1 M1 H locs hpp hz hW hS => ?_)
  · exact hx_out hno hlocks hq1 hq2 hq3 hW hS hpp (by decide) (by decide)
  refine vx_ret (W.widen (k := 5) (n := 43) (by decide) (by decide) ?_)
  exact hw_reti hx hb hr hlocks hW hS hpp d_Qo_either_7
set_option maxHeartbeats 4000000 in
set_option maxRecDepth 100000 in
theorem c_Qo_not (hl0 : l.stackTraces = false) (M : Nat → Option va_E) (sz n : Nat) (tb : Nat → Option nq) (ad : Nat → Nat) (qs : Nat → nq) (hI : qo_I cI cJ cN h0 na v va vb om oa ob im ia ib ro mk ka kb fa la Z M tb n ad qs) (xp : Int32) : vx_Met l y_Qo_not (.code y_Qo_not b_Qo_not 3 (some .int) :: ww) ({ frames := 8, cells := 3, slots := 17, locals := 260 }) (hx_Pc D qcl (qty cI cJ cZ cN) [.ref h0, .int xp] M sz) (va_Qi (qo_P cI cJ cN h0 na v va vb om oa ob im ia ib ro mk ka kb fa la Z M n qs (fun q => ∃ i : Nat, i < n ∧ xp = nI i ∧ (∀ x y, nP q x y ↔ ¬ nP (qs i) x y) ∧ nx q = nx (qs i) ∧ ny q = ny (qs i) ∧ (nL q).length = (nL (qs i)).length ∧ nd q = nd (qs i))) (hw_B D qcl (qty cI cJ cZ cN) M sz) (hw_A M sz)) (hx_X D qcl (qty cI cJ cZ cN) M sz (qo_N (fun E => (¬ (∃ i, i < n ∧ xp = nI i) ∧ E = "java/lang/IndexOutOfBoundsException") ∨ ((∃ i, i < n ∧ xp = nI i) ∧ n = 60 ∧ E = "java/lang/IllegalStateException")) M)) 3 17 (hw_A M sz) := by
  obtain ⟨hC, i1, hT, hE, hD, hP, hD2, hla9, hz9, hL9, hN9⟩ := id hI
  obtain ⟨hC1, hC2, hn60⟩ := id hC
  refine hx_met (by decide) (Nat.le_of_ble_eq_true rfl) ?_
  intro p e s m below meth c hx hb hr hml hown hlocks hnm hts hsz hX hW hZ hno ls hl
  subst hsz
  have hA : ∀ q, s.heap.size ≤ q → hw_A M s.heap.size q := fun q h => Or.inr h
  have hS : va_S (hw_A M s.heap.size) s.heap s.heap [] := va_S.rf
  have hl : lv_has ls 3 [(0, .ref h0), (1, .int xp)] := hl
  have hown : s.vm.findClass "QuantifierOut" = some m.cls := hown
  refine lv_aload_n hx hb d_Qo_not_0 rfl (lv_at hl 0 rfl) ?_
  refine lv_iload_n hx hb d_Qo_not_1 rfl (lv_at hl 1 rfl) ?_
  refine hx_callq (hx_runV (n := 1) (own := "QuantifierOut") (As := [.int xp]) (rest := []) hx hb hml hown hts hX hW hl.1 hZ hS hA (c_Qo_nodeAt l D cI cJ cZ cN hl0 h0 na v ro n _ ad M hC xp) hC1 rfl tw_280 tw_282 ts_4 tw_1 tw_283 (by decide +kernel) rfl rfl ⟨by decide, by decide⟩ rfl rfl (Nat.le_of_ble_eq_true rfl) d_Qo_not_2 ⟨by decide, by decide⟩) hW hS hA (fun E9 ce9 q9 M1 H locs hpn hW hS hq1 hq2 hq3 => ?_) (fun rp M1 H locs hpn hz hW hS => ?_)
  · exact hx_out hno hlocks hq1 hq2 hq3 hW hS ⟨Or.inl ⟨fun z9 => by obtain ⟨i, hi, ei⟩ := z9; exact hpn.2.1 i hi ei, hpn.1⟩, hpn.2.2⟩ (by decide) (by decide)
  obtain ⟨i, hi, ei, er, eMn⟩ := hpn
  rw [eMn] at hW
  subst er
  refine lv_astore_n (lv' := [(2, .ref (ad i)), (0, .ref h0), (1, .int xp)]) hx hb d_Qo_not_5 rfl hl (by decide) rfl (fun ls hl => ?_)
  refine lv_aload_n hx hb d_Qo_not_6 rfl (lv_at hl 1 rfl) ?_
  refine hx_callv (hx_runV (n := 0) (own := "QuantifierOut") (As := []) (rest := []) hx hb hml hown hts hX hW hl.1 hZ hS hA (c_Qo_checkRoom l D cI cJ cZ cN hl0 h0 na v ro n _ ad M hC) hC1 rfl tw_123 tw_125 ts_0 tw_1 tw_126 (by decide +kernel) rfl rfl ⟨by decide, by decide⟩ rfl rfl (Nat.le_of_ble_eq_true rfl) d_Qo_not_7 ⟨by decide, by decide⟩) hW hS hA (fun E9 ce9 q9 M2 H locs hpr hW hS hq1 hq2 hq3 => ?_) (fun M2 H locs hpr hz hW hS => ?_)
  · exact hx_out hno hlocks hq1 hq2 hq3 hW hS ⟨Or.inr ⟨⟨i, hi, ei⟩, hpr.2.1, hpr.1⟩, hpr.2.2⟩ (by decide) (by decide)
  obtain ⟨hnr, eMr⟩ := hpr
  rw [eMr] at hW
  refine lv_aload_n hx hb d_Qo_not_10 rfl (lv_at hl 1 rfl) ?_
  refine lv_aload_n hx hb d_Qo_not_11 rfl (lv_at hl 0 rfl) ?_
  obtain ⟨q1, hq1⟩ : ∃ q, q = qs i := ⟨_, rfl⟩
  have t1 : tb (ad i) = some q1 := by rw [hq1]; exact i1 i hi
  have e1 := hq1.symm
  obtain ⟨⟨l1, gr1, F1, n1, lc1, lf1, gg1⟩, ok1⟩ := id (hT _ _ t1)
  by_cases hng : ∃ a, nK q1 = .inr (.inr (.inl a))
  · skip
    obtain ⟨a, hK⟩ := hng
    have hc := n1.2
    have hk := ok1.1
    unfold nk_ok at hk
    unfold nk_ex nk_ci at hc
    rw [hK] at hk hc
    dsimp only at hk hc
    obtain ⟨q0, u1, u2, u3, u4, u5, u6, u7⟩ := hk
    refine hw_callq (hw_runU (n := 0) (C := "QuantifierOut$Negation") (own := "QuantifierOut") (As := []) (rest := [.ref h0]) hx hb hml hown hts hX hW hl.1 (c_Ng_opposite l D cI cJ cZ cN (ad i) _ a l1 _ _ gr1 M hc) hc rfl (va_Decl.of (hts _ tw_353) (hts _ tw_361)) tw_352 tw_354 tw_356 tw_357 tw_17 tw_358 (by decide +kernel) rfl rfl ⟨by decide, by decide⟩ rfl rfl (Nat.le_of_ble_eq_true rfl) d_Qo_not_12 ⟨by decide, by decide⟩) hW hS hA (fun ro9 Mo H locs hpo hz hW hS => ?_)
    obtain ⟨ero, eMo⟩ := hpo
    rw [eMo] at hW
    subst ero
    obtain ⟨⟨l0, gr0, F0_, n0, _⟩, ok0⟩ := id (hT _ _ u1)
    refine hw_calli (hw_runV (n := 1) (own := "QuantifierOut") (As := [.ref a]) (rest := []) hx hb hml hown hts hX hW hl.1 (c_Qo_add l D cI cJ cZ cN h0 na v ro n _ ad M hC hnr a _ l0 _ _ gr0 _ n0) hC1 rfl tw_264 tw_266 ts_2 tw_1 tw_267 (by decide +kernel) rfl rfl ⟨by decide, by decide⟩ rfl rfl (Nat.le_of_ble_eq_true rfl) d_Qo_not_15 ⟨by decide, by decide⟩) hW hS hA (fun ra Ma H locs hpa hz hW hS => ?_)
    obtain ⟨era, hCa, hfa⟩ := hpa
    obtain ⟨hI3, hZ3⟩ := qo_old hI u1 hCa hfa
    refine vx_ret (W.widen (k := 3) (n := 17) (by decide) (by decide) ?_)
    exact hw_reti hx hb hr hlocks hW hS ⟨era, hnr, ⟨q0, ⟨i, hi, ei, fun x y => by rw [e1, u5 x y]; exact Classical.not_not.symm, by rw [e1]; exact u6.symm, by rw [e1]; exact u7.symm, by rw [e1, u4], by rw [e1, u3]⟩, _, _, hI3⟩, hZ3⟩ d_Qo_not_18
  · skip
    have hneg : nk_neg (nK q1) = 0 := by
      unfold nk_neg; split
      · rename_i a9 e9; exact absurd ⟨a9, e9⟩ hng
      · rfl
    refine hw_callq (op_run (own := "QuantifierOut") (rest := [.ref h0]) hx hb hml hown hts hX hW hl.1 (c_Nd_opposite l D cI cJ cZ cN _ (ad i) _ l1 _ _ gr1 _ M n1) n1 (by rcases hKK : nK q1 with z | z | z | z; exact Or.inl rfl; exact Or.inr (Or.inl rfl); exact absurd ⟨z, hKK⟩ hng; exact Or.inr (Or.inr rfl)) tw_352 rfl rfl ⟨by decide, by decide⟩ rfl (Nat.le_of_ble_eq_true rfl) d_Qo_not_12 ⟨by decide, by decide⟩) hW hS hA (fun ro9 Mo H locs hpo hz hW hS => ?_)
    obtain ⟨b, ero, z_b, hbc, hfo⟩ := hpo
    subst ero
    have hMi : ∀ x, M x ≠ none → Mo x = M x := fun x z9 => hfo x (fun e9 => z9 (e9 ▸ z_b))
    obtain ⟨q, hq⟩ : ∃ q : nq, q = nn_q (ad i) q1 := ⟨_, rfl⟩
    have hl1 := hMi l1 (by rw [lc1]; exact Option.some_ne_none _)
    have hcell : nq_cell cI Mo b q := by
      rw [hq]
      exact ⟨l1, -1, F1, ⟨Or.inr (Or.inl rfl), hbc⟩, hl1.trans lc1, lf1, Or.inl rfl⟩
    have htbn : tb b = none := by cases e9 : tb b with | none => rfl | some q9 => exact absurd z_b (tb_ex hT e9)
    have gup : ∀ a9 q9, tb a9 = some q9 → va_up tb b (some q) a9 = some q9 := fun a9 q9 h9 => by rw [va_up_ne _ _ (fun e9 => by rw [e9, htbn] at h9; cases h9)]; exact h9
    have hok : nq_ok (va_up tb b (some q)) q := by rw [hq] at gup ⊢; exact nq_not (gup _ _ t1) ⟨nk_ok_up htbn ok1.1, ok1.2⟩ hneg
    have hlbs : ∀ la2 gr ex ci, nd_c Mo b ci (nd_fr (nx q) (ny q)) (nI (nd q)) la2 gr ex → la2 ≠ fa ∧ la2 ≠ la ∧ ¬ Z la2 := by
      intro la2 gr ex ci h9
      have e9 : la2 = l1 := nd_la h9 (show nd_c Mo b 3 _ _ l1 (-1) _ from ⟨Or.inr (Or.inl rfl), hbc⟩)
      rw [e9]; exact hla9 _ _ _ _ _ _ t1 n1
    have hI2 := qo_grow hI z_b hMi hcell hok hlbs
    obtain ⟨⟨la3, gr3, F3, hnc, _⟩, _⟩ := hI2.2.2.1 b q (va_up_self _ _ _)
    refine hw_calli (hw_runV (n := 1) (own := "QuantifierOut") (As := [.ref b]) (rest := []) hx hb hml hown hts hX hW hl.1 (c_Qo_add l D cI cJ cZ cN h0 na v ro n _ ad Mo hI2.1 hnr b _ la3 _ _ gr3 _ hnc) hI2.1.1 rfl tw_264 tw_266 ts_2 tw_1 tw_267 (by decide +kernel) rfl rfl ⟨by decide, by decide⟩ rfl rfl (Nat.le_of_ble_eq_true rfl) d_Qo_not_15 ⟨by decide, by decide⟩) hW hS hA (fun ra Ma H locs hpa hz hW hS => ?_)
    obtain ⟨era, hCa, hfa⟩ := hpa
    obtain ⟨hI3, hZ3⟩ := qo_old hI2 (va_up_self _ _ _) hCa hfa
    refine vx_ret (W.widen (k := 3) (n := 17) (by decide) (by decide) ?_)
    exact hw_reti hx hb hr hlocks hW hS ⟨era, hnr, ⟨q, ⟨i, hi, ei, fun x y => by rw [hq, e1]; exact Iff.rfl, by rw [hq, e1]; rfl, by rw [hq, e1]; rfl, by rw [hq, e1]; rfl, by rw [hq, e1]; rfl⟩, _, _, hI3⟩, fun z z9 => (hZ3 z z9).trans (hMi z (hz9 z z9))⟩ d_Qo_not_18
set_option maxHeartbeats 4000000 in
set_option maxRecDepth 100000 in
theorem c_Qo_addQuantified (hl0 : l.stackTraces = false) (M : Nat → Option va_E) (sz n : Nat) (tb : Nat → Option nq) (ad : Nat → Nat) (qs : Nat → nq) (hI : qo_I cI cJ cN h0 na v va vb om oa ob im ia ib ro mk ka kb fa la Z M tb n ad qs) (xl xp : Int32) (kk : Bool) : vx_Met l y_Qo_addQuantified (.code y_Qo_addQuantified b_Qo_addQuantified 5 (some .int) :: ww) ({ frames := 8, cells := 3, slots := 19, locals := 260 }) (hx_Pc D qcl (qty cI cJ cZ cN) [.ref h0, .int xl, .int xp, .int (if kk = true then 1 else 0)] M sz) (va_Qi (qo_P cI cJ cN h0 na v va vb om oa ob im ia ib ro mk ka kb fa la Z M n qs (fun q => ∃ j i : Nat, j < 2 ∧ i < n ∧ xl = nI j ∧ xp = nI i ∧ nd (qs i) < 2 ∧ nP q = nu_P j kk (nP (qs i)) ∧ nx q = (if j = 0 then false else nx (qs i)) ∧ ny q = (if j = 0 then ny (qs i) else false) ∧ (nL q).length = (nL (qs i)).length ∧ nd q = nd (qs i) + 1)) (hw_B D qcl (qty cI cJ cZ cN) M sz) (hw_A M sz)) (hx_X D qcl (qty cI cJ cZ cN) M sz (qo_N (fun E => (¬ (∃ i, i < n ∧ xp = nI i) ∧ E = "java/lang/IndexOutOfBoundsException") ∨ (∃ i, i < n ∧ xp = nI i ∧ ((n = 60 ∧ E = "java/lang/IllegalStateException") ∨ (n < 60 ∧ ¬ ((∃ j, j < 2 ∧ xl = nI j) ∧ nd (qs i) < 2) ∧ E = "java/lang/IllegalArgumentException")))) M)) 3 19 (hw_A M sz) := by
  obtain ⟨hC, i1, hT, hE, hD, hP, hD2, hla9, hz9, hL9, hN9⟩ := id hI
  obtain ⟨hC1, hC2, hn60⟩ := id hC
  refine hx_met (by decide) (Nat.le_of_ble_eq_true rfl) ?_
  intro p e s m below meth c hx hb hr hml hown hlocks hnm hts hsz hX hW hZ hno ls hl
  subst hsz
  have hA : ∀ q, s.heap.size ≤ q → hw_A M s.heap.size q := fun q h => Or.inr h
  have hS : va_S (hw_A M s.heap.size) s.heap s.heap [] := va_S.rf
  have hl : lv_has ls 5 [(0, .ref h0), (1, .int xl), (2, .int xp), (3, .int (if kk = true then 1 else 0))] := hl
  have hown : s.vm.findClass "QuantifierOut" = some m.cls := hown
  obtain ⟨Q9, hQ9⟩ : ∃ X : State → Prop, X = vx_MQ below (va_Qi (qo_P cI cJ cN h0 na v va vb om oa ob im ia ib ro mk ka kb fa la Z M n qs (fun q => ∃ j i : Nat, j < 2 ∧ i < n ∧ xl = nI j ∧ xp = nI i ∧ nd (qs i) < 2 ∧ nP q = nu_P j kk (nP (qs i)) ∧ nx q = (if j = 0 then false else nx (qs i)) ∧ ny q = (if j = 0 then ny (qs i) else false) ∧ (nL q).length = (nL (qs i)).length ∧ nd q = nd (qs i) + 1)) (hw_B D qcl (qty cI cJ cZ cN) M s.heap.size) (hw_A M s.heap.size)) (hx_X D qcl (qty cI cJ cZ cN) M s.heap.size (qo_N (fun E => (¬ (∃ i, i < n ∧ xp = nI i) ∧ E = "java/lang/IndexOutOfBoundsException") ∨ (∃ i, i < n ∧ xp = nI i ∧ ((n = 60 ∧ E = "java/lang/IllegalStateException") ∨ (n < 60 ∧ ¬ ((∃ j, j < 2 ∧ xl = nI j) ∧ nd (qs i) < 2) ∧ E = "java/lang/IllegalArgumentException")))) M)) [.ref h0, .int xl, .int xp, .int (if kk = true then 1 else 0)].toArray s 3 19 (hw_A M s.heap.size) := ⟨_, rfl⟩
  refine lv_aload_n hx hb d_Qo_addQuantified_0 rfl (lv_at hl 0 rfl) ?_
  refine lv_iload_n hx hb d_Qo_addQuantified_1 rfl (lv_at hl 2 rfl) ?_
  refine hx_callq (hx_runV (n := 1) (own := "QuantifierOut") (As := [.int xp]) (rest := []) hx hb hml hown hts hX hW hl.1 hZ hS hA (c_Qo_nodeAt l D cI cJ cZ cN hl0 h0 na v ro n _ ad M hC xp) hC1 rfl tw_280 tw_282 ts_4 tw_1 tw_283 (by decide +kernel) rfl rfl ⟨by decide, by decide⟩ rfl rfl (Nat.le_of_ble_eq_true rfl) d_Qo_addQuantified_2 ⟨by decide, by decide⟩) hW hS hA (fun E9 ce9 q9 M1 H locs hpn hW hS hq1 hq2 hq3 => ?_) (fun rp M1 H locs hpn hz hW hS => ?_)
  · exact hx_out hno hlocks hq1 hq2 hq3 hW hS ⟨Or.inl ⟨fun z9 => by obtain ⟨i, hi, ei⟩ := z9; exact hpn.2.1 i hi ei, hpn.1⟩, hpn.2.2⟩ (by decide) (by decide)
  obtain ⟨i, hi, ei, er, eMn⟩ := hpn
  rw [eMn] at hW
  subst er
  refine lv_astore (lv' := [(4, .ref (ad i)), (0, .ref h0), (1, .int xl), (2, .int xp), (3, .int (if kk = true then 1 else 0))]) hx hb d_Qo_addQuantified_5 hl (by decide) rfl (fun ls hl => ?_)
  refine lv_aload_n hx hb d_Qo_addQuantified_7 rfl (lv_at hl 1 rfl) ?_
  refine hx_callv (hx_runV (n := 0) (own := "QuantifierOut") (As := []) (rest := []) hx hb hml hown hts hX hW hl.1 hZ hS hA (c_Qo_checkRoom l D cI cJ cZ cN hl0 h0 na v ro n _ ad M hC) hC1 rfl tw_123 tw_125 ts_0 tw_1 tw_126 (by decide +kernel) rfl rfl ⟨by decide, by decide⟩ rfl rfl (Nat.le_of_ble_eq_true rfl) d_Qo_addQuantified_8 ⟨by decide, by decide⟩) hW hS hA (fun E9 ce9 q9 M2 H locs hpr hW hS hq1 hq2 hq3 => ?_) (fun M2 H locs hpr hz hW hS => ?_)
  · exact hx_out hno hlocks hq1 hq2 hq3 hW hS ⟨Or.inr ⟨i, hi, ei, Or.inl ⟨hpr.2.1, hpr.1⟩⟩, hpr.2.2⟩ (by decide) (by decide)
  obtain ⟨hnr, eMr⟩ := hpr
  rw [eMr] at hW
  obtain ⟨q1, hq1⟩ : ∃ q, q = qs i := ⟨_, rfl⟩
  have t1 : tb (ad i) = some q1 := by rw [hq1]; exact i1 i hi
  have e1 := hq1.symm
  obtain ⟨⟨l1, gr1, F1, n1, lc1, lf1, gg1⟩, ok1⟩ := id (hT _ _ t1)
  have hd2 := ok1.2.2.2.1
  refine lv_iload_n hx hb d_Qo_addQuantified_11 rfl (lv_at hl 2 rfl) ?_
  have tail : ∀ (j : Nat), j < 2 → xl = nI j → ∀ (H : Heap) (locs : List Loc) (ls : Array Slot), hw_W D qcl (qty cI cJ cZ cN) (hw_A M s.heap.size) M s H → va_S (hw_A M s.heap.size) s.heap H locs → lv_has ls 5 [(4, .ref (ad i)), (0, .ref h0), (1, .int xl), (2, .int xp), (3, .int (if kk = true then 1 else 0))] → W p l e ({ frames := 8, cells := 3, slots := 19, locals := 260 }) s m [.ref h0, .int xl, .int xp, .int (if kk = true then 1 else 0)].toArray below meth c H locs 2 12 Q9 (F0 m 30 ls []) := by
    intro j hj ej H locs ls hW hS hl
    refine lv_aload hx hb d_Qo_addQuantified_30 (lv_at hl 0 rfl) ?_
    refine nd_get1 (own := "QuantifierOut") hx hb hts hown hW n1 tw_240 d_Qo_addQuantified_32 ?_
    refine lv_iconst (v := 2) hx hb d_Qo_addQuantified_35 (by decide) ?_
    refine lv_icmp_lt (tgt := 49) hx hb d_Qo_addQuantified_36 (by decide) (fun c_36 => ?_) (fun c_36 => ?_)
    · skip
      have hdp : nd q1 < 2 := (nI_ltI (b := 2) (by omega) (by omega)).mp c_36
      subst ej
      refine lv_aload_n hx hb d_Qo_addQuantified_49 rfl (lv_at hl 1 rfl) ?_
      have hmono : ∀ x9, M x9 = none → M x9 = none := fun _ z9 => z9
      refine hw_new (ci := 6) (own := "QuantifierOut") (fs := [.int 0, .int 0, .null, .int 0, .int 0, .null, .int 0]) hx hb hts i_Qf ft_Qf tk_Qf hown (hts _ tw_389) (hts _ tw_390) (hts _ tw_18) hW hS hA rfl (by intro j9 hj9; rcases (show j9 = 0 ∨ j9 = 1 ∨ j9 = 2 ∨ j9 = 3 ∨ j9 = 4 ∨ j9 = 5 ∨ j9 = 6 by omega) with rfl | rfl | rfl | rfl | rfl | rfl | rfl <;> rfl) (Nat.le_of_ble_eq_true rfl) (Nat.le_of_ble_eq_true rfl) d_Qo_addQuantified_50 (fun b H hq_b hW hS => ?_)
      have hW : hw_W D qcl (qty cI cJ cZ cN) _ (va_up M b (some (.inr (6, [.int 0, .int 0, .null, .int 0, .int 0, .null, .int 0])))) s H := hW
      generalize hMw3 : va_up M b (some (.inr (6, [.int 0, .int 0, .null, .int 0, .int 0, .null, .int 0]))) = Mw3 at hW
      have hy_b : Mw3 b = some (.inr (6, [.int 0, .int 0, .null, .int 0, .int 0, .null, .int 0])) := by rw [← hMw3]; exact va_up_self _ _ _
      have z_b : M b = none := hmono b hq_b
      have hmono : ∀ x9, Mw3 x9 = none → M x9 = none := fun x9 z9 => hmono x9 (va_up_none (by rw [hMw3]; exact z9))
      have hfr_Mw3 : ∀ x9, x9 ≠ b → Mw3 x9 = M x9 := fun x9 z9 => by rw [← hMw3, va_up_ne _ _ z9]
      refine lv_dup hx hb d_Qo_addQuantified_53 rfl ?_
      refine lv_iload_n hx hb d_Qo_addQuantified_54 rfl (lv_at hl 2 rfl) ?_
      refine lv_aload hx hb d_Qo_addQuantified_55 (lv_at hl 0 rfl) ?_
      refine lv_iload_n hx hb d_Qo_addQuantified_57 rfl (lv_at hl 4 rfl) ?_
      have hgrow0 : ∀ x, M x ≠ none → Mw3 x = M x := fun x z9 => hfr_Mw3 x (fun e9 => z9 (e9 ▸ z_b))
      have n1b : nd_c Mw3 (ad i) _ _ _ l1 gr1 _ := ⟨n1.1, (hgrow0 _ (by rw [n1.2]; exact Option.some_ne_none _)).trans n1.2⟩
      refine hw_callv (hw_runI (n := 3) (own := "QuantifierOut") (As := [.int (nI j), .ref (ad i), .int (if kk = true then 1 else 0)]) (rest := [.ref b, .ref h0]) hx hb hml hown hts hX hW hl.1 (c_Qf_init l D cI cJ cZ cN b _ j (ad i) _ l1 _ _ gr1 _ kk Mw3 hy_b n1b) tw_391 tw_392 tw_18 tw_393 rfl (by decide +kernel) rfl rfl ⟨by decide, by decide⟩ rfl rfl (Nat.le_of_ble_eq_true rfl) d_Qo_addQuantified_58 ⟨by decide, by decide⟩) hW hS hA (fun Mi H locs hpi hz hW hS => ?_)
      obtain ⟨hbc, hfi⟩ := hpi
      have hMi : ∀ x, M x ≠ none → Mi x = M x := fun x z9 => (hfi x (fun e9 => z9 (e9 ▸ z_b))).trans (hgrow0 x z9)
      obtain ⟨q, hq⟩ : ∃ q : nq, q = nu_q (ad i) j kk q1 := ⟨_, rfl⟩
      have hfr9 : nd_fr (nx q1) (ny q1) &&& (((1 : Int32) <<< (nI j &&& 31)) ^^^ (-1)) = nd_fr (if j = 0 then false else nx q1) (if j = 0 then ny q1 else false) := by rcases (show j = 0 ∨ j = 1 by omega) with rfl | rfl; exact nd_cut0 _ _; exact nd_cut1 _ _
      have hbc2 : Mi b = some (.inr (6, [.int (nd_fr (if j = 0 then false else nx q1) (if j = 0 then ny q1 else false)), .int (nI (nd q1 + 1)), .ref l1, .int (-1), .int (nI j), .ref (ad i), .int (if kk = true then 1 else 0)])) := by rw [hbc, hfr9, nI_1]
      have hl1 := hMi l1 (by rw [lc1]; exact Option.some_ne_none _)
      have hcell : nq_cell cI Mi b q := by
        rw [hq]
        exact ⟨l1, -1, F1, ⟨Or.inr (Or.inr (Or.inr rfl)), hbc2⟩, hl1.trans lc1, lf1, Or.inl rfl⟩
      have htbn : tb b = none := by cases e9 : tb b with | none => rfl | some q9 => exact absurd z_b (tb_ex hT e9)
      have gup : ∀ a9 q9, tb a9 = some q9 → va_up tb b (some q) a9 = some q9 := fun a9 q9 h9 => by rw [va_up_ne _ _ (fun e9 => by rw [e9, htbn] at h9; cases h9)]; exact h9
      have hok : nq_ok (va_up tb b (some q)) q := by rw [hq] at gup ⊢; exact nq_quant hj (gup _ _ t1) ⟨nk_ok_up htbn ok1.1, ok1.2⟩ hdp
      have hlbs : ∀ la2 gr ex ci, nd_c Mi b ci (nd_fr (nx q) (ny q)) (nI (nd q)) la2 gr ex → la2 ≠ fa ∧ la2 ≠ la ∧ ¬ Z la2 := by
        intro la2 gr ex ci h9
        have e9 : la2 = l1 := nd_la h9 (show nd_c Mi b 6 _ _ l1 (-1) _ from ⟨Or.inr (Or.inr (Or.inr rfl)), hbc⟩)
        rw [e9]; exact hla9 _ _ _ _ _ _ t1 n1
      have hI2 := qo_grow hI z_b hMi hcell hok hlbs
      obtain ⟨⟨la3, gr3, F3, hnc, _⟩, _⟩ := hI2.2.2.1 b q (va_up_self _ _ _)
      refine hw_calli (hw_runV (n := 1) (own := "QuantifierOut") (As := [.ref b]) (rest := []) hx hb hml hown hts hX hW hl.1 (c_Qo_add l D cI cJ cZ cN h0 na v ro n _ ad Mi hI2.1 hnr b _ la3 _ _ gr3 _ hnc) hI2.1.1 rfl tw_264 tw_266 ts_2 tw_1 tw_267 (by decide +kernel) rfl rfl ⟨by decide, by decide⟩ rfl rfl (Nat.le_of_ble_eq_true rfl) d_Qo_addQuantified_61 ⟨by decide, by decide⟩) hW hS hA (fun ra Ma H locs hpa hz hW hS => ?_)
      obtain ⟨era, hCa, hfa⟩ := hpa
      obtain ⟨hI3, hZ3⟩ := qo_old hI2 (va_up_self _ _ _) hCa hfa
      rw [hQ9]
      refine vx_ret (W.widen (k := 3) (n := 19) (by decide) (by decide) ?_)
      exact hw_reti hx hb hr hlocks hW hS ⟨era, hnr, ⟨q, ⟨j, i, hj, hi, rfl, ei, by rw [e1]; exact hdp, by rw [hq, e1]; rfl, by rw [hq, e1]; rfl, by rw [hq, e1]; rfl, by rw [hq, e1]; rfl, by rw [hq, e1]; rfl⟩, _, _, hI3⟩, fun z z9 => (hZ3 z z9).trans (hMi z (hz9 z z9))⟩ d_Qo_addQuantified_64
    · skip
      have hdp : ¬ nd q1 < 2 := fun z9 => c_36 ((nI_ltI (b := 2) (by omega) (by omega)).mpr z9)
      rw [hQ9]
      exact hx_throw (is := 142) (text := "the depth would be above 2") hx hb hl0 (by rw [hml]; exact hl.1.symm) hown hts hX xf_I tw_198 tw_10 (by decide) xt_44 xb_44 xg_44 hno hlocks hZ hW hS ⟨Or.inr ⟨i, hi, ei, Or.inr ⟨hnr, fun z9 => hdp (by have := z9.2; rw [e1] at this; exact this), rfl⟩⟩, rfl⟩ d_Qo_addQuantified_39 d_Qo_addQuantified_42 d_Qo_addQuantified_43 d_Qo_addQuantified_45 d_Qo_addQuantified_48 (by decide) (Nat.le_of_ble_eq_true rfl) (by decide) (by decide) (by decide) (by decide)
  refine lv_if_eq (tgt := 30) hx hb d_Qo_addQuantified_12 (by decide) (fun c_12 => ?_) (fun c_12 => ?_)
  · skip
    rw [← hQ9]
    exact tail 0 (by omega) c_12 _ _ ls hW hS hl
  · skip
    refine lv_iload_n hx hb d_Qo_addQuantified_15 rfl (lv_at hl 2 rfl) ?_
    refine lv_iconst (v := 1) hx hb d_Qo_addQuantified_16 (by decide) ?_
    refine lv_icmp_eq (tgt := 30) hx hb d_Qo_addQuantified_17 (by decide) (fun c_17 => ?_) (fun c_17 => ?_)
    · skip
      rw [← hQ9]
      exact tail 1 (by omega) c_17 _ _ ls hW hS hl
    · skip
      exact hx_throw (is := 140) (text := "letter is 0 or 1") hx hb hl0 (by rw [hml]; exact hl.1.symm) hown hts hX xf_I tw_198 tw_10 (by decide) xt_44 xb_44 xg_44 hno hlocks hZ hW hS ⟨Or.inr ⟨i, hi, ei, Or.inr ⟨hnr, fun z9 => by obtain ⟨⟨j, hj, ej⟩, _⟩ := z9; rcases (show j = 0 ∨ j = 1 by omega) with rfl | rfl; exact c_12 ej; exact c_17 ej, rfl⟩⟩, rfl⟩ d_Qo_addQuantified_20 d_Qo_addQuantified_23 d_Qo_addQuantified_24 d_Qo_addQuantified_26 d_Qo_addQuantified_29 (by decide) (Nat.le_of_ble_eq_true rfl) (by decide) (by decide) (by decide) (by decide)
set_option maxHeartbeats 4000000 in
set_option maxRecDepth 100000 in
theorem c_Qo_some (hl0 : l.stackTraces = false) (M : Nat → Option va_E) (sz n : Nat) (tb : Nat → Option nq) (ad : Nat → Nat) (qs : Nat → nq) (hI : qo_I cI cJ cN h0 na v va vb om oa ob im ia ib ro mk ka kb fa la Z M tb n ad qs) (xl xp : Int32) : vx_Met l y_Qo_some (.code y_Qo_some b_Qo_some 3 (some .int) :: ww) ({ frames := 9, cells := 3, slots := 19, locals := 290 }) (hx_Pc D qcl (qty cI cJ cZ cN) [.ref h0, .int xl, .int xp] M sz) (va_Qi (qo_P cI cJ cN h0 na v va vb om oa ob im ia ib ro mk ka kb fa la Z M n qs (fun q => ∃ j i : Nat, j < 2 ∧ i < n ∧ xl = nI j ∧ xp = nI i ∧ nd (qs i) < 2 ∧ nP q = nu_P j false (nP (qs i)) ∧ nx q = (if j = 0 then false else nx (qs i)) ∧ ny q = (if j = 0 then ny (qs i) else false) ∧ (nL q).length = (nL (qs i)).length ∧ nd q = nd (qs i) + 1)) (hw_B D qcl (qty cI cJ cZ cN) M sz) (hw_A M sz)) (hx_X D qcl (qty cI cJ cZ cN) M sz (qo_N (fun E => (¬ (∃ i, i < n ∧ xp = nI i) ∧ E = "java/lang/IndexOutOfBoundsException") ∨ (∃ i, i < n ∧ xp = nI i ∧ ((n = 60 ∧ E = "java/lang/IllegalStateException") ∨ (n < 60 ∧ ¬ ((∃ j, j < 2 ∧ xl = nI j) ∧ nd (qs i) < 2) ∧ E = "java/lang/IllegalArgumentException")))) M)) 3 19 (hw_A M sz) := by
  obtain ⟨hC, i1, hT, hE, hD, hP, hD2, hla9, hz9, hL9, hN9⟩ := id hI
  obtain ⟨hC1, hC2, hn60⟩ := id hC
  refine hx_met (by decide) (Nat.le_of_ble_eq_true rfl) ?_
  intro p e s m below meth c hx hb hr hml hown hlocks hnm hts hsz hX hW hZ hno ls hl
  subst hsz
  have hA : ∀ q, s.heap.size ≤ q → hw_A M s.heap.size q := fun q h => Or.inr h
  have hS : va_S (hw_A M s.heap.size) s.heap s.heap [] := va_S.rf
  have hl : lv_has ls 3 [(0, .ref h0), (1, .int xl), (2, .int xp)] := hl
  have hown : s.vm.findClass "QuantifierOut" = some m.cls := hown
  refine lv_aload_n hx hb d_Qo_some_0 rfl (lv_at hl 0 rfl) ?_
  refine lv_iload_n hx hb d_Qo_some_1 rfl (lv_at hl 1 rfl) ?_
  refine lv_iload_n hx hb d_Qo_some_2 rfl (lv_at hl 2 rfl) ?_
  refine lv_iconst (v := 0) hx hb d_Qo_some_3 (by decide) ?_
  refine hx_calli (hx_runV (n := 3) (own := "QuantifierOut") (As := [.int xl, .int xp, .int 0]) (rest := []) hx hb hml hown hts hX hW hl.1 hZ hS hA (c_Qo_addQuantified l D cI cJ cZ cN h0 na v va vb om oa ob im ia ib ro mk ka kb fa la Z hl0 M _ n tb ad qs hI xl xp false) hC1 rfl tw_383 tw_385 ts_5 tw_1 tw_386 (by decide +kernel) rfl rfl ⟨by decide, by decide⟩ rfl rfl (Nat.le_of_ble_eq_true rfl) d_Qo_some_4 ⟨by decide, by decide⟩) hW hS hA (fun E9 ce9 q9 M1 H locs hpp hW hS hq1 hq2 hq3 => ?_) (fun r1 M1 H locs hpp hz hW hS => ?_)
  · exact hx_out hno hlocks hq1 hq2 hq3 hW hS hpp (by decide) (by decide)
  refine vx_ret (W.widen (k := 3) (n := 19) (by decide) (by decide) ?_)
  exact hw_reti hx hb hr hlocks hW hS hpp d_Qo_some_7
set_option maxHeartbeats 4000000 in
set_option maxRecDepth 100000 in
theorem c_Qo_every (hl0 : l.stackTraces = false) (M : Nat → Option va_E) (sz n : Nat) (tb : Nat → Option nq) (ad : Nat → Nat) (qs : Nat → nq) (hI : qo_I cI cJ cN h0 na v va vb om oa ob im ia ib ro mk ka kb fa la Z M tb n ad qs) (xl xp : Int32) : vx_Met l y_Qo_every (.code y_Qo_every b_Qo_every 3 (some .int) :: ww) ({ frames := 9, cells := 3, slots := 19, locals := 290 }) (hx_Pc D qcl (qty cI cJ cZ cN) [.ref h0, .int xl, .int xp] M sz) (va_Qi (qo_P cI cJ cN h0 na v va vb om oa ob im ia ib ro mk ka kb fa la Z M n qs (fun q => ∃ j i : Nat, j < 2 ∧ i < n ∧ xl = nI j ∧ xp = nI i ∧ nd (qs i) < 2 ∧ nP q = nu_P j true (nP (qs i)) ∧ nx q = (if j = 0 then false else nx (qs i)) ∧ ny q = (if j = 0 then ny (qs i) else false) ∧ (nL q).length = (nL (qs i)).length ∧ nd q = nd (qs i) + 1)) (hw_B D qcl (qty cI cJ cZ cN) M sz) (hw_A M sz)) (hx_X D qcl (qty cI cJ cZ cN) M sz (qo_N (fun E => (¬ (∃ i, i < n ∧ xp = nI i) ∧ E = "java/lang/IndexOutOfBoundsException") ∨ (∃ i, i < n ∧ xp = nI i ∧ ((n = 60 ∧ E = "java/lang/IllegalStateException") ∨ (n < 60 ∧ ¬ ((∃ j, j < 2 ∧ xl = nI j) ∧ nd (qs i) < 2) ∧ E = "java/lang/IllegalArgumentException")))) M)) 3 19 (hw_A M sz) := by
  obtain ⟨hC, i1, hT, hE, hD, hP, hD2, hla9, hz9, hL9, hN9⟩ := id hI
  obtain ⟨hC1, hC2, hn60⟩ := id hC
  refine hx_met (by decide) (Nat.le_of_ble_eq_true rfl) ?_
  intro p e s m below meth c hx hb hr hml hown hlocks hnm hts hsz hX hW hZ hno ls hl
  subst hsz
  have hA : ∀ q, s.heap.size ≤ q → hw_A M s.heap.size q := fun q h => Or.inr h
  have hS : va_S (hw_A M s.heap.size) s.heap s.heap [] := va_S.rf
  have hl : lv_has ls 3 [(0, .ref h0), (1, .int xl), (2, .int xp)] := hl
  have hown : s.vm.findClass "QuantifierOut" = some m.cls := hown
  refine lv_aload_n hx hb d_Qo_every_0 rfl (lv_at hl 0 rfl) ?_
  refine lv_iload_n hx hb d_Qo_every_1 rfl (lv_at hl 1 rfl) ?_
  refine lv_iload_n hx hb d_Qo_every_2 rfl (lv_at hl 2 rfl) ?_
  refine lv_iconst (v := 1) hx hb d_Qo_every_3 (by decide) ?_
  refine hx_calli (hx_runV (n := 3) (own := "QuantifierOut") (As := [.int xl, .int xp, .int 1]) (rest := []) hx hb hml hown hts hX hW hl.1 hZ hS hA (c_Qo_addQuantified l D cI cJ cZ cN h0 na v va vb om oa ob im ia ib ro mk ka kb fa la Z hl0 M _ n tb ad qs hI xl xp true) hC1 rfl tw_383 tw_385 ts_5 tw_1 tw_386 (by decide +kernel) rfl rfl ⟨by decide, by decide⟩ rfl rfl (Nat.le_of_ble_eq_true rfl) d_Qo_every_4 ⟨by decide, by decide⟩) hW hS hA (fun E9 ce9 q9 M1 H locs hpp hW hS hq1 hq2 hq3 => ?_) (fun r1 M1 H locs hpp hz hW hS => ?_)
  · exact hx_out hno hlocks hq1 hq2 hq3 hW hS hpp (by decide) (by decide)
  refine vx_ret (W.widen (k := 3) (n := 19) (by decide) (by decide) ?_)
  exact hw_reti hx hb hr hlocks hW hS hpp d_Qo_every_7
end G31

/-! The reference's object: its cells -/
def md_a (md kd on tw nu le fx fy si de ne it po ma ab be li fr to : Nat) (i : Nat) : Nat := match i with
  | 0 => md
  | 1 => kd
  | 2 => on
  | 3 => tw
  | 4 => nu
  | 5 => le
  | 6 => fx
  | 7 => fy
  | 8 => si
  | 9 => de
  | 10 => ne
  | 11 => it
  | 12 => po
  | 13 => ma
  | 14 => ab
  | 15 => be
  | 16 => li
  | 17 => fr
  | _ => to
/-- its cells are apart -/
def md_D (md kd on tw nu le fx fy si de ne it po ma ab be li fr to : Nat) : Prop := ∀ i j : Nat, i < j → j < 19 → md_a md kd on tw nu le fx fy si de ne it po ma ab be li fr to i ≠ md_a md kd on tw nu le fx fy si de ne it po ma ab be li fr to j
/-- what is known of the nodes -/
def md_T (cI cZ : ClassId) (kd on tw nu le fx fy si de : Nat) (M : Nat → Option va_E) (st : Nat → Nat → Int32) : Prop := M kd = some (.inl (cI, 60, .inl (st 0))) ∧ M on = some (.inl (cI, 60, .inl (st 1))) ∧ M tw = some (.inl (cI, 60, .inl (st 2))) ∧ M nu = some (.inl (cI, 240, .inl (st 3))) ∧ M le = some (.inl (cI, 60, .inl (st 4))) ∧ M fx = some (.inl (cZ, 60, .inl (st 5))) ∧ M fy = some (.inl (cZ, 60, .inl (st 6))) ∧ M si = some (.inl (cI, 60, .inl (st 7))) ∧ M de = some (.inl (cI, 60, .inl (st 8)))
/-- the object and what it works on -/
def md_W (cI cJ cZ : ClassId) (md kd on tw nu le fx fy si de ne it po ma ab be li fr to : Nat) (M : Nat → Option va_E) (cd : Int32) (n : Nat) (up dn : Int64) (pz : Int32) (NE IT : Nat → Int32) (PO : Nat → Int64) (MA : Nat → Int32) (AB BE : Nat → Int64) : Prop := M md = some (.inr (8, [.int cd, .int (nI n), .ref kd, .ref on, .ref tw, .ref nu, .ref le, .ref fx, .ref fy, .ref si, .ref de, .ref ne, .ref it, .ref po, .ref ma, .ref ab, .ref be, .long up, .long dn, .ref li, .int pz, .ref fr, .ref to])) ∧ M ne = some (.inl (cZ, 240, .inl NE)) ∧ M it = some (.inl (cZ, 180, .inl IT)) ∧ M po = some (.inl (cJ, 12, .inr (.inl PO))) ∧ M ma = some (.inl (cI, 3, .inl MA)) ∧ M ab = some (.inl (cJ, 192, .inr (.inl AB))) ∧ M be = some (.inl (cJ, 192, .inr (.inl BE)))
/-- the nodes stay where only the object and its work cells change -/
theorem md_T.kept {cI cZ : ClassId} {md kd on tw nu le fx fy si de ne it po ma ab be li fr to : Nat} {M M1 : Nat → Option va_E} {st : Nat → Nat → Int32} (hD : md_D md kd on tw nu le fx fy si de ne it po ma ab be li fr to) (h : md_T cI cZ kd on tw nu le fx fy si de M st) (hf : ∀ x9, x9 ≠ md → x9 ≠ ne → x9 ≠ it → x9 ≠ po → x9 ≠ ma → x9 ≠ ab → x9 ≠ be → M1 x9 = M x9) : md_T cI cZ kd on tw nu le fx fy si de M1 st := by
  have g : ∀ i, 0 < i → i < 10 → M1 (md_a md kd on tw nu le fx fy si de ne it po ma ab be li fr to i) = M (md_a md kd on tw nu le fx fy si de ne it po ma ab be li fr to i) := fun i h0 h1 => hf _ (Ne.symm (hD 0 i h0 (by omega))) (hD i 10 (by omega) (by decide)) (hD i 11 (by omega) (by decide)) (hD i 12 (by omega) (by decide)) (hD i 13 (by omega) (by decide)) (hD i 14 (by omega) (by decide)) (hD i 15 (by omega) (by decide))
  obtain ⟨h1, h2, h3, h4, h5, h6, h7, h8, h9⟩ := h
  exact ⟨(g 1 (by decide) (by decide)).trans h1, (g 2 (by decide) (by decide)).trans h2, (g 3 (by decide) (by decide)).trans h3, (g 4 (by decide) (by decide)).trans h4, (g 5 (by decide) (by decide)).trans h5, (g 6 (by decide) (by decide)).trans h6, (g 7 (by decide) (by decide)).trans h7, (g 8 (by decide) (by decide)).trans h8, (g 9 (by decide) (by decide)).trans h9⟩
theorem fr_numN {u d : Int} (hd : d < 0) : (qm_fr u d).num = -(u / (Int.gcd d u : Int)) ∧ ((qm_fr u d).den : Int) = -(d / (Int.gcd d u : Int)) := by
  have h := fr_num (u := -u) (d := -d) (by omega)
  rw [qm_fr_neg (by omega), Int.neg_gcd, Int.gcd_neg] at h
  rw [h.1, h.2, Int.neg_ediv_of_dvd (Int.gcd_dvd_right ..), Int.neg_ediv_of_dvd (Int.gcd_dvd_left ..)]
  exact ⟨rfl, rfl⟩
theorem lv_eq2 {ls : Array Slot} {k i j : Nat} {a b c d : Value} {r : List (Nat × Value)} (h : lv_has ls k ((i, a) :: (j, b) :: r)) (e1 : a = c) (e2 : b = d) : lv_has ls k ((i, c) :: (j, d) :: r) := by
  subst e1; subst e2; exact h
section G36
variable (l : Launch) (D : va_G) (cI cJ cZ cN : ClassId) (md kd on tw nu le fx fy si de ne it po ma ab be li fr to : Nat)
set_option maxHeartbeats 4000000 in
set_option maxRecDepth 100000 in
theorem c_Md_in (x lo hi : Int64) (sz : Nat) (M : Nat → Option va_E) : Met l y_Md_in (.code y_Md_in b_Md_in 6 (some .boolean) :: ww) ({ frames := 0, cells := 0, slots := 0, locals := 0 }) (hw_Pc D qcl (qty cI cJ cZ cN) [.long x, .long lo, .long hi] M sz) (va_Qi (fun r M1 => it_b r (lo.toInt ≤ x.toInt ∧ x.toInt ≤ hi.toInt) ∧ M1 = M) (hw_B D qcl (qty cI cJ cZ cN) M sz) (hw_A M sz)) 0 0 (hw_A M sz) := by
  refine hw_met (by decide) (Nat.le_of_ble_eq_true rfl) ?_
  intro p e s m below meth c hx hb hr hml hown hlocks hnm hts hsz hX hW ls hl
  subst hsz
  have hA : ∀ q, s.heap.size ≤ q → hw_A M s.heap.size q := fun q h => Or.inr h
  have hS : va_S (hw_A M s.heap.size) s.heap s.heap [] := va_S.rf
  have hl : lv_has ls 6 [(0, .long x), (2, .long lo), (4, .long hi)] := hl
  have hown : s.vm.findClass "QuantifierOutModel" = some m.cls := hown
  refine lv_lload_n hx hb d_Md_in_0 rfl (lv_at hl 0 rfl) ?_
  refine lv_lload_n hx hb d_Md_in_1 rfl (lv_at hl 1 rfl) ?_
  refine W.lcmp hx hb d_Md_in_2 ?_
  refine lv_if_lt (tgt := 17) hx hb d_Md_in_3 (by decide) (fun c_2 => ?_) (fun c_2 => ?_)
  · skip
    rw [lg_cmp_lt] at c_2
    refine lv_iconst (v := 0) hx hb d_Md_in_17 (by decide) ?_
    exact hw_retz hx hb hr rfl hlocks hW hS ⟨Or.inr ⟨rfl, by rw [nm_llt] at c_2; omega⟩, rfl⟩ d_Md_in_18
  · skip
    rw [lg_cmp_lt] at c_2
    refine lv_lload_n hx hb d_Md_in_6 rfl (lv_at hl 0 rfl) ?_
    refine lv_lload hx hb d_Md_in_7 (lv_at hl 2 rfl) ?_
    refine W.lcmp hx hb d_Md_in_9 ?_
    refine lv_if_gt (tgt := 17) hx hb d_Md_in_10 (by decide) (fun c_9 => ?_) (fun c_9 => ?_)
    · skip
      rw [lg_cmp_gt] at c_9
      refine lv_iconst (v := 0) hx hb d_Md_in_17 (by decide) ?_
      exact hw_retz hx hb hr rfl hlocks hW hS ⟨Or.inr ⟨rfl, by rw [nm_llt] at c_9; omega⟩, rfl⟩ d_Md_in_18
    · skip
      rw [lg_cmp_gt] at c_9
      refine lv_iconst (v := 1) hx hb d_Md_in_13 (by decide) ?_
      refine lv_goto (tgt := 18) hx hb d_Md_in_14 (by decide) ?_
      exact hw_retz hx hb hr rfl hlocks hW hS ⟨Or.inl ⟨rfl, by rw [nm_llt] at c_2 c_9; omega⟩, rfl⟩ d_Md_in_18
set_option maxHeartbeats 4000000 in
set_option maxRecDepth 100000 in
theorem c_Md_isNode (cd : Int32) (n : Nat) (up dn : Int64) (pz : Int32) (sz : Nat) (M : Nat → Option va_E) (hmd : M md = some (.inr (8, [.int cd, .int (nI n), .ref kd, .ref on, .ref tw, .ref nu, .ref le, .ref fx, .ref fy, .ref si, .ref de, .ref ne, .ref it, .ref po, .ref ma, .ref ab, .ref be, .long up, .long dn, .ref li, .int pz, .ref fr, .ref to]))) (hn : n ≤ 60) (x : Int32) : Met l y_Md_isNode (.code y_Md_isNode b_Md_isNode 2 (some .boolean) :: ww) ({ frames := 1, cells := 0, slots := 0, locals := 30 }) (hw_Pc D qcl (qty cI cJ cZ cN) [.ref md, .int x] M sz) (va_Qi (fun r M1 => it_b r (∃ i, i < n ∧ x = nI i) ∧ M1 = M) (hw_B D qcl (qty cI cJ cZ cN) M sz) (hw_A M sz)) 0 0 (hw_A M sz) := by
  refine hw_met (by decide) (Nat.le_of_ble_eq_true rfl) ?_
  intro p e s m below meth c hx hb hr hml hown hlocks hnm hts hsz hX hW ls hl
  subst hsz
  have hA : ∀ q, s.heap.size ≤ q → hw_A M s.heap.size q := fun q h => Or.inr h
  have hS : va_S (hw_A M s.heap.size) s.heap s.heap [] := va_S.rf
  have hl : lv_has ls 2 [(0, .ref md), (1, .int x)] := hl
  have hown : s.vm.findClass "QuantifierOutModel" = some m.cls := hown
  refine lv_iload_n hx hb d_Md_isNode_0 rfl (lv_at hl 1 rfl) ?_
  obtain ⟨x1, ex1⟩ : ∃ y9 : Int64, y9 = (x : Int32).toInt64 := ⟨_, rfl⟩
  refine lv_i2l (v := x1) hx hb d_Md_isNode_1 ex1.symm ?_
  refine lv_lconst (v := 0) hx hb d_Md_isNode_2 (by decide) ?_
  refine lv_aload_n hx hb d_Md_isNode_3 rfl (lv_at hl 0 rfl) ?_
  refine hw_get (own := "QuantifierOutModel") (v := .int (nI n)) hx hb hts i_Md hown hW hmd rfl 1 (by decide) (hts _ tw_604) (fun _ h9 => h9) rfl d_Md_isNode_4 ?_
  refine lv_iconst (v := 1) hx hb d_Md_isNode_7 (by decide) ?_
  refine lv_isub hx hb d_Md_isNode_8 ?_
  refine lv_topi (fun x2 ex2 => ?_)
  obtain ⟨x3, ex3⟩ : ∃ y9 : Int64, y9 = (x2 : Int32).toInt64 := ⟨_, rfl⟩
  refine lv_i2l (v := x3) hx hb d_Md_isNode_9 ex3.symm ?_
  refine hw_calli (hw_runS (n := 3) (own := "QuantifierOutModel") (As := [.long x1, .long 0, .long x3]) (rest := []) hx hb hml hown hts hX hW hl.1 (c_Md_in l D cI cJ cZ cN x1 0 x3 _ M) tw_684 tw_685 tw_5 tw_686 (by decide +kernel) rfl rfl ⟨by decide, by decide⟩ rfl rfl (Nat.le_of_ble_eq_true rfl) d_Md_isNode_10 ⟨by decide, by decide⟩) hW hS hA (fun rr Mi9 H locs hpi hz hW hS => ?_)
  obtain ⟨hb_rr, eMi9⟩ := hpi
  rw [eMi9] at hW
  have hX3 : x3.toInt = (n : Int) - 1 := by rw [ex3, nm_i2l, ex2, nm_isub (by rw [nI_toInt (by omega)]; have : (1 : Int32).toInt = 1 := rfl; omega), nI_toInt (by omega)]; rfl
  have hX1 : x1.toInt = x.toInt := by rw [ex1, nm_i2l]
  have h00 : (0 : Int64).toInt = 0 := rfl
  rw [hX1, hX3, h00] at hb_rr
  have hr01 : rr = 0 ∨ rr = 1 := by rcases hb_rr with ⟨z, _⟩ | ⟨z, _⟩; exact Or.inr z; exact Or.inl z
  refine hw_retz hx hb hr (nar01 hr01) hlocks hW hS ⟨?_, rfl⟩ d_Md_isNode_13
  rcases hb_rr with ⟨z1, z2⟩ | ⟨z1, z2⟩
  · exact Or.inl ⟨z1, x.toInt.toNat, by omega, Int32.toInt_inj.mp (by rw [nI_toInt (by omega)]; omega)⟩
  · exact Or.inr ⟨z1, fun ⟨i, hi, ei⟩ => z2 (by rw [ei, nI_toInt (by omega)]; omega)⟩
set_option maxHeartbeats 4000000 in
set_option maxRecDepth 100000 in
theorem c_Md_of (cd : Int32) (n : Nat) (up dn : Int64) (pz : Int32) (s9 j sz : Nat) (NU : Nat → Int32) (M : Nat → Option va_E) (hmd : M md = some (.inr (8, [.int cd, .int (nI n), .ref kd, .ref on, .ref tw, .ref nu, .ref le, .ref fx, .ref fy, .ref si, .ref de, .ref ne, .ref it, .ref po, .ref ma, .ref ab, .ref be, .long up, .long dn, .ref li, .int pz, .ref fr, .ref to]))) (hnu : M nu = some (.inl (cI, 240, .inl NU))) (hs : 4 * s9 + j < 240) : Met l y_Md_of (.code y_Md_of b_Md_of 3 (some .int) :: ww) ({ frames := 0, cells := 0, slots := 0, locals := 0 }) (hw_Pc D qcl (qty cI cJ cZ cN) [.ref md, .int (nI s9), .int (nI j)] M sz) (va_Qi (fun r M1 => r = NU (4 * s9 + j) ∧ M1 = M) (hw_B D qcl (qty cI cJ cZ cN) M sz) (hw_A M sz)) 0 0 (hw_A M sz) := by
  refine hw_met (by decide) (Nat.le_of_ble_eq_true rfl) ?_
  intro p e s m below meth c hx hb hr hml hown hlocks hnm hts hsz hX hW ls hl
  subst hsz
  have hA : ∀ q, s.heap.size ≤ q → hw_A M s.heap.size q := fun q h => Or.inr h
  have hS : va_S (hw_A M s.heap.size) s.heap s.heap [] := va_S.rf
  have hl : lv_has ls 3 [(0, .ref md), (1, .int (nI s9)), (2, .int (nI j))] := hl
  have hown : s.vm.findClass "QuantifierOutModel" = some m.cls := hown
  refine lv_aload_n hx hb d_Md_of_0 rfl (lv_at hl 0 rfl) ?_
  refine hw_get (own := "QuantifierOutModel") (v := .ref nu) hx hb hts i_Md hown hW hmd rfl 5 (by decide) (hts _ tw_608) (fun _ h9 => h9) rfl d_Md_of_1 ?_
  refine lv_iconst (v := 4) hx hb d_Md_of_4 (by decide) ?_
  refine lv_iload_n hx hb d_Md_of_5 rfl (lv_at hl 1 rfl) ?_
  refine lv_imul hx hb d_Md_of_6 ?_
  refine lv_topi (fun x1 ex1 => ?_)
  refine lv_iload_n hx hb d_Md_of_7 rfl (lv_at hl 2 rfl) ?_
  refine lv_iadd hx hb d_Md_of_8 ?_
  refine lv_topi (fun x2 ex2 => ?_)
  refine hw_ild hx hb hW 0 hnu rfl (4 * s9 + j) (by rw [ex2, ex1, show (4 : Int32) = nI 4 from rfl, pk_mul, nI_add]) hs (by decide) d_Md_of_9 ?_
  exact hw_reti hx hb hr hlocks hW hS ⟨rfl, rfl⟩ d_Md_of_10
set_option maxHeartbeats 4000000 in
set_option maxRecDepth 100000 in
theorem c_Md_raise (cd : Int32) (n : Nat) (up dn : Int64) (pz : Int32) (sz : Nat) (M : Nat → Option va_E) (hmd : M md = some (.inr (8, [.int cd, .int (nI n), .ref kd, .ref on, .ref tw, .ref nu, .ref le, .ref fx, .ref fy, .ref si, .ref de, .ref ne, .ref it, .ref po, .ref ma, .ref ab, .ref be, .long up, .long dn, .ref li, .int pz, .ref fr, .ref to]))) (x : Int32) : Met l y_Md_raise (.code y_Md_raise b_Md_raise 2 (some .int) :: ww) ({ frames := 0, cells := 0, slots := 0, locals := 0 }) (hw_Pc D qcl (qty cI cJ cZ cN) [.ref md, .int x] M sz) (va_Qi (fun r M1 => r = 0 ∧ M1 = va_up M md (some (.inr (8, [.int x, .int (nI n), .ref kd, .ref on, .ref tw, .ref nu, .ref le, .ref fx, .ref fy, .ref si, .ref de, .ref ne, .ref it, .ref po, .ref ma, .ref ab, .ref be, .long up, .long dn, .ref li, .int pz, .ref fr, .ref to])))) (hw_B D qcl (qty cI cJ cZ cN) M sz) (hw_A M sz)) 0 0 (hw_A M sz) := by
  refine hw_met (by decide) (Nat.le_of_ble_eq_true rfl) ?_
  intro p e s m below meth c hx hb hr hml hown hlocks hnm hts hsz hX hW ls hl
  subst hsz
  have hA : ∀ q, s.heap.size ≤ q → hw_A M s.heap.size q := fun q h => Or.inr h
  have hS : va_S (hw_A M s.heap.size) s.heap s.heap [] := va_S.rf
  have hl : lv_has ls 2 [(0, .ref md), (1, .int x)] := hl
  have hown : s.vm.findClass "QuantifierOutModel" = some m.cls := hown
  refine lv_aload_n hx hb d_Md_raise_0 rfl (lv_at hl 0 rfl) ?_
  refine lv_iload_n hx hb d_Md_raise_1 rfl (lv_at hl 1 rfl) ?_
  refine hw_put (own := "QuantifierOutModel") (v := .int x) (ty := .int) hx hb hts i_Md ft_Md tk_Md n_Md hown hW hS hmd rfl 0 (by decide) (hts _ tw_603) (fun _ h9 => h9) rfl (tk_Md 0 (by decide)) rfl rfl (Nat.le_of_ble_eq_true rfl) d_Md_raise_2 (fun H locs hW hS => ?_)
  have hW : hw_W D qcl (qty cI cJ cZ cN) _ (va_up M md (some (.inr (8, [.int x, .int (nI n), .ref kd, .ref on, .ref tw, .ref nu, .ref le, .ref fx, .ref fy, .ref si, .ref de, .ref ne, .ref it, .ref po, .ref ma, .ref ab, .ref be, .long up, .long dn, .ref li, .int pz, .ref fr, .ref to])))) s H := hW
  generalize hMw1 : va_up M md (some (.inr (8, [.int x, .int (nI n), .ref kd, .ref on, .ref tw, .ref nu, .ref le, .ref fx, .ref fy, .ref si, .ref de, .ref ne, .ref it, .ref po, .ref ma, .ref ab, .ref be, .long up, .long dn, .ref li, .int pz, .ref fr, .ref to]))) = Mw1 at hW
  have hmd : Mw1 md = some (.inr (8, [.int x, .int (nI n), .ref kd, .ref on, .ref tw, .ref nu, .ref le, .ref fx, .ref fy, .ref si, .ref de, .ref ne, .ref it, .ref po, .ref ma, .ref ab, .ref be, .long up, .long dn, .ref li, .int pz, .ref fr, .ref to])) := by rw [← hMw1]; exact va_up_self _ _ _
  refine lv_iconst (v := 0) hx hb d_Md_raise_5 (by decide) ?_
  exact hw_reti hx hb hr hlocks hW hS ⟨rfl, by first | rfl | exact hMw1.symm⟩ d_Md_raise_6
set_option maxHeartbeats 4000000 in
set_option maxRecDepth 100000 in
theorem c_Md_thrown (cd : Int32) (n : Nat) (up dn : Int64) (pz : Int32) (sz : Nat) (M : Nat → Option va_E) (hmd : M md = some (.inr (8, [.int cd, .int (nI n), .ref kd, .ref on, .ref tw, .ref nu, .ref le, .ref fx, .ref fy, .ref si, .ref de, .ref ne, .ref it, .ref po, .ref ma, .ref ab, .ref be, .long up, .long dn, .ref li, .int pz, .ref fr, .ref to]))) : Met l y_Md_thrown (.code y_Md_thrown b_Md_thrown 1 (some .int) :: ww) ({ frames := 0, cells := 0, slots := 0, locals := 0 }) (hw_Pc D qcl (qty cI cJ cZ cN) [.ref md] M sz) (va_Qi (fun r M1 => r = cd ∧ M1 = M) (hw_B D qcl (qty cI cJ cZ cN) M sz) (hw_A M sz)) 0 0 (hw_A M sz) := by
  refine hw_met (by decide) (Nat.le_of_ble_eq_true rfl) ?_
  intro p e s m below meth c hx hb hr hml hown hlocks hnm hts hsz hX hW ls hl
  subst hsz
  have hA : ∀ q, s.heap.size ≤ q → hw_A M s.heap.size q := fun q h => Or.inr h
  have hS : va_S (hw_A M s.heap.size) s.heap s.heap [] := va_S.rf
  have hl : lv_has ls 1 [(0, .ref md)] := hl
  have hown : s.vm.findClass "QuantifierOutModel" = some m.cls := hown
  refine lv_aload_n hx hb d_Md_thrown_0 rfl (lv_at hl 0 rfl) ?_
  refine hw_get (own := "QuantifierOutModel") (v := .int cd) hx hb hts i_Md hown hW hmd rfl 0 (by decide) (hts _ tw_603) (fun _ h9 => h9) rfl d_Md_thrown_1 ?_
  exact hw_reti hx hb hr hlocks hW hS ⟨rfl, rfl⟩ d_Md_thrown_4
set_option maxHeartbeats 4000000 in
set_option maxRecDepth 100000 in
theorem c_Md_count (cd : Int32) (n : Nat) (up dn : Int64) (pz : Int32) (sz : Nat) (M : Nat → Option va_E) (hmd : M md = some (.inr (8, [.int cd, .int (nI n), .ref kd, .ref on, .ref tw, .ref nu, .ref le, .ref fx, .ref fy, .ref si, .ref de, .ref ne, .ref it, .ref po, .ref ma, .ref ab, .ref be, .long up, .long dn, .ref li, .int pz, .ref fr, .ref to]))) : Met l y_Md_count (.code y_Md_count b_Md_count 1 (some .int) :: ww) ({ frames := 0, cells := 0, slots := 0, locals := 0 }) (hw_Pc D qcl (qty cI cJ cZ cN) [.ref md] M sz) (va_Qi (fun r M1 => r = nI n ∧ M1 = va_up M md (some (.inr (8, [.int 0, .int (nI n), .ref kd, .ref on, .ref tw, .ref nu, .ref le, .ref fx, .ref fy, .ref si, .ref de, .ref ne, .ref it, .ref po, .ref ma, .ref ab, .ref be, .long up, .long dn, .ref li, .int pz, .ref fr, .ref to])))) (hw_B D qcl (qty cI cJ cZ cN) M sz) (hw_A M sz)) 0 0 (hw_A M sz) := by
  refine hw_met (by decide) (Nat.le_of_ble_eq_true rfl) ?_
  intro p e s m below meth c hx hb hr hml hown hlocks hnm hts hsz hX hW ls hl
  subst hsz
  have hA : ∀ q, s.heap.size ≤ q → hw_A M s.heap.size q := fun q h => Or.inr h
  have hS : va_S (hw_A M s.heap.size) s.heap s.heap [] := va_S.rf
  have hl : lv_has ls 1 [(0, .ref md)] := hl
  have hown : s.vm.findClass "QuantifierOutModel" = some m.cls := hown
  refine lv_aload_n hx hb d_Md_count_0 rfl (lv_at hl 0 rfl) ?_
  refine lv_iconst (v := 0) hx hb d_Md_count_1 (by decide) ?_
  refine hw_put (own := "QuantifierOutModel") (v := .int 0) (ty := .int) hx hb hts i_Md ft_Md tk_Md n_Md hown hW hS hmd rfl 0 (by decide) (hts _ tw_603) (fun _ h9 => h9) rfl (tk_Md 0 (by decide)) rfl rfl (Nat.le_of_ble_eq_true rfl) d_Md_count_2 (fun H locs hW hS => ?_)
  have hW : hw_W D qcl (qty cI cJ cZ cN) _ (va_up M md (some (.inr (8, [.int 0, .int (nI n), .ref kd, .ref on, .ref tw, .ref nu, .ref le, .ref fx, .ref fy, .ref si, .ref de, .ref ne, .ref it, .ref po, .ref ma, .ref ab, .ref be, .long up, .long dn, .ref li, .int pz, .ref fr, .ref to])))) s H := hW
  generalize hMw1 : va_up M md (some (.inr (8, [.int 0, .int (nI n), .ref kd, .ref on, .ref tw, .ref nu, .ref le, .ref fx, .ref fy, .ref si, .ref de, .ref ne, .ref it, .ref po, .ref ma, .ref ab, .ref be, .long up, .long dn, .ref li, .int pz, .ref fr, .ref to]))) = Mw1 at hW
  have hmd : Mw1 md = some (.inr (8, [.int 0, .int (nI n), .ref kd, .ref on, .ref tw, .ref nu, .ref le, .ref fx, .ref fy, .ref si, .ref de, .ref ne, .ref it, .ref po, .ref ma, .ref ab, .ref be, .long up, .long dn, .ref li, .int pz, .ref fr, .ref to])) := by rw [← hMw1]; exact va_up_self _ _ _
  refine lv_aload_n hx hb d_Md_count_5 rfl (lv_at hl 0 rfl) ?_
  refine hw_get (own := "QuantifierOutModel") (v := .int (nI n)) hx hb hts i_Md hown hW hmd rfl 1 (by decide) (hts _ tw_604) (fun _ h9 => h9) rfl d_Md_count_6 ?_
  exact hw_reti hx hb hr hlocks hW hS ⟨rfl, by first | rfl | exact hMw1.symm⟩ d_Md_count_9
set_option maxHeartbeats 4000000 in
set_option maxRecDepth 100000 in
theorem c_Md_lowest (cd : Int32) (n : Nat) (up dn : Int64) (pz : Int32) (sz : Nat) (M : Nat → Option va_E) (hmd : M md = some (.inr (8, [.int cd, .int (nI n), .ref kd, .ref on, .ref tw, .ref nu, .ref le, .ref fx, .ref fy, .ref si, .ref de, .ref ne, .ref it, .ref po, .ref ma, .ref ab, .ref be, .long up, .long dn, .ref li, .int pz, .ref fr, .ref to]))) (a b : Int64) (hb0 : b.toInt ≠ 0) (hab : a.toInt.natAbs ≤ 4000000000000000000) (hbb : b.toInt.natAbs ≤ 4000000000000000000) : Met l y_Md_lowest (.code y_Md_lowest b_Md_lowest 11 none :: ww) ({ frames := 0, cells := 0, slots := 0, locals := 0 }) (hw_Pc D qcl (qty cI cJ cZ cN) [.ref md, .long a, .long b] M sz) (va_Qv (fun M1 => ∃ u d : Int64, u.toInt = (qm_fr a.toInt b.toInt).num ∧ d.toInt = ((qm_fr a.toInt b.toInt).den : Int) ∧ M1 = va_up M md (some (.inr (8, [.int cd, .int (nI n), .ref kd, .ref on, .ref tw, .ref nu, .ref le, .ref fx, .ref fy, .ref si, .ref de, .ref ne, .ref it, .ref po, .ref ma, .ref ab, .ref be, .long u, .long d, .ref li, .int pz, .ref fr, .ref to])))) (hw_B D qcl (qty cI cJ cZ cN) M sz) (hw_A M sz)) 0 0 (hw_A M sz) := by
  refine hw_met (by decide) (Nat.le_of_ble_eq_true rfl) ?_
  intro p e s m below meth c hx hb hr hml hown hlocks hnm hts hsz hX hW ls hl
  subst hsz
  have hA : ∀ q, s.heap.size ≤ q → hw_A M s.heap.size q := fun q h => Or.inr h
  have hS : va_S (hw_A M s.heap.size) s.heap s.heap [] := va_S.rf
  have hl : lv_has ls 11 [(0, .ref md), (1, .long a), (3, .long b)] := hl
  have hown : s.vm.findClass "QuantifierOutModel" = some m.cls := hown
  obtain ⟨Q9, hQ9⟩ : ∃ X : State → Prop, X = MQ below (va_Qv (fun M1 => ∃ u d : Int64, u.toInt = (qm_fr a.toInt b.toInt).num ∧ d.toInt = ((qm_fr a.toInt b.toInt).den : Int) ∧ M1 = va_up M md (some (.inr (8, [.int cd, .int (nI n), .ref kd, .ref on, .ref tw, .ref nu, .ref le, .ref fx, .ref fy, .ref si, .ref de, .ref ne, .ref it, .ref po, .ref ma, .ref ab, .ref be, .long u, .long d, .ref li, .int pz, .ref fr, .ref to])))) (hw_B D qcl (qty cI cJ cZ cN) M s.heap.size) (hw_A M s.heap.size)) [.ref md, .long a, .long b].toArray s 0 0 (hw_A M s.heap.size) := ⟨_, rfl⟩
  rw [← hQ9]
  have h00 : (0 : Int64).toInt = 0 := rfl
  have absN : ∀ x : Int64, x.toInt.natAbs ≤ 4000000000000000000 → (x < 0 → -x = lN x.toInt.natAbs) ∧ (¬ x < 0 → x = lN x.toInt.natAbs) := by
    intro x hx9
    refine ⟨fun h => Int64.toInt_inj.mp ?_, fun h => Int64.toInt_inj.mp ?_⟩
    · rw [nm_llt, h00] at h; rw [nm_lneg (by omega), pk_lT (by omega)]; omega
    · rw [nm_llt, h00] at h; rw [pk_lT (by omega)]; omega
  have fin : ∀ (G : Nat), G = Int.gcd b.toInt a.toInt → ∀ (ls : Array Slot), lv_has ls 11 [(5, .long (lN G)), (0, .ref md), (1, .long a), (3, .long b)] → W p l e ({ frames := 0, cells := 0, slots := 0, locals := 0 }) s m [.ref md, .long a, .long b].toArray below meth c s.heap [] 0 0 Q9 (F0 m 53 ls []) := by
    intro G hG ls hl
    have hG0 : 0 < G := by rw [hG]; exact Int.gcd_pos_of_ne_zero_left _ hb0
    have hGb : G ≤ b.toInt.natAbs := by rw [hG]; exact Int.gcd_le_natAbs_left (b := a.toInt) hb0
    have hGT : (lN G).toInt = (G : Int) := pk_lT (by omega)
    have hGn : ¬ lN G = 0 := fun z9 => by rw [z9, h00] at hGT; omega
    have da : (a / lN G).toInt = a.toInt / (G : Int) := by rw [lx_div (by rw [hGT]; omega) (by rw [hGT, hG]; exact Int.gcd_dvd_right ..), hGT]
    have db : (b / lN G).toInt = b.toInt / (G : Int) := by rw [lx_div (by rw [hGT]; omega) (by rw [hGT, hG]; exact Int.gcd_dvd_left ..), hGT]
    have na : (a.toInt / (G : Int)).natAbs ≤ a.toInt.natAbs := Int.natAbs_ediv_le_natAbs _ _
    have nb : (b.toInt / (G : Int)).natAbs ≤ b.toInt.natAbs := Int.natAbs_ediv_le_natAbs _ _
    refine lv_aload_n hx hb d_Md_lowest_53 rfl (lv_at hl 1 rfl) ?_
    refine lv_lload_n hx hb d_Md_lowest_54 rfl (lv_at hl 3 rfl) ?_
    refine lv_lconst (v := 0) hx hb d_Md_lowest_55 (by decide) ?_
    refine W.lcmp hx hb d_Md_lowest_56 ?_
    refine lv_if_ge (tgt := 68) hx hb d_Md_lowest_57 (by decide) (fun c_56 => ?_) (fun c_56 => ?_)
    · skip
      rw [lg_cmp_ge] at c_56
      have hbp : 0 < b.toInt := by rw [nm_lle, h00] at c_56; omega
      refine lv_lload_n hx hb d_Md_lowest_68 rfl (lv_at hl 2 rfl) ?_
      refine lv_lload hx hb d_Md_lowest_69 (lv_at hl 0 rfl) ?_
      refine lv_ldiv hx hb d_Md_lowest_71 hGn ?_
      refine lv_topl (fun x1 ex1 => ?_)
      refine hw_put (own := "QuantifierOutModel") (v := .long x1) (ty := .long) hx hb hts i_Md ft_Md tk_Md n_Md hown hW hS hmd rfl 17 (by decide) (hts _ tw_620) (fun _ h9 => h9) rfl (tk_Md 17 (by decide)) rfl rfl (Nat.le_of_ble_eq_true rfl) d_Md_lowest_72 (fun H locs hW hS => ?_)
      have hW : hw_W D qcl (qty cI cJ cZ cN) _ (va_up M md (some (.inr (8, [.int cd, .int (nI n), .ref kd, .ref on, .ref tw, .ref nu, .ref le, .ref fx, .ref fy, .ref si, .ref de, .ref ne, .ref it, .ref po, .ref ma, .ref ab, .ref be, .long x1, .long dn, .ref li, .int pz, .ref fr, .ref to])))) s H := hW
      generalize hMw2 : va_up M md (some (.inr (8, [.int cd, .int (nI n), .ref kd, .ref on, .ref tw, .ref nu, .ref le, .ref fx, .ref fy, .ref si, .ref de, .ref ne, .ref it, .ref po, .ref ma, .ref ab, .ref be, .long x1, .long dn, .ref li, .int pz, .ref fr, .ref to]))) = Mw2 at hW
      have hmd : Mw2 md = some (.inr (8, [.int cd, .int (nI n), .ref kd, .ref on, .ref tw, .ref nu, .ref le, .ref fx, .ref fy, .ref si, .ref de, .ref ne, .ref it, .ref po, .ref ma, .ref ab, .ref be, .long x1, .long dn, .ref li, .int pz, .ref fr, .ref to])) := by rw [← hMw2]; exact va_up_self _ _ _
      refine lv_aload_n hx hb d_Md_lowest_75 rfl (lv_at hl 1 rfl) ?_
      refine lv_lload_n hx hb d_Md_lowest_76 rfl (lv_at hl 3 rfl) ?_
      refine lv_lconst (v := 0) hx hb d_Md_lowest_77 (by decide) ?_
      refine W.lcmp hx hb d_Md_lowest_78 ?_
      refine lv_if_ge (tgt := 90) hx hb d_Md_lowest_79 (by decide) (fun c_78 => ?_) (fun c_78 => ?_)
      · skip
        rw [lg_cmp_ge] at c_78
        refine lv_lload_n hx hb d_Md_lowest_90 rfl (lv_at hl 3 rfl) ?_
        refine lv_lload hx hb d_Md_lowest_91 (lv_at hl 0 rfl) ?_
        refine lv_ldiv hx hb d_Md_lowest_93 hGn ?_
        refine lv_topl (fun x3 ex3 => ?_)
        refine hw_put (own := "QuantifierOutModel") (v := .long x3) (ty := .long) hx hb hts i_Md ft_Md tk_Md n_Md hown hW hS hmd rfl 18 (by decide) (hts _ tw_621) (fun _ h9 => h9) rfl (tk_Md 18 (by decide)) rfl rfl (Nat.le_of_ble_eq_true rfl) d_Md_lowest_94 (fun H locs hW hS => ?_)
        have hW : hw_W D qcl (qty cI cJ cZ cN) _ (va_up Mw2 md (some (.inr (8, [.int cd, .int (nI n), .ref kd, .ref on, .ref tw, .ref nu, .ref le, .ref fx, .ref fy, .ref si, .ref de, .ref ne, .ref it, .ref po, .ref ma, .ref ab, .ref be, .long x1, .long x3, .ref li, .int pz, .ref fr, .ref to])))) s H := hW
        generalize hMw4 : va_up Mw2 md (some (.inr (8, [.int cd, .int (nI n), .ref kd, .ref on, .ref tw, .ref nu, .ref le, .ref fx, .ref fy, .ref si, .ref de, .ref ne, .ref it, .ref po, .ref ma, .ref ab, .ref be, .long x1, .long x3, .ref li, .int pz, .ref fr, .ref to]))) = Mw4 at hW
        have hmd : Mw4 md = some (.inr (8, [.int cd, .int (nI n), .ref kd, .ref on, .ref tw, .ref nu, .ref le, .ref fx, .ref fy, .ref si, .ref de, .ref ne, .ref it, .ref po, .ref ma, .ref ab, .ref be, .long x1, .long x3, .ref li, .int pz, .ref fr, .ref to])) := by rw [← hMw4]; exact va_up_self _ _ _
        rw [hQ9]
        refine hw_retv hx hb hr hlocks hW hS ⟨x1, x3, ?_, ?_, ?_⟩ d_Md_lowest_97
        · rw [(fr_num hbp).1, ex1, da, hG]
        · rw [(fr_num hbp).2, ex3, db, hG]
        · rw [← hMw4, ← hMw2]; funext x9; by_cases z9 : x9 = md; rw [z9]; simp only [va_up_self]; simp only [va_up_ne _ _ z9]
      · skip
        rw [lg_cmp_ge] at c_78
        exact absurd c_56 (by rw [nm_lle, h00] at c_78 ⊢; omega)
    · skip
      rw [lg_cmp_ge] at c_56
      have hbn : b.toInt < 0 := by rw [nm_lle, h00] at c_56; omega
      refine lv_lload_n hx hb d_Md_lowest_60 rfl (lv_at hl 2 rfl) ?_
      refine lv_lload hx hb d_Md_lowest_61 (lv_at hl 0 rfl) ?_
      refine lv_ldiv hx hb d_Md_lowest_63 hGn ?_
      refine lv_topl (fun x5 ex5 => ?_)
      refine lv_lneg hx hb d_Md_lowest_64 ?_
      refine lv_topl (fun x6 ex6 => ?_)
      refine lv_goto (tgt := 72) hx hb d_Md_lowest_65 (by decide) ?_
      refine hw_put (own := "QuantifierOutModel") (v := .long x6) (ty := .long) hx hb hts i_Md ft_Md tk_Md n_Md hown hW hS hmd rfl 17 (by decide) (hts _ tw_620) (fun _ h9 => h9) rfl (tk_Md 17 (by decide)) rfl rfl (Nat.le_of_ble_eq_true rfl) d_Md_lowest_72 (fun H locs hW hS => ?_)
      have hW : hw_W D qcl (qty cI cJ cZ cN) _ (va_up M md (some (.inr (8, [.int cd, .int (nI n), .ref kd, .ref on, .ref tw, .ref nu, .ref le, .ref fx, .ref fy, .ref si, .ref de, .ref ne, .ref it, .ref po, .ref ma, .ref ab, .ref be, .long x6, .long dn, .ref li, .int pz, .ref fr, .ref to])))) s H := hW
      generalize hMw7 : va_up M md (some (.inr (8, [.int cd, .int (nI n), .ref kd, .ref on, .ref tw, .ref nu, .ref le, .ref fx, .ref fy, .ref si, .ref de, .ref ne, .ref it, .ref po, .ref ma, .ref ab, .ref be, .long x6, .long dn, .ref li, .int pz, .ref fr, .ref to]))) = Mw7 at hW
      have hmd : Mw7 md = some (.inr (8, [.int cd, .int (nI n), .ref kd, .ref on, .ref tw, .ref nu, .ref le, .ref fx, .ref fy, .ref si, .ref de, .ref ne, .ref it, .ref po, .ref ma, .ref ab, .ref be, .long x6, .long dn, .ref li, .int pz, .ref fr, .ref to])) := by rw [← hMw7]; exact va_up_self _ _ _
      refine lv_aload_n hx hb d_Md_lowest_75 rfl (lv_at hl 1 rfl) ?_
      refine lv_lload_n hx hb d_Md_lowest_76 rfl (lv_at hl 3 rfl) ?_
      refine lv_lconst (v := 0) hx hb d_Md_lowest_77 (by decide) ?_
      refine W.lcmp hx hb d_Md_lowest_78 ?_
      refine lv_if_ge (tgt := 90) hx hb d_Md_lowest_79 (by decide) (fun c_78 => ?_) (fun c_78 => ?_)
      · skip
        rw [lg_cmp_ge] at c_78
        exact absurd c_56 (by rw [nm_lle, h00] at c_78 ⊢; omega)
      · skip
        rw [lg_cmp_ge] at c_78
        refine lv_lload_n hx hb d_Md_lowest_82 rfl (lv_at hl 3 rfl) ?_
        refine lv_lload hx hb d_Md_lowest_83 (lv_at hl 0 rfl) ?_
        refine lv_ldiv hx hb d_Md_lowest_85 hGn ?_
        refine lv_topl (fun x8 ex8 => ?_)
        refine lv_lneg hx hb d_Md_lowest_86 ?_
        refine lv_topl (fun x9 ex9 => ?_)
        refine lv_goto (tgt := 94) hx hb d_Md_lowest_87 (by decide) ?_
        refine hw_put (own := "QuantifierOutModel") (v := .long x9) (ty := .long) hx hb hts i_Md ft_Md tk_Md n_Md hown hW hS hmd rfl 18 (by decide) (hts _ tw_621) (fun _ h9 => h9) rfl (tk_Md 18 (by decide)) rfl rfl (Nat.le_of_ble_eq_true rfl) d_Md_lowest_94 (fun H locs hW hS => ?_)
        have hW : hw_W D qcl (qty cI cJ cZ cN) _ (va_up Mw7 md (some (.inr (8, [.int cd, .int (nI n), .ref kd, .ref on, .ref tw, .ref nu, .ref le, .ref fx, .ref fy, .ref si, .ref de, .ref ne, .ref it, .ref po, .ref ma, .ref ab, .ref be, .long x6, .long x9, .ref li, .int pz, .ref fr, .ref to])))) s H := hW
        generalize hMw10 : va_up Mw7 md (some (.inr (8, [.int cd, .int (nI n), .ref kd, .ref on, .ref tw, .ref nu, .ref le, .ref fx, .ref fy, .ref si, .ref de, .ref ne, .ref it, .ref po, .ref ma, .ref ab, .ref be, .long x6, .long x9, .ref li, .int pz, .ref fr, .ref to]))) = Mw10 at hW
        have hmd : Mw10 md = some (.inr (8, [.int cd, .int (nI n), .ref kd, .ref on, .ref tw, .ref nu, .ref le, .ref fx, .ref fy, .ref si, .ref de, .ref ne, .ref it, .ref po, .ref ma, .ref ab, .ref be, .long x6, .long x9, .ref li, .int pz, .ref fr, .ref to])) := by rw [← hMw10]; exact va_up_self _ _ _
        rw [hQ9]
        refine hw_retv hx hb hr hlocks hW hS ⟨x6, x9, ?_, ?_, ?_⟩ d_Md_lowest_97
        · rw [(fr_numN hbn).1, ex6, nm_lneg (by rw [ex5, da]; omega), ex5, da, hG]
        · rw [(fr_numN hbn).2, ex9, nm_lneg (by rw [ex8, db]; omega), ex8, db, hG]
        · rw [← hMw10, ← hMw7]; funext x9; by_cases z9 : x9 = md; rw [z9]; simp only [va_up_self]; simp only [va_up_ne _ _ z9]
  have loop : ∀ (z X Y : Nat), Y ≤ z → X < 2 ^ 63 → Y < 2 ^ 63 → Nat.gcd X Y = Int.gcd b.toInt a.toInt → ∀ (ls : Array Slot), lv_has ls 11 [(7, .long (lN Y)), (5, .long (lN X)), (0, .ref md), (1, .long a), (3, .long b)] → W p l e ({ frames := 0, cells := 0, slots := 0, locals := 0 }) s m [.ref md, .long a, .long b].toArray below meth c s.heap [] 0 0 Q9 (F0 m 28 ls []) := by
    intro z
    induction z with
    | zero =>
      intro X Y hz hX hY hg ls hl
      refine lv_lload hx hb d_Md_lowest_28 (lv_at hl 0 rfl) ?_
      refine lv_lconst (v := 0) hx hb d_Md_lowest_30 (by decide) ?_
      refine W.lcmp hx hb d_Md_lowest_31 ?_
      refine lv_if_eq (tgt := 53) hx hb d_Md_lowest_32 (by decide) (fun c_31 => ?_) (fun c_31 => ?_)
      · skip
        rw [lg_cmp_eq] at c_31
        have hY0 : Y = 0 := (pk_lEQ (b := 0) hY (by omega)).mp c_31
        exact fin X (by rw [← hg, hY0, Nat.gcd_zero_right]) ls (lv_sub hl [1, 2, 3, 4] rfl)
      · skip
        rw [lg_cmp_eq] at c_31
        have hY0 : 0 < Y := Nat.pos_of_ne_zero (fun z9 => c_31 (by rw [z9]; rfl))
        exact absurd hY0 (by omega)
    | succ z ihz =>
      intro X Y hz hX hY hg ls hl
      refine lv_lload hx hb d_Md_lowest_28 (lv_at hl 0 rfl) ?_
      refine lv_lconst (v := 0) hx hb d_Md_lowest_30 (by decide) ?_
      refine W.lcmp hx hb d_Md_lowest_31 ?_
      refine lv_if_eq (tgt := 53) hx hb d_Md_lowest_32 (by decide) (fun c_31 => ?_) (fun c_31 => ?_)
      · skip
        rw [lg_cmp_eq] at c_31
        have hY0 : Y = 0 := (pk_lEQ (b := 0) hY (by omega)).mp c_31
        exact fin X (by rw [← hg, hY0, Nat.gcd_zero_right]) ls (lv_sub hl [1, 2, 3, 4] rfl)
      · skip
        rw [lg_cmp_eq] at c_31
        have hY0 : 0 < Y := Nat.pos_of_ne_zero (fun z9 => c_31 (by rw [z9]; rfl))
        refine lv_lload hx hb d_Md_lowest_35 (lv_at hl 1 rfl) ?_
        refine lv_lload hx hb d_Md_lowest_37 (lv_at hl 0 rfl) ?_
        refine lv_lrem hx hb d_Md_lowest_39 c_31 ?_
        refine lv_topl (fun rs ers => ?_)
        have ers2 : rs = lN (X % Y) := by rw [ers]; exact pk_lRem hX hY0 hY
        rw [ers2]
        refine lv_lstore (lv' := [(9, .long (lN (X % Y))), (7, .long (lN Y)), (5, .long (lN X)), (0, .ref md), (1, .long a), (3, .long b)]) hx hb d_Md_lowest_40 hl (by decide) rfl (fun ls hl => ?_)
        refine lv_lload hx hb d_Md_lowest_42 (lv_at hl 1 rfl) ?_
        refine lv_lstore (lv' := [(5, .long (lN Y)), (9, .long (lN (X % Y))), (7, .long (lN Y)), (0, .ref md), (1, .long a), (3, .long b)]) hx hb d_Md_lowest_44 hl (by decide) rfl (fun ls hl => ?_)
        refine lv_lload hx hb d_Md_lowest_46 (lv_at hl 1 rfl) ?_
        refine lv_lstore (lv' := [(7, .long (lN (X % Y))), (5, .long (lN Y)), (9, .long (lN (X % Y))), (0, .ref md), (1, .long a), (3, .long b)]) hx hb d_Md_lowest_48 hl (by decide) rfl (fun ls hl => ?_)
        refine lv_goto (tgt := 28) hx hb d_Md_lowest_50 (by decide) ?_
        have hlt := Nat.mod_lt X hY0
        exact ihz Y (X % Y) (by omega) hY (by omega) (by rw [← hg, Nat.gcd_comm Y, ← Nat.gcd_rec, Nat.gcd_comm]) ls (lv_sub hl [0, 1, 3, 4, 5] rfl)
  refine lv_lload_n hx hb d_Md_lowest_0 rfl (lv_at hl 1 rfl) ?_
  refine lv_lconst (v := 0) hx hb d_Md_lowest_1 (by decide) ?_
  refine W.lcmp hx hb d_Md_lowest_2 ?_
  refine lv_if_ge (tgt := 11) hx hb d_Md_lowest_3 (by decide) (fun c_2 => ?_) (fun c_2 => ?_)
  · skip
    rw [lg_cmp_ge] at c_2
    refine lv_lload_n hx hb d_Md_lowest_11 rfl (lv_at hl 1 rfl) ?_
    refine lv_lstore (lv' := [(5, .long a), (0, .ref md), (1, .long a), (3, .long b)]) hx hb d_Md_lowest_12 hl (by decide) rfl (fun ls hl => ?_)
    refine lv_lload_n hx hb d_Md_lowest_14 rfl (lv_at hl 3 rfl) ?_
    refine lv_lconst (v := 0) hx hb d_Md_lowest_15 (by decide) ?_
    refine W.lcmp hx hb d_Md_lowest_16 ?_
    refine lv_if_ge (tgt := 25) hx hb d_Md_lowest_17 (by decide) (fun c_16 => ?_) (fun c_16 => ?_)
    · skip
      rw [lg_cmp_ge] at c_16
      refine lv_lload_n hx hb d_Md_lowest_25 rfl (lv_at hl 3 rfl) ?_
      refine lv_lstore (lv' := [(7, .long b), (5, .long a), (0, .ref md), (1, .long a), (3, .long b)]) hx hb d_Md_lowest_26 hl (by decide) rfl (fun ls hl => ?_)
      have e5 : a = lN a.toInt.natAbs := (absN a hab).2 (by rw [nm_llt]; rw [nm_lle] at c_2; omega)
      have e7 : b = lN b.toInt.natAbs := (absN b hbb).2 (by rw [nm_llt]; rw [nm_lle] at c_16; omega)
      have hl9 : lv_has ls 11 [(7, .long b), (5, .long a), (0, .ref md), (1, .long a), (3, .long b)] := lv_sub hl [0, 1, 2, 3, 4] rfl
      have hl8 : lv_has ls 11 [(7, .long (lN b.toInt.natAbs)), (5, .long (lN a.toInt.natAbs)), (0, .ref md), (1, .long a), (3, .long b)] := by
        have q5 : (.long a : Value) = .long (lN a.toInt.natAbs) := congrArg Value.long e5
        have q7 : (.long b : Value) = .long (lN b.toInt.natAbs) := congrArg Value.long e7
        exact lv_eq2 hl9 q7 q5
      exact loop b.toInt.natAbs a.toInt.natAbs b.toInt.natAbs (Nat.le_refl _) (by omega) (by omega) (by rw [Nat.gcd_comm]; rfl) ls hl8
    · skip
      rw [lg_cmp_ge] at c_16
      refine lv_lload_n hx hb d_Md_lowest_20 rfl (lv_at hl 3 rfl) ?_
      refine lv_lneg hx hb d_Md_lowest_21 ?_
      refine lv_topl (fun x11 ex11 => ?_)
      refine lv_goto (tgt := 26) hx hb d_Md_lowest_22 (by decide) ?_
      refine lv_lstore (lv' := [(7, .long x11), (5, .long a), (0, .ref md), (1, .long a), (3, .long b)]) hx hb d_Md_lowest_26 hl (by decide) rfl (fun ls hl => ?_)
      have e5 : a = lN a.toInt.natAbs := (absN a hab).2 (by rw [nm_llt]; rw [nm_lle] at c_2; omega)
      have e7 : x11 = lN b.toInt.natAbs := by rw [ex11]; exact (absN b hbb).1 (by rw [nm_llt]; rw [nm_lle] at c_16; omega)
      have hl9 : lv_has ls 11 [(7, .long x11), (5, .long a), (0, .ref md), (1, .long a), (3, .long b)] := lv_sub hl [0, 1, 2, 3, 4] rfl
      have hl8 : lv_has ls 11 [(7, .long (lN b.toInt.natAbs)), (5, .long (lN a.toInt.natAbs)), (0, .ref md), (1, .long a), (3, .long b)] := by
        have q5 : (.long a : Value) = .long (lN a.toInt.natAbs) := congrArg Value.long e5
        have q7 : (.long x11 : Value) = .long (lN b.toInt.natAbs) := congrArg Value.long e7
        exact lv_eq2 hl9 q7 q5
      exact loop b.toInt.natAbs a.toInt.natAbs b.toInt.natAbs (Nat.le_refl _) (by omega) (by omega) (by rw [Nat.gcd_comm]; rfl) ls hl8
  · skip
    rw [lg_cmp_ge] at c_2
    refine lv_lload_n hx hb d_Md_lowest_6 rfl (lv_at hl 1 rfl) ?_
    refine lv_lneg hx hb d_Md_lowest_7 ?_
    refine lv_topl (fun x12 ex12 => ?_)
    refine lv_goto (tgt := 12) hx hb d_Md_lowest_8 (by decide) ?_
    refine lv_lstore (lv' := [(5, .long x12), (0, .ref md), (1, .long a), (3, .long b)]) hx hb d_Md_lowest_12 hl (by decide) rfl (fun ls hl => ?_)
    refine lv_lload_n hx hb d_Md_lowest_14 rfl (lv_at hl 3 rfl) ?_
    refine lv_lconst (v := 0) hx hb d_Md_lowest_15 (by decide) ?_
    refine W.lcmp hx hb d_Md_lowest_16 ?_
    refine lv_if_ge (tgt := 25) hx hb d_Md_lowest_17 (by decide) (fun c_16 => ?_) (fun c_16 => ?_)
    · skip
      rw [lg_cmp_ge] at c_16
      refine lv_lload_n hx hb d_Md_lowest_25 rfl (lv_at hl 3 rfl) ?_
      refine lv_lstore (lv' := [(7, .long b), (5, .long x12), (0, .ref md), (1, .long a), (3, .long b)]) hx hb d_Md_lowest_26 hl (by decide) rfl (fun ls hl => ?_)
      have e5 : x12 = lN a.toInt.natAbs := by rw [ex12]; exact (absN a hab).1 (by rw [nm_llt]; rw [nm_lle] at c_2; omega)
      have e7 : b = lN b.toInt.natAbs := (absN b hbb).2 (by rw [nm_llt]; rw [nm_lle] at c_16; omega)
      have hl9 : lv_has ls 11 [(7, .long b), (5, .long x12), (0, .ref md), (1, .long a), (3, .long b)] := lv_sub hl [0, 1, 2, 3, 4] rfl
      have hl8 : lv_has ls 11 [(7, .long (lN b.toInt.natAbs)), (5, .long (lN a.toInt.natAbs)), (0, .ref md), (1, .long a), (3, .long b)] := by
        have q5 : (.long x12 : Value) = .long (lN a.toInt.natAbs) := congrArg Value.long e5
        have q7 : (.long b : Value) = .long (lN b.toInt.natAbs) := congrArg Value.long e7
        exact lv_eq2 hl9 q7 q5
      exact loop b.toInt.natAbs a.toInt.natAbs b.toInt.natAbs (Nat.le_refl _) (by omega) (by omega) (by rw [Nat.gcd_comm]; rfl) ls hl8
    · skip
      rw [lg_cmp_ge] at c_16
      refine lv_lload_n hx hb d_Md_lowest_20 rfl (lv_at hl 3 rfl) ?_
      refine lv_lneg hx hb d_Md_lowest_21 ?_
      refine lv_topl (fun x13 ex13 => ?_)
      refine lv_goto (tgt := 26) hx hb d_Md_lowest_22 (by decide) ?_
      refine lv_lstore (lv' := [(7, .long x13), (5, .long x12), (0, .ref md), (1, .long a), (3, .long b)]) hx hb d_Md_lowest_26 hl (by decide) rfl (fun ls hl => ?_)
      have e5 : x12 = lN a.toInt.natAbs := by rw [ex12]; exact (absN a hab).1 (by rw [nm_llt]; rw [nm_lle] at c_2; omega)
      have e7 : x13 = lN b.toInt.natAbs := by rw [ex13]; exact (absN b hbb).1 (by rw [nm_llt]; rw [nm_lle] at c_16; omega)
      have hl9 : lv_has ls 11 [(7, .long x13), (5, .long x12), (0, .ref md), (1, .long a), (3, .long b)] := lv_sub hl [0, 1, 2, 3, 4] rfl
      have hl8 : lv_has ls 11 [(7, .long (lN b.toInt.natAbs)), (5, .long (lN a.toInt.natAbs)), (0, .ref md), (1, .long a), (3, .long b)] := by
        have q5 : (.long x12 : Value) = .long (lN a.toInt.natAbs) := congrArg Value.long e5
        have q7 : (.long x13 : Value) = .long (lN b.toInt.natAbs) := congrArg Value.long e7
        exact lv_eq2 hl9 q7 q5
      exact loop b.toInt.natAbs a.toInt.natAbs b.toInt.natAbs (Nat.le_refl _) (by omega) (by omega) (by rw [Nat.gcd_comm]; rfl) ls hl8
end G36

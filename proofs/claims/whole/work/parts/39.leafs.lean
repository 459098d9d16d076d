/-! The reference: meet, trial, step, atomAt -/
theorem fr_bd {a b : Int} (hb : b ≠ 0) : (qm_fr a b).num.natAbs ≤ a.natAbs ∧ (qm_fr a b).den ≤ b.natAbs := by
  rcases Int.lt_or_gt_of_ne hb with h | h
  · obtain ⟨h1, h2⟩ := fr_numN (u := a) h
    have a1 : (a / (Int.gcd b a : Int)).natAbs ≤ a.natAbs := Int.natAbs_ediv_le_natAbs _ _
    have a2 : (b / (Int.gcd b a : Int)).natAbs ≤ b.natAbs := Int.natAbs_ediv_le_natAbs _ _
    omega
  · obtain ⟨h1, h2⟩ := fr_num (u := a) h
    have a1 : (a / (Int.gcd b a : Int)).natAbs ≤ a.natAbs := Int.natAbs_ediv_le_natAbs _ _
    have a2 : (b / (Int.gcd b a : Int)).natAbs ≤ b.natAbs := Int.natAbs_ediv_le_natAbs _ _
    omega
theorem sub_jo {j o : Nat} (h : j + o = 1) : (1 : Int32) - nI j = nI o := by
  rcases (show j = 0 ∨ j = 1 by omega) with rfl | rfl
  · rw [show o = 1 by omega]; decide
  · rw [show o = 0 by omega]; decide
/-- a row grows -/
def kq (o n0 N Dn : Nat) (AB BE : Nat → Int64) (n1 : Nat) (AB' BE' : Nat → Int64) : Prop := n0 ≤ n1 ∧ kr (kf o AB') (kf o BE') n1 N Dn ∧ (∀ i, i < n0 → ∃ j, j < n1 ∧ mk_v (kf o AB') (kf o BE') j = mk_v (kf o AB) (kf o BE) i) ∧ ∀ j, (j < o ∨ o + 64 ≤ j) → AB' j = AB j ∧ BE' j = BE j
def kh (o : Nat) (AB BE : Nat → Int64) (n : Nat) (v : Rat) : Prop := ∃ j, j < n ∧ mk_v (kf o AB) (kf o BE) j = v
theorem kq_rf {o n0 N Dn : Nat} {AB BE : Nat → Int64} (h : kr (kf o AB) (kf o BE) n0 N Dn) : kq o n0 N Dn AB BE n0 AB BE := ⟨Nat.le_refl _, h, fun i hi => ⟨i, hi, rfl⟩, fun _ _ => ⟨rfl, rfl⟩⟩
theorem kq_tr {o n0 n1 n2 N Dn : Nat} {AB BE AB1 BE1 AB2 BE2 : Nat → Int64} (h : kq o n0 N Dn AB BE n1 AB1 BE1) (k : kq o n1 N Dn AB1 BE1 n2 AB2 BE2) : kq o n0 N Dn AB BE n2 AB2 BE2 := by
  obtain ⟨a1, a2, a3, a4⟩ := h
  obtain ⟨b1, b2, b3, b4⟩ := k
  refine ⟨Nat.le_trans a1 b1, b2, fun i hi => ?_, fun j hj => ⟨((b4 j hj).1).trans (a4 j hj).1, ((b4 j hj).2).trans (a4 j hj).2⟩⟩
  obtain ⟨j, hj, e⟩ := a3 i hi
  obtain ⟨t, ht, e2⟩ := b3 j hj
  exact ⟨t, ht, e2.trans e⟩
theorem kh_kq {o n0 n1 N Dn : Nat} {AB BE AB1 BE1 : Nat → Int64} {v : Rat} (h : kh o AB BE n0 v) (k : kq o n0 N Dn AB BE n1 AB1 BE1) : kh o AB1 BE1 n1 v := by
  obtain ⟨i, hi, e⟩ := h
  obtain ⟨j, hj, e2⟩ := k.2.2.1 i hi
  exact ⟨j, hj, e2.trans e⟩
theorem kp_kq {o n0 N Dn n1 : Nat} {AB BE AB' BE' : Nat → Int64} {v : Rat} (h : kp_P o n0 N Dn AB BE v n1 AB' BE') : kq o n0 N Dn AB BE n1 AB' BE' ∧ n1 ≤ n0 + 1 ∧ kh o AB' BE' n1 v := ⟨⟨h.1, h.2.2.1, h.2.2.2.1, h.2.2.2.2.2⟩, h.2.1, h.2.2.2.2.1⟩
def pn (c : Nat) : Nat := if c = 0 then 7625000000 else if c = 1 then 25500 else 50
def pd (c : Nat) : Nat := if c = 0 then 1250000000 else if c = 1 then 5000 else 1
def pt_b (PO : Nat → Int64) (lv cx cy : Nat) : Prop := (0 < (PO (4 * lv + 1)).toInt ∧ (PO (4 * lv + 1)).toInt ≤ pd cx ∧ (PO (4 * lv)).toInt.natAbs ≤ pn cx) ∧ 0 < (PO (4 * lv + 3)).toInt ∧ (PO (4 * lv + 3)).toInt ≤ pd cy ∧ (PO (4 * lv + 2)).toInt.natAbs ≤ pn cy
def pX (PO : Nat → Int64) (lv : Nat) : Rat := qm_fr (PO (4 * lv)).toInt (PO (4 * lv + 1)).toInt
def pY (PO : Nat → Int64) (lv : Nat) : Rat := qm_fr (PO (4 * lv + 2)).toInt (PO (4 * lv + 3)).toInt
theorem pp_ok {cx cy : Nat} (h : 1 ≤ cx + cy) : pn cx * pd cy ≤ 40000000000000 ∧ pn cy * pd cx ≤ 40000000000000 ∧ pd cx * pd cy ≤ 40000000000000 ∧ pn cx ≤ 7625000000 ∧ pn cy ≤ 7625000000 ∧ pd cx ≤ 1250000000 ∧ pd cy ≤ 1250000000 := by
  have e : ∀ c, (pn c = 7625000000 ∧ pd c = 1250000000 ∧ c = 0) ∨ (pn c = 25500 ∧ pd c = 5000) ∨ (pn c = 50 ∧ pd c = 1) := fun c => by
    unfold pn pd
    by_cases h0 : c = 0
    · rw [if_pos h0, if_pos h0]; exact Or.inl ⟨rfl, rfl, h0⟩
    · rw [if_neg h0, if_neg h0]
      by_cases h1 : c = 1
      · rw [if_pos h1, if_pos h1]; exact Or.inr (Or.inl ⟨rfl, rfl⟩)
      · rw [if_neg h1, if_neg h1]; exact Or.inr (Or.inr ⟨rfl, rfl⟩)
  rcases e cx with ⟨a, b, c⟩ | ⟨a, b⟩ | ⟨a, b⟩ <;> rcases e cy with ⟨a', b', c'⟩ | ⟨a', b'⟩ | ⟨a', b'⟩ <;> rw [a, b, a', b'] <;> first | omega | decide
section G39
variable (l : Launch) (D : va_G) (cI cJ cZ cN : ClassId) (md kd on tw nu le fx fy si de ne it po ma ab be li fr to : Nat)
set_option maxHeartbeats 4000000 in
set_option maxRecDepth 100000 in
theorem c_Md_meet (cd : Int32) (n : Nat) (up dn : Int64) (pz : Int32) (NE IT : Nat → Int32) (PO : Nat → Int64) (MA : Nat → Int32) (AB BE : Nat → Int64) (lv n0 N Dn s9 t9 j o sz : Nat) (st : Nat → Nat → Int32) (M : Nat → Option va_E) (hD : md_D md kd on tw nu le fx fy si de ne it po ma ab be li fr to) (hK : md_W cI cJ cZ md kd on tw nu le fx fy si de ne it po ma ab be li fr to M cd n up dn pz NE IT PO MA AB BE) (hT : md_T cI cZ kd on tw nu le fx fy si de M st) (hlv : lv < 3) (hma : MA lv = nI n0) (hn0 : n0 < 64) (hr9 : kr (kf (64 * lv) AB) (kf (64 * lv) BE) n0 N Dn) (hB : N * Dn ≤ 1000000000000000000) (hN50 : 50 ≤ N) (hD50 : 50 ≤ Dn) (hs9 : s9 < 60) (ht9 : t9 < 60) (hjo : j + o = 1) (hbs : ∀ i, i < 3 → (st 3 (4 * s9 + i)).toInt.natAbs ≤ 5) (hbt : ∀ i, i < 3 → (st 3 (4 * t9 + i)).toInt.natAbs ≤ 5) : Met l y_Md_meet (.code y_Md_meet b_Md_meet 7 none :: ww) ({ frames := 1, cells := 0, slots := 0, locals := 40 }) (hw_Pc D qcl (qty cI cJ cZ cN) [.ref md, .int (nI lv), .int (nI s9), .int (nI t9), .int (nI j)] M sz) (va_Qv (fun M1 => ∃ (n1 : Nat) (u2 d2 : Int64) (AB2 BE2 : Nat → Int64), kq (64 * lv) n0 N Dn AB BE n1 AB2 BE2 ∧ n1 ≤ n0 + 1 ∧ (((st 3 (4 * s9 + j)).toInt * (st 3 (4 * t9 + o)).toInt - (st 3 (4 * t9 + j)).toInt * (st 3 (4 * s9 + o)).toInt) ≠ 0 → kh (64 * lv) AB2 BE2 n1 (qm_fr ((st 3 (4 * s9 + o)).toInt * (st 3 (4 * t9 + 2)).toInt - (st 3 (4 * t9 + o)).toInt * (st 3 (4 * s9 + 2)).toInt) ((st 3 (4 * s9 + j)).toInt * (st 3 (4 * t9 + o)).toInt - (st 3 (4 * t9 + j)).toInt * (st 3 (4 * s9 + o)).toInt))) ∧ md_W cI cJ cZ md kd on tw nu le fx fy si de ne it po ma ab be li fr to M1 cd n u2 d2 pz NE IT PO (upd MA lv (nI n1)) AB2 BE2 ∧ ∀ x9, x9 ≠ md → x9 ≠ ne → x9 ≠ it → x9 ≠ po → x9 ≠ ma → x9 ≠ ab → x9 ≠ be → M1 x9 = M x9) (hw_B D qcl (qty cI cJ cZ cN) M sz) (hw_A M sz)) 0 0 (hw_A M sz) := by
  refine hw_met (by decide) (Nat.le_of_ble_eq_true rfl) ?_
  intro p e s m below meth c hx hb hr hml hown hlocks hnm hts hsz hX hW ls hl
  subst hsz
  have hA : ∀ q, s.heap.size ≤ q → hw_A M s.heap.size q := fun q h => Or.inr h
  have hS : va_S (hw_A M s.heap.size) s.heap s.heap [] := va_S.rf
  have hl : lv_has ls 7 [(0, .ref md), (1, .int (nI lv)), (2, .int (nI s9)), (3, .int (nI t9)), (4, .int (nI j))] := hl
  have hown : s.vm.findClass "QuantifierOutModel" = some m.cls := hown
  have w_md := hK.1
  have w_md : M md = some (.inr (8, [.int cd, .int (nI n), .ref kd, .ref on, .ref tw, .ref nu, .ref le, .ref fx, .ref fy, .ref si, .ref de, .ref ne, .ref it, .ref po, .ref ma, .ref ab, .ref be, .long up, .long dn, .ref li, .int pz, .ref fr, .ref to])) := w_md
  have t_nu : M nu = some (.inl (cI, 240, .inl (st 3))) := hT.2.2.2.1
  refine lv_aload_n hx hb d_Md_meet_0 rfl (lv_at hl 0 rfl) ?_
  refine lv_iload_n hx hb d_Md_meet_1 rfl (lv_at hl 2 rfl) ?_
  refine lv_iload hx hb d_Md_meet_2 (lv_at hl 4 rfl) ?_
  refine hw_calli (hw_runV (n := 2) (own := "QuantifierOutModel") (As := [.int (nI s9), .int (nI j)]) (rest := []) hx hb hml hown hts hX hW hl.1 (c_Md_of l D cI cJ cZ cN md kd on tw nu le fx fy si de ne it po ma ab be li fr to cd n up dn pz s9 j _ (st 3) M w_md t_nu (by omega)) w_md rfl tw_759 tw_761 ts_20 tw_5 tw_762 (by decide +kernel) rfl rfl ⟨by decide, by decide⟩ rfl rfl (Nat.le_of_ble_eq_true rfl) d_Md_meet_4 ⟨by decide, by decide⟩) hW hS hA (fun r1 Mo9 H locs hpo hz hW hS => ?_)
  obtain ⟨er1, eMo9⟩ := hpo
  rw [eMo9] at hW
  obtain ⟨x1, ex1⟩ : ∃ y9 : Int64, y9 = (r1 : Int32).toInt64 := ⟨_, rfl⟩
  refine lv_i2l (v := x1) hx hb d_Md_meet_7 ex1.symm ?_
  refine lv_aload_n hx hb d_Md_meet_8 rfl (lv_at hl 0 rfl) ?_
  refine lv_iload_n hx hb d_Md_meet_9 rfl (lv_at hl 3 rfl) ?_
  refine lv_iconst (v := 1) hx hb d_Md_meet_10 (by decide) ?_
  refine lv_iload hx hb d_Md_meet_11 (lv_at hl 4 rfl) ?_
  refine lv_isub hx hb d_Md_meet_13 ?_
  refine lv_topi (fun x2 ex2 => ?_)
  have eox2 : x2 = nI o := by rw [ex2]; exact sub_jo hjo
  rw [eox2]
  refine hw_calli (hw_runV (n := 2) (own := "QuantifierOutModel") (As := [.int (nI t9), .int (nI o)]) (rest := [.long x1]) hx hb hml hown hts hX hW hl.1 (c_Md_of l D cI cJ cZ cN md kd on tw nu le fx fy si de ne it po ma ab be li fr to cd n up dn pz t9 o _ (st 3) M w_md t_nu (by omega)) w_md rfl tw_759 tw_761 ts_20 tw_5 tw_762 (by decide +kernel) rfl rfl ⟨by decide, by decide⟩ rfl rfl (Nat.le_of_ble_eq_true rfl) d_Md_meet_14 ⟨by decide, by decide⟩) hW hS hA (fun r2 Mo9 H locs hpo hz hW hS => ?_)
  obtain ⟨er2, eMo9⟩ := hpo
  rw [eMo9] at hW
  obtain ⟨x3, ex3⟩ : ∃ y9 : Int64, y9 = (r2 : Int32).toInt64 := ⟨_, rfl⟩
  refine lv_i2l (v := x3) hx hb d_Md_meet_17 ex3.symm ?_
  refine lv_lmul hx hb d_Md_meet_18 ?_
  refine lv_topl (fun x4 ex4 => ?_)
  refine lv_aload_n hx hb d_Md_meet_19 rfl (lv_at hl 0 rfl) ?_
  refine lv_iload_n hx hb d_Md_meet_20 rfl (lv_at hl 3 rfl) ?_
  refine lv_iload hx hb d_Md_meet_21 (lv_at hl 4 rfl) ?_
  refine hw_calli (hw_runV (n := 2) (own := "QuantifierOutModel") (As := [.int (nI t9), .int (nI j)]) (rest := [.long x4]) hx hb hml hown hts hX hW hl.1 (c_Md_of l D cI cJ cZ cN md kd on tw nu le fx fy si de ne it po ma ab be li fr to cd n up dn pz t9 j _ (st 3) M w_md t_nu (by omega)) w_md rfl tw_759 tw_761 ts_20 tw_5 tw_762 (by decide +kernel) rfl rfl ⟨by decide, by decide⟩ rfl rfl (Nat.le_of_ble_eq_true rfl) d_Md_meet_23 ⟨by decide, by decide⟩) hW hS hA (fun r3 Mo9 H locs hpo hz hW hS => ?_)
  obtain ⟨er3, eMo9⟩ := hpo
  rw [eMo9] at hW
  obtain ⟨x5, ex5⟩ : ∃ y9 : Int64, y9 = (r3 : Int32).toInt64 := ⟨_, rfl⟩
  refine lv_i2l (v := x5) hx hb d_Md_meet_26 ex5.symm ?_
  refine lv_aload_n hx hb d_Md_meet_27 rfl (lv_at hl 0 rfl) ?_
  refine lv_iload_n hx hb d_Md_meet_28 rfl (lv_at hl 2 rfl) ?_
  refine lv_iconst (v := 1) hx hb d_Md_meet_29 (by decide) ?_
  refine lv_iload hx hb d_Md_meet_30 (lv_at hl 4 rfl) ?_
  refine lv_isub hx hb d_Md_meet_32 ?_
  refine lv_topi (fun x6 ex6 => ?_)
  have eox6 : x6 = nI o := by rw [ex6]; exact sub_jo hjo
  rw [eox6]
  refine hw_calli (hw_runV (n := 2) (own := "QuantifierOutModel") (As := [.int (nI s9), .int (nI o)]) (rest := [.long x5, .long x4]) hx hb hml hown hts hX hW hl.1 (c_Md_of l D cI cJ cZ cN md kd on tw nu le fx fy si de ne it po ma ab be li fr to cd n up dn pz s9 o _ (st 3) M w_md t_nu (by omega)) w_md rfl tw_759 tw_761 ts_20 tw_5 tw_762 (by decide +kernel) rfl rfl ⟨by decide, by decide⟩ rfl rfl (Nat.le_of_ble_eq_true rfl) d_Md_meet_33 ⟨by decide, by decide⟩) hW hS hA (fun r4 Mo9 H locs hpo hz hW hS => ?_)
  obtain ⟨er4, eMo9⟩ := hpo
  rw [eMo9] at hW
  obtain ⟨x7, ex7⟩ : ∃ y9 : Int64, y9 = (r4 : Int32).toInt64 := ⟨_, rfl⟩
  refine lv_i2l (v := x7) hx hb d_Md_meet_36 ex7.symm ?_
  refine lv_lmul hx hb d_Md_meet_37 ?_
  refine lv_topl (fun x8 ex8 => ?_)
  refine lv_lsub hx hb d_Md_meet_38 ?_
  refine lv_topl (fun x9 ex9 => ?_)
  refine lv_lstore (lv' := [(5, .long x9), (0, .ref md), (1, .int (nI lv)), (2, .int (nI s9)), (3, .int (nI t9)), (4, .int (nI j))]) hx hb d_Md_meet_39 hl (by decide) rfl (fun ls hl => ?_)
  refine lv_lload hx hb d_Md_meet_41 (lv_at hl 0 rfl) ?_
  refine lv_lconst (v := 0) hx hb d_Md_meet_43 (by decide) ?_
  have tx1 : x1.toInt = (st 3 (4 * s9 + j)).toInt := by rw [ex1, nm_i2l, er1]
  have tx3 : x3.toInt = (st 3 (4 * t9 + o)).toInt := by rw [ex3, nm_i2l, er2]
  have tx5 : x5.toInt = (st 3 (4 * t9 + j)).toInt := by rw [ex5, nm_i2l, er3]
  have tx7 : x7.toInt = (st 3 (4 * s9 + o)).toInt := by rw [ex7, nm_i2l, er4]
  have q1 := hbs j (by omega)
  have q2 := hbt o (by omega)
  have q3 := hbt j (by omega)
  have q4 := hbs o (by omega)
  have q5 := hbs 2 (by omega)
  have q6 := hbt 2 (by omega)
  have m1 := nm_mulb q1 q2
  have m2 := nm_mulb q3 q4
  have tx4 : x4.toInt = (st 3 (4 * s9 + j)).toInt * (st 3 (4 * t9 + o)).toInt := by rw [ex4, nm_lmul (by rw [tx1, tx3]; omega), tx1, tx3]
  have tx8 : x8.toInt = (st 3 (4 * t9 + j)).toInt * (st 3 (4 * s9 + o)).toInt := by rw [ex8, nm_lmul (by rw [tx5, tx7]; omega), tx5, tx7]
  have tx9 : x9.toInt = ((st 3 (4 * s9 + j)).toInt * (st 3 (4 * t9 + o)).toInt - (st 3 (4 * t9 + j)).toInt * (st 3 (4 * s9 + o)).toInt) := by rw [ex9, nm_lsub (by rw [tx4, tx8]; omega), tx4, tx8]
  have h00 : (0 : Int64).toInt = 0 := rfl
  refine W.lcmp hx hb d_Md_meet_44 ?_
  refine lv_if_ne (tgt := 49) hx hb d_Md_meet_45 (by decide) (fun c_44 => ?_) (fun c_44 => ?_)
  · skip
    first | rw [lg_cmp_eq] at c_44 | rw [ne_eq, lg_cmp_eq] at c_44 | simp only [ne_eq, lg_cmp_eq, not_not, Decidable.not_not] at c_44
    have hz0 : ((st 3 (4 * s9 + j)).toInt * (st 3 (4 * t9 + o)).toInt - (st 3 (4 * t9 + j)).toInt * (st 3 (4 * s9 + o)).toInt) ≠ 0 := fun z9 => c_44 (Int64.toInt_inj.mp (by rw [tx9, z9]; rfl))
    refine lv_aload_n hx hb d_Md_meet_49 rfl (lv_at hl 1 rfl) ?_
    refine lv_aload_n hx hb d_Md_meet_50 rfl (lv_at hl 1 rfl) ?_
    refine lv_iload_n hx hb d_Md_meet_51 rfl (lv_at hl 3 rfl) ?_
    refine lv_iconst (v := 1) hx hb d_Md_meet_52 (by decide) ?_
    refine lv_iload hx hb d_Md_meet_53 (lv_at hl 5 rfl) ?_
    refine lv_isub hx hb d_Md_meet_55 ?_
    refine lv_topi (fun x10 ex10 => ?_)
    have eox10 : x10 = nI o := by rw [ex10]; exact sub_jo hjo
    rw [eox10]
    refine hw_calli (hw_runV (n := 2) (own := "QuantifierOutModel") (As := [.int (nI s9), .int (nI o)]) (rest := [.ref md]) hx hb hml hown hts hX hW hl.1 (c_Md_of l D cI cJ cZ cN md kd on tw nu le fx fy si de ne it po ma ab be li fr to cd n up dn pz s9 o _ (st 3) M w_md t_nu (by omega)) w_md rfl tw_759 tw_761 ts_20 tw_5 tw_762 (by decide +kernel) rfl rfl ⟨by decide, by decide⟩ rfl rfl (Nat.le_of_ble_eq_true rfl) d_Md_meet_56 ⟨by decide, by decide⟩) hW hS hA (fun r5 Mo9 H locs hpo hz hW hS => ?_)
    obtain ⟨er5, eMo9⟩ := hpo
    rw [eMo9] at hW
    obtain ⟨x11, ex11⟩ : ∃ y9 : Int64, y9 = (r5 : Int32).toInt64 := ⟨_, rfl⟩
    refine lv_i2l (v := x11) hx hb d_Md_meet_59 ex11.symm ?_
    refine lv_aload_n hx hb d_Md_meet_60 rfl (lv_at hl 1 rfl) ?_
    refine lv_iload_n hx hb d_Md_meet_61 rfl (lv_at hl 4 rfl) ?_
    refine lv_iconst (v := 2) hx hb d_Md_meet_62 (by decide) ?_
    refine hw_calli (hw_runV (n := 2) (own := "QuantifierOutModel") (As := [.int (nI t9), .int 2]) (rest := [.long x11, .ref md]) hx hb hml hown hts hX hW hl.1 (c_Md_of l D cI cJ cZ cN md kd on tw nu le fx fy si de ne it po ma ab be li fr to cd n up dn pz t9 2 _ (st 3) M w_md t_nu (by omega)) w_md rfl tw_759 tw_761 ts_20 tw_5 tw_762 (by decide +kernel) rfl rfl ⟨by decide, by decide⟩ rfl rfl (Nat.le_of_ble_eq_true rfl) d_Md_meet_63 ⟨by decide, by decide⟩) hW hS hA (fun r6 Mo9 H locs hpo hz hW hS => ?_)
    obtain ⟨er6, eMo9⟩ := hpo
    rw [eMo9] at hW
    obtain ⟨x12, ex12⟩ : ∃ y9 : Int64, y9 = (r6 : Int32).toInt64 := ⟨_, rfl⟩
    refine lv_i2l (v := x12) hx hb d_Md_meet_66 ex12.symm ?_
    refine lv_lmul hx hb d_Md_meet_67 ?_
    refine lv_topl (fun x13 ex13 => ?_)
    refine lv_aload_n hx hb d_Md_meet_68 rfl (lv_at hl 1 rfl) ?_
    refine lv_iload_n hx hb d_Md_meet_69 rfl (lv_at hl 4 rfl) ?_
    refine lv_iconst (v := 1) hx hb d_Md_meet_70 (by decide) ?_
    refine lv_iload hx hb d_Md_meet_71 (lv_at hl 5 rfl) ?_
    refine lv_isub hx hb d_Md_meet_73 ?_
    refine lv_topi (fun x14 ex14 => ?_)
    have eox14 : x14 = nI o := by rw [ex14]; exact sub_jo hjo
    rw [eox14]
    refine hw_calli (hw_runV (n := 2) (own := "QuantifierOutModel") (As := [.int (nI t9), .int (nI o)]) (rest := [.long x13, .ref md]) hx hb hml hown hts hX hW hl.1 (c_Md_of l D cI cJ cZ cN md kd on tw nu le fx fy si de ne it po ma ab be li fr to cd n up dn pz t9 o _ (st 3) M w_md t_nu (by omega)) w_md rfl tw_759 tw_761 ts_20 tw_5 tw_762 (by decide +kernel) rfl rfl ⟨by decide, by decide⟩ rfl rfl (Nat.le_of_ble_eq_true rfl) d_Md_meet_74 ⟨by decide, by decide⟩) hW hS hA (fun r7 Mo9 H locs hpo hz hW hS => ?_)
    obtain ⟨er7, eMo9⟩ := hpo
    rw [eMo9] at hW
    obtain ⟨x15, ex15⟩ : ∃ y9 : Int64, y9 = (r7 : Int32).toInt64 := ⟨_, rfl⟩
    refine lv_i2l (v := x15) hx hb d_Md_meet_77 ex15.symm ?_
    refine lv_aload_n hx hb d_Md_meet_78 rfl (lv_at hl 1 rfl) ?_
    refine lv_iload_n hx hb d_Md_meet_79 rfl (lv_at hl 3 rfl) ?_
    refine lv_iconst (v := 2) hx hb d_Md_meet_80 (by decide) ?_
    refine hw_calli (hw_runV (n := 2) (own := "QuantifierOutModel") (As := [.int (nI s9), .int 2]) (rest := [.long x15, .long x13, .ref md]) hx hb hml hown hts hX hW hl.1 (c_Md_of l D cI cJ cZ cN md kd on tw nu le fx fy si de ne it po ma ab be li fr to cd n up dn pz s9 2 _ (st 3) M w_md t_nu (by omega)) w_md rfl tw_759 tw_761 ts_20 tw_5 tw_762 (by decide +kernel) rfl rfl ⟨by decide, by decide⟩ rfl rfl (Nat.le_of_ble_eq_true rfl) d_Md_meet_81 ⟨by decide, by decide⟩) hW hS hA (fun r8 Mo9 H locs hpo hz hW hS => ?_)
    obtain ⟨er8, eMo9⟩ := hpo
    rw [eMo9] at hW
    obtain ⟨x16, ex16⟩ : ∃ y9 : Int64, y9 = (r8 : Int32).toInt64 := ⟨_, rfl⟩
    refine lv_i2l (v := x16) hx hb d_Md_meet_84 ex16.symm ?_
    refine lv_lmul hx hb d_Md_meet_85 ?_
    refine lv_topl (fun x17 ex17 => ?_)
    refine lv_lsub hx hb d_Md_meet_86 ?_
    refine lv_topl (fun x18 ex18 => ?_)
    refine lv_lload hx hb d_Md_meet_87 (lv_at hl 0 rfl) ?_
    have tx11 : x11.toInt = (st 3 (4 * s9 + o)).toInt := by rw [ex11, nm_i2l, er5]
    have tx12 : x12.toInt = (st 3 (4 * t9 + 2)).toInt := by rw [ex12, nm_i2l, er6]
    have tx15 : x15.toInt = (st 3 (4 * t9 + o)).toInt := by rw [ex15, nm_i2l, er7]
    have tx16 : x16.toInt = (st 3 (4 * s9 + 2)).toInt := by rw [ex16, nm_i2l, er8]
    have m3 := nm_mulb q4 q6
    have m4 := nm_mulb q2 q5
    have tx13 : x13.toInt = (st 3 (4 * s9 + o)).toInt * (st 3 (4 * t9 + 2)).toInt := by rw [ex13, nm_lmul (by rw [tx11, tx12]; omega), tx11, tx12]
    have tx17 : x17.toInt = (st 3 (4 * t9 + o)).toInt * (st 3 (4 * s9 + 2)).toInt := by rw [ex17, nm_lmul (by rw [tx15, tx16]; omega), tx15, tx16]
    have tx18 : x18.toInt = ((st 3 (4 * s9 + o)).toInt * (st 3 (4 * t9 + 2)).toInt - (st 3 (4 * t9 + o)).toInt * (st 3 (4 * s9 + 2)).toInt) := by rw [ex18, nm_lsub (by rw [tx13, tx17]; omega), tx13, tx17]
    refine hw_callv (hw_runV (n := 2) (own := "QuantifierOutModel") (As := [.long x18, .long x9]) (rest := []) hx hb hml hown hts hX hW hl.1 (c_Md_lowest l D cI cJ cZ cN md kd on tw nu le fx fy si de ne it po ma ab be li fr to cd n up dn pz _ M hK.1 x18 x9 (by rw [tx9]; exact hz0) (by rw [tx18]; omega) (by rw [tx9]; omega)) hK.1 rfl tw_771 tw_773 ts_23 tw_5 tw_774 (by decide +kernel) rfl rfl ⟨by decide, by decide⟩ rfl rfl (Nat.le_of_ble_eq_true rfl) d_Md_meet_89 ⟨by decide, by decide⟩) hW hS hA (fun Mla H locs hpl hz hW hS => ?_)
    obtain ⟨ua, da, hua, hda, eMla⟩ := hpl
    have hfla : ∀ x9, x9 ≠ md → Mla x9 = M x9 := fun x9 z9 => by rw [eMla, va_up_ne _ _ z9]
    have hKla : md_W cI cJ cZ md kd on tw nu le fx fy si de ne it po ma ab be li fr to Mla cd n ua da pz NE IT PO MA AB BE := ⟨by rw [eMla]; exact va_up_self _ _ _, (hfla ne (Ne.symm (show md ≠ ne from hD 0 10 (by decide) (by decide)))).trans hK.2.1, (hfla it (Ne.symm (show md ≠ it from hD 0 11 (by decide) (by decide)))).trans hK.2.2.1, (hfla po (Ne.symm (show md ≠ po from hD 0 12 (by decide) (by decide)))).trans hK.2.2.2.1, (hfla ma (Ne.symm (show md ≠ ma from hD 0 13 (by decide) (by decide)))).trans hK.2.2.2.2.1, (hfla ab (Ne.symm (show md ≠ ab from hD 0 14 (by decide) (by decide)))).trans hK.2.2.2.2.2.1, (hfla be (Ne.symm (show md ≠ be from hD 0 15 (by decide) (by decide)))).trans hK.2.2.2.2.2.2⟩
    rw [tx18, tx9] at hua hda
    obtain ⟨b1, b2⟩ := fr_bd (a := ((st 3 (4 * s9 + o)).toInt * (st 3 (4 * t9 + 2)).toInt - (st 3 (4 * t9 + o)).toInt * (st 3 (4 * s9 + 2)).toInt)) hz0
    refine lv_aload_n hx hb d_Md_meet_92 rfl (lv_at hl 1 rfl) ?_
    refine lv_iload_n hx hb d_Md_meet_93 rfl (lv_at hl 2 rfl) ?_
    refine hw_callv (hw_runV (n := 1) (own := "QuantifierOutModel") (As := [.int (nI lv)]) (rest := []) hx hb hml hown hts hX hW hl.1 (c_Md_keep l D cI cJ cZ cN md kd on tw nu le fx fy si de ne it po ma ab be li fr to cd n ua da pz NE IT PO MA AB BE lv n0 N Dn _ _ Mla hD hKla hlv hma hn0 hr9 hB hua hda (by rw [hua]; omega) (by rw [hda]; omega)) hKla.1 rfl tw_775 tw_777 ts_24 tw_5 tw_778 (by decide +kernel) rfl rfl ⟨by decide, by decide⟩ rfl rfl (Nat.le_of_ble_eq_true rfl) d_Md_meet_94 ⟨by decide, by decide⟩) hW hS hA (fun Mk H locs hpk hz hW hS => ?_)
    obtain ⟨n1, AB2, BE2, hkp, hKk, hfk⟩ := hpk
    obtain ⟨g1, g2, g3⟩ := kp_kq hkp
    exact hw_retv hx hb hr hlocks hW hS ⟨n1, ua, da, AB2, BE2, g1, g2, fun _ => g3, hKk, fun x9 z0 z1 z2 z3 z4 z5 z6 => (hfk x9 z0 z1 z2 z3 z4 z5 z6).trans (hfla x9 z0)⟩ d_Md_meet_97
  · skip
    first | rw [lg_cmp_eq] at c_44 | rw [ne_eq, lg_cmp_eq] at c_44 | simp only [ne_eq, lg_cmp_eq, not_not, Decidable.not_not] at c_44
    have hz0 : ((st 3 (4 * s9 + j)).toInt * (st 3 (4 * t9 + o)).toInt - (st 3 (4 * t9 + j)).toInt * (st 3 (4 * s9 + o)).toInt) = 0 := by rw [← tx9, c_44]; rfl
    exact hw_retv hx hb hr hlocks hW hS ⟨n0, up, dn, AB, BE, kq_rf hr9, Nat.le_succ _, fun z9 => absurd hz0 z9, by rw [← hma, upd_id]; exact hK, fun _ _ _ _ _ _ _ _ => rfl⟩ d_Md_meet_48
set_option maxHeartbeats 4000000 in
set_option maxRecDepth 100000 in
theorem c_Md_step (cd : Int32) (n : Nat) (up dn : Int64) (pz : Int32) (NE IT : Nat → Int32) (PO : Nat → Int64) (MA : Nat → Int32) (AB BE : Nat → Int64) (lv j o sz : Nat) (M : Nat → Option va_E) (hD : md_D md kd on tw nu le fx fy si de ne it po ma ab be li fr to) (hK : md_W cI cJ cZ md kd on tw nu le fx fy si de ne it po ma ab be li fr to M cd n up dn pz NE IT PO MA AB BE) (hlv : lv < 2) (hjo : j + o = 1) : Met l y_Md_step (.code y_Md_step b_Md_step 4 none :: ww) ({ frames := 0, cells := 0, slots := 0, locals := 0 }) (hw_Pc D qcl (qty cI cJ cZ cN) [.ref md, .int (nI (lv + 1)), .int (nI j)] M sz) (va_Qv (fun M1 => ∃ PO2 : Nat → Int64, (∀ i, 4 * (lv + 1) ≤ i → PO2 i = PO i) ∧ PO2 (4 * lv + 2 * j) = up ∧ PO2 (4 * lv + 2 * j + 1) = dn ∧ PO2 (4 * lv + 2 * o) = PO (4 * (lv + 1) + 2 * o) ∧ PO2 (4 * lv + 2 * o + 1) = PO (4 * (lv + 1) + 2 * o + 1) ∧ md_W cI cJ cZ md kd on tw nu le fx fy si de ne it po ma ab be li fr to M1 cd n up dn pz NE IT PO2 MA AB BE ∧ ∀ x9, x9 ≠ md → x9 ≠ ne → x9 ≠ it → x9 ≠ po → x9 ≠ ma → x9 ≠ ab → x9 ≠ be → M1 x9 = M x9) (hw_B D qcl (qty cI cJ cZ cN) M sz) (hw_A M sz)) 0 0 (hw_A M sz) := by
  refine hw_met (by decide) (Nat.le_of_ble_eq_true rfl) ?_
  intro p e s m below meth c hx hb hr hml hown hlocks hnm hts hsz hX hW ls hl
  subst hsz
  have hA : ∀ q, s.heap.size ≤ q → hw_A M s.heap.size q := fun q h => Or.inr h
  have hS : va_S (hw_A M s.heap.size) s.heap s.heap [] := va_S.rf
  have hl : lv_has ls 4 [(0, .ref md), (1, .int (nI (lv + 1))), (2, .int (nI j))] := hl
  have hown : s.vm.findClass "QuantifierOutModel" = some m.cls := hown
  obtain ⟨Q9, hQ9⟩ : ∃ X : State → Prop, X = MQ below (va_Qv (fun M1 => ∃ PO2 : Nat → Int64, (∀ i, 4 * (lv + 1) ≤ i → PO2 i = PO i) ∧ PO2 (4 * lv + 2 * j) = up ∧ PO2 (4 * lv + 2 * j + 1) = dn ∧ PO2 (4 * lv + 2 * o) = PO (4 * (lv + 1) + 2 * o) ∧ PO2 (4 * lv + 2 * o + 1) = PO (4 * (lv + 1) + 2 * o + 1) ∧ md_W cI cJ cZ md kd on tw nu le fx fy si de ne it po ma ab be li fr to M1 cd n up dn pz NE IT PO2 MA AB BE ∧ ∀ x9, x9 ≠ md → x9 ≠ ne → x9 ≠ it → x9 ≠ po → x9 ≠ ma → x9 ≠ ab → x9 ≠ be → M1 x9 = M x9) (hw_B D qcl (qty cI cJ cZ cN) M s.heap.size) (hw_A M s.heap.size)) [.ref md, .int (nI (lv + 1)), .int (nI j)].toArray s 0 0 (hw_A M s.heap.size) := ⟨_, rfl⟩
  rw [← hQ9]
  have e4 : (4 : Int32) * nI (lv + 1) = nI (4 * lv + 4) := by rw [show (4 : Int32) = nI 4 from rfl, pk_mul]; congr 1
  have e5 : nI (4 * lv + 4) - 4 = nI (4 * lv) := by rw [show (4 : Int32) = nI 4 from rfl, pk_sub (by omega)]; congr 1
  have e6 : nI (4 * lv + 4) - 3 = nI (4 * lv + 1) := by rw [show (3 : Int32) = nI 3 from rfl, pk_sub (by omega)]; congr 1
  have e7 : (2 : Int32) * nI j = nI (2 * j) := pk_mul 2 j
  have fin : ∀ (H : Heap) (locs : List Loc) (M2 : Nat → Option va_E) (P2 : Nat → Int64) (ls : Array Slot), hw_W D qcl (qty cI cJ cZ cN) (hw_A M s.heap.size) M2 s H → va_S (hw_A M s.heap.size) s.heap H locs → md_W cI cJ cZ md kd on tw nu le fx fy si de ne it po ma ab be li fr to M2 cd n up dn pz NE IT P2 MA AB BE → (∀ x9, x9 ≠ md → x9 ≠ ne → x9 ≠ it → x9 ≠ po → x9 ≠ ma → x9 ≠ ab → x9 ≠ be → M2 x9 = M x9) → (∀ i, 4 * (lv + 1) ≤ i → P2 i = PO i) → (∀ i, i < 4 → P2 (4 * lv + i) = PO (4 * (lv + 1) + i)) → lv_has ls 4 [(0, .ref md), (1, .int (nI (lv + 1))), (2, .int (nI j))] → W p l e ({ frames := 0, cells := 0, slots := 0, locals := 0 }) s m [.ref md, .int (nI (lv + 1)), .int (nI j)].toArray below meth c H locs 0 0 Q9 (F0 m 35 ls []) := by
    intro H locs M2 P2 ls hW hS hK2 hf2 hhi hlo hl
    have w2_md := hK2.1
    have w2_md : M2 md = some (.inr (8, [.int cd, .int (nI n), .ref kd, .ref on, .ref tw, .ref nu, .ref le, .ref fx, .ref fy, .ref si, .ref de, .ref ne, .ref it, .ref po, .ref ma, .ref ab, .ref be, .long up, .long dn, .ref li, .int pz, .ref fr, .ref to])) := w2_md
    have w2_po := hK2.2.2.2.1
    have w2_po : M2 po = some (.inl (cJ, 12, .inr (.inl P2))) := w2_po
    refine lv_aload_n hx hb d_Md_step_35 rfl (lv_at hl 0 rfl) ?_
    refine hw_get (own := "QuantifierOutModel") (v := .ref po) hx hb hts i_Md hown hW w2_md rfl 13 (by decide) (hts _ tw_616) (fun _ h9 => h9) rfl d_Md_step_36 ?_
    refine lv_iconst (v := 4) hx hb d_Md_step_39 (by decide) ?_
    refine lv_iload_n hx hb d_Md_step_40 rfl (lv_at hl 1 rfl) ?_
    refine lv_imul hx hb d_Md_step_41 ?_
    refine lv_topi (fun x1 ex1 => ?_)
    refine lv_iconst (v := 4) hx hb d_Md_step_42 (by decide) ?_
    refine lv_isub hx hb d_Md_step_43 ?_
    refine lv_topi (fun x2 ex2 => ?_)
    refine lv_iconst (v := 2) hx hb d_Md_step_44 (by decide) ?_
    refine lv_iload_n hx hb d_Md_step_45 rfl (lv_at hl 2 rfl) ?_
    refine lv_imul hx hb d_Md_step_46 ?_
    refine lv_topi (fun x3 ex3 => ?_)
    refine lv_iadd hx hb d_Md_step_47 ?_
    refine lv_topi (fun x4 ex4 => ?_)
    refine lv_aload_n hx hb d_Md_step_48 rfl (lv_at hl 0 rfl) ?_
    refine hw_get (own := "QuantifierOutModel") (v := .long up) hx hb hts i_Md hown hW w2_md rfl 17 (by decide) (hts _ tw_620) (fun _ h9 => h9) rfl d_Md_step_49 ?_
    have ei : x4 = nI (4 * lv + 2 * j) := by rw [ex4, ex3, ex2, ex1, e4, e5, e7]; exact nI_add _ _
    refine hw_lst hx hb hW hS 1 w2_po rfl (4 * lv + 2 * j) ei (by omega) (by decide) d_Md_step_52 (fun H locs hW hS => ?_)
    have hW : hw_W D qcl (qty cI cJ cZ cN) _ (va_up M2 po (some (.inl (cJ, 12, .inr (.inl (vp_updL P2 (4 * lv + 2 * j) up)))))) s H := hW
    generalize hMw5 : va_up M2 po (some (.inl (cJ, 12, .inr (.inl (vp_updL P2 (4 * lv + 2 * j) up))))) = Mw5 at hW
    have w2_md : Mw5 md = some (.inr (8, [.int cd, .int (nI n), .ref kd, .ref on, .ref tw, .ref nu, .ref le, .ref fx, .ref fy, .ref si, .ref de, .ref ne, .ref it, .ref po, .ref ma, .ref ab, .ref be, .long up, .long dn, .ref li, .int pz, .ref fr, .ref to])) := by rw [← hMw5, va_up_ne _ _ (show md ≠ po from hD 0 12 (by decide) (by decide))]; exact w2_md
    have w2_po : Mw5 po = some (.inl (cJ, 12, .inr (.inl (vp_updL P2 (4 * lv + 2 * j) up)))) := by rw [← hMw5]; exact va_up_self _ _ _
    have hfr_Mw5 : ∀ x9, x9 ≠ po → Mw5 x9 = M2 x9 := fun x9 z9 => by rw [← hMw5, va_up_ne _ _ z9]
    refine lv_aload_n hx hb d_Md_step_53 rfl (lv_at hl 0 rfl) ?_
    refine hw_get (own := "QuantifierOutModel") (v := .ref po) hx hb hts i_Md hown hW w2_md rfl 13 (by decide) (hts _ tw_616) (fun _ h9 => h9) rfl d_Md_step_54 ?_
    refine lv_iconst (v := 4) hx hb d_Md_step_57 (by decide) ?_
    refine lv_iload_n hx hb d_Md_step_58 rfl (lv_at hl 1 rfl) ?_
    refine lv_imul hx hb d_Md_step_59 ?_
    refine lv_topi (fun x6 ex6 => ?_)
    refine lv_iconst (v := 3) hx hb d_Md_step_60 (by decide) ?_
    refine lv_isub hx hb d_Md_step_61 ?_
    refine lv_topi (fun x7 ex7 => ?_)
    refine lv_iconst (v := 2) hx hb d_Md_step_62 (by decide) ?_
    refine lv_iload_n hx hb d_Md_step_63 rfl (lv_at hl 2 rfl) ?_
    refine lv_imul hx hb d_Md_step_64 ?_
    refine lv_topi (fun x8 ex8 => ?_)
    refine lv_iadd hx hb d_Md_step_65 ?_
    refine lv_topi (fun x9 ex9 => ?_)
    refine lv_aload_n hx hb d_Md_step_66 rfl (lv_at hl 0 rfl) ?_
    refine hw_get (own := "QuantifierOutModel") (v := .long dn) hx hb hts i_Md hown hW w2_md rfl 18 (by decide) (hts _ tw_621) (fun _ h9 => h9) rfl d_Md_step_67 ?_
    have ei2 : x9 = nI (4 * lv + 1 + 2 * j) := by rw [ex9, ex8, ex7, ex6, e4, e6, e7]; exact nI_add _ _
    refine hw_lst hx hb hW hS 1 w2_po rfl (4 * lv + 1 + 2 * j) ei2 (by omega) (by decide) d_Md_step_70 (fun H locs hW hS => ?_)
    have hW : hw_W D qcl (qty cI cJ cZ cN) _ (va_up Mw5 po (some (.inl (cJ, 12, .inr (.inl (vp_updL (vp_updL P2 (4 * lv + 2 * j) up) (4 * lv + 1 + 2 * j) dn)))))) s H := hW
    generalize hMw10 : va_up Mw5 po (some (.inl (cJ, 12, .inr (.inl (vp_updL (vp_updL P2 (4 * lv + 2 * j) up) (4 * lv + 1 + 2 * j) dn))))) = Mw10 at hW
    have w2_md : Mw10 md = some (.inr (8, [.int cd, .int (nI n), .ref kd, .ref on, .ref tw, .ref nu, .ref le, .ref fx, .ref fy, .ref si, .ref de, .ref ne, .ref it, .ref po, .ref ma, .ref ab, .ref be, .long up, .long dn, .ref li, .int pz, .ref fr, .ref to])) := by rw [← hMw10, va_up_ne _ _ (show md ≠ po from hD 0 12 (by decide) (by decide))]; exact w2_md
    have w2_po : Mw10 po = some (.inl (cJ, 12, .inr (.inl (vp_updL (vp_updL P2 (4 * lv + 2 * j) up) (4 * lv + 1 + 2 * j) dn)))) := by rw [← hMw10]; exact va_up_self _ _ _
    have hfr_Mw10 : ∀ x9, x9 ≠ po → Mw10 x9 = Mw5 x9 := fun x9 z9 => by rw [← hMw10, va_up_ne _ _ z9]
    rw [hQ9]
    refine hw_retv hx hb hr hlocks hW hS ⟨_, ?_, ?_, ?_, ?_, ?_, ⟨w2_md, (((hfr_Mw10 ne (show ne ≠ po from hD 10 12 (by decide) (by decide)))).trans (hfr_Mw5 ne (show ne ≠ po from hD 10 12 (by decide) (by decide)))).trans hK2.2.1, (((hfr_Mw10 it (show it ≠ po from hD 11 12 (by decide) (by decide)))).trans (hfr_Mw5 it (show it ≠ po from hD 11 12 (by decide) (by decide)))).trans hK2.2.2.1, w2_po, (((hfr_Mw10 ma (Ne.symm (show po ≠ ma from hD 12 13 (by decide) (by decide))))).trans (hfr_Mw5 ma (Ne.symm (show po ≠ ma from hD 12 13 (by decide) (by decide))))).trans hK2.2.2.2.2.1, (((hfr_Mw10 ab (Ne.symm (show po ≠ ab from hD 12 14 (by decide) (by decide))))).trans (hfr_Mw5 ab (Ne.symm (show po ≠ ab from hD 12 14 (by decide) (by decide))))).trans hK2.2.2.2.2.2.1, (((hfr_Mw10 be (Ne.symm (show po ≠ be from hD 12 15 (by decide) (by decide))))).trans (hfr_Mw5 be (Ne.symm (show po ≠ be from hD 12 15 (by decide) (by decide))))).trans hK2.2.2.2.2.2.2⟩, fun x9 z0 z1 z2 z3 z4 z5 z6 => (((hfr_Mw10 x9 z3)).trans (hfr_Mw5 x9 z3)).trans (hf2 x9 z0 z1 z2 z3 z4 z5 z6)⟩ d_Md_step_71
    · intro i hi; rw [pk_uLn (by omega), pk_uLn (by omega)]; exact hhi i hi
    · rw [pk_uLn (by omega)]; exact pk_uLs
    · rw [show 4 * lv + 2 * j + 1 = 4 * lv + 1 + 2 * j by omega]; exact pk_uLs
    · rw [pk_uLn (by omega), pk_uLn (by omega)]; exact hlo (2 * o) (by omega)
    · rw [pk_uLn (by omega), pk_uLn (by omega)]; exact hlo (2 * o + 1) (by omega)
  have loop : ∀ (z k : Nat), k + z = 4 → ∀ (H : Heap) (locs : List Loc) (M2 : Nat → Option va_E) (P2 : Nat → Int64) (ls : Array Slot), hw_W D qcl (qty cI cJ cZ cN) (hw_A M s.heap.size) M2 s H → va_S (hw_A M s.heap.size) s.heap H locs → md_W cI cJ cZ md kd on tw nu le fx fy si de ne it po ma ab be li fr to M2 cd n up dn pz NE IT P2 MA AB BE → (∀ x9, x9 ≠ md → x9 ≠ ne → x9 ≠ it → x9 ≠ po → x9 ≠ ma → x9 ≠ ab → x9 ≠ be → M2 x9 = M x9) → (∀ i, 4 * (lv + 1) ≤ i → P2 i = PO i) → (∀ i, i < k → P2 (4 * lv + i) = PO (4 * (lv + 1) + i)) → lv_has ls 4 [(3, .int (nI k)), (0, .ref md), (1, .int (nI (lv + 1))), (2, .int (nI j))] → W p l e ({ frames := 0, cells := 0, slots := 0, locals := 0 }) s m [.ref md, .int (nI (lv + 1)), .int (nI j)].toArray below meth c H locs 0 0 Q9 (F0 m 2 ls []) := by
    intro z
    induction z with
    | zero =>
      intro k hz H locs M2 P2 ls hW hS hK2 hf2 hhi hlo hl
      have hk : k = 4 := by omega
      subst hk
      refine lv_iload_n hx hb d_Md_step_2 rfl (lv_at hl 0 rfl) ?_
      refine lv_iconst (v := 4) hx hb d_Md_step_3 (by decide) ?_
      refine lv_icmp_ge (tgt := 35) hx hb d_Md_step_4 (by decide) (fun c_4 => ?_) (fun c_4 => ?_)
      · skip
        exact fin H locs M2 P2 ls hW hS hK2 hf2 hhi hlo (lv_sub hl [1, 2, 3] rfl)
      · skip
        exact absurd (nI_le (Nat.le_refl 4) (by omega)) c_4
    | succ z ihz =>
      intro k hz H locs M2 P2 ls hW hS hK2 hf2 hhi hlo hl
      refine lv_iload_n hx hb d_Md_step_2 rfl (lv_at hl 0 rfl) ?_
      refine lv_iconst (v := 4) hx hb d_Md_step_3 (by decide) ?_
      refine lv_icmp_ge (tgt := 35) hx hb d_Md_step_4 (by decide) (fun c_4 => ?_) (fun c_4 => ?_)
      · skip
        exact absurd c_4 (nI_ge (b := 4) (by omega) (by omega))
      · skip
        have w2_md := hK2.1
        have w2_md : M2 md = some (.inr (8, [.int cd, .int (nI n), .ref kd, .ref on, .ref tw, .ref nu, .ref le, .ref fx, .ref fy, .ref si, .ref de, .ref ne, .ref it, .ref po, .ref ma, .ref ab, .ref be, .long up, .long dn, .ref li, .int pz, .ref fr, .ref to])) := w2_md
        have w2_po := hK2.2.2.2.1
        have w2_po : M2 po = some (.inl (cJ, 12, .inr (.inl P2))) := w2_po
        refine lv_aload_n hx hb d_Md_step_7 rfl (lv_at hl 1 rfl) ?_
        refine hw_get (own := "QuantifierOutModel") (v := .ref po) hx hb hts i_Md hown hW w2_md rfl 13 (by decide) (hts _ tw_616) (fun _ h9 => h9) rfl d_Md_step_8 ?_
        refine lv_iconst (v := 4) hx hb d_Md_step_11 (by decide) ?_
        refine lv_iload_n hx hb d_Md_step_12 rfl (lv_at hl 2 rfl) ?_
        refine lv_imul hx hb d_Md_step_13 ?_
        refine lv_topi (fun x11 ex11 => ?_)
        refine lv_iconst (v := 4) hx hb d_Md_step_14 (by decide) ?_
        refine lv_isub hx hb d_Md_step_15 ?_
        refine lv_topi (fun x12 ex12 => ?_)
        refine lv_iload_n hx hb d_Md_step_16 rfl (lv_at hl 0 rfl) ?_
        refine lv_iadd hx hb d_Md_step_17 ?_
        refine lv_topi (fun x13 ex13 => ?_)
        refine lv_aload_n hx hb d_Md_step_18 rfl (lv_at hl 1 rfl) ?_
        refine hw_get (own := "QuantifierOutModel") (v := .ref po) hx hb hts i_Md hown hW w2_md rfl 13 (by decide) (hts _ tw_616) (fun _ h9 => h9) rfl d_Md_step_19 ?_
        refine lv_iconst (v := 4) hx hb d_Md_step_22 (by decide) ?_
        refine lv_iload_n hx hb d_Md_step_23 rfl (lv_at hl 2 rfl) ?_
        refine lv_imul hx hb d_Md_step_24 ?_
        refine lv_topi (fun x14 ex14 => ?_)
        refine lv_iload_n hx hb d_Md_step_25 rfl (lv_at hl 0 rfl) ?_
        refine lv_iadd hx hb d_Md_step_26 ?_
        refine lv_topi (fun x15 ex15 => ?_)
        have ei1 : x15 = nI (4 * lv + 4 + k) := by rw [ex15, ex14, e4]; exact nI_add _ _
        have ei0 : x13 = nI (4 * lv + k) := by rw [ex13, ex12, ex11, e4, e5]; exact nI_add _ _
        refine hw_lld hx hb hW 1 w2_po rfl (4 * lv + 4 + k) ei1 (by omega) (by decide) d_Md_step_27 ?_
        refine hw_lst hx hb hW hS 1 w2_po rfl (4 * lv + k) ei0 (by omega) (by decide) d_Md_step_28 (fun H locs hW hS => ?_)
        have hW : hw_W D qcl (qty cI cJ cZ cN) _ (va_up M2 po (some (.inl (cJ, 12, .inr (.inl (vp_updL P2 (4 * lv + k) (P2 (4 * lv + 4 + k)))))))) s H := hW
        generalize hMw16 : va_up M2 po (some (.inl (cJ, 12, .inr (.inl (vp_updL P2 (4 * lv + k) (P2 (4 * lv + 4 + k))))))) = Mw16 at hW
        have w2_md : Mw16 md = some (.inr (8, [.int cd, .int (nI n), .ref kd, .ref on, .ref tw, .ref nu, .ref le, .ref fx, .ref fy, .ref si, .ref de, .ref ne, .ref it, .ref po, .ref ma, .ref ab, .ref be, .long up, .long dn, .ref li, .int pz, .ref fr, .ref to])) := by rw [← hMw16, va_up_ne _ _ (show md ≠ po from hD 0 12 (by decide) (by decide))]; exact w2_md
        have w2_po : Mw16 po = some (.inl (cJ, 12, .inr (.inl (vp_updL P2 (4 * lv + k) (P2 (4 * lv + 4 + k)))))) := by rw [← hMw16]; exact va_up_self _ _ _
        have hfr_Mw16 : ∀ x9, x9 ≠ po → Mw16 x9 = M2 x9 := fun x9 z9 => by rw [← hMw16, va_up_ne _ _ z9]
        obtain ⟨k9, ek9⟩ : ∃ y9 : Int32, y9 = (nI k) + Int32.ofInt (1) := ⟨_, rfl⟩
        refine lv_iinc (v := k9) (lv' := [(3, .int k9), (0, .ref md), (1, .int (nI (lv + 1))), (2, .int (nI j))]) hx hb d_Md_step_29 hl (k := 0) rfl ek9.symm (by decide) rfl (fun ls hl => ?_)
        have ek9b : k9 = nI (k + 1) := by rw [ek9]; exact nI_add k 1
        subst ek9b
        refine lv_goto (tgt := 2) hx hb d_Md_step_32 (by decide) ?_
        refine ihz (k + 1) (by omega) H locs Mw16 _ ls hW hS ⟨w2_md, ((hfr_Mw16 ne (show ne ≠ po from hD 10 12 (by decide) (by decide)))).trans hK2.2.1, ((hfr_Mw16 it (show it ≠ po from hD 11 12 (by decide) (by decide)))).trans hK2.2.2.1, w2_po, ((hfr_Mw16 ma (Ne.symm (show po ≠ ma from hD 12 13 (by decide) (by decide))))).trans hK2.2.2.2.2.1, ((hfr_Mw16 ab (Ne.symm (show po ≠ ab from hD 12 14 (by decide) (by decide))))).trans hK2.2.2.2.2.2.1, ((hfr_Mw16 be (Ne.symm (show po ≠ be from hD 12 15 (by decide) (by decide))))).trans hK2.2.2.2.2.2.2⟩ (fun x9 z0 z1 z2 z3 z4 z5 z6 => ((hfr_Mw16 x9 z3)).trans (hf2 x9 z0 z1 z2 z3 z4 z5 z6)) (fun i hi => by rw [pk_uLn (by omega)]; exact hhi i hi) (fun i hi => ?_) (lv_sub hl [0, 1, 2, 3] rfl)
        by_cases z9 : i = k
        · rw [z9, pk_uLs, show 4 * (lv + 1) + k = 4 * lv + 4 + k by omega]; exact hhi _ (by omega)
        · rw [pk_uLn (by omega)]; exact hlo i (by omega)
  refine lv_iconst (v := 0) hx hb d_Md_step_0 (by decide) ?_
  refine lv_istore_n (lv' := [(3, .int 0), (0, .ref md), (1, .int (nI (lv + 1))), (2, .int (nI j))]) hx hb d_Md_step_1 rfl hl (by decide) rfl (fun ls hl => ?_)
  exact loop 4 0 rfl _ _ M PO ls hW hS hK (fun _ _ _ _ _ _ _ _ => rfl) (fun _ _ => rfl) (fun i hi => absurd hi (Nat.not_lt_zero i)) (lv_sub hl [0, 1, 2, 3] rfl)
set_option maxHeartbeats 4000000 in
set_option maxRecDepth 100000 in
theorem c_Md_atomAt (cd : Int32) (n : Nat) (up dn : Int64) (pz : Int32) (NE IT : Nat → Int32) (PO : Nat → Int64) (MA : Nat → Int32) (AB BE : Nat → Int64) (lv s9 op cx cy sz : Nat) (st : Nat → Nat → Int32) (M : Nat → Option va_E) (hK : md_W cI cJ cZ md kd on tw nu le fx fy si de ne it po ma ab be li fr to M cd n up dn pz NE IT PO MA AB BE) (hT : md_T cI cZ kd on tw nu le fx fy si de M st) (hlv : lv < 3) (hs9 : s9 < 60) (hop : op < 3) (hope : st 3 (4 * s9 + 3) = nI op) (hbs : ∀ i, i < 3 → (st 3 (4 * s9 + i)).toInt.natAbs ≤ 5) (hpt : pt_b PO lv cx cy) (hcc : 1 ≤ cx + cy) : Met l y_Md_atomAt (.code y_Md_atomAt b_Md_atomAt 14 (some .boolean) :: ww) ({ frames := 1, cells := 0, slots := 0, locals := 40 }) (hw_Pc D qcl (qty cI cJ cZ cN) [.ref md, .int (nI lv), .int (nI s9)] M sz) (va_Qi (fun r M1 => it_b r (qm_atom ((st 3 (4 * s9)).toInt, (st 3 (4 * s9 + 1)).toInt, (st 3 (4 * s9 + 2)).toInt) op (pX PO lv) (pY PO lv)) ∧ M1 = M) (hw_B D qcl (qty cI cJ cZ cN) M sz) (hw_A M sz)) 0 0 (hw_A M sz) := by
  refine hw_met (by decide) (Nat.le_of_ble_eq_true rfl) ?_
  intro p e s m below meth c hx hb hr hml hown hlocks hnm hts hsz hX hW ls hl
  subst hsz
  have hA : ∀ q, s.heap.size ≤ q → hw_A M s.heap.size q := fun q h => Or.inr h
  have hS : va_S (hw_A M s.heap.size) s.heap s.heap [] := va_S.rf
  have hl : lv_has ls 14 [(0, .ref md), (1, .int (nI lv)), (2, .int (nI s9))] := hl
  have hown : s.vm.findClass "QuantifierOutModel" = some m.cls := hown
  obtain ⟨Q9, hQ9⟩ : ∃ X : State → Prop, X = MQ below (va_Qi (fun r M1 => it_b r (qm_atom ((st 3 (4 * s9)).toInt, (st 3 (4 * s9 + 1)).toInt, (st 3 (4 * s9 + 2)).toInt) op (pX PO lv) (pY PO lv)) ∧ M1 = M) (hw_B D qcl (qty cI cJ cZ cN) M s.heap.size) (hw_A M s.heap.size)) [.ref md, .int (nI lv), .int (nI s9)].toArray s 0 0 (hw_A M s.heap.size) := ⟨_, rfl⟩
  rw [← hQ9]
  have w_md := hK.1
  have w_md : M md = some (.inr (8, [.int cd, .int (nI n), .ref kd, .ref on, .ref tw, .ref nu, .ref le, .ref fx, .ref fy, .ref si, .ref de, .ref ne, .ref it, .ref po, .ref ma, .ref ab, .ref be, .long up, .long dn, .ref li, .int pz, .ref fr, .ref to])) := w_md
  have w_po := hK.2.2.2.1
  have w_po : M po = some (.inl (cJ, 12, .inr (.inl PO))) := w_po
  have t_nu : M nu = some (.inl (cI, 240, .inl (st 3))) := hT.2.2.2.1
  have e4 : (4 : Int32) * nI lv = nI (4 * lv) := pk_mul 4 lv
  refine lv_aload_n hx hb d_Md_atomAt_0 rfl (lv_at hl 0 rfl) ?_
  refine hw_get (own := "QuantifierOutModel") (v := .ref po) hx hb hts i_Md hown hW w_md rfl 13 (by decide) (hts _ tw_616) (fun _ h9 => h9) rfl d_Md_atomAt_1 ?_
  refine lv_iconst (v := 4) hx hb d_Md_atomAt_4 (by decide) ?_
  refine lv_iload_n hx hb d_Md_atomAt_5 rfl (lv_at hl 1 rfl) ?_
  refine lv_imul hx hb d_Md_atomAt_6 ?_
  refine lv_topi (fun x1 ex1 => ?_)
  have ixa : x1 = nI (4 * lv) := by rw [ex1]; exact e4
  refine hw_lld hx hb hW 1 w_po rfl (4 * lv) ixa (by omega) (by decide) d_Md_atomAt_7 ?_
  refine lv_topl (fun xa exa => ?_)
  refine lv_lstore_n (lv' := [(3, .long xa), (0, .ref md), (1, .int (nI lv)), (2, .int (nI s9))]) hx hb d_Md_atomAt_8 rfl hl (by decide) rfl (fun ls hl => ?_)
  refine lv_aload_n hx hb d_Md_atomAt_9 rfl (lv_at hl 1 rfl) ?_
  refine hw_get (own := "QuantifierOutModel") (v := .ref po) hx hb hts i_Md hown hW w_md rfl 13 (by decide) (hts _ tw_616) (fun _ h9 => h9) rfl d_Md_atomAt_10 ?_
  refine lv_iconst (v := 4) hx hb d_Md_atomAt_13 (by decide) ?_
  refine lv_iload_n hx hb d_Md_atomAt_14 rfl (lv_at hl 2 rfl) ?_
  refine lv_imul hx hb d_Md_atomAt_15 ?_
  refine lv_topi (fun x2 ex2 => ?_)
  refine lv_iconst (v := 1) hx hb d_Md_atomAt_16 (by decide) ?_
  refine lv_iadd hx hb d_Md_atomAt_17 ?_
  refine lv_topi (fun x3 ex3 => ?_)
  have ixb : x3 = nI (4 * lv + 1) := by rw [ex3, ex2, e4]; exact nI_add _ 1
  refine hw_lld hx hb hW 1 w_po rfl (4 * lv + 1) ixb (by omega) (by decide) d_Md_atomAt_18 ?_
  refine lv_topl (fun xb exb => ?_)
  refine lv_lstore (lv' := [(5, .long xb), (3, .long xa), (0, .ref md), (1, .int (nI lv)), (2, .int (nI s9))]) hx hb d_Md_atomAt_19 hl (by decide) rfl (fun ls hl => ?_)
  refine lv_aload_n hx hb d_Md_atomAt_21 rfl (lv_at hl 2 rfl) ?_
  refine hw_get (own := "QuantifierOutModel") (v := .ref po) hx hb hts i_Md hown hW w_md rfl 13 (by decide) (hts _ tw_616) (fun _ h9 => h9) rfl d_Md_atomAt_22 ?_
  refine lv_iconst (v := 4) hx hb d_Md_atomAt_25 (by decide) ?_
  refine lv_iload_n hx hb d_Md_atomAt_26 rfl (lv_at hl 3 rfl) ?_
  refine lv_imul hx hb d_Md_atomAt_27 ?_
  refine lv_topi (fun x4 ex4 => ?_)
  refine lv_iconst (v := 2) hx hb d_Md_atomAt_28 (by decide) ?_
  refine lv_iadd hx hb d_Md_atomAt_29 ?_
  refine lv_topi (fun x5 ex5 => ?_)
  have iya : x5 = nI (4 * lv + 2) := by rw [ex5, ex4, e4]; exact nI_add _ 2
  refine hw_lld hx hb hW 1 w_po rfl (4 * lv + 2) iya (by omega) (by decide) d_Md_atomAt_30 ?_
  refine lv_topl (fun ya eya => ?_)
  refine lv_lstore (lv' := [(7, .long ya), (5, .long xb), (3, .long xa), (0, .ref md), (1, .int (nI lv)), (2, .int (nI s9))]) hx hb d_Md_atomAt_31 hl (by decide) rfl (fun ls hl => ?_)
  refine lv_aload_n hx hb d_Md_atomAt_33 rfl (lv_at hl 3 rfl) ?_
  refine hw_get (own := "QuantifierOutModel") (v := .ref po) hx hb hts i_Md hown hW w_md rfl 13 (by decide) (hts _ tw_616) (fun _ h9 => h9) rfl d_Md_atomAt_34 ?_
  refine lv_iconst (v := 4) hx hb d_Md_atomAt_37 (by decide) ?_
  refine lv_iload_n hx hb d_Md_atomAt_38 rfl (lv_at hl 4 rfl) ?_
  refine lv_imul hx hb d_Md_atomAt_39 ?_
  refine lv_topi (fun x6 ex6 => ?_)
  refine lv_iconst (v := 3) hx hb d_Md_atomAt_40 (by decide) ?_
  refine lv_iadd hx hb d_Md_atomAt_41 ?_
  refine lv_topi (fun x7 ex7 => ?_)
  have iyb : x7 = nI (4 * lv + 3) := by rw [ex7, ex6, e4]; exact nI_add _ 3
  refine hw_lld hx hb hW 1 w_po rfl (4 * lv + 3) iyb (by omega) (by decide) d_Md_atomAt_42 ?_
  refine lv_topl (fun yb eyb => ?_)
  refine lv_lstore (lv' := [(9, .long yb), (7, .long ya), (5, .long xb), (3, .long xa), (0, .ref md), (1, .int (nI lv)), (2, .int (nI s9))]) hx hb d_Md_atomAt_43 hl (by decide) rfl (fun ls hl => ?_)
  refine lv_aload_n hx hb d_Md_atomAt_45 rfl (lv_at hl 4 rfl) ?_
  refine lv_iload_n hx hb d_Md_atomAt_46 rfl (lv_at hl 6 rfl) ?_
  refine lv_iconst (v := 0) hx hb d_Md_atomAt_47 (by decide) ?_
  refine hw_calli (hw_runV (n := 2) (own := "QuantifierOutModel") (As := [.int (nI s9), .int 0]) (rest := []) hx hb hml hown hts hX hW hl.1 (c_Md_of l D cI cJ cZ cN md kd on tw nu le fx fy si de ne it po ma ab be li fr to cd n up dn pz s9 0 _ (st 3) M w_md t_nu (by omega)) w_md rfl tw_759 tw_761 ts_20 tw_5 tw_762 (by decide +kernel) rfl rfl ⟨by decide, by decide⟩ rfl rfl (Nat.le_of_ble_eq_true rfl) d_Md_atomAt_48 ⟨by decide, by decide⟩) hW hS hA (fun r1 Mo9 H locs hpo hz hW hS => ?_)
  obtain ⟨er1, eMo9⟩ := hpo
  rw [eMo9] at hW
  obtain ⟨x8, ex8⟩ : ∃ y9 : Int64, y9 = (r1 : Int32).toInt64 := ⟨_, rfl⟩
  refine lv_i2l (v := x8) hx hb d_Md_atomAt_51 ex8.symm ?_
  refine lv_lload_n hx hb d_Md_atomAt_52 rfl (lv_at hl 3 rfl) ?_
  refine lv_lmul hx hb d_Md_atomAt_53 ?_
  refine lv_topl (fun x9 ex9 => ?_)
  refine lv_lload hx hb d_Md_atomAt_54 (lv_at hl 0 rfl) ?_
  refine lv_lmul hx hb d_Md_atomAt_56 ?_
  refine lv_topl (fun x10 ex10 => ?_)
  refine lv_aload_n hx hb d_Md_atomAt_57 rfl (lv_at hl 4 rfl) ?_
  refine lv_iload_n hx hb d_Md_atomAt_58 rfl (lv_at hl 6 rfl) ?_
  refine lv_iconst (v := 1) hx hb d_Md_atomAt_59 (by decide) ?_
  refine hw_calli (hw_runV (n := 2) (own := "QuantifierOutModel") (As := [.int (nI s9), .int 1]) (rest := [.long x10]) hx hb hml hown hts hX hW hl.1 (c_Md_of l D cI cJ cZ cN md kd on tw nu le fx fy si de ne it po ma ab be li fr to cd n up dn pz s9 1 _ (st 3) M w_md t_nu (by omega)) w_md rfl tw_759 tw_761 ts_20 tw_5 tw_762 (by decide +kernel) rfl rfl ⟨by decide, by decide⟩ rfl rfl (Nat.le_of_ble_eq_true rfl) d_Md_atomAt_60 ⟨by decide, by decide⟩) hW hS hA (fun r2 Mo9 H locs hpo hz hW hS => ?_)
  obtain ⟨er2, eMo9⟩ := hpo
  rw [eMo9] at hW
  obtain ⟨x11, ex11⟩ : ∃ y9 : Int64, y9 = (r2 : Int32).toInt64 := ⟨_, rfl⟩
  refine lv_i2l (v := x11) hx hb d_Md_atomAt_63 ex11.symm ?_
  refine lv_lload hx hb d_Md_atomAt_64 (lv_at hl 1 rfl) ?_
  refine lv_lmul hx hb d_Md_atomAt_66 ?_
  refine lv_topl (fun x12 ex12 => ?_)
  refine lv_lload hx hb d_Md_atomAt_67 (lv_at hl 2 rfl) ?_
  refine lv_lmul hx hb d_Md_atomAt_69 ?_
  refine lv_topl (fun x13 ex13 => ?_)
  refine lv_ladd hx hb d_Md_atomAt_70 ?_
  refine lv_topl (fun x14 ex14 => ?_)
  refine lv_aload_n hx hb d_Md_atomAt_71 rfl (lv_at hl 4 rfl) ?_
  refine lv_iload_n hx hb d_Md_atomAt_72 rfl (lv_at hl 6 rfl) ?_
  refine lv_iconst (v := 2) hx hb d_Md_atomAt_73 (by decide) ?_
  refine hw_calli (hw_runV (n := 2) (own := "QuantifierOutModel") (As := [.int (nI s9), .int 2]) (rest := [.long x14]) hx hb hml hown hts hX hW hl.1 (c_Md_of l D cI cJ cZ cN md kd on tw nu le fx fy si de ne it po ma ab be li fr to cd n up dn pz s9 2 _ (st 3) M w_md t_nu (by omega)) w_md rfl tw_759 tw_761 ts_20 tw_5 tw_762 (by decide +kernel) rfl rfl ⟨by decide, by decide⟩ rfl rfl (Nat.le_of_ble_eq_true rfl) d_Md_atomAt_74 ⟨by decide, by decide⟩) hW hS hA (fun r3 Mo9 H locs hpo hz hW hS => ?_)
  obtain ⟨er3, eMo9⟩ := hpo
  rw [eMo9] at hW
  obtain ⟨x15, ex15⟩ : ∃ y9 : Int64, y9 = (r3 : Int32).toInt64 := ⟨_, rfl⟩
  refine lv_i2l (v := x15) hx hb d_Md_atomAt_77 ex15.symm ?_
  refine lv_lload hx hb d_Md_atomAt_78 (lv_at hl 2 rfl) ?_
  refine lv_lmul hx hb d_Md_atomAt_80 ?_
  refine lv_topl (fun x16 ex16 => ?_)
  refine lv_lload hx hb d_Md_atomAt_81 (lv_at hl 0 rfl) ?_
  refine lv_lmul hx hb d_Md_atomAt_83 ?_
  refine lv_topl (fun x17 ex17 => ?_)
  refine lv_ladd hx hb d_Md_atomAt_84 ?_
  refine lv_topl (fun x18 ex18 => ?_)
  refine lv_lstore (lv' := [(11, .long x18), (9, .long yb), (7, .long ya), (5, .long xb), (3, .long xa), (0, .ref md), (1, .int (nI lv)), (2, .int (nI s9))]) hx hb d_Md_atomAt_85 hl (by decide) rfl (fun ls hl => ?_)
  refine lv_aload_n hx hb d_Md_atomAt_87 rfl (lv_at hl 5 rfl) ?_
  refine hw_get (own := "QuantifierOutModel") (v := .ref nu) hx hb hts i_Md hown hW w_md rfl 5 (by decide) (hts _ tw_608) (fun _ h9 => h9) rfl d_Md_atomAt_88 ?_
  refine lv_iconst (v := 4) hx hb d_Md_atomAt_91 (by decide) ?_
  refine lv_iload_n hx hb d_Md_atomAt_92 rfl (lv_at hl 7 rfl) ?_
  refine lv_imul hx hb d_Md_atomAt_93 ?_
  refine lv_topi (fun x19 ex19 => ?_)
  refine lv_iconst (v := 3) hx hb d_Md_atomAt_94 (by decide) ?_
  refine lv_iadd hx hb d_Md_atomAt_95 ?_
  refine lv_topi (fun x20 ex20 => ?_)
  obtain ⟨⟨p1, p2, p3⟩, p4, p5, p6⟩ := hpt
  obtain ⟨k1, k2, k3, k4, k5, k6, k7⟩ := pp_ok hcc
  have l1 := hbs 0 (by omega)
  have l2 := hbs 1 (by omega)
  have l3 := hbs 2 (by omega)
  have tx8 : x8.toInt = (st 3 (4 * s9 + 0)).toInt := by rw [ex8, nm_i2l, er1]
  have tx11 : x11.toInt = (st 3 (4 * s9 + 1)).toInt := by rw [ex11, nm_i2l, er2]
  have tx15 : x15.toInt = (st 3 (4 * s9 + 2)).toInt := by rw [ex15, nm_i2l, er3]
  obtain ⟨LA, hLA⟩ : ∃ z, z = (st 3 (4 * s9 + 0)).toInt := ⟨_, rfl⟩
  obtain ⟨LB, hLB⟩ : ∃ z, z = (st 3 (4 * s9 + 1)).toInt := ⟨_, rfl⟩
  obtain ⟨LC, hLC⟩ : ∃ z, z = (st 3 (4 * s9 + 2)).toInt := ⟨_, rfl⟩
  rw [← hLA] at tx8 l1
  rw [← hLB] at tx11 l2
  rw [← hLC] at tx15 l3
  rw [← exb] at p1 p2
  rw [← exa] at p3
  rw [← eyb] at p4 p5
  rw [← eya] at p6
  have q3 : xb.toInt.natAbs ≤ pd cx := by omega
  have q4 : yb.toInt.natAbs ≤ pd cy := by omega
  have z1 := nm_mulb p3 q4
  have z2 := nm_mulb l1 z1
  have z3 := nm_mulb p6 q3
  have z4 := nm_mulb l2 z3
  have z5 := nm_mulb q3 q4
  have z6 := nm_mulb l3 z5
  have y1 := nm_mulb l1 p3
  have y2 := nm_mulb l2 p6
  have y3 := nm_mulb l3 q3
  rw [← Int.mul_assoc] at z2 z4 z6
  have tx9 : x9.toInt = LA * xa.toInt := by rw [ex9, nm_lmul (by rw [tx8]; omega), tx8]
  have tx10 : x10.toInt = LA * xa.toInt * yb.toInt := by rw [ex10, nm_lmul (by rw [tx9]; omega), tx9]
  have tx12 : x12.toInt = LB * ya.toInt := by rw [ex12, nm_lmul (by rw [tx11]; omega), tx11]
  have tx13 : x13.toInt = LB * ya.toInt * xb.toInt := by rw [ex13, nm_lmul (by rw [tx12]; omega), tx12]
  have tx14 : x14.toInt = LA * xa.toInt * yb.toInt + LB * ya.toInt * xb.toInt := by rw [ex14, nm_ladd (by rw [tx10, tx13]; omega), tx10, tx13]
  have tx16 : x16.toInt = LC * xb.toInt := by rw [ex16, nm_lmul (by rw [tx15]; omega), tx15]
  have tx17 : x17.toInt = LC * xb.toInt * yb.toInt := by rw [ex17, nm_lmul (by rw [tx16]; omega), tx16]
  have tx18 : x18.toInt = LA * xa.toInt * yb.toInt + LB * ya.toInt * xb.toInt + LC * xb.toInt * yb.toInt := by rw [ex18, nm_ladd (by rw [tx14, tx17]; omega), tx14, tx17]
  obtain ⟨r0_, r1_, r2_⟩ := at_sum (L := (LA, LB, LC)) p1 p4 tx18
  have h00 : (0 : Int64).toInt = 0 := rfl
  have iop : x20 = nI (4 * s9 + 3) := by rw [ex20, ex19, show (4 : Int32) = nI 4 from rfl, pk_mul]; exact nI_add _ 3
  refine hw_ild hx hb hW 0 t_nu rfl (4 * s9 + 3) iop (by omega) (by decide) d_Md_atomAt_96 ?_
  rw [hope]
  have hgoal : ∀ r, it_b r (qm_atom (LA, LB, LC) op (qm_fr xa.toInt xb.toInt) (qm_fr ya.toInt yb.toInt)) → it_b r (qm_atom ((st 3 (4 * s9)).toInt, (st 3 (4 * s9 + 1)).toInt, (st 3 (4 * s9 + 2)).toInt) op (pX PO lv) (pY PO lv)) := fun r h9 => by unfold pX pY; rw [← exa, ← exb, ← eya, ← eyb]; rw [hLA, hLB, hLC] at h9; exact h9
  refine lv_istore (lv' := [(13, .int (nI op)), (11, .long x18), (9, .long yb), (7, .long ya), (5, .long xb), (3, .long xa), (0, .ref md), (1, .int (nI lv)), (2, .int (nI s9))]) hx hb d_Md_atomAt_97 hl (by decide) rfl (fun ls hl => ?_)
  refine lv_iload hx hb d_Md_atomAt_99 (lv_at hl 0 rfl) ?_
  refine lv_if_ne (tgt := 119) hx hb d_Md_atomAt_101 (by decide) (fun c_101 => ?_) (fun c_101 => ?_)
  · skip
    refine lv_iload hx hb d_Md_atomAt_119 (lv_at hl 0 rfl) ?_
    refine lv_iconst (v := 1) hx hb d_Md_atomAt_121 (by decide) ?_
    refine lv_icmp_ne (tgt := 140) hx hb d_Md_atomAt_122 (by decide) (fun c_122 => ?_) (fun c_122 => ?_)
    · skip
      have ho0 : op ≠ 0 := fun z9 => c_101 (by rw [z9]; rfl)
      have ho1 : op ≠ 1 := fun z9 => c_122 (by rw [z9]; rfl)
      have ho : op = 2 := by omega
      subst ho
      refine lv_lload hx hb d_Md_atomAt_140 (lv_at hl 1 rfl) ?_
      refine lv_lconst (v := 0) hx hb d_Md_atomAt_142 (by decide) ?_
      refine W.lcmp hx hb d_Md_atomAt_143 ?_
      refine lv_if_gt (tgt := 151) hx hb d_Md_atomAt_144 (by decide) (fun c_l => ?_) (fun c_l => ?_)
      · skip
        rw [lg_cmp_gt] at c_l
        refine lv_iconst (v := 0) hx hb d_Md_atomAt_151 (by decide) ?_
        rw [hQ9]
        refine hw_retz hx hb hr rfl hlocks hW hS ⟨hgoal _ (Or.inr ⟨rfl, ?_⟩), rfl⟩ d_Md_atomAt_152
        unfold qm_atom; rw [if_neg (by decide), if_neg (by decide)]; rw [nm_llt, h00] at c_l; exact fun q => absurd (r2_.mp q) (by omega)
      · skip
        rw [lg_cmp_gt] at c_l
        refine lv_iconst (v := 1) hx hb d_Md_atomAt_147 (by decide) ?_
        refine lv_goto (tgt := 152) hx hb d_Md_atomAt_148 (by decide) ?_
        rw [hQ9]
        refine hw_retz hx hb hr rfl hlocks hW hS ⟨hgoal _ (Or.inl ⟨rfl, ?_⟩), rfl⟩ d_Md_atomAt_152
        unfold qm_atom; rw [if_neg (by decide), if_neg (by decide)]; rw [nm_llt, h00] at c_l; exact r2_.mpr (by omega)
    · skip
      have ho : op = 1 := (nI_eq (b := 1) (by omega) (by omega)).mp c_122
      subst ho
      refine lv_lload hx hb d_Md_atomAt_125 (lv_at hl 1 rfl) ?_
      refine lv_lconst (v := 0) hx hb d_Md_atomAt_127 (by decide) ?_
      refine W.lcmp hx hb d_Md_atomAt_128 ?_
      refine lv_if_ge (tgt := 136) hx hb d_Md_atomAt_129 (by decide) (fun c_l => ?_) (fun c_l => ?_)
      · skip
        rw [lg_cmp_ge] at c_l
        refine lv_iconst (v := 0) hx hb d_Md_atomAt_136 (by decide) ?_
        refine lv_goto (tgt := 152) hx hb d_Md_atomAt_137 (by decide) ?_
        rw [hQ9]
        refine hw_retz hx hb hr rfl hlocks hW hS ⟨hgoal _ (Or.inr ⟨rfl, ?_⟩), rfl⟩ d_Md_atomAt_152
        unfold qm_atom; rw [if_neg (by decide), if_pos rfl]; rw [nm_lle, h00] at c_l; exact fun q => absurd (r1_.mp q) (by omega)
      · skip
        rw [lg_cmp_ge] at c_l
        refine lv_iconst (v := 1) hx hb d_Md_atomAt_132 (by decide) ?_
        refine lv_goto (tgt := 152) hx hb d_Md_atomAt_133 (by decide) ?_
        rw [hQ9]
        refine hw_retz hx hb hr rfl hlocks hW hS ⟨hgoal _ (Or.inl ⟨rfl, ?_⟩), rfl⟩ d_Md_atomAt_152
        unfold qm_atom; rw [if_neg (by decide), if_pos rfl]; rw [nm_lle, h00] at c_l; exact r1_.mpr (by omega)
  · skip
    have ho : op = 0 := (nI_eq (b := 0) (by omega) (by omega)).mp c_101
    subst ho
    refine lv_lload hx hb d_Md_atomAt_104 (lv_at hl 1 rfl) ?_
    refine lv_lconst (v := 0) hx hb d_Md_atomAt_106 (by decide) ?_
    refine W.lcmp hx hb d_Md_atomAt_107 ?_
    refine lv_if_ne (tgt := 115) hx hb d_Md_atomAt_108 (by decide) (fun c_l => ?_) (fun c_l => ?_)
    · skip
      first | rw [lg_cmp_eq] at c_l | rw [ne_eq, lg_cmp_eq] at c_l | simp only [ne_eq, lg_cmp_eq, not_not, Decidable.not_not] at c_l
      refine lv_iconst (v := 0) hx hb d_Md_atomAt_115 (by decide) ?_
      refine lv_goto (tgt := 152) hx hb d_Md_atomAt_116 (by decide) ?_
      rw [hQ9]
      refine hw_retz hx hb hr rfl hlocks hW hS ⟨hgoal _ (Or.inr ⟨rfl, ?_⟩), rfl⟩ d_Md_atomAt_152
      unfold qm_atom; rw [if_pos rfl]; rw [nm_leq, h00] at c_l; exact fun q => c_l (r0_.mp q)
    · skip
      first | rw [lg_cmp_eq] at c_l | rw [ne_eq, lg_cmp_eq] at c_l | simp only [ne_eq, lg_cmp_eq, not_not, Decidable.not_not] at c_l
      refine lv_iconst (v := 1) hx hb d_Md_atomAt_111 (by decide) ?_
      refine lv_goto (tgt := 152) hx hb d_Md_atomAt_112 (by decide) ?_
      rw [hQ9]
      refine hw_retz hx hb hr rfl hlocks hW hS ⟨hgoal _ (Or.inl ⟨rfl, ?_⟩), rfl⟩ d_Md_atomAt_152
      unfold qm_atom; rw [if_pos rfl]; rw [nm_leq, h00] at c_l; exact r0_.mpr c_l
end G39

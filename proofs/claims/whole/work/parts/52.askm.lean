/-! The reference: the calls that ask -/
def md_A (cI cJ cZ : ClassId) (md kd on tw nu le fx fy si de ne it po ma ab be li fr to : Nat) (n : Nat) (g : Nat → abn) (C : Nat) (R : Prop) (M M1 : Nat → Option va_E) : Prop := (C = 0 → R) ∧ md_J cI cJ cZ md kd on tw nu le fx fy si de ne it po ma ab be li fr to M1 (nI C) n g ∧ md_F md kd on tw nu le fx fy si de ne it po ma ab be li fr to M M1
theorem md_A.no {cI cJ cZ : ClassId} {md kd on tw nu le fx fy si de ne it po ma ab be li fr to : Nat} {n : Nat} {g : Nat → abn} {C c0 : Nat} {R : Prop} {M M1 : Nat → Option va_E} (hc : C = c0) (h0 : c0 ≠ 0) (hJ : md_J cI cJ cZ md kd on tw nu le fx fy si de ne it po ma ab be li fr to M1 (nI c0) n g) (hF : md_F md kd on tw nu le fx fy si de ne it po ma ab be li fr to M M1) : md_A cI cJ cZ md kd on tw nu le fx fy si de ne it po ma ab be li fr to n g C R M M1 := by
  subst hc
  exact ⟨fun z => absurd z h0, hJ, hF⟩
theorem md_A.yes {cI cJ cZ : ClassId} {md kd on tw nu le fx fy si de ne it po ma ab be li fr to : Nat} {n : Nat} {g : Nat → abn} {C : Nat} {R : Prop} {M M1 : Nat → Option va_E} (hc : C = 0) (hR : R) (hJ : md_J cI cJ cZ md kd on tw nu le fx fy si de ne it po ma ab be li fr to M1 (nI 0) n g) (hF : md_F md kd on tw nu le fx fy si de ne it po ma ab be li fr to M M1) : md_A cI cJ cZ md kd on tw nu le fx fy si de ne it po ma ab be li fr to n g C R M M1 := by
  subst hc
  exact ⟨fun _ => hR, hJ, hF⟩
def po4 (PO : Nat → Int64) (X Y : Int64) : Nat → Int64 := vp_updL (vp_updL (vp_updL (vp_updL PO 8 X) 9 1) 10 Y) 11 1
theorem po4_b {PO : Nat → Int64} {X Y : Int64} (hX : X.toInt.natAbs ≤ 50) (hY : Y.toInt.natAbs ≤ 50) : pt_b (po4 PO X Y) 2 2 2 ∧ pX (po4 PO X Y) 2 = (X.toInt : Rat) ∧ pY (po4 PO X Y) 2 = (Y.toInt : Rat) := by
  have e8 : po4 PO X Y (4 * 2) = X := by unfold po4; rw [pk_uLn (by decide), pk_uLn (by decide), pk_uLn (by decide)]; exact pk_uLs
  have e9 : po4 PO X Y (4 * 2 + 1) = 1 := by unfold po4; rw [pk_uLn (by decide), pk_uLn (by decide)]; exact pk_uLs
  have e10 : po4 PO X Y (4 * 2 + 2) = Y := by unfold po4; rw [pk_uLn (by decide)]; exact pk_uLs
  have e11 : po4 PO X Y (4 * 2 + 3) = 1 := by unfold po4; exact pk_uLs
  have h1 : (1 : Int64).toInt = 1 := rfl
  have hp : pd 2 = 1 := rfl
  have hp2 : pn 2 = 50 := rfl
  unfold pt_b pX pY
  rw [e8, e9, e10, e11, h1, hp, hp2]
  exact ⟨⟨⟨by decide, by decide, hX⟩, by decide, by decide, hY⟩, qm_fr_int _, qm_fr_int _⟩
section G52
variable (l : Launch) (D : va_G) (cI cJ cZ cN : ClassId) (md kd on tw nu le fx fy si de ne it po ma ab be li fr to : Nat)
set_option maxHeartbeats 4000000 in
set_option maxRecDepth 100000 in
theorem c_Md_at (cd : Int32) (n : Nat) (up dn : Int64) (pz : Int32) (NE IT : Nat → Int32) (PO : Nat → Int64) (MA : Nat → Int32) (AB BE : Nat → Int64) (p0 sz : Nat) (X Y : Int64) (q : nq) (mt : Nat → Option nq) (st : Nat → Nat → Int32) (M : Nat → Option va_E) (hD : md_D md kd on tw nu le fx fy si de ne it po ma ab be li fr to) (hK : md_W cI cJ cZ md kd on tw nu le fx fy si de ne it po ma ab be li fr to M cd n up dn pz NE IT PO MA AB BE) (hT : md_T cI cZ kd on tw nu le fx fy si de M st) (hM : mt_ok n mt st) (hq : mt p0 = some q) (hXb : X.toInt.natAbs ≤ 50) (hYb : Y.toInt.natAbs ≤ 50) : Met l y_Md_at (.code y_Md_at b_Md_at 6 (some .boolean) :: ww) ({ frames := 8, cells := 0, slots := 0, locals := 260 }) (hw_Pc D qcl (qty cI cJ cZ cN) [.ref md, .int (nI p0), .long X, .long Y] M sz) (va_Qi (fun r M1 => it_b r (nP q (X.toInt : Rat) (Y.toInt : Rat)) ∧ ∃ (u2 d2 : Int64) (NE2 IT2 : Nat → Int32) (PO2 : Nat → Int64) (MA2 : Nat → Int32) (AB2 BE2 : Nat → Int64), md_W cI cJ cZ md kd on tw nu le fx fy si de ne it po ma ab be li fr to M1 cd n u2 d2 pz NE2 IT2 PO2 MA2 AB2 BE2 ∧ ∀ x9, x9 ≠ md → x9 ≠ ne → x9 ≠ it → x9 ≠ po → x9 ≠ ma → x9 ≠ ab → x9 ≠ be → M1 x9 = M x9) (hw_B D qcl (qty cI cJ cZ cN) M sz) (hw_A M sz)) 0 0 (hw_A M sz) := by
  refine hw_met (by decide) (Nat.le_of_ble_eq_true rfl) ?_
  intro p e s m below meth c hx hb hr hml hown hlocks hnm hts hsz hX hW ls hl
  subst hsz
  have hA : ∀ q, s.heap.size ≤ q → hw_A M s.heap.size q := fun q h => Or.inr h
  have hS : va_S (hw_A M s.heap.size) s.heap s.heap [] := va_S.rf
  have hl : lv_has ls 6 [(0, .ref md), (1, .int (nI p0)), (2, .long X), (4, .long Y)] := hl
  have hown : s.vm.findClass "QuantifierOutModel" = some m.cls := hown
  have w_md := hK.1
  have w_md : M md = some (.inr (8, [.int cd, .int (nI n), .ref kd, .ref on, .ref tw, .ref nu, .ref le, .ref fx, .ref fy, .ref si, .ref de, .ref ne, .ref it, .ref po, .ref ma, .ref ab, .ref be, .long up, .long dn, .ref li, .int pz, .ref fr, .ref to])) := w_md
  have w_po := hK.2.2.2.1
  have w_po : M po = some (.inl (cJ, 12, .inr (.inl PO))) := w_po
  refine lv_aload_n hx hb d_Md_at_0 rfl (lv_at hl 0 rfl) ?_
  refine hw_get (own := "QuantifierOutModel") (v := .ref po) hx hb hts i_Md hown hW w_md rfl 13 (by decide) (hts _ tw_616) (fun _ h9 => h9) rfl d_Md_at_1 ?_
  refine lv_bipush (v := 8) hx hb d_Md_at_4 (by decide) ?_
  refine lv_lload_n hx hb d_Md_at_6 rfl (lv_at hl 2 rfl) ?_
  refine hw_lst hx hb hW hS 1 w_po rfl 8 rfl (by decide) (by decide) d_Md_at_7 (fun H locs hW hS => ?_)
  have hW : hw_W D qcl (qty cI cJ cZ cN) _ (va_up M po (some (.inl (cJ, 12, .inr (.inl (vp_updL PO 8 X)))))) s H := hW
  generalize hMw1 : va_up M po (some (.inl (cJ, 12, .inr (.inl (vp_updL PO 8 X))))) = Mw1 at hW
  have w_md : Mw1 md = some (.inr (8, [.int cd, .int (nI n), .ref kd, .ref on, .ref tw, .ref nu, .ref le, .ref fx, .ref fy, .ref si, .ref de, .ref ne, .ref it, .ref po, .ref ma, .ref ab, .ref be, .long up, .long dn, .ref li, .int pz, .ref fr, .ref to])) := by rw [← hMw1, va_up_ne _ _ (show md ≠ po from hD 0 12 (by decide) (by decide))]; exact w_md
  have w_po : Mw1 po = some (.inl (cJ, 12, .inr (.inl (vp_updL PO 8 X)))) := by rw [← hMw1]; exact va_up_self _ _ _
  have hfr_Mw1 : ∀ x9, x9 ≠ po → Mw1 x9 = M x9 := fun x9 z9 => by rw [← hMw1, va_up_ne _ _ z9]
  refine lv_aload_n hx hb d_Md_at_8 rfl (lv_at hl 0 rfl) ?_
  refine hw_get (own := "QuantifierOutModel") (v := .ref po) hx hb hts i_Md hown hW w_md rfl 13 (by decide) (hts _ tw_616) (fun _ h9 => h9) rfl d_Md_at_9 ?_
  refine lv_bipush (v := 9) hx hb d_Md_at_12 (by decide) ?_
  refine lv_lconst (v := 1) hx hb d_Md_at_14 (by decide) ?_
  refine hw_lst hx hb hW hS 1 w_po rfl 9 rfl (by decide) (by decide) d_Md_at_15 (fun H locs hW hS => ?_)
  have hW : hw_W D qcl (qty cI cJ cZ cN) _ (va_up Mw1 po (some (.inl (cJ, 12, .inr (.inl (vp_updL (vp_updL PO 8 X) 9 1)))))) s H := hW
  generalize hMw2 : va_up Mw1 po (some (.inl (cJ, 12, .inr (.inl (vp_updL (vp_updL PO 8 X) 9 1))))) = Mw2 at hW
  have w_md : Mw2 md = some (.inr (8, [.int cd, .int (nI n), .ref kd, .ref on, .ref tw, .ref nu, .ref le, .ref fx, .ref fy, .ref si, .ref de, .ref ne, .ref it, .ref po, .ref ma, .ref ab, .ref be, .long up, .long dn, .ref li, .int pz, .ref fr, .ref to])) := by rw [← hMw2, va_up_ne _ _ (show md ≠ po from hD 0 12 (by decide) (by decide))]; exact w_md
  have w_po : Mw2 po = some (.inl (cJ, 12, .inr (.inl (vp_updL (vp_updL PO 8 X) 9 1)))) := by rw [← hMw2]; exact va_up_self _ _ _
  have hfr_Mw2 : ∀ x9, x9 ≠ po → Mw2 x9 = Mw1 x9 := fun x9 z9 => by rw [← hMw2, va_up_ne _ _ z9]
  refine lv_aload_n hx hb d_Md_at_16 rfl (lv_at hl 0 rfl) ?_
  refine hw_get (own := "QuantifierOutModel") (v := .ref po) hx hb hts i_Md hown hW w_md rfl 13 (by decide) (hts _ tw_616) (fun _ h9 => h9) rfl d_Md_at_17 ?_
  refine lv_bipush (v := 10) hx hb d_Md_at_20 (by decide) ?_
  refine lv_lload hx hb d_Md_at_22 (lv_at hl 3 rfl) ?_
  refine hw_lst hx hb hW hS 1 w_po rfl 10 rfl (by decide) (by decide) d_Md_at_24 (fun H locs hW hS => ?_)
  have hW : hw_W D qcl (qty cI cJ cZ cN) _ (va_up Mw2 po (some (.inl (cJ, 12, .inr (.inl (vp_updL (vp_updL (vp_updL PO 8 X) 9 1) 10 Y)))))) s H := hW
  generalize hMw3 : va_up Mw2 po (some (.inl (cJ, 12, .inr (.inl (vp_updL (vp_updL (vp_updL PO 8 X) 9 1) 10 Y))))) = Mw3 at hW
  have w_md : Mw3 md = some (.inr (8, [.int cd, .int (nI n), .ref kd, .ref on, .ref tw, .ref nu, .ref le, .ref fx, .ref fy, .ref si, .ref de, .ref ne, .ref it, .ref po, .ref ma, .ref ab, .ref be, .long up, .long dn, .ref li, .int pz, .ref fr, .ref to])) := by rw [← hMw3, va_up_ne _ _ (show md ≠ po from hD 0 12 (by decide) (by decide))]; exact w_md
  have w_po : Mw3 po = some (.inl (cJ, 12, .inr (.inl (vp_updL (vp_updL (vp_updL PO 8 X) 9 1) 10 Y)))) := by rw [← hMw3]; exact va_up_self _ _ _
  have hfr_Mw3 : ∀ x9, x9 ≠ po → Mw3 x9 = Mw2 x9 := fun x9 z9 => by rw [← hMw3, va_up_ne _ _ z9]
  refine lv_aload_n hx hb d_Md_at_25 rfl (lv_at hl 0 rfl) ?_
  refine hw_get (own := "QuantifierOutModel") (v := .ref po) hx hb hts i_Md hown hW w_md rfl 13 (by decide) (hts _ tw_616) (fun _ h9 => h9) rfl d_Md_at_26 ?_
  refine lv_bipush (v := 11) hx hb d_Md_at_29 (by decide) ?_
  refine lv_lconst (v := 1) hx hb d_Md_at_31 (by decide) ?_
  refine hw_lst hx hb hW hS 1 w_po rfl 11 rfl (by decide) (by decide) d_Md_at_32 (fun H locs hW hS => ?_)
  have hW : hw_W D qcl (qty cI cJ cZ cN) _ (va_up Mw3 po (some (.inl (cJ, 12, .inr (.inl (vp_updL (vp_updL (vp_updL (vp_updL PO 8 X) 9 1) 10 Y) 11 1)))))) s H := hW
  generalize hMw4 : va_up Mw3 po (some (.inl (cJ, 12, .inr (.inl (vp_updL (vp_updL (vp_updL (vp_updL PO 8 X) 9 1) 10 Y) 11 1))))) = Mw4 at hW
  have w_md : Mw4 md = some (.inr (8, [.int cd, .int (nI n), .ref kd, .ref on, .ref tw, .ref nu, .ref le, .ref fx, .ref fy, .ref si, .ref de, .ref ne, .ref it, .ref po, .ref ma, .ref ab, .ref be, .long up, .long dn, .ref li, .int pz, .ref fr, .ref to])) := by rw [← hMw4, va_up_ne _ _ (show md ≠ po from hD 0 12 (by decide) (by decide))]; exact w_md
  have w_po : Mw4 po = some (.inl (cJ, 12, .inr (.inl (vp_updL (vp_updL (vp_updL (vp_updL PO 8 X) 9 1) 10 Y) 11 1)))) := by rw [← hMw4]; exact va_up_self _ _ _
  have hfr_Mw4 : ∀ x9, x9 ≠ po → Mw4 x9 = Mw3 x9 := fun x9 z9 => by rw [← hMw4, va_up_ne _ _ z9]
  have hK2 : md_W cI cJ cZ md kd on tw nu le fx fy si de ne it po ma ab be li fr to Mw4 cd n up dn pz NE IT (po4 PO X Y) MA AB BE := ⟨(((((hfr_Mw4 md (show md ≠ po from hD 0 12 (by decide) (by decide)))).trans (hfr_Mw3 md (show md ≠ po from hD 0 12 (by decide) (by decide)))).trans (hfr_Mw2 md (show md ≠ po from hD 0 12 (by decide) (by decide)))).trans (hfr_Mw1 md (show md ≠ po from hD 0 12 (by decide) (by decide)))).trans hK.1, (((((hfr_Mw4 ne (show ne ≠ po from hD 10 12 (by decide) (by decide)))).trans (hfr_Mw3 ne (show ne ≠ po from hD 10 12 (by decide) (by decide)))).trans (hfr_Mw2 ne (show ne ≠ po from hD 10 12 (by decide) (by decide)))).trans (hfr_Mw1 ne (show ne ≠ po from hD 10 12 (by decide) (by decide)))).trans hK.2.1, (((((hfr_Mw4 it (show it ≠ po from hD 11 12 (by decide) (by decide)))).trans (hfr_Mw3 it (show it ≠ po from hD 11 12 (by decide) (by decide)))).trans (hfr_Mw2 it (show it ≠ po from hD 11 12 (by decide) (by decide)))).trans (hfr_Mw1 it (show it ≠ po from hD 11 12 (by decide) (by decide)))).trans hK.2.2.1, w_po, (((((hfr_Mw4 ma (Ne.symm (show po ≠ ma from hD 12 13 (by decide) (by decide))))).trans (hfr_Mw3 ma (Ne.symm (show po ≠ ma from hD 12 13 (by decide) (by decide))))).trans (hfr_Mw2 ma (Ne.symm (show po ≠ ma from hD 12 13 (by decide) (by decide))))).trans (hfr_Mw1 ma (Ne.symm (show po ≠ ma from hD 12 13 (by decide) (by decide))))).trans hK.2.2.2.2.1, (((((hfr_Mw4 ab (Ne.symm (show po ≠ ab from hD 12 14 (by decide) (by decide))))).trans (hfr_Mw3 ab (Ne.symm (show po ≠ ab from hD 12 14 (by decide) (by decide))))).trans (hfr_Mw2 ab (Ne.symm (show po ≠ ab from hD 12 14 (by decide) (by decide))))).trans (hfr_Mw1 ab (Ne.symm (show po ≠ ab from hD 12 14 (by decide) (by decide))))).trans hK.2.2.2.2.2.1, (((((hfr_Mw4 be (Ne.symm (show po ≠ be from hD 12 15 (by decide) (by decide))))).trans (hfr_Mw3 be (Ne.symm (show po ≠ be from hD 12 15 (by decide) (by decide))))).trans (hfr_Mw2 be (Ne.symm (show po ≠ be from hD 12 15 (by decide) (by decide))))).trans (hfr_Mw1 be (Ne.symm (show po ≠ be from hD 12 15 (by decide) (by decide))))).trans hK.2.2.2.2.2.2⟩
  have hf2 : ∀ x9, x9 ≠ md → x9 ≠ ne → x9 ≠ it → x9 ≠ po → x9 ≠ ma → x9 ≠ ab → x9 ≠ be → Mw4 x9 = M x9 := fun x9 z0 z1 z2 z3 z4 z5 z6 => ((((hfr_Mw4 x9 z3)).trans (hfr_Mw3 x9 z3)).trans (hfr_Mw2 x9 z3)).trans (hfr_Mw1 x9 z3)
  have hT2 := md_T.kept hD hT hf2
  obtain ⟨hpb, eX, eY⟩ := po4_b (PO := PO) hXb hYb
  refine lv_aload_n hx hb d_Md_at_33 rfl (lv_at hl 0 rfl) ?_
  refine lv_iload_n hx hb d_Md_at_34 rfl (lv_at hl 1 rfl) ?_
  refine hw_calli (hw_runV (n := 1) (own := "QuantifierOutModel") (As := [.int (nI p0)]) (rest := []) hx hb hml hown hts hX hW hl.1 (c_Md_truth2 l D cI cJ cZ cN md kd on tw nu le fx fy si de ne it po ma ab be li fr to cd n up dn pz NE IT (po4 PO X Y) MA AB BE p0 _ q mt st Mw4 hD hK2 hT2 hM hq ((hM.2.2 p0 q hq).2.2.1.2.2.2.1) hpb) hK2.1 rfl tw_743 tw_745 ts_16 tw_5 tw_746 (by decide +kernel) rfl rfl ⟨by decide, by decide⟩ rfl rfl (Nat.le_of_ble_eq_true rfl) d_Md_at_35 ⟨by decide, by decide⟩) hW hS hA (fun rt Mt H locs hpt hz hW hS => ?_)
  obtain ⟨hrt, u2, d2, NE2, IT2, PO2, MA2, AB2, BE2, _, hK3, hf3⟩ := hpt
  rw [eX, eY] at hrt
  have hr01 : rt = 0 ∨ rt = 1 := by rcases hrt with ⟨z, _⟩ | ⟨z, _⟩; exact Or.inr z; exact Or.inl z
  exact hw_retz hx hb hr (nar01 hr01) hlocks hW hS ⟨hrt, u2, d2, NE2, IT2, PO2, MA2, AB2, BE2, hK3, fun x9 z0 z1 z2 z3 z4 z5 z6 => (hf3 x9 z0 z1 z2 z3 z4 z5 z6).trans (hf2 x9 z0 z1 z2 z3 z4 z5 z6)⟩ d_Md_at_38
set_option maxHeartbeats 4000000 in
set_option maxRecDepth 100000 in
theorem c_Md_known (cd : Int32) (n : Nat) (g : Nat → abn) (sz : Nat) (M : Nat → Option va_E) (hD : md_D md kd on tw nu le fx fy si de ne it po ma ab be li fr to) (hJ : md_J cI cJ cZ md kd on tw nu le fx fy si de ne it po ma ab be li fr to M cd n g) (x1 w1 : Int32) : Met l y_Md_known (.code y_Md_known b_Md_known 3 (some .int) :: ww) ({ frames := 2, cells := 0, slots := 0, locals := 60 }) (hw_Pc D qcl (qty cI cJ cZ cN) [.ref md, .int x1, .int w1] M sz) (va_Qi (fun r M1 => md_A cI cJ cZ md kd on tw nu le fx fy si de ne it po ma ab be li fr to n g (cKnown n x1 w1) (r = vKnown (g (ix x1)) w1) M M1) (hw_B D qcl (qty cI cJ cZ cN) M sz) (hw_A M sz)) 0 0 (hw_A M sz) := by
  obtain ⟨up, dn, pz, NE, IT, PO, MA, AB, BE, st, mt, hK, hT, hM, hL, hg⟩ := hJ
  have hn := hM.1
  refine hw_met (by decide) (Nat.le_of_ble_eq_true rfl) ?_
  intro p e s m below meth c hx hb hr hml hown hlocks hnm hts hsz hX hW ls hl
  subst hsz
  have hA : ∀ q, s.heap.size ≤ q → hw_A M s.heap.size q := fun q h => Or.inr h
  have hS : va_S (hw_A M s.heap.size) s.heap s.heap [] := va_S.rf
  have hl : lv_has ls 3 [(0, .ref md), (1, .int x1), (2, .int w1)] := hl
  have hown : s.vm.findClass "QuantifierOutModel" = some m.cls := hown
  obtain ⟨Q9, hQ9⟩ : ∃ X : State → Prop, X = MQ below (va_Qi (fun r M1 => md_A cI cJ cZ md kd on tw nu le fx fy si de ne it po ma ab be li fr to n g (cKnown n x1 w1) (r = vKnown (g (ix x1)) w1) M M1) (hw_B D qcl (qty cI cJ cZ cN) M s.heap.size) (hw_A M s.heap.size)) [.ref md, .int x1, .int w1].toArray s 0 0 (hw_A M s.heap.size) := ⟨_, rfl⟩
  rw [← hQ9]
  have w_md := hK.1
  have w_md : M md = some (.inr (8, [.int cd, .int (nI n), .ref kd, .ref on, .ref tw, .ref nu, .ref le, .ref fx, .ref fy, .ref si, .ref de, .ref ne, .ref it, .ref po, .ref ma, .ref ab, .ref be, .long up, .long dn, .ref li, .int pz, .ref fr, .ref to])) := w_md
  refine lv_aload_n hx hb d_Md_known_0 rfl (lv_at hl 0 rfl) ?_
  refine lv_aload_n hx hb d_Md_known_1 rfl (lv_at hl 0 rfl) ?_
  refine lv_iload_n hx hb d_Md_known_2 rfl (lv_at hl 1 rfl) ?_
  refine hw_calli (hw_runV (n := 1) (own := "QuantifierOutModel") (As := [.int x1]) (rest := [.ref md]) hx hb hml hown hts hX hW hl.1 (c_Md_isNode l D cI cJ cZ cN md kd on tw nu le fx fy si de ne it po ma ab be li fr to cd n up dn pz _ M w_md hn x1) w_md rfl tw_700 tw_702 ts_13 tw_5 tw_703 (by decide +kernel) rfl rfl ⟨by decide, by decide⟩ rfl rfl (Nat.le_of_ble_eq_true rfl) d_Md_known_3 ⟨by decide, by decide⟩) hW hS hA (fun rx Mi9 H locs hpi hz hW hS => ?_)
  obtain ⟨hb_rx, eMi9⟩ := hpi
  rw [eMi9] at hW
  refine lv_if_ne (tgt := 13) hx hb d_Md_known_6 (by decide) (fun c_6 => ?_) (fun c_6 => ?_)
  · skip
    obtain ⟨a, ha, rfl⟩ := it_b1 hb_rx c_6
    obtain ⟨q1, hq1, eq1⟩ := hg a ha
    obtain ⟨-, hr1, hmo1, hc1⟩ := hM.2.2 a q1 hq1
    have hga1 : g (ix (nI a)) = abq q1 := by rw [ix_nI (by omega)]; exact eq1.symm
    have his1 : isn n (nI a) := (isn_iff hn).mp ⟨a, ha, rfl⟩
    refine lv_iload_n hx hb d_Md_known_13 rfl (lv_at hl 2 rfl) ?_
    obtain ⟨x1, ex1⟩ : ∃ y9 : Int64, y9 = (w1 : Int32).toInt64 := ⟨_, rfl⟩
    refine lv_i2l (v := x1) hx hb d_Md_known_14 ex1.symm ?_
    refine lv_lconst (v := 0) hx hb d_Md_known_15 (by decide) ?_
    refine lv_ldc2 (own := "QuantifierOutModel") (v := 3) hx hb hown (hts _ tw_728) d_Md_known_16 ?_
    refine hw_calli (hw_runS (n := 3) (own := "QuantifierOutModel") (As := [.long x1, .long 0, .long 3]) (rest := [.ref md]) hx hb hml hown hts hX hW hl.1 (c_Md_in l D cI cJ cZ cN x1 0 3 _ M) tw_684 tw_685 tw_5 tw_686 (by decide +kernel) rfl rfl ⟨by decide, by decide⟩ rfl rfl (Nat.le_of_ble_eq_true rfl) d_Md_known_19 ⟨by decide, by decide⟩) hW hS hA (fun rw Mi9 H locs hpi hz hW hS => ?_)
    obtain ⟨hb_rw, eMi9⟩ := hpi
    rw [eMi9] at hW
    have gw : it_b rw (0 ≤ w1.toInt ∧ w1.toInt ≤ 3) := it_c hb_rw (by rw [ex1, nm_i2l, show (0 : Int64).toInt = 0 from rfl, show (3 : Int64).toInt = 3 from rfl])
    refine lv_if_eq (tgt := 29) hx hb d_Md_known_22 (by decide) (fun c_22 => ?_) (fun c_22 => ?_)
    · skip
      refine lv_iconst (v := 2) hx hb d_Md_known_29 (by decide) ?_
      refine hw_put (own := "QuantifierOutModel") (v := .int 2) (ty := .int) hx hb hts i_Md ft_Md tk_Md n_Md hown hW hS w_md rfl 0 (by decide) (hts _ tw_603) (fun _ h9 => h9) rfl (tk_Md 0 (by decide)) rfl rfl (Nat.le_of_ble_eq_true rfl) d_Md_known_30 (fun H locs hW hS => ?_)
      have hW : hw_W D qcl (qty cI cJ cZ cN) _ (va_up M md (some (.inr (8, [.int 2, .int (nI n), .ref kd, .ref on, .ref tw, .ref nu, .ref le, .ref fx, .ref fy, .ref si, .ref de, .ref ne, .ref it, .ref po, .ref ma, .ref ab, .ref be, .long up, .long dn, .ref li, .int pz, .ref fr, .ref to])))) s H := hW
      generalize hMw2 : va_up M md (some (.inr (8, [.int 2, .int (nI n), .ref kd, .ref on, .ref tw, .ref nu, .ref le, .ref fx, .ref fy, .ref si, .ref de, .ref ne, .ref it, .ref po, .ref ma, .ref ab, .ref be, .long up, .long dn, .ref li, .int pz, .ref fr, .ref to]))) = Mw2 at hW
      have w_md : Mw2 md = some (.inr (8, [.int 2, .int (nI n), .ref kd, .ref on, .ref tw, .ref nu, .ref le, .ref fx, .ref fy, .ref si, .ref de, .ref ne, .ref it, .ref po, .ref ma, .ref ab, .ref be, .long up, .long dn, .ref li, .int pz, .ref fr, .ref to])) := by rw [← hMw2]; exact va_up_self _ _ _
      have hfr_Mw2 : ∀ x9, x9 ≠ md → Mw2 x9 = M x9 := fun x9 z9 => by rw [← hMw2, va_up_ne _ _ z9]
      refine lv_aload_n hx hb d_Md_known_33 rfl (lv_at hl 0 rfl) ?_
      refine hw_get (own := "QuantifierOutModel") (v := .int 2) hx hb hts i_Md hown hW w_md rfl 0 (by decide) (hts _ tw_603) (fun _ h9 => h9) rfl d_Md_known_34 ?_
      have hK1 : md_W cI cJ cZ md kd on tw nu le fx fy si de ne it po ma ab be li fr to Mw2 (nI 2) n up dn pz NE IT PO MA AB BE := md_W.cd hD hK w_md hfr_Mw2
      have hf1 : ∀ x9, x9 ≠ md → x9 ≠ ne → x9 ≠ it → x9 ≠ po → x9 ≠ ma → x9 ≠ ab → x9 ≠ be → Mw2 x9 = M x9 := fun x9 z0 z1 z2 z3 z4 z5 z6 => hfr_Mw2 x9 z0
      have hT1 := md_T.kept hD hT hf1
      have hL1 := md_L.kept hD hL hf1
      refine lv_if_le (tgt := 42) hx hb d_Md_known_37 (by decide) (fun c_37 => ?_) (fun c_37 => ?_)
      · skip
        exact absurd c_37 (by decide)
      · skip
        refine lv_iconst (v := 0) hx hb d_Md_known_40 (by decide) ?_
        rw [hQ9]
        exact hw_reti hx hb hr hlocks hW hS (md_A.no (by unfold cKnown; rw [if_neg (fun z => z his1), if_neg (it_b0 gw c_22)]) (by decide) ⟨up, dn, pz, NE, IT, PO, MA, AB, BE, st, mt, hK1, hT1, hM, hL1, hg⟩ (md_F.of hf1)) d_Md_known_41
    · skip
      have hw01 := it_b1 gw c_22
      obtain ⟨hj4, ew⟩ := ix_of (n := 4) (by decide) (p := w1) ⟨hw01.1, by omega⟩
      have hcc : cKnown n (nI a) w1 = 0 := by unfold cKnown; rw [if_neg (fun z => z his1), if_pos hw01]
      refine lv_iconst (v := 0) hx hb d_Md_known_25 (by decide) ?_
      refine lv_goto (tgt := 30) hx hb d_Md_known_26 (by decide) ?_
      refine hw_put (own := "QuantifierOutModel") (v := .int 0) (ty := .int) hx hb hts i_Md ft_Md tk_Md n_Md hown hW hS w_md rfl 0 (by decide) (hts _ tw_603) (fun _ h9 => h9) rfl (tk_Md 0 (by decide)) rfl rfl (Nat.le_of_ble_eq_true rfl) d_Md_known_30 (fun H locs hW hS => ?_)
      have hW : hw_W D qcl (qty cI cJ cZ cN) _ (va_up M md (some (.inr (8, [.int 0, .int (nI n), .ref kd, .ref on, .ref tw, .ref nu, .ref le, .ref fx, .ref fy, .ref si, .ref de, .ref ne, .ref it, .ref po, .ref ma, .ref ab, .ref be, .long up, .long dn, .ref li, .int pz, .ref fr, .ref to])))) s H := hW
      generalize hMw3 : va_up M md (some (.inr (8, [.int 0, .int (nI n), .ref kd, .ref on, .ref tw, .ref nu, .ref le, .ref fx, .ref fy, .ref si, .ref de, .ref ne, .ref it, .ref po, .ref ma, .ref ab, .ref be, .long up, .long dn, .ref li, .int pz, .ref fr, .ref to]))) = Mw3 at hW
      have w_md : Mw3 md = some (.inr (8, [.int 0, .int (nI n), .ref kd, .ref on, .ref tw, .ref nu, .ref le, .ref fx, .ref fy, .ref si, .ref de, .ref ne, .ref it, .ref po, .ref ma, .ref ab, .ref be, .long up, .long dn, .ref li, .int pz, .ref fr, .ref to])) := by rw [← hMw3]; exact va_up_self _ _ _
      have hfr_Mw3 : ∀ x9, x9 ≠ md → Mw3 x9 = M x9 := fun x9 z9 => by rw [← hMw3, va_up_ne _ _ z9]
      refine lv_aload_n hx hb d_Md_known_33 rfl (lv_at hl 0 rfl) ?_
      refine hw_get (own := "QuantifierOutModel") (v := .int 0) hx hb hts i_Md hown hW w_md rfl 0 (by decide) (hts _ tw_603) (fun _ h9 => h9) rfl d_Md_known_34 ?_
      have hK1 : md_W cI cJ cZ md kd on tw nu le fx fy si de ne it po ma ab be li fr to Mw3 (nI 0) n up dn pz NE IT PO MA AB BE := md_W.cd hD hK w_md hfr_Mw3
      have hf1 : ∀ x9, x9 ≠ md → x9 ≠ ne → x9 ≠ it → x9 ≠ po → x9 ≠ ma → x9 ≠ ab → x9 ≠ be → Mw3 x9 = M x9 := fun x9 z0 z1 z2 z3 z4 z5 z6 => hfr_Mw3 x9 z0
      have hT1 := md_T.kept hD hT hf1
      have hL1 := md_L.kept hD hL hf1
      refine lv_if_le (tgt := 42) hx hb d_Md_known_37 (by decide) (fun c_37 => ?_) (fun c_37 => ?_)
      · skip
        have t1_fx : Mw3 fx = some (.inl (cZ, 60, .inl (st 5))) := hT1.2.2.2.2.2.1
        have t1_fy : Mw3 fy = some (.inl (cZ, 60, .inl (st 6))) := hT1.2.2.2.2.2.2.1
        have t1_si : Mw3 si = some (.inl (cI, 60, .inl (st 7))) := hT1.2.2.2.2.2.2.2.1
        have t1_de : Mw3 de = some (.inl (cI, 60, .inl (st 8))) := hT1.2.2.2.2.2.2.2.2
        refine lv_iload_n hx hb d_Md_known_42 rfl (lv_at hl 2 rfl) ?_
        refine lv_if_ne (tgt := 63) hx hb d_Md_known_43 (by decide) (fun c_43 => ?_) (fun c_43 => ?_)
        · skip
          have n0 : ¬ ix w1 = 0 := fun z => c_43 (by rw [ew, z]; rfl)
          refine lv_iload_n hx hb d_Md_known_63 rfl (lv_at hl 2 rfl) ?_
          refine lv_iconst (v := 1) hx hb d_Md_known_64 (by decide) ?_
          refine lv_icmp_ne (tgt := 85) hx hb d_Md_known_65 (by decide) (fun c_65 => ?_) (fun c_65 => ?_)
          · skip
            have n1 : ¬ ix w1 = 1 := fun z => c_65 (by rw [ew, z]; rfl)
            refine lv_iload_n hx hb d_Md_known_85 rfl (lv_at hl 2 rfl) ?_
            refine lv_iconst (v := 2) hx hb d_Md_known_86 (by decide) ?_
            refine lv_icmp_ne (tgt := 99) hx hb d_Md_known_87 (by decide) (fun c_87 => ?_) (fun c_87 => ?_)
            · skip
              have n2 : ¬ ix w1 = 2 := fun z => c_87 (by rw [ew, z]; rfl)
              refine lv_aload_n hx hb d_Md_known_99 rfl (lv_at hl 0 rfl) ?_
              refine hw_get (own := "QuantifierOutModel") (v := .ref de) hx hb hts i_Md hown hW w_md rfl 10 (by decide) (hts _ tw_613) (fun _ h9 => h9) rfl d_Md_known_100 ?_
              refine lv_iload_n hx hb d_Md_known_103 rfl (lv_at hl 1 rfl) ?_
              refine hw_ild hx hb hW 0 t1_de rfl a rfl (by omega) (by decide) d_Md_known_104 ?_
              rw [hQ9]
              exact hw_reti hx hb hr hlocks hW hS (md_A.yes hcc (by rw [hga1]; unfold vKnown; rw [if_neg n0, if_neg n1, if_neg n2]; exact hc1.2.2.2.1) ⟨up, dn, pz, NE, IT, PO, MA, AB, BE, st, mt, hK1, hT1, hM, hL1, hg⟩ (md_F.of hf1)) d_Md_known_105
            · skip
              have e0 : ix w1 = 2 := by rw [c_87]; rfl
              refine lv_aload_n hx hb d_Md_known_90 rfl (lv_at hl 0 rfl) ?_
              refine hw_get (own := "QuantifierOutModel") (v := .ref si) hx hb hts i_Md hown hW w_md rfl 9 (by decide) (hts _ tw_612) (fun _ h9 => h9) rfl d_Md_known_91 ?_
              refine lv_iload_n hx hb d_Md_known_94 rfl (lv_at hl 1 rfl) ?_
              refine hw_ild hx hb hW 0 t1_si rfl a rfl (by omega) (by decide) d_Md_known_95 ?_
              refine lv_goto (tgt := 105) hx hb d_Md_known_96 (by decide) ?_
              rw [hQ9]
              exact hw_reti hx hb hr hlocks hW hS (md_A.yes hcc (by rw [hga1]; unfold vKnown; rw [if_neg n0, if_neg n1, if_pos e0]; exact hc1.2.2.1) ⟨up, dn, pz, NE, IT, PO, MA, AB, BE, st, mt, hK1, hT1, hM, hL1, hg⟩ (md_F.of hf1)) d_Md_known_105
          · skip
            have e0 : ix w1 = 1 := by rw [c_65]; rfl
            refine lv_aload_n hx hb d_Md_known_68 rfl (lv_at hl 0 rfl) ?_
            refine hw_get (own := "QuantifierOutModel") (v := .ref fy) hx hb hts i_Md hown hW w_md rfl 8 (by decide) (hts _ tw_611) (fun _ h9 => h9) rfl d_Md_known_69 ?_
            refine lv_iload_n hx hb d_Md_known_72 rfl (lv_at hl 1 rfl) ?_
            refine hw_zld hx hb hW 2 t1_fy rfl a rfl (by omega) (by decide) d_Md_known_73 ?_
            have hb1 : it_b (st 6 a) (ny q1 = true) := by rw [hc1.2.1]; cases h9 : ny q1; exact Or.inr ⟨rfl, (fun z => by cases z)⟩; exact Or.inl ⟨rfl, rfl⟩
            refine lv_if_eq (tgt := 81) hx hb d_Md_known_74 (by decide) (fun c_74 => ?_) (fun c_74 => ?_)
            · skip
              refine lv_iconst (v := 0) hx hb d_Md_known_81 (by decide) ?_
              refine lv_goto (tgt := 105) hx hb d_Md_known_82 (by decide) ?_
              rw [hQ9]
              exact hw_reti hx hb hr hlocks hW hS (md_A.yes hcc (by rw [hga1]; unfold vKnown; rw [if_neg n0, if_pos e0]; exact (if_neg (it_b0 hb1 c_74)).symm) ⟨up, dn, pz, NE, IT, PO, MA, AB, BE, st, mt, hK1, hT1, hM, hL1, hg⟩ (md_F.of hf1)) d_Md_known_105
            · skip
              refine lv_iconst (v := 1) hx hb d_Md_known_77 (by decide) ?_
              refine lv_goto (tgt := 105) hx hb d_Md_known_78 (by decide) ?_
              rw [hQ9]
              exact hw_reti hx hb hr hlocks hW hS (md_A.yes hcc (by rw [hga1]; unfold vKnown; rw [if_neg n0, if_pos e0]; exact (if_pos (it_b1 hb1 c_74)).symm) ⟨up, dn, pz, NE, IT, PO, MA, AB, BE, st, mt, hK1, hT1, hM, hL1, hg⟩ (md_F.of hf1)) d_Md_known_105
        · skip
          have e0 : ix w1 = 0 := by rw [c_43]; rfl
          refine lv_aload_n hx hb d_Md_known_46 rfl (lv_at hl 0 rfl) ?_
          refine hw_get (own := "QuantifierOutModel") (v := .ref fx) hx hb hts i_Md hown hW w_md rfl 7 (by decide) (hts _ tw_610) (fun _ h9 => h9) rfl d_Md_known_47 ?_
          refine lv_iload_n hx hb d_Md_known_50 rfl (lv_at hl 1 rfl) ?_
          refine hw_zld hx hb hW 2 t1_fx rfl a rfl (by omega) (by decide) d_Md_known_51 ?_
          have hb1 : it_b (st 5 a) (nx q1 = true) := by rw [hc1.1]; cases h9 : nx q1; exact Or.inr ⟨rfl, (fun z => by cases z)⟩; exact Or.inl ⟨rfl, rfl⟩
          refine lv_if_eq (tgt := 59) hx hb d_Md_known_52 (by decide) (fun c_52 => ?_) (fun c_52 => ?_)
          · skip
            refine lv_iconst (v := 0) hx hb d_Md_known_59 (by decide) ?_
            refine lv_goto (tgt := 105) hx hb d_Md_known_60 (by decide) ?_
            rw [hQ9]
            exact hw_reti hx hb hr hlocks hW hS (md_A.yes hcc (by rw [hga1]; unfold vKnown; rw [if_pos e0]; exact (if_neg (it_b0 hb1 c_52)).symm) ⟨up, dn, pz, NE, IT, PO, MA, AB, BE, st, mt, hK1, hT1, hM, hL1, hg⟩ (md_F.of hf1)) d_Md_known_105
          · skip
            refine lv_iconst (v := 1) hx hb d_Md_known_55 (by decide) ?_
            refine lv_goto (tgt := 105) hx hb d_Md_known_56 (by decide) ?_
            rw [hQ9]
            exact hw_reti hx hb hr hlocks hW hS (md_A.yes hcc (by rw [hga1]; unfold vKnown; rw [if_pos e0]; exact (if_pos (it_b1 hb1 c_52)).symm) ⟨up, dn, pz, NE, IT, PO, MA, AB, BE, st, mt, hK1, hT1, hM, hL1, hg⟩ (md_F.of hf1)) d_Md_known_105
      · skip
        exact absurd (by decide) c_37
  · skip
    refine lv_iconst (v := 1) hx hb d_Md_known_9 (by decide) ?_
    refine lv_goto (tgt := 30) hx hb d_Md_known_10 (by decide) ?_
    refine hw_put (own := "QuantifierOutModel") (v := .int 1) (ty := .int) hx hb hts i_Md ft_Md tk_Md n_Md hown hW hS w_md rfl 0 (by decide) (hts _ tw_603) (fun _ h9 => h9) rfl (tk_Md 0 (by decide)) rfl rfl (Nat.le_of_ble_eq_true rfl) d_Md_known_30 (fun H locs hW hS => ?_)
    have hW : hw_W D qcl (qty cI cJ cZ cN) _ (va_up M md (some (.inr (8, [.int 1, .int (nI n), .ref kd, .ref on, .ref tw, .ref nu, .ref le, .ref fx, .ref fy, .ref si, .ref de, .ref ne, .ref it, .ref po, .ref ma, .ref ab, .ref be, .long up, .long dn, .ref li, .int pz, .ref fr, .ref to])))) s H := hW
    generalize hMw4 : va_up M md (some (.inr (8, [.int 1, .int (nI n), .ref kd, .ref on, .ref tw, .ref nu, .ref le, .ref fx, .ref fy, .ref si, .ref de, .ref ne, .ref it, .ref po, .ref ma, .ref ab, .ref be, .long up, .long dn, .ref li, .int pz, .ref fr, .ref to]))) = Mw4 at hW
    have w_md : Mw4 md = some (.inr (8, [.int 1, .int (nI n), .ref kd, .ref on, .ref tw, .ref nu, .ref le, .ref fx, .ref fy, .ref si, .ref de, .ref ne, .ref it, .ref po, .ref ma, .ref ab, .ref be, .long up, .long dn, .ref li, .int pz, .ref fr, .ref to])) := by rw [← hMw4]; exact va_up_self _ _ _
    have hfr_Mw4 : ∀ x9, x9 ≠ md → Mw4 x9 = M x9 := fun x9 z9 => by rw [← hMw4, va_up_ne _ _ z9]
    refine lv_aload_n hx hb d_Md_known_33 rfl (lv_at hl 0 rfl) ?_
    refine hw_get (own := "QuantifierOutModel") (v := .int 1) hx hb hts i_Md hown hW w_md rfl 0 (by decide) (hts _ tw_603) (fun _ h9 => h9) rfl d_Md_known_34 ?_
    have hK1 : md_W cI cJ cZ md kd on tw nu le fx fy si de ne it po ma ab be li fr to Mw4 (nI 1) n up dn pz NE IT PO MA AB BE := md_W.cd hD hK w_md hfr_Mw4
    have hf1 : ∀ x9, x9 ≠ md → x9 ≠ ne → x9 ≠ it → x9 ≠ po → x9 ≠ ma → x9 ≠ ab → x9 ≠ be → Mw4 x9 = M x9 := fun x9 z0 z1 z2 z3 z4 z5 z6 => hfr_Mw4 x9 z0
    have hT1 := md_T.kept hD hT hf1
    have hL1 := md_L.kept hD hL hf1
    refine lv_if_le (tgt := 42) hx hb d_Md_known_37 (by decide) (fun c_37 => ?_) (fun c_37 => ?_)
    · skip
      exact absurd c_37 (by decide)
    · skip
      refine lv_iconst (v := 0) hx hb d_Md_known_40 (by decide) ?_
      rw [hQ9]
      exact hw_reti hx hb hr hlocks hW hS (md_A.no (by unfold cKnown; rw [if_pos (fun h => it_b0 hb_rx c_6 ((isn_iff hn).mpr h))]) (by decide) ⟨up, dn, pz, NE, IT, PO, MA, AB, BE, st, mt, hK1, hT1, hM, hL1, hg⟩ (md_F.of hf1)) d_Md_known_41
set_option maxHeartbeats 4000000 in
set_option maxRecDepth 100000 in
theorem c_Md_holds (cd : Int32) (n : Nat) (g : Nat → abn) (sz : Nat) (M : Nat → Option va_E) (hD : md_D md kd on tw nu le fx fy si de ne it po ma ab be li fr to) (hJ : md_J cI cJ cZ md kd on tw nu le fx fy si de ne it po ma ab be li fr to M cd n g) (x1 a1 b1 : Int32) : Met l y_Md_holds (.code y_Md_holds b_Md_holds 4 (some .boolean) :: ww) ({ frames := 9, cells := 0, slots := 0, locals := 300 }) (hw_Pc D qcl (qty cI cJ cZ cN) [.ref md, .int x1, .int a1, .int b1] M sz) (va_Qi (fun r M1 => md_A cI cJ cZ md kd on tw nu le fx fy si de ne it po ma ab be li fr to n g (cHolds n x1 a1 b1) (it_b r (aP (g (ix x1)) (a1.toInt : Rat) (b1.toInt : Rat))) M M1) (hw_B D qcl (qty cI cJ cZ cN) M sz) (hw_A M sz)) 0 0 (hw_A M sz) := by
  obtain ⟨up, dn, pz, NE, IT, PO, MA, AB, BE, st, mt, hK, hT, hM, hL, hg⟩ := hJ
  have hn := hM.1
  refine hw_met (by decide) (Nat.le_of_ble_eq_true rfl) ?_
  intro p e s m below meth c hx hb hr hml hown hlocks hnm hts hsz hX hW ls hl
  subst hsz
  have hA : ∀ q, s.heap.size ≤ q → hw_A M s.heap.size q := fun q h => Or.inr h
  have hS : va_S (hw_A M s.heap.size) s.heap s.heap [] := va_S.rf
  have hl : lv_has ls 4 [(0, .ref md), (1, .int x1), (2, .int a1), (3, .int b1)] := hl
  have hown : s.vm.findClass "QuantifierOutModel" = some m.cls := hown
  obtain ⟨Q9, hQ9⟩ : ∃ X : State → Prop, X = MQ below (va_Qi (fun r M1 => md_A cI cJ cZ md kd on tw nu le fx fy si de ne it po ma ab be li fr to n g (cHolds n x1 a1 b1) (it_b r (aP (g (ix x1)) (a1.toInt : Rat) (b1.toInt : Rat))) M M1) (hw_B D qcl (qty cI cJ cZ cN) M s.heap.size) (hw_A M s.heap.size)) [.ref md, .int x1, .int a1, .int b1].toArray s 0 0 (hw_A M s.heap.size) := ⟨_, rfl⟩
  rw [← hQ9]
  have w_md := hK.1
  have w_md : M md = some (.inr (8, [.int cd, .int (nI n), .ref kd, .ref on, .ref tw, .ref nu, .ref le, .ref fx, .ref fy, .ref si, .ref de, .ref ne, .ref it, .ref po, .ref ma, .ref ab, .ref be, .long up, .long dn, .ref li, .int pz, .ref fr, .ref to])) := w_md
  refine lv_aload_n hx hb d_Md_holds_0 rfl (lv_at hl 0 rfl) ?_
  refine lv_aload_n hx hb d_Md_holds_1 rfl (lv_at hl 0 rfl) ?_
  refine lv_iload_n hx hb d_Md_holds_2 rfl (lv_at hl 1 rfl) ?_
  refine hw_calli (hw_runV (n := 1) (own := "QuantifierOutModel") (As := [.int x1]) (rest := [.ref md]) hx hb hml hown hts hX hW hl.1 (c_Md_isNode l D cI cJ cZ cN md kd on tw nu le fx fy si de ne it po ma ab be li fr to cd n up dn pz _ M w_md hn x1) w_md rfl tw_700 tw_702 ts_13 tw_5 tw_703 (by decide +kernel) rfl rfl ⟨by decide, by decide⟩ rfl rfl (Nat.le_of_ble_eq_true rfl) d_Md_holds_3 ⟨by decide, by decide⟩) hW hS hA (fun rx Mi9 H locs hpi hz hW hS => ?_)
  obtain ⟨hb_rx, eMi9⟩ := hpi
  rw [eMi9] at hW
  refine lv_if_ne (tgt := 13) hx hb d_Md_holds_6 (by decide) (fun c_6 => ?_) (fun c_6 => ?_)
  · skip
    obtain ⟨a, ha, rfl⟩ := it_b1 hb_rx c_6
    obtain ⟨q1, hq1, eq1⟩ := hg a ha
    obtain ⟨-, hr1, hmo1, hc1⟩ := hM.2.2 a q1 hq1
    have hga1 : g (ix (nI a)) = abq q1 := by rw [ix_nI (by omega)]; exact eq1.symm
    have his1 : isn n (nI a) := (isn_iff hn).mp ⟨a, ha, rfl⟩
    refine lv_iload_n hx hb d_Md_holds_13 rfl (lv_at hl 2 rfl) ?_
    obtain ⟨x1, ex1⟩ : ∃ y9 : Int64, y9 = (a1 : Int32).toInt64 := ⟨_, rfl⟩
    refine lv_i2l (v := x1) hx hb d_Md_holds_14 ex1.symm ?_
    refine lv_ldc2 (own := "QuantifierOutModel") (v := (-50)) hx hb hown (hts _ tw_737) d_Md_holds_15 ?_
    refine lv_ldc2 (own := "QuantifierOutModel") (v := 50) hx hb hown (hts _ tw_738) d_Md_holds_18 ?_
    refine hw_calli (hw_runS (n := 3) (own := "QuantifierOutModel") (As := [.long x1, .long (-50), .long 50]) (rest := [.ref md]) hx hb hml hown hts hX hW hl.1 (c_Md_in l D cI cJ cZ cN x1 (-50) 50 _ M) tw_684 tw_685 tw_5 tw_686 (by decide +kernel) rfl rfl ⟨by decide, by decide⟩ rfl rfl (Nat.le_of_ble_eq_true rfl) d_Md_holds_21 ⟨by decide, by decide⟩) hW hS hA (fun ra Mi9 H locs hpi hz hW hS => ?_)
    obtain ⟨hb_ra, eMi9⟩ := hpi
    rw [eMi9] at hW
    have ga : it_b ra (a1.toInt.natAbs ≤ 50) := it_c hb_ra (by rw [ex1, nm_i2l, show ((-50) : Int64).toInt = -50 from rfl, show (50 : Int64).toInt = 50 from rfl]; omega)
    refine lv_if_eq (tgt := 45) hx hb d_Md_holds_24 (by decide) (fun c_24 => ?_) (fun c_24 => ?_)
    · skip
      refine lv_iconst (v := 2) hx hb d_Md_holds_45 (by decide) ?_
      refine hw_put (own := "QuantifierOutModel") (v := .int 2) (ty := .int) hx hb hts i_Md ft_Md tk_Md n_Md hown hW hS w_md rfl 0 (by decide) (hts _ tw_603) (fun _ h9 => h9) rfl (tk_Md 0 (by decide)) rfl rfl (Nat.le_of_ble_eq_true rfl) d_Md_holds_46 (fun H locs hW hS => ?_)
      have hW : hw_W D qcl (qty cI cJ cZ cN) _ (va_up M md (some (.inr (8, [.int 2, .int (nI n), .ref kd, .ref on, .ref tw, .ref nu, .ref le, .ref fx, .ref fy, .ref si, .ref de, .ref ne, .ref it, .ref po, .ref ma, .ref ab, .ref be, .long up, .long dn, .ref li, .int pz, .ref fr, .ref to])))) s H := hW
      generalize hMw2 : va_up M md (some (.inr (8, [.int 2, .int (nI n), .ref kd, .ref on, .ref tw, .ref nu, .ref le, .ref fx, .ref fy, .ref si, .ref de, .ref ne, .ref it, .ref po, .ref ma, .ref ab, .ref be, .long up, .long dn, .ref li, .int pz, .ref fr, .ref to]))) = Mw2 at hW
      have w_md : Mw2 md = some (.inr (8, [.int 2, .int (nI n), .ref kd, .ref on, .ref tw, .ref nu, .ref le, .ref fx, .ref fy, .ref si, .ref de, .ref ne, .ref it, .ref po, .ref ma, .ref ab, .ref be, .long up, .long dn, .ref li, .int pz, .ref fr, .ref to])) := by rw [← hMw2]; exact va_up_self _ _ _
      have hfr_Mw2 : ∀ x9, x9 ≠ md → Mw2 x9 = M x9 := fun x9 z9 => by rw [← hMw2, va_up_ne _ _ z9]
      refine lv_aload_n hx hb d_Md_holds_49 rfl (lv_at hl 0 rfl) ?_
      refine hw_get (own := "QuantifierOutModel") (v := .int 2) hx hb hts i_Md hown hW w_md rfl 0 (by decide) (hts _ tw_603) (fun _ h9 => h9) rfl d_Md_holds_50 ?_
      have hK1 : md_W cI cJ cZ md kd on tw nu le fx fy si de ne it po ma ab be li fr to Mw2 (nI 2) n up dn pz NE IT PO MA AB BE := md_W.cd hD hK w_md hfr_Mw2
      have hf1 : ∀ x9, x9 ≠ md → x9 ≠ ne → x9 ≠ it → x9 ≠ po → x9 ≠ ma → x9 ≠ ab → x9 ≠ be → Mw2 x9 = M x9 := fun x9 z0 z1 z2 z3 z4 z5 z6 => hfr_Mw2 x9 z0
      have hT1 := md_T.kept hD hT hf1
      have hL1 := md_L.kept hD hL hf1
      refine lv_if_ne (tgt := 72) hx hb d_Md_holds_53 (by decide) (fun c_53 => ?_) (fun c_53 => ?_)
      · skip
        refine lv_iconst (v := 0) hx hb d_Md_holds_72 (by decide) ?_
        rw [hQ9]
        exact hw_retz hx hb hr rfl hlocks hW hS (md_A.no (by unfold cHolds; rw [if_neg (fun z => z his1), if_neg (fun z => it_b0 ga c_24 z.1)]) (by decide) ⟨up, dn, pz, NE, IT, PO, MA, AB, BE, st, mt, hK1, hT1, hM, hL1, hg⟩ (md_F.of hf1)) d_Md_holds_73
      · skip
        exact absurd c_53 (by decide)
    · skip
      refine lv_iload_n hx hb d_Md_holds_27 rfl (lv_at hl 3 rfl) ?_
      obtain ⟨x3, ex3⟩ : ∃ y9 : Int64, y9 = (b1 : Int32).toInt64 := ⟨_, rfl⟩
      refine lv_i2l (v := x3) hx hb d_Md_holds_28 ex3.symm ?_
      refine lv_ldc2 (own := "QuantifierOutModel") (v := (-50)) hx hb hown (hts _ tw_737) d_Md_holds_29 ?_
      refine lv_ldc2 (own := "QuantifierOutModel") (v := 50) hx hb hown (hts _ tw_738) d_Md_holds_32 ?_
      refine hw_calli (hw_runS (n := 3) (own := "QuantifierOutModel") (As := [.long x3, .long (-50), .long 50]) (rest := [.ref md]) hx hb hml hown hts hX hW hl.1 (c_Md_in l D cI cJ cZ cN x3 (-50) 50 _ M) tw_684 tw_685 tw_5 tw_686 (by decide +kernel) rfl rfl ⟨by decide, by decide⟩ rfl rfl (Nat.le_of_ble_eq_true rfl) d_Md_holds_35 ⟨by decide, by decide⟩) hW hS hA (fun rb Mi9 H locs hpi hz hW hS => ?_)
      obtain ⟨hb_rb, eMi9⟩ := hpi
      rw [eMi9] at hW
      have gb : it_b rb (b1.toInt.natAbs ≤ 50) := it_c hb_rb (by rw [ex3, nm_i2l, show ((-50) : Int64).toInt = -50 from rfl, show (50 : Int64).toInt = 50 from rfl]; omega)
      refine lv_if_eq (tgt := 45) hx hb d_Md_holds_38 (by decide) (fun c_38 => ?_) (fun c_38 => ?_)
      · skip
        refine lv_iconst (v := 2) hx hb d_Md_holds_45 (by decide) ?_
        refine hw_put (own := "QuantifierOutModel") (v := .int 2) (ty := .int) hx hb hts i_Md ft_Md tk_Md n_Md hown hW hS w_md rfl 0 (by decide) (hts _ tw_603) (fun _ h9 => h9) rfl (tk_Md 0 (by decide)) rfl rfl (Nat.le_of_ble_eq_true rfl) d_Md_holds_46 (fun H locs hW hS => ?_)
        have hW : hw_W D qcl (qty cI cJ cZ cN) _ (va_up M md (some (.inr (8, [.int 2, .int (nI n), .ref kd, .ref on, .ref tw, .ref nu, .ref le, .ref fx, .ref fy, .ref si, .ref de, .ref ne, .ref it, .ref po, .ref ma, .ref ab, .ref be, .long up, .long dn, .ref li, .int pz, .ref fr, .ref to])))) s H := hW
        generalize hMw4 : va_up M md (some (.inr (8, [.int 2, .int (nI n), .ref kd, .ref on, .ref tw, .ref nu, .ref le, .ref fx, .ref fy, .ref si, .ref de, .ref ne, .ref it, .ref po, .ref ma, .ref ab, .ref be, .long up, .long dn, .ref li, .int pz, .ref fr, .ref to]))) = Mw4 at hW
        have w_md : Mw4 md = some (.inr (8, [.int 2, .int (nI n), .ref kd, .ref on, .ref tw, .ref nu, .ref le, .ref fx, .ref fy, .ref si, .ref de, .ref ne, .ref it, .ref po, .ref ma, .ref ab, .ref be, .long up, .long dn, .ref li, .int pz, .ref fr, .ref to])) := by rw [← hMw4]; exact va_up_self _ _ _
        have hfr_Mw4 : ∀ x9, x9 ≠ md → Mw4 x9 = M x9 := fun x9 z9 => by rw [← hMw4, va_up_ne _ _ z9]
        refine lv_aload_n hx hb d_Md_holds_49 rfl (lv_at hl 0 rfl) ?_
        refine hw_get (own := "QuantifierOutModel") (v := .int 2) hx hb hts i_Md hown hW w_md rfl 0 (by decide) (hts _ tw_603) (fun _ h9 => h9) rfl d_Md_holds_50 ?_
        have hK1 : md_W cI cJ cZ md kd on tw nu le fx fy si de ne it po ma ab be li fr to Mw4 (nI 2) n up dn pz NE IT PO MA AB BE := md_W.cd hD hK w_md hfr_Mw4
        have hf1 : ∀ x9, x9 ≠ md → x9 ≠ ne → x9 ≠ it → x9 ≠ po → x9 ≠ ma → x9 ≠ ab → x9 ≠ be → Mw4 x9 = M x9 := fun x9 z0 z1 z2 z3 z4 z5 z6 => hfr_Mw4 x9 z0
        have hT1 := md_T.kept hD hT hf1
        have hL1 := md_L.kept hD hL hf1
        refine lv_if_ne (tgt := 72) hx hb d_Md_holds_53 (by decide) (fun c_53 => ?_) (fun c_53 => ?_)
        · skip
          refine lv_iconst (v := 0) hx hb d_Md_holds_72 (by decide) ?_
          rw [hQ9]
          exact hw_retz hx hb hr rfl hlocks hW hS (md_A.no (by unfold cHolds; rw [if_neg (fun z => z his1), if_neg (fun z => it_b0 gb c_38 z.2)]) (by decide) ⟨up, dn, pz, NE, IT, PO, MA, AB, BE, st, mt, hK1, hT1, hM, hL1, hg⟩ (md_F.of hf1)) d_Md_holds_73
        · skip
          exact absurd c_53 (by decide)
      · skip
        have hab := it_b1 ga c_24
        have hbb := it_b1 gb c_38
        have hcc : cHolds n (nI a) a1 b1 = 0 := by unfold cHolds; rw [if_neg (fun z => z his1), if_pos ⟨hab, hbb⟩]
        refine lv_iconst (v := 0) hx hb d_Md_holds_41 (by decide) ?_
        refine lv_goto (tgt := 46) hx hb d_Md_holds_42 (by decide) ?_
        refine hw_put (own := "QuantifierOutModel") (v := .int 0) (ty := .int) hx hb hts i_Md ft_Md tk_Md n_Md hown hW hS w_md rfl 0 (by decide) (hts _ tw_603) (fun _ h9 => h9) rfl (tk_Md 0 (by decide)) rfl rfl (Nat.le_of_ble_eq_true rfl) d_Md_holds_46 (fun H locs hW hS => ?_)
        have hW : hw_W D qcl (qty cI cJ cZ cN) _ (va_up M md (some (.inr (8, [.int 0, .int (nI n), .ref kd, .ref on, .ref tw, .ref nu, .ref le, .ref fx, .ref fy, .ref si, .ref de, .ref ne, .ref it, .ref po, .ref ma, .ref ab, .ref be, .long up, .long dn, .ref li, .int pz, .ref fr, .ref to])))) s H := hW
        generalize hMw5 : va_up M md (some (.inr (8, [.int 0, .int (nI n), .ref kd, .ref on, .ref tw, .ref nu, .ref le, .ref fx, .ref fy, .ref si, .ref de, .ref ne, .ref it, .ref po, .ref ma, .ref ab, .ref be, .long up, .long dn, .ref li, .int pz, .ref fr, .ref to]))) = Mw5 at hW
        have w_md : Mw5 md = some (.inr (8, [.int 0, .int (nI n), .ref kd, .ref on, .ref tw, .ref nu, .ref le, .ref fx, .ref fy, .ref si, .ref de, .ref ne, .ref it, .ref po, .ref ma, .ref ab, .ref be, .long up, .long dn, .ref li, .int pz, .ref fr, .ref to])) := by rw [← hMw5]; exact va_up_self _ _ _
        have hfr_Mw5 : ∀ x9, x9 ≠ md → Mw5 x9 = M x9 := fun x9 z9 => by rw [← hMw5, va_up_ne _ _ z9]
        refine lv_aload_n hx hb d_Md_holds_49 rfl (lv_at hl 0 rfl) ?_
        refine hw_get (own := "QuantifierOutModel") (v := .int 0) hx hb hts i_Md hown hW w_md rfl 0 (by decide) (hts _ tw_603) (fun _ h9 => h9) rfl d_Md_holds_50 ?_
        have hK1 : md_W cI cJ cZ md kd on tw nu le fx fy si de ne it po ma ab be li fr to Mw5 (nI 0) n up dn pz NE IT PO MA AB BE := md_W.cd hD hK w_md hfr_Mw5
        have hf1 : ∀ x9, x9 ≠ md → x9 ≠ ne → x9 ≠ it → x9 ≠ po → x9 ≠ ma → x9 ≠ ab → x9 ≠ be → Mw5 x9 = M x9 := fun x9 z0 z1 z2 z3 z4 z5 z6 => hfr_Mw5 x9 z0
        have hT1 := md_T.kept hD hT hf1
        have hL1 := md_L.kept hD hL hf1
        refine lv_if_ne (tgt := 72) hx hb d_Md_holds_53 (by decide) (fun c_53 => ?_) (fun c_53 => ?_)
        · skip
          exact absurd rfl c_53
        · skip
          refine lv_aload_n hx hb d_Md_holds_56 rfl (lv_at hl 0 rfl) ?_
          refine lv_iload_n hx hb d_Md_holds_57 rfl (lv_at hl 1 rfl) ?_
          refine lv_iload_n hx hb d_Md_holds_58 rfl (lv_at hl 2 rfl) ?_
          obtain ⟨x6, ex6⟩ : ∃ y9 : Int64, y9 = (a1 : Int32).toInt64 := ⟨_, rfl⟩
          refine lv_i2l (v := x6) hx hb d_Md_holds_59 ex6.symm ?_
          refine lv_iload_n hx hb d_Md_holds_60 rfl (lv_at hl 3 rfl) ?_
          obtain ⟨x7, ex7⟩ : ∃ y9 : Int64, y9 = (b1 : Int32).toInt64 := ⟨_, rfl⟩
          refine lv_i2l (v := x7) hx hb d_Md_holds_61 ex7.symm ?_
          have tX : x6.toInt = a1.toInt := by rw [ex6, nm_i2l]
          have tY : x7.toInt = b1.toInt := by rw [ex7, nm_i2l]
          refine hw_calli (hw_runV (n := 3) (own := "QuantifierOutModel") (As := [.int (nI a), .long x6, .long x7]) (rest := []) hx hb hml hown hts hX hW hl.1 (c_Md_at l D cI cJ cZ cN md kd on tw nu le fx fy si de ne it po ma ab be li fr to (nI 0) n up dn pz NE IT PO MA AB BE a _ x6 x7 q1 mt st Mw5 hD hK1 hT1 hM hq1 (by rw [tX]; exact hab) (by rw [tY]; exact hbb)) hK1.1 rfl tw_739 tw_741 ts_15 tw_5 tw_742 (by decide +kernel) rfl rfl ⟨by decide, by decide⟩ rfl rfl (Nat.le_of_ble_eq_true rfl) d_Md_holds_62 ⟨by decide, by decide⟩) hW hS hA (fun rt Mt H locs hpt hz hW hS => ?_)
          obtain ⟨hrt, u2, d2, NE2, IT2, PO2, MA2, AB2, BE2, hK29, hf29⟩ := hpt
          rw [tX, tY] at hrt
          have hpr : aP (g (ix (nI a))) = nP q1 := by rw [hga1]; rfl
          refine lv_if_eq (tgt := 72) hx hb d_Md_holds_65 (by decide) (fun c_65 => ?_) (fun c_65 => ?_)
          · skip
            refine lv_iconst (v := 0) hx hb d_Md_holds_72 (by decide) ?_
            rw [hQ9]
            exact hw_retz hx hb hr rfl hlocks hW hS (md_A.yes hcc (by rw [hpr]; exact Or.inr ⟨rfl, it_b0 hrt c_65⟩) ⟨u2, d2, pz, NE2, IT2, PO2, MA2, AB2, BE2, st, mt, hK29, md_T.kept hD hT1 hf29, hM, md_L.kept hD hL1 hf29, hg⟩ (md_F.tr (md_F.of hf1) (md_F.of hf29))) d_Md_holds_73
          · skip
            refine lv_iconst (v := 1) hx hb d_Md_holds_68 (by decide) ?_
            refine lv_goto (tgt := 73) hx hb d_Md_holds_69 (by decide) ?_
            rw [hQ9]
            exact hw_retz hx hb hr rfl hlocks hW hS (md_A.yes hcc (by rw [hpr]; exact Or.inl ⟨rfl, it_b1 hrt c_65⟩) ⟨u2, d2, pz, NE2, IT2, PO2, MA2, AB2, BE2, st, mt, hK29, md_T.kept hD hT1 hf29, hM, md_L.kept hD hL1 hf29, hg⟩ (md_F.tr (md_F.of hf1) (md_F.of hf29))) d_Md_holds_73
  · skip
    refine lv_iconst (v := 1) hx hb d_Md_holds_9 (by decide) ?_
    refine lv_goto (tgt := 46) hx hb d_Md_holds_10 (by decide) ?_
    refine hw_put (own := "QuantifierOutModel") (v := .int 1) (ty := .int) hx hb hts i_Md ft_Md tk_Md n_Md hown hW hS w_md rfl 0 (by decide) (hts _ tw_603) (fun _ h9 => h9) rfl (tk_Md 0 (by decide)) rfl rfl (Nat.le_of_ble_eq_true rfl) d_Md_holds_46 (fun H locs hW hS => ?_)
    have hW : hw_W D qcl (qty cI cJ cZ cN) _ (va_up M md (some (.inr (8, [.int 1, .int (nI n), .ref kd, .ref on, .ref tw, .ref nu, .ref le, .ref fx, .ref fy, .ref si, .ref de, .ref ne, .ref it, .ref po, .ref ma, .ref ab, .ref be, .long up, .long dn, .ref li, .int pz, .ref fr, .ref to])))) s H := hW
    generalize hMw8 : va_up M md (some (.inr (8, [.int 1, .int (nI n), .ref kd, .ref on, .ref tw, .ref nu, .ref le, .ref fx, .ref fy, .ref si, .ref de, .ref ne, .ref it, .ref po, .ref ma, .ref ab, .ref be, .long up, .long dn, .ref li, .int pz, .ref fr, .ref to]))) = Mw8 at hW
    have w_md : Mw8 md = some (.inr (8, [.int 1, .int (nI n), .ref kd, .ref on, .ref tw, .ref nu, .ref le, .ref fx, .ref fy, .ref si, .ref de, .ref ne, .ref it, .ref po, .ref ma, .ref ab, .ref be, .long up, .long dn, .ref li, .int pz, .ref fr, .ref to])) := by rw [← hMw8]; exact va_up_self _ _ _
    have hfr_Mw8 : ∀ x9, x9 ≠ md → Mw8 x9 = M x9 := fun x9 z9 => by rw [← hMw8, va_up_ne _ _ z9]
    refine lv_aload_n hx hb d_Md_holds_49 rfl (lv_at hl 0 rfl) ?_
    refine hw_get (own := "QuantifierOutModel") (v := .int 1) hx hb hts i_Md hown hW w_md rfl 0 (by decide) (hts _ tw_603) (fun _ h9 => h9) rfl d_Md_holds_50 ?_
    have hK1 : md_W cI cJ cZ md kd on tw nu le fx fy si de ne it po ma ab be li fr to Mw8 (nI 1) n up dn pz NE IT PO MA AB BE := md_W.cd hD hK w_md hfr_Mw8
    have hf1 : ∀ x9, x9 ≠ md → x9 ≠ ne → x9 ≠ it → x9 ≠ po → x9 ≠ ma → x9 ≠ ab → x9 ≠ be → Mw8 x9 = M x9 := fun x9 z0 z1 z2 z3 z4 z5 z6 => hfr_Mw8 x9 z0
    have hT1 := md_T.kept hD hT hf1
    have hL1 := md_L.kept hD hL hf1
    refine lv_if_ne (tgt := 72) hx hb d_Md_holds_53 (by decide) (fun c_53 => ?_) (fun c_53 => ?_)
    · skip
      refine lv_iconst (v := 0) hx hb d_Md_holds_72 (by decide) ?_
      rw [hQ9]
      exact hw_retz hx hb hr rfl hlocks hW hS (md_A.no (by unfold cHolds; rw [if_pos (fun h => it_b0 hb_rx c_6 ((isn_iff hn).mpr h))]) (by decide) ⟨up, dn, pz, NE, IT, PO, MA, AB, BE, st, mt, hK1, hT1, hM, hL1, hg⟩ (md_F.of hf1)) d_Md_holds_73
    · skip
      exact absurd c_53 (by decide)
set_option maxHeartbeats 4000000 in
set_option maxRecDepth 100000 in
theorem c_Md_decide (cd : Int32) (n : Nat) (g : Nat → abn) (sz : Nat) (M : Nat → Option va_E) (hD : md_D md kd on tw nu le fx fy si de ne it po ma ab be li fr to) (hJ : md_J cI cJ cZ md kd on tw nu le fx fy si de ne it po ma ab be li fr to M cd n g) (x1 : Int32) : Met l y_Md_decide (.code y_Md_decide b_Md_decide 2 (some .boolean) :: ww) ({ frames := 9, cells := 0, slots := 0, locals := 300 }) (hw_Pc D qcl (qty cI cJ cZ cN) [.ref md, .int x1] M sz) (va_Qi (fun r M1 => md_A cI cJ cZ md kd on tw nu le fx fy si de ne it po ma ab be li fr to n g (cDecide n g x1) (it_b r (aP (g (ix x1)) 0 0)) M M1) (hw_B D qcl (qty cI cJ cZ cN) M sz) (hw_A M sz)) 0 0 (hw_A M sz) := by
  obtain ⟨up, dn, pz, NE, IT, PO, MA, AB, BE, st, mt, hK, hT, hM, hL, hg⟩ := hJ
  have hn := hM.1
  refine hw_met (by decide) (Nat.le_of_ble_eq_true rfl) ?_
  intro p e s m below meth c hx hb hr hml hown hlocks hnm hts hsz hX hW ls hl
  subst hsz
  have hA : ∀ q, s.heap.size ≤ q → hw_A M s.heap.size q := fun q h => Or.inr h
  have hS : va_S (hw_A M s.heap.size) s.heap s.heap [] := va_S.rf
  have hl : lv_has ls 2 [(0, .ref md), (1, .int x1)] := hl
  have hown : s.vm.findClass "QuantifierOutModel" = some m.cls := hown
  obtain ⟨Q9, hQ9⟩ : ∃ X : State → Prop, X = MQ below (va_Qi (fun r M1 => md_A cI cJ cZ md kd on tw nu le fx fy si de ne it po ma ab be li fr to n g (cDecide n g x1) (it_b r (aP (g (ix x1)) 0 0)) M M1) (hw_B D qcl (qty cI cJ cZ cN) M s.heap.size) (hw_A M s.heap.size)) [.ref md, .int x1].toArray s 0 0 (hw_A M s.heap.size) := ⟨_, rfl⟩
  rw [← hQ9]
  have w_md := hK.1
  have w_md : M md = some (.inr (8, [.int cd, .int (nI n), .ref kd, .ref on, .ref tw, .ref nu, .ref le, .ref fx, .ref fy, .ref si, .ref de, .ref ne, .ref it, .ref po, .ref ma, .ref ab, .ref be, .long up, .long dn, .ref li, .int pz, .ref fr, .ref to])) := w_md
  refine lv_aload_n hx hb d_Md_decide_0 rfl (lv_at hl 0 rfl) ?_
  refine lv_aload_n hx hb d_Md_decide_1 rfl (lv_at hl 0 rfl) ?_
  refine lv_iload_n hx hb d_Md_decide_2 rfl (lv_at hl 1 rfl) ?_
  refine hw_calli (hw_runV (n := 1) (own := "QuantifierOutModel") (As := [.int x1]) (rest := [.ref md]) hx hb hml hown hts hX hW hl.1 (c_Md_isNode l D cI cJ cZ cN md kd on tw nu le fx fy si de ne it po ma ab be li fr to cd n up dn pz _ M w_md hn x1) w_md rfl tw_700 tw_702 ts_13 tw_5 tw_703 (by decide +kernel) rfl rfl ⟨by decide, by decide⟩ rfl rfl (Nat.le_of_ble_eq_true rfl) d_Md_decide_3 ⟨by decide, by decide⟩) hW hS hA (fun rx Mi9 H locs hpi hz hW hS => ?_)
  obtain ⟨hb_rx, eMi9⟩ := hpi
  rw [eMi9] at hW
  refine lv_if_ne (tgt := 13) hx hb d_Md_decide_6 (by decide) (fun c_6 => ?_) (fun c_6 => ?_)
  · skip
    obtain ⟨a, ha, rfl⟩ := it_b1 hb_rx c_6
    obtain ⟨q1, hq1, eq1⟩ := hg a ha
    obtain ⟨-, hr1, hmo1, hc1⟩ := hM.2.2 a q1 hq1
    have hga1 : g (ix (nI a)) = abq q1 := by rw [ix_nI (by omega)]; exact eq1.symm
    have his1 : isn n (nI a) := (isn_iff hn).mp ⟨a, ha, rfl⟩
    have hb5 : it_b (st 5 a) (nx q1 = true) := by rw [hc1.1]; cases h9 : nx q1; exact Or.inr ⟨rfl, (fun z => by cases z)⟩; exact Or.inl ⟨rfl, rfl⟩
    have hb6 : it_b (st 6 a) (ny q1 = true) := by rw [hc1.2.1]; cases h9 : ny q1; exact Or.inr ⟨rfl, (fun z => by cases z)⟩; exact Or.inl ⟨rfl, rfl⟩
    have hxx : aX (g (ix (nI a))) = nx q1 ∧ aY (g (ix (nI a))) = ny q1 := by rw [hga1]; exact ⟨rfl, rfl⟩
    have t_fx : M fx = some (.inl (cZ, 60, .inl (st 5))) := hT.2.2.2.2.2.1
    have t_fy : M fy = some (.inl (cZ, 60, .inl (st 6))) := hT.2.2.2.2.2.2.1
    refine lv_aload_n hx hb d_Md_decide_13 rfl (lv_at hl 0 rfl) ?_
    refine hw_get (own := "QuantifierOutModel") (v := .ref fx) hx hb hts i_Md hown hW w_md rfl 7 (by decide) (hts _ tw_610) (fun _ h9 => h9) rfl d_Md_decide_14 ?_
    refine lv_iload_n hx hb d_Md_decide_17 rfl (lv_at hl 1 rfl) ?_
    refine hw_zld hx hb hW 2 t_fx rfl a rfl (by omega) (by decide) d_Md_decide_18 ?_
    refine lv_if_ne (tgt := 31) hx hb d_Md_decide_19 (by decide) (fun c_19 => ?_) (fun c_19 => ?_)
    · skip
      refine lv_iconst (v := 2) hx hb d_Md_decide_31 (by decide) ?_
      refine lv_goto (tgt := 36) hx hb d_Md_decide_32 (by decide) ?_
      refine hw_put (own := "QuantifierOutModel") (v := .int 2) (ty := .int) hx hb hts i_Md ft_Md tk_Md n_Md hown hW hS w_md rfl 0 (by decide) (hts _ tw_603) (fun _ h9 => h9) rfl (tk_Md 0 (by decide)) rfl rfl (Nat.le_of_ble_eq_true rfl) d_Md_decide_36 (fun H locs hW hS => ?_)
      have hW : hw_W D qcl (qty cI cJ cZ cN) _ (va_up M md (some (.inr (8, [.int 2, .int (nI n), .ref kd, .ref on, .ref tw, .ref nu, .ref le, .ref fx, .ref fy, .ref si, .ref de, .ref ne, .ref it, .ref po, .ref ma, .ref ab, .ref be, .long up, .long dn, .ref li, .int pz, .ref fr, .ref to])))) s H := hW
      generalize hMw1 : va_up M md (some (.inr (8, [.int 2, .int (nI n), .ref kd, .ref on, .ref tw, .ref nu, .ref le, .ref fx, .ref fy, .ref si, .ref de, .ref ne, .ref it, .ref po, .ref ma, .ref ab, .ref be, .long up, .long dn, .ref li, .int pz, .ref fr, .ref to]))) = Mw1 at hW
      have t_fx : Mw1 fx = some (.inl (cZ, 60, .inl (st 5))) := by rw [← hMw1, va_up_ne _ _ (Ne.symm (show md ≠ fx from hD 0 6 (by decide) (by decide)))]; exact t_fx
      have t_fy : Mw1 fy = some (.inl (cZ, 60, .inl (st 6))) := by rw [← hMw1, va_up_ne _ _ (Ne.symm (show md ≠ fy from hD 0 7 (by decide) (by decide)))]; exact t_fy
      have w_md : Mw1 md = some (.inr (8, [.int 2, .int (nI n), .ref kd, .ref on, .ref tw, .ref nu, .ref le, .ref fx, .ref fy, .ref si, .ref de, .ref ne, .ref it, .ref po, .ref ma, .ref ab, .ref be, .long up, .long dn, .ref li, .int pz, .ref fr, .ref to])) := by rw [← hMw1]; exact va_up_self _ _ _
      have hfr_Mw1 : ∀ x9, x9 ≠ md → Mw1 x9 = M x9 := fun x9 z9 => by rw [← hMw1, va_up_ne _ _ z9]
      refine lv_aload_n hx hb d_Md_decide_39 rfl (lv_at hl 0 rfl) ?_
      refine hw_get (own := "QuantifierOutModel") (v := .int 2) hx hb hts i_Md hown hW w_md rfl 0 (by decide) (hts _ tw_603) (fun _ h9 => h9) rfl d_Md_decide_40 ?_
      have hK1 : md_W cI cJ cZ md kd on tw nu le fx fy si de ne it po ma ab be li fr to Mw1 (nI 2) n up dn pz NE IT PO MA AB BE := md_W.cd hD hK w_md hfr_Mw1
      have hf1 : ∀ x9, x9 ≠ md → x9 ≠ ne → x9 ≠ it → x9 ≠ po → x9 ≠ ma → x9 ≠ ab → x9 ≠ be → Mw1 x9 = M x9 := fun x9 z0 z1 z2 z3 z4 z5 z6 => hfr_Mw1 x9 z0
      have hT1 := md_T.kept hD hT hf1
      have hL1 := md_L.kept hD hL hf1
      refine lv_if_ne (tgt := 60) hx hb d_Md_decide_43 (by decide) (fun c_43 => ?_) (fun c_43 => ?_)
      · skip
        refine lv_iconst (v := 0) hx hb d_Md_decide_60 (by decide) ?_
        rw [hQ9]
        exact hw_retz hx hb hr rfl hlocks hW hS (md_A.no (by unfold cDecide; rw [if_neg (fun z => z his1), hxx.1, hxx.2, if_pos (Or.inl (it_b1 hb5 c_19))]) (by decide) ⟨up, dn, pz, NE, IT, PO, MA, AB, BE, st, mt, hK1, hT1, hM, hL1, hg⟩ (md_F.of hf1)) d_Md_decide_61
      · skip
        exact absurd c_43 (by decide)
    · skip
      refine lv_aload_n hx hb d_Md_decide_22 rfl (lv_at hl 0 rfl) ?_
      refine hw_get (own := "QuantifierOutModel") (v := .ref fy) hx hb hts i_Md hown hW w_md rfl 8 (by decide) (hts _ tw_611) (fun _ h9 => h9) rfl d_Md_decide_23 ?_
      refine lv_iload_n hx hb d_Md_decide_26 rfl (lv_at hl 1 rfl) ?_
      refine hw_zld hx hb hW 2 t_fy rfl a rfl (by omega) (by decide) d_Md_decide_27 ?_
      refine lv_if_eq (tgt := 35) hx hb d_Md_decide_28 (by decide) (fun c_28 => ?_) (fun c_28 => ?_)
      · skip
        have hcc : cDecide n g (nI a) = 0 := by unfold cDecide; rw [if_neg (fun z => z his1), hxx.1, hxx.2, if_neg (fun z => z.elim (it_b0 hb5 c_19) (it_b0 hb6 c_28))]
        refine lv_iconst (v := 0) hx hb d_Md_decide_35 (by decide) ?_
        refine hw_put (own := "QuantifierOutModel") (v := .int 0) (ty := .int) hx hb hts i_Md ft_Md tk_Md n_Md hown hW hS w_md rfl 0 (by decide) (hts _ tw_603) (fun _ h9 => h9) rfl (tk_Md 0 (by decide)) rfl rfl (Nat.le_of_ble_eq_true rfl) d_Md_decide_36 (fun H locs hW hS => ?_)
        have hW : hw_W D qcl (qty cI cJ cZ cN) _ (va_up M md (some (.inr (8, [.int 0, .int (nI n), .ref kd, .ref on, .ref tw, .ref nu, .ref le, .ref fx, .ref fy, .ref si, .ref de, .ref ne, .ref it, .ref po, .ref ma, .ref ab, .ref be, .long up, .long dn, .ref li, .int pz, .ref fr, .ref to])))) s H := hW
        generalize hMw2 : va_up M md (some (.inr (8, [.int 0, .int (nI n), .ref kd, .ref on, .ref tw, .ref nu, .ref le, .ref fx, .ref fy, .ref si, .ref de, .ref ne, .ref it, .ref po, .ref ma, .ref ab, .ref be, .long up, .long dn, .ref li, .int pz, .ref fr, .ref to]))) = Mw2 at hW
        have t_fx : Mw2 fx = some (.inl (cZ, 60, .inl (st 5))) := by rw [← hMw2, va_up_ne _ _ (Ne.symm (show md ≠ fx from hD 0 6 (by decide) (by decide)))]; exact t_fx
        have t_fy : Mw2 fy = some (.inl (cZ, 60, .inl (st 6))) := by rw [← hMw2, va_up_ne _ _ (Ne.symm (show md ≠ fy from hD 0 7 (by decide) (by decide)))]; exact t_fy
        have w_md : Mw2 md = some (.inr (8, [.int 0, .int (nI n), .ref kd, .ref on, .ref tw, .ref nu, .ref le, .ref fx, .ref fy, .ref si, .ref de, .ref ne, .ref it, .ref po, .ref ma, .ref ab, .ref be, .long up, .long dn, .ref li, .int pz, .ref fr, .ref to])) := by rw [← hMw2]; exact va_up_self _ _ _
        have hfr_Mw2 : ∀ x9, x9 ≠ md → Mw2 x9 = M x9 := fun x9 z9 => by rw [← hMw2, va_up_ne _ _ z9]
        refine lv_aload_n hx hb d_Md_decide_39 rfl (lv_at hl 0 rfl) ?_
        refine hw_get (own := "QuantifierOutModel") (v := .int 0) hx hb hts i_Md hown hW w_md rfl 0 (by decide) (hts _ tw_603) (fun _ h9 => h9) rfl d_Md_decide_40 ?_
        have hK1 : md_W cI cJ cZ md kd on tw nu le fx fy si de ne it po ma ab be li fr to Mw2 (nI 0) n up dn pz NE IT PO MA AB BE := md_W.cd hD hK w_md hfr_Mw2
        have hf1 : ∀ x9, x9 ≠ md → x9 ≠ ne → x9 ≠ it → x9 ≠ po → x9 ≠ ma → x9 ≠ ab → x9 ≠ be → Mw2 x9 = M x9 := fun x9 z0 z1 z2 z3 z4 z5 z6 => hfr_Mw2 x9 z0
        have hT1 := md_T.kept hD hT hf1
        have hL1 := md_L.kept hD hL hf1
        refine lv_if_ne (tgt := 60) hx hb d_Md_decide_43 (by decide) (fun c_43 => ?_) (fun c_43 => ?_)
        · skip
          exact absurd rfl c_43
        · skip
          refine lv_aload_n hx hb d_Md_decide_46 rfl (lv_at hl 0 rfl) ?_
          refine lv_iload_n hx hb d_Md_decide_47 rfl (lv_at hl 1 rfl) ?_
          refine lv_lconst (v := 0) hx hb d_Md_decide_48 (by decide) ?_
          refine lv_lconst (v := 0) hx hb d_Md_decide_49 (by decide) ?_
          refine hw_calli (hw_runV (n := 3) (own := "QuantifierOutModel") (As := [.int (nI a), .long 0, .long 0]) (rest := []) hx hb hml hown hts hX hW hl.1 (c_Md_at l D cI cJ cZ cN md kd on tw nu le fx fy si de ne it po ma ab be li fr to (nI 0) n up dn pz NE IT PO MA AB BE a _ 0 0 q1 mt st Mw2 hD hK1 hT1 hM hq1 (by decide) (by decide)) hK1.1 rfl tw_739 tw_741 ts_15 tw_5 tw_742 (by decide +kernel) rfl rfl ⟨by decide, by decide⟩ rfl rfl (Nat.le_of_ble_eq_true rfl) d_Md_decide_50 ⟨by decide, by decide⟩) hW hS hA (fun rt Mt H locs hpt hz hW hS => ?_)
          obtain ⟨hrt, u2, d2, NE2, IT2, PO2, MA2, AB2, BE2, hK29, hf29⟩ := hpt
          have hpr : aP (g (ix (nI a))) = nP q1 := by rw [hga1]; rfl
          have hrt : it_b rt (nP q1 0 0) := hrt
          refine lv_if_eq (tgt := 60) hx hb d_Md_decide_53 (by decide) (fun c_53 => ?_) (fun c_53 => ?_)
          · skip
            refine lv_iconst (v := 0) hx hb d_Md_decide_60 (by decide) ?_
            rw [hQ9]
            exact hw_retz hx hb hr rfl hlocks hW hS (md_A.yes hcc (by rw [hpr]; exact Or.inr ⟨rfl, it_b0 hrt c_53⟩) ⟨u2, d2, pz, NE2, IT2, PO2, MA2, AB2, BE2, st, mt, hK29, md_T.kept hD hT1 hf29, hM, md_L.kept hD hL1 hf29, hg⟩ (md_F.tr (md_F.of hf1) (md_F.of hf29))) d_Md_decide_61
          · skip
            refine lv_iconst (v := 1) hx hb d_Md_decide_56 (by decide) ?_
            refine lv_goto (tgt := 61) hx hb d_Md_decide_57 (by decide) ?_
            rw [hQ9]
            exact hw_retz hx hb hr rfl hlocks hW hS (md_A.yes hcc (by rw [hpr]; exact Or.inl ⟨rfl, it_b1 hrt c_53⟩) ⟨u2, d2, pz, NE2, IT2, PO2, MA2, AB2, BE2, st, mt, hK29, md_T.kept hD hT1 hf29, hM, md_L.kept hD hL1 hf29, hg⟩ (md_F.tr (md_F.of hf1) (md_F.of hf29))) d_Md_decide_61
      · skip
        refine lv_iconst (v := 2) hx hb d_Md_decide_31 (by decide) ?_
        refine lv_goto (tgt := 36) hx hb d_Md_decide_32 (by decide) ?_
        refine hw_put (own := "QuantifierOutModel") (v := .int 2) (ty := .int) hx hb hts i_Md ft_Md tk_Md n_Md hown hW hS w_md rfl 0 (by decide) (hts _ tw_603) (fun _ h9 => h9) rfl (tk_Md 0 (by decide)) rfl rfl (Nat.le_of_ble_eq_true rfl) d_Md_decide_36 (fun H locs hW hS => ?_)
        have hW : hw_W D qcl (qty cI cJ cZ cN) _ (va_up M md (some (.inr (8, [.int 2, .int (nI n), .ref kd, .ref on, .ref tw, .ref nu, .ref le, .ref fx, .ref fy, .ref si, .ref de, .ref ne, .ref it, .ref po, .ref ma, .ref ab, .ref be, .long up, .long dn, .ref li, .int pz, .ref fr, .ref to])))) s H := hW
        generalize hMw3 : va_up M md (some (.inr (8, [.int 2, .int (nI n), .ref kd, .ref on, .ref tw, .ref nu, .ref le, .ref fx, .ref fy, .ref si, .ref de, .ref ne, .ref it, .ref po, .ref ma, .ref ab, .ref be, .long up, .long dn, .ref li, .int pz, .ref fr, .ref to]))) = Mw3 at hW
        have t_fx : Mw3 fx = some (.inl (cZ, 60, .inl (st 5))) := by rw [← hMw3, va_up_ne _ _ (Ne.symm (show md ≠ fx from hD 0 6 (by decide) (by decide)))]; exact t_fx
        have t_fy : Mw3 fy = some (.inl (cZ, 60, .inl (st 6))) := by rw [← hMw3, va_up_ne _ _ (Ne.symm (show md ≠ fy from hD 0 7 (by decide) (by decide)))]; exact t_fy
        have w_md : Mw3 md = some (.inr (8, [.int 2, .int (nI n), .ref kd, .ref on, .ref tw, .ref nu, .ref le, .ref fx, .ref fy, .ref si, .ref de, .ref ne, .ref it, .ref po, .ref ma, .ref ab, .ref be, .long up, .long dn, .ref li, .int pz, .ref fr, .ref to])) := by rw [← hMw3]; exact va_up_self _ _ _
        have hfr_Mw3 : ∀ x9, x9 ≠ md → Mw3 x9 = M x9 := fun x9 z9 => by rw [← hMw3, va_up_ne _ _ z9]
        refine lv_aload_n hx hb d_Md_decide_39 rfl (lv_at hl 0 rfl) ?_
        refine hw_get (own := "QuantifierOutModel") (v := .int 2) hx hb hts i_Md hown hW w_md rfl 0 (by decide) (hts _ tw_603) (fun _ h9 => h9) rfl d_Md_decide_40 ?_
        have hK1 : md_W cI cJ cZ md kd on tw nu le fx fy si de ne it po ma ab be li fr to Mw3 (nI 2) n up dn pz NE IT PO MA AB BE := md_W.cd hD hK w_md hfr_Mw3
        have hf1 : ∀ x9, x9 ≠ md → x9 ≠ ne → x9 ≠ it → x9 ≠ po → x9 ≠ ma → x9 ≠ ab → x9 ≠ be → Mw3 x9 = M x9 := fun x9 z0 z1 z2 z3 z4 z5 z6 => hfr_Mw3 x9 z0
        have hT1 := md_T.kept hD hT hf1
        have hL1 := md_L.kept hD hL hf1
        refine lv_if_ne (tgt := 60) hx hb d_Md_decide_43 (by decide) (fun c_43 => ?_) (fun c_43 => ?_)
        · skip
          refine lv_iconst (v := 0) hx hb d_Md_decide_60 (by decide) ?_
          rw [hQ9]
          exact hw_retz hx hb hr rfl hlocks hW hS (md_A.no (by unfold cDecide; rw [if_neg (fun z => z his1), hxx.1, hxx.2, if_pos (Or.inr (it_b1 hb6 c_28))]) (by decide) ⟨up, dn, pz, NE, IT, PO, MA, AB, BE, st, mt, hK1, hT1, hM, hL1, hg⟩ (md_F.of hf1)) d_Md_decide_61
        · skip
          exact absurd c_43 (by decide)
  · skip
    refine lv_iconst (v := 1) hx hb d_Md_decide_9 (by decide) ?_
    refine lv_goto (tgt := 36) hx hb d_Md_decide_10 (by decide) ?_
    refine hw_put (own := "QuantifierOutModel") (v := .int 1) (ty := .int) hx hb hts i_Md ft_Md tk_Md n_Md hown hW hS w_md rfl 0 (by decide) (hts _ tw_603) (fun _ h9 => h9) rfl (tk_Md 0 (by decide)) rfl rfl (Nat.le_of_ble_eq_true rfl) d_Md_decide_36 (fun H locs hW hS => ?_)
    have hW : hw_W D qcl (qty cI cJ cZ cN) _ (va_up M md (some (.inr (8, [.int 1, .int (nI n), .ref kd, .ref on, .ref tw, .ref nu, .ref le, .ref fx, .ref fy, .ref si, .ref de, .ref ne, .ref it, .ref po, .ref ma, .ref ab, .ref be, .long up, .long dn, .ref li, .int pz, .ref fr, .ref to])))) s H := hW
    generalize hMw4 : va_up M md (some (.inr (8, [.int 1, .int (nI n), .ref kd, .ref on, .ref tw, .ref nu, .ref le, .ref fx, .ref fy, .ref si, .ref de, .ref ne, .ref it, .ref po, .ref ma, .ref ab, .ref be, .long up, .long dn, .ref li, .int pz, .ref fr, .ref to]))) = Mw4 at hW
    have w_md : Mw4 md = some (.inr (8, [.int 1, .int (nI n), .ref kd, .ref on, .ref tw, .ref nu, .ref le, .ref fx, .ref fy, .ref si, .ref de, .ref ne, .ref it, .ref po, .ref ma, .ref ab, .ref be, .long up, .long dn, .ref li, .int pz, .ref fr, .ref to])) := by rw [← hMw4]; exact va_up_self _ _ _
    have hfr_Mw4 : ∀ x9, x9 ≠ md → Mw4 x9 = M x9 := fun x9 z9 => by rw [← hMw4, va_up_ne _ _ z9]
    refine lv_aload_n hx hb d_Md_decide_39 rfl (lv_at hl 0 rfl) ?_
    refine hw_get (own := "QuantifierOutModel") (v := .int 1) hx hb hts i_Md hown hW w_md rfl 0 (by decide) (hts _ tw_603) (fun _ h9 => h9) rfl d_Md_decide_40 ?_
    have hK1 : md_W cI cJ cZ md kd on tw nu le fx fy si de ne it po ma ab be li fr to Mw4 (nI 1) n up dn pz NE IT PO MA AB BE := md_W.cd hD hK w_md hfr_Mw4
    have hf1 : ∀ x9, x9 ≠ md → x9 ≠ ne → x9 ≠ it → x9 ≠ po → x9 ≠ ma → x9 ≠ ab → x9 ≠ be → Mw4 x9 = M x9 := fun x9 z0 z1 z2 z3 z4 z5 z6 => hfr_Mw4 x9 z0
    have hT1 := md_T.kept hD hT hf1
    have hL1 := md_L.kept hD hL hf1
    refine lv_if_ne (tgt := 60) hx hb d_Md_decide_43 (by decide) (fun c_43 => ?_) (fun c_43 => ?_)
    · skip
      refine lv_iconst (v := 0) hx hb d_Md_decide_60 (by decide) ?_
      rw [hQ9]
      exact hw_retz hx hb hr rfl hlocks hW hS (md_A.no (by unfold cDecide; rw [if_pos (fun h => it_b0 hb_rx c_6 ((isn_iff hn).mpr h))]) (by decide) ⟨up, dn, pz, NE, IT, PO, MA, AB, BE, st, mt, hK1, hT1, hM, hL1, hg⟩ (md_F.of hf1)) d_Md_decide_61
    · skip
      exact absurd c_43 (by decide)
set_option maxHeartbeats 4000000 in
set_option maxRecDepth 100000 in
theorem c_Md_alike (cd : Int32) (n : Nat) (g : Nat → abn) (sz : Nat) (M : Nat → Option va_E) (hD : md_D md kd on tw nu le fx fy si de ne it po ma ab be li fr to) (hJ : md_J cI cJ cZ md kd on tw nu le fx fy si de ne it po ma ab be li fr to M cd n g) (x1 y1 : Int32) : Met l y_Md_alike (.code y_Md_alike b_Md_alike 5 (some .boolean) :: ww) ({ frames := 10, cells := 0, slots := 0, locals := 320 }) (hw_Pc D qcl (qty cI cJ cZ cN) [.ref md, .int x1, .int y1] M sz) (va_Qi (fun r M1 => md_A cI cJ cZ md kd on tw nu le fx fy si de ne it po ma ab be li fr to n g (cAlike n x1 y1) (it_b r (∀ t, t < 25 → (gP (aP (g (ix x1))) t ↔ gP (aP (g (ix y1))) t))) M M1) (hw_B D qcl (qty cI cJ cZ cN) M sz) (hw_A M sz)) 0 0 (hw_A M sz) := by
  obtain ⟨up, dn, pz, NE, IT, PO, MA, AB, BE, st, mt, hK, hT, hM, hL, hg⟩ := hJ
  have hn := hM.1
  refine hw_met (by decide) (Nat.le_of_ble_eq_true rfl) ?_
  intro p e s m below meth c hx hb hr hml hown hlocks hnm hts hsz hX hW ls hl
  subst hsz
  have hA : ∀ q, s.heap.size ≤ q → hw_A M s.heap.size q := fun q h => Or.inr h
  have hS : va_S (hw_A M s.heap.size) s.heap s.heap [] := va_S.rf
  have hl : lv_has ls 5 [(0, .ref md), (1, .int x1), (2, .int y1)] := hl
  have hown : s.vm.findClass "QuantifierOutModel" = some m.cls := hown
  obtain ⟨Q9, hQ9⟩ : ∃ X : State → Prop, X = MQ below (va_Qi (fun r M1 => md_A cI cJ cZ md kd on tw nu le fx fy si de ne it po ma ab be li fr to n g (cAlike n x1 y1) (it_b r (∀ t, t < 25 → (gP (aP (g (ix x1))) t ↔ gP (aP (g (ix y1))) t))) M M1) (hw_B D qcl (qty cI cJ cZ cN) M s.heap.size) (hw_A M s.heap.size)) [.ref md, .int x1, .int y1].toArray s 0 0 (hw_A M s.heap.size) := ⟨_, rfl⟩
  rw [← hQ9]
  have w_md := hK.1
  have w_md : M md = some (.inr (8, [.int cd, .int (nI n), .ref kd, .ref on, .ref tw, .ref nu, .ref le, .ref fx, .ref fy, .ref si, .ref de, .ref ne, .ref it, .ref po, .ref ma, .ref ab, .ref be, .long up, .long dn, .ref li, .int pz, .ref fr, .ref to])) := w_md
  refine lv_aload_n hx hb d_Md_alike_0 rfl (lv_at hl 0 rfl) ?_
  refine lv_aload_n hx hb d_Md_alike_1 rfl (lv_at hl 0 rfl) ?_
  refine lv_iload_n hx hb d_Md_alike_2 rfl (lv_at hl 1 rfl) ?_
  refine hw_calli (hw_runV (n := 1) (own := "QuantifierOutModel") (As := [.int x1]) (rest := [.ref md]) hx hb hml hown hts hX hW hl.1 (c_Md_isNode l D cI cJ cZ cN md kd on tw nu le fx fy si de ne it po ma ab be li fr to cd n up dn pz _ M w_md hn x1) w_md rfl tw_700 tw_702 ts_13 tw_5 tw_703 (by decide +kernel) rfl rfl ⟨by decide, by decide⟩ rfl rfl (Nat.le_of_ble_eq_true rfl) d_Md_alike_3 ⟨by decide, by decide⟩) hW hS hA (fun rx Mi9 H locs hpi hz hW hS => ?_)
  obtain ⟨hb_rx, eMi9⟩ := hpi
  rw [eMi9] at hW
  refine lv_if_eq (tgt := 21) hx hb d_Md_alike_6 (by decide) (fun c_6 => ?_) (fun c_6 => ?_)
  · skip
    refine lv_iconst (v := 1) hx hb d_Md_alike_21 (by decide) ?_
    refine hw_put (own := "QuantifierOutModel") (v := .int 1) (ty := .int) hx hb hts i_Md ft_Md tk_Md n_Md hown hW hS w_md rfl 0 (by decide) (hts _ tw_603) (fun _ h9 => h9) rfl (tk_Md 0 (by decide)) rfl rfl (Nat.le_of_ble_eq_true rfl) d_Md_alike_22 (fun H locs hW hS => ?_)
    have hW : hw_W D qcl (qty cI cJ cZ cN) _ (va_up M md (some (.inr (8, [.int 1, .int (nI n), .ref kd, .ref on, .ref tw, .ref nu, .ref le, .ref fx, .ref fy, .ref si, .ref de, .ref ne, .ref it, .ref po, .ref ma, .ref ab, .ref be, .long up, .long dn, .ref li, .int pz, .ref fr, .ref to])))) s H := hW
    generalize hMw1 : va_up M md (some (.inr (8, [.int 1, .int (nI n), .ref kd, .ref on, .ref tw, .ref nu, .ref le, .ref fx, .ref fy, .ref si, .ref de, .ref ne, .ref it, .ref po, .ref ma, .ref ab, .ref be, .long up, .long dn, .ref li, .int pz, .ref fr, .ref to]))) = Mw1 at hW
    have w_md : Mw1 md = some (.inr (8, [.int 1, .int (nI n), .ref kd, .ref on, .ref tw, .ref nu, .ref le, .ref fx, .ref fy, .ref si, .ref de, .ref ne, .ref it, .ref po, .ref ma, .ref ab, .ref be, .long up, .long dn, .ref li, .int pz, .ref fr, .ref to])) := by rw [← hMw1]; exact va_up_self _ _ _
    have hfr_Mw1 : ∀ x9, x9 ≠ md → Mw1 x9 = M x9 := fun x9 z9 => by rw [← hMw1, va_up_ne _ _ z9]
    refine lv_bipush (v := (-2)) hx hb d_Md_alike_25 (by decide) ?_
    refine lv_istore_n (lv' := [(3, .int (-2)), (0, .ref md), (1, .int x1), (2, .int y1)]) hx hb d_Md_alike_27 rfl hl (by decide) rfl (fun ls hl => ?_)
    refine lv_iload_n hx hb d_Md_alike_28 rfl (lv_at hl 0 rfl) ?_
    refine lv_iconst (v := 3) hx hb d_Md_alike_29 (by decide) ?_
    have hK1 : md_W cI cJ cZ md kd on tw nu le fx fy si de ne it po ma ab be li fr to Mw1 (nI 1) n up dn pz NE IT PO MA AB BE := md_W.cd hD hK w_md hfr_Mw1
    have hf1 : ∀ x9, x9 ≠ md → x9 ≠ ne → x9 ≠ it → x9 ≠ po → x9 ≠ ma → x9 ≠ ab → x9 ≠ be → Mw1 x9 = M x9 := fun x9 z0 z1 z2 z3 z4 z5 z6 => hfr_Mw1 x9 z0
    have hT1 := md_T.kept hD hT hf1
    have hL1 := md_L.kept hD hL hf1
    refine lv_icmp_ge (tgt := 87) hx hb d_Md_alike_30 (by decide) (fun c_30 => ?_) (fun c_30 => ?_)
    · skip
      exact absurd c_30 (by decide)
    · skip
      refine lv_aload_n hx hb d_Md_alike_33 rfl (lv_at hl 1 rfl) ?_
      refine hw_get (own := "QuantifierOutModel") (v := .int 1) hx hb hts i_Md hown hW w_md rfl 0 (by decide) (hts _ tw_603) (fun _ h9 => h9) rfl d_Md_alike_34 ?_
      refine lv_if_ne (tgt := 87) hx hb d_Md_alike_37 (by decide) (fun c_37 => ?_) (fun c_37 => ?_)
      · skip
        refine lv_aload_n hx hb d_Md_alike_87 rfl (lv_at hl 1 rfl) ?_
        refine hw_get (own := "QuantifierOutModel") (v := .int 1) hx hb hts i_Md hown hW w_md rfl 0 (by decide) (hts _ tw_603) (fun _ h9 => h9) rfl d_Md_alike_88 ?_
        refine lv_if_ne (tgt := 98) hx hb d_Md_alike_91 (by decide) (fun c_91 => ?_) (fun c_91 => ?_)
        · skip
          refine lv_iconst (v := 0) hx hb d_Md_alike_98 (by decide) ?_
          rw [hQ9]
          exact hw_retz hx hb hr rfl hlocks hW hS (md_A.no (by unfold cAlike; rw [if_neg (fun h => it_b0 hb_rx c_6 ((isn_iff hn).mpr h.1))]) (by decide) ⟨up, dn, pz, NE, IT, PO, MA, AB, BE, st, mt, hK1, hT1, hM, hL1, hg⟩ (md_F.of hf1)) d_Md_alike_99
        · skip
          exact absurd c_91 (by decide)
      · skip
        exact absurd c_37 (by decide)
  · skip
    obtain ⟨a, ha, rfl⟩ := it_b1 hb_rx c_6
    obtain ⟨q1, hq1, eq1⟩ := hg a ha
    obtain ⟨-, hr1, hmo1, hc1⟩ := hM.2.2 a q1 hq1
    have hga1 : g (ix (nI a)) = abq q1 := by rw [ix_nI (by omega)]; exact eq1.symm
    have his1 : isn n (nI a) := (isn_iff hn).mp ⟨a, ha, rfl⟩
    refine lv_aload_n hx hb d_Md_alike_9 rfl (lv_at hl 0 rfl) ?_
    refine lv_iload_n hx hb d_Md_alike_10 rfl (lv_at hl 2 rfl) ?_
    refine hw_calli (hw_runV (n := 1) (own := "QuantifierOutModel") (As := [.int y1]) (rest := [.ref md]) hx hb hml hown hts hX hW hl.1 (c_Md_isNode l D cI cJ cZ cN md kd on tw nu le fx fy si de ne it po ma ab be li fr to cd n up dn pz _ M w_md hn y1) w_md rfl tw_700 tw_702 ts_13 tw_5 tw_703 (by decide +kernel) rfl rfl ⟨by decide, by decide⟩ rfl rfl (Nat.le_of_ble_eq_true rfl) d_Md_alike_11 ⟨by decide, by decide⟩) hW hS hA (fun ry Mi9 H locs hpi hz hW hS => ?_)
    obtain ⟨hb_ry, eMi9⟩ := hpi
    rw [eMi9] at hW
    refine lv_if_eq (tgt := 21) hx hb d_Md_alike_14 (by decide) (fun c_14 => ?_) (fun c_14 => ?_)
    · skip
      refine lv_iconst (v := 1) hx hb d_Md_alike_21 (by decide) ?_
      refine hw_put (own := "QuantifierOutModel") (v := .int 1) (ty := .int) hx hb hts i_Md ft_Md tk_Md n_Md hown hW hS w_md rfl 0 (by decide) (hts _ tw_603) (fun _ h9 => h9) rfl (tk_Md 0 (by decide)) rfl rfl (Nat.le_of_ble_eq_true rfl) d_Md_alike_22 (fun H locs hW hS => ?_)
      have hW : hw_W D qcl (qty cI cJ cZ cN) _ (va_up M md (some (.inr (8, [.int 1, .int (nI n), .ref kd, .ref on, .ref tw, .ref nu, .ref le, .ref fx, .ref fy, .ref si, .ref de, .ref ne, .ref it, .ref po, .ref ma, .ref ab, .ref be, .long up, .long dn, .ref li, .int pz, .ref fr, .ref to])))) s H := hW
      generalize hMw2 : va_up M md (some (.inr (8, [.int 1, .int (nI n), .ref kd, .ref on, .ref tw, .ref nu, .ref le, .ref fx, .ref fy, .ref si, .ref de, .ref ne, .ref it, .ref po, .ref ma, .ref ab, .ref be, .long up, .long dn, .ref li, .int pz, .ref fr, .ref to]))) = Mw2 at hW
      have w_md : Mw2 md = some (.inr (8, [.int 1, .int (nI n), .ref kd, .ref on, .ref tw, .ref nu, .ref le, .ref fx, .ref fy, .ref si, .ref de, .ref ne, .ref it, .ref po, .ref ma, .ref ab, .ref be, .long up, .long dn, .ref li, .int pz, .ref fr, .ref to])) := by rw [← hMw2]; exact va_up_self _ _ _
      have hfr_Mw2 : ∀ x9, x9 ≠ md → Mw2 x9 = M x9 := fun x9 z9 => by rw [← hMw2, va_up_ne _ _ z9]
      refine lv_bipush (v := (-2)) hx hb d_Md_alike_25 (by decide) ?_
      refine lv_istore_n (lv' := [(3, .int (-2)), (0, .ref md), (1, .int (nI a)), (2, .int y1)]) hx hb d_Md_alike_27 rfl hl (by decide) rfl (fun ls hl => ?_)
      refine lv_iload_n hx hb d_Md_alike_28 rfl (lv_at hl 0 rfl) ?_
      refine lv_iconst (v := 3) hx hb d_Md_alike_29 (by decide) ?_
      have hK1 : md_W cI cJ cZ md kd on tw nu le fx fy si de ne it po ma ab be li fr to Mw2 (nI 1) n up dn pz NE IT PO MA AB BE := md_W.cd hD hK w_md hfr_Mw2
      have hf1 : ∀ x9, x9 ≠ md → x9 ≠ ne → x9 ≠ it → x9 ≠ po → x9 ≠ ma → x9 ≠ ab → x9 ≠ be → Mw2 x9 = M x9 := fun x9 z0 z1 z2 z3 z4 z5 z6 => hfr_Mw2 x9 z0
      have hT1 := md_T.kept hD hT hf1
      have hL1 := md_L.kept hD hL hf1
      refine lv_icmp_ge (tgt := 87) hx hb d_Md_alike_30 (by decide) (fun c_30 => ?_) (fun c_30 => ?_)
      · skip
        exact absurd c_30 (by decide)
      · skip
        refine lv_aload_n hx hb d_Md_alike_33 rfl (lv_at hl 1 rfl) ?_
        refine hw_get (own := "QuantifierOutModel") (v := .int 1) hx hb hts i_Md hown hW w_md rfl 0 (by decide) (hts _ tw_603) (fun _ h9 => h9) rfl d_Md_alike_34 ?_
        refine lv_if_ne (tgt := 87) hx hb d_Md_alike_37 (by decide) (fun c_37 => ?_) (fun c_37 => ?_)
        · skip
          refine lv_aload_n hx hb d_Md_alike_87 rfl (lv_at hl 1 rfl) ?_
          refine hw_get (own := "QuantifierOutModel") (v := .int 1) hx hb hts i_Md hown hW w_md rfl 0 (by decide) (hts _ tw_603) (fun _ h9 => h9) rfl d_Md_alike_88 ?_
          refine lv_if_ne (tgt := 98) hx hb d_Md_alike_91 (by decide) (fun c_91 => ?_) (fun c_91 => ?_)
          · skip
            refine lv_iconst (v := 0) hx hb d_Md_alike_98 (by decide) ?_
            rw [hQ9]
            exact hw_retz hx hb hr rfl hlocks hW hS (md_A.no (by unfold cAlike; rw [if_neg (fun h => it_b0 hb_ry c_14 ((isn_iff hn).mpr h.2))]) (by decide) ⟨up, dn, pz, NE, IT, PO, MA, AB, BE, st, mt, hK1, hT1, hM, hL1, hg⟩ (md_F.of hf1)) d_Md_alike_99
          · skip
            exact absurd c_91 (by decide)
        · skip
          exact absurd c_37 (by decide)
    · skip
      obtain ⟨b, hb9, rfl⟩ := it_b1 hb_ry c_14
      obtain ⟨q2, hq2, eq2⟩ := hg b hb9
      obtain ⟨-, hr2, hmo2, hc2⟩ := hM.2.2 b q2 hq2
      have hga2 : g (ix (nI b)) = abq q2 := by rw [ix_nI (by omega)]; exact eq2.symm
      have his2 : isn n (nI b) := (isn_iff hn).mp ⟨b, hb9, rfl⟩
      have hcc : cAlike n (nI a) (nI b) = 0 := by unfold cAlike; rw [if_pos ⟨his1, his2⟩]
      have hpr : aP (g (ix (nI a))) = nP q1 ∧ aP (g (ix (nI b))) = nP q2 := by rw [hga1, hga2]; exact ⟨rfl, rfl⟩
      refine lv_iconst (v := 0) hx hb d_Md_alike_17 (by decide) ?_
      refine lv_goto (tgt := 22) hx hb d_Md_alike_18 (by decide) ?_
      refine hw_put (own := "QuantifierOutModel") (v := .int 0) (ty := .int) hx hb hts i_Md ft_Md tk_Md n_Md hown hW hS w_md rfl 0 (by decide) (hts _ tw_603) (fun _ h9 => h9) rfl (tk_Md 0 (by decide)) rfl rfl (Nat.le_of_ble_eq_true rfl) d_Md_alike_22 (fun H locs hW hS => ?_)
      have hW : hw_W D qcl (qty cI cJ cZ cN) _ (va_up M md (some (.inr (8, [.int 0, .int (nI n), .ref kd, .ref on, .ref tw, .ref nu, .ref le, .ref fx, .ref fy, .ref si, .ref de, .ref ne, .ref it, .ref po, .ref ma, .ref ab, .ref be, .long up, .long dn, .ref li, .int pz, .ref fr, .ref to])))) s H := hW
      generalize hMw3 : va_up M md (some (.inr (8, [.int 0, .int (nI n), .ref kd, .ref on, .ref tw, .ref nu, .ref le, .ref fx, .ref fy, .ref si, .ref de, .ref ne, .ref it, .ref po, .ref ma, .ref ab, .ref be, .long up, .long dn, .ref li, .int pz, .ref fr, .ref to]))) = Mw3 at hW
      have w_md : Mw3 md = some (.inr (8, [.int 0, .int (nI n), .ref kd, .ref on, .ref tw, .ref nu, .ref le, .ref fx, .ref fy, .ref si, .ref de, .ref ne, .ref it, .ref po, .ref ma, .ref ab, .ref be, .long up, .long dn, .ref li, .int pz, .ref fr, .ref to])) := by rw [← hMw3]; exact va_up_self _ _ _
      have hfr_Mw3 : ∀ x9, x9 ≠ md → Mw3 x9 = M x9 := fun x9 z9 => by rw [← hMw3, va_up_ne _ _ z9]
      have hK1 : md_W cI cJ cZ md kd on tw nu le fx fy si de ne it po ma ab be li fr to Mw3 (nI 0) n up dn pz NE IT PO MA AB BE := md_W.cd hD hK w_md hfr_Mw3
      have hf1 : ∀ x9, x9 ≠ md → x9 ≠ ne → x9 ≠ it → x9 ≠ po → x9 ≠ ma → x9 ≠ ab → x9 ≠ be → Mw3 x9 = M x9 := fun x9 z0 z1 z2 z3 z4 z5 z6 => hfr_Mw3 x9 z0
      have hT1 := md_T.kept hD hT hf1
      have hL1 := md_L.kept hD hL hf1
      have hF1 : md_F md kd on tw nu le fx fy si de ne it po ma ab be li fr to M Mw3 := md_F.of hf1
      have loop : ∀ (z i j : Nat), 6 * i + j + z = 30 → i ≤ 4 → j ≤ 5 → ∀ (xv yv : Int32), xv.toInt = (i : Int) - 2 → yv.toInt = (j : Int) - 2 → ∀ (H : Heap) (locs : List Loc) (M2 : Nat → Option va_E) (u2 d2 : Int64) (NE2 IT2 : Nat → Int32) (PO2 : Nat → Int64) (MA2 : Nat → Int32) (AB2 BE2 : Nat → Int64) (ls : Array Slot), hw_W D qcl (qty cI cJ cZ cN) (hw_A M s.heap.size) M2 s H → va_S (hw_A M s.heap.size) s.heap H locs → md_W cI cJ cZ md kd on tw nu le fx fy si de ne it po ma ab be li fr to M2 (nI 0) n u2 d2 pz NE2 IT2 PO2 MA2 AB2 BE2 → (∀ x9, x9 ≠ md → x9 ≠ ne → x9 ≠ it → x9 ≠ po → x9 ≠ ma → x9 ≠ ab → x9 ≠ be → M2 x9 = M x9) → (∀ t, t < 5 * i + j → (gP (nP q1) t ↔ gP (nP q2) t)) → lv_has ls 5 [(4, .int yv), (3, .int xv), (0, .ref md), (1, .int (nI a)), (2, .int (nI b))] → W p l e ({ frames := 10, cells := 0, slots := 0, locals := 320 }) s m [.ref md, .int (nI a), .int (nI b)].toArray below meth c H locs 0 0 Q9 (F0 m 44 ls []) := by
        intro z
        induction z with
        | zero =>
          intro i j hz9 hi4 hj5 xv yv hxv hyv H locs M2 u2 d2 NE2 IT2 PO2 MA2 AB2 BE2 ls hW hS hK2 hf2 hdone hl
          exact absurd hz9 (by omega)
        | succ z ihz =>
          intro i j hz9 hi4 hj5 xv yv hxv hyv H locs M2 u2 d2 NE2 IT2 PO2 MA2 AB2 BE2 ls hW hS hK2 hf2 hdone hl
          have hT2 := md_T.kept hD hT hf2
          have hL2 := md_L.kept hD hL hf2
          have h3 : (3 : Int32).toInt = 3 := rfl
          have w2_md := hK2.1
          have w2_md : M2 md = some (.inr (8, [.int (nI 0), .int (nI n), .ref kd, .ref on, .ref tw, .ref nu, .ref le, .ref fx, .ref fy, .ref si, .ref de, .ref ne, .ref it, .ref po, .ref ma, .ref ab, .ref be, .long u2, .long d2, .ref li, .int pz, .ref fr, .ref to])) := w2_md
          refine lv_iload hx hb d_Md_alike_44 (lv_at hl 0 rfl) ?_
          refine lv_iconst (v := 3) hx hb d_Md_alike_46 (by decide) ?_
          refine lv_icmp_ge (tgt := 81) hx hb d_Md_alike_47 (by decide) (fun c_47 => ?_) (fun c_47 => ?_)
          · skip
            have hj : j = 5 := by rw [nm_ile, h3, hyv] at c_47; omega
            obtain ⟨xn, exn⟩ : ∃ y9 : Int32, y9 = xv + Int32.ofInt (1) := ⟨_, rfl⟩
            refine lv_iinc (v := xn) (lv' := [(3, .int xn), (4, .int yv), (0, .ref md), (1, .int (nI a)), (2, .int (nI b))]) hx hb d_Md_alike_81 hl (k := 1) rfl exn.symm (by decide) rfl (fun ls hl => ?_)
            have txn : xn.toInt = ((i + 1 : Nat) : Int) - 2 := by have h1 : (Int32.ofInt 1).toInt = 1 := rfl; rw [exn, nm_iadd (by rw [hxv, h1]; omega), hxv, h1]; omega
            refine lv_goto (tgt := 28) hx hb d_Md_alike_84 (by decide) ?_
            refine lv_iload_n hx hb d_Md_alike_28 rfl (lv_at hl 0 rfl) ?_
            refine lv_iconst (v := 3) hx hb d_Md_alike_29 (by decide) ?_
            refine lv_icmp_ge (tgt := 87) hx hb d_Md_alike_30 (by decide) (fun c_30 => ?_) (fun c_30 => ?_)
            · skip
              have hi5 : i = 4 := by rw [nm_ile, h3, txn] at c_30; omega
              refine lv_aload_n hx hb d_Md_alike_87 rfl (lv_at hl 2 rfl) ?_
              refine hw_get (own := "QuantifierOutModel") (v := .int (nI 0)) hx hb hts i_Md hown hW w2_md rfl 0 (by decide) (hts _ tw_603) (fun _ h9 => h9) rfl d_Md_alike_88 ?_
              refine lv_if_ne (tgt := 98) hx hb d_Md_alike_91 (by decide) (fun c_91 => ?_) (fun c_91 => ?_)
              · skip
                exact absurd rfl c_91
              · skip
                refine lv_iconst (v := 1) hx hb d_Md_alike_94 (by decide) ?_
                refine lv_goto (tgt := 99) hx hb d_Md_alike_95 (by decide) ?_
                rw [hQ9]
                exact hw_retz hx hb hr rfl hlocks hW hS (md_A.yes hcc (by rw [hpr.1, hpr.2]; exact Or.inl ⟨rfl, fun t ht => hdone t (by omega)⟩) ⟨u2, d2, pz, NE2, IT2, PO2, MA2, AB2, BE2, st, mt, hK2, hT2, hM, hL2, hg⟩ (md_F.of hf2)) d_Md_alike_99
            · skip
              have hi5 : i < 4 := by rw [nm_ile, h3, txn] at c_30; omega
              refine lv_aload_n hx hb d_Md_alike_33 rfl (lv_at hl 2 rfl) ?_
              refine hw_get (own := "QuantifierOutModel") (v := .int (nI 0)) hx hb hts i_Md hown hW w2_md rfl 0 (by decide) (hts _ tw_603) (fun _ h9 => h9) rfl d_Md_alike_34 ?_
              refine lv_if_ne (tgt := 87) hx hb d_Md_alike_37 (by decide) (fun c_37 => ?_) (fun c_37 => ?_)
              · skip
                exact absurd rfl c_37
              · skip
                refine lv_bipush (v := (-2)) hx hb d_Md_alike_40 (by decide) ?_
                refine lv_istore (lv' := [(4, .int (-2)), (3, .int xn), (0, .ref md), (1, .int (nI a)), (2, .int (nI b))]) hx hb d_Md_alike_42 hl (by decide) rfl (fun ls hl => ?_)
                exact ihz (i + 1) 0 (by omega) (by omega) (by omega) xn (-2) txn rfl H locs M2 u2 d2 NE2 IT2 PO2 MA2 AB2 BE2 ls hW hS hK2 hf2 (fun t ht => hdone t (by omega)) (lv_sub hl [0, 1, 2, 3, 4] rfl)
          · skip
            have hj : j < 5 := by rw [nm_ile, h3, hyv] at c_47; omega
            refine lv_aload_n hx hb d_Md_alike_50 rfl (lv_at hl 2 rfl) ?_
            refine lv_iload_n hx hb d_Md_alike_51 rfl (lv_at hl 3 rfl) ?_
            refine lv_iload_n hx hb d_Md_alike_52 rfl (lv_at hl 1 rfl) ?_
            obtain ⟨x4, ex4⟩ : ∃ y9 : Int64, y9 = (xv : Int32).toInt64 := ⟨_, rfl⟩
            refine lv_i2l (v := x4) hx hb d_Md_alike_53 ex4.symm ?_
            refine lv_iload hx hb d_Md_alike_54 (lv_at hl 0 rfl) ?_
            obtain ⟨x5, ex5⟩ : ∃ y9 : Int64, y9 = (yv : Int32).toInt64 := ⟨_, rfl⟩
            refine lv_i2l (v := x5) hx hb d_Md_alike_56 ex5.symm ?_
            have tX : x4.toInt = (i : Int) - 2 := by rw [ex4, nm_i2l, hxv]
            have tY : x5.toInt = (j : Int) - 2 := by rw [ex5, nm_i2l, hyv]
            refine hw_calli (hw_runV (n := 3) (own := "QuantifierOutModel") (As := [.int (nI a), .long x4, .long x5]) (rest := []) hx hb hml hown hts hX hW hl.1 (c_Md_at l D cI cJ cZ cN md kd on tw nu le fx fy si de ne it po ma ab be li fr to (nI 0) n u2 d2 pz NE2 IT2 PO2 MA2 AB2 BE2 a _ x4 x5 q1 mt st M2 hD hK2 hT2 hM hq1 (by rw [tX]; omega) (by rw [tY]; omega)) hK2.1 rfl tw_739 tw_741 ts_15 tw_5 tw_742 (by decide +kernel) rfl rfl ⟨by decide, by decide⟩ rfl rfl (Nat.le_of_ble_eq_true rfl) d_Md_alike_57 ⟨by decide, by decide⟩) hW hS hA (fun rt Mt H locs hpt hz hW hS => ?_)
            obtain ⟨hrt, u3, d3, NE3, IT3, PO3, MA3, AB3, BE3, hK39, hf39⟩ := hpt
            have hT3 := md_T.kept hD hT2 hf39
            refine lv_aload_n hx hb d_Md_alike_60 rfl (lv_at hl 2 rfl) ?_
            refine lv_iload_n hx hb d_Md_alike_61 rfl (lv_at hl 4 rfl) ?_
            refine lv_iload_n hx hb d_Md_alike_62 rfl (lv_at hl 1 rfl) ?_
            obtain ⟨x6, ex6⟩ : ∃ y9 : Int64, y9 = (xv : Int32).toInt64 := ⟨_, rfl⟩
            refine lv_i2l (v := x6) hx hb d_Md_alike_63 ex6.symm ?_
            refine lv_iload hx hb d_Md_alike_64 (lv_at hl 0 rfl) ?_
            obtain ⟨x7, ex7⟩ : ∃ y9 : Int64, y9 = (yv : Int32).toInt64 := ⟨_, rfl⟩
            refine lv_i2l (v := x7) hx hb d_Md_alike_66 ex7.symm ?_
            have tX2 : x6.toInt = (i : Int) - 2 := by rw [ex6, nm_i2l, hxv]
            have tY2 : x7.toInt = (j : Int) - 2 := by rw [ex7, nm_i2l, hyv]
            refine hw_calli (hw_runV (n := 3) (own := "QuantifierOutModel") (As := [.int (nI b), .long x6, .long x7]) (rest := [.int rt]) hx hb hml hown hts hX hW hl.1 (c_Md_at l D cI cJ cZ cN md kd on tw nu le fx fy si de ne it po ma ab be li fr to (nI 0) n u3 d3 pz NE3 IT3 PO3 MA3 AB3 BE3 b _ x6 x7 q2 mt st Mt hD hK39 hT3 hM hq2 (by rw [tX2]; omega) (by rw [tY2]; omega)) hK39.1 rfl tw_739 tw_741 ts_15 tw_5 tw_742 (by decide +kernel) rfl rfl ⟨by decide, by decide⟩ rfl rfl (Nat.le_of_ble_eq_true rfl) d_Md_alike_67 ⟨by decide, by decide⟩) hW hS hA (fun rs Ms H locs hpt hz hW hS => ?_)
            obtain ⟨hrs, u4, d4, NE4, IT4, PO4, MA4, AB4, BE4, hK49, hf49⟩ := hpt
            have hf5 : ∀ x9, x9 ≠ md → x9 ≠ ne → x9 ≠ it → x9 ≠ po → x9 ≠ ma → x9 ≠ ab → x9 ≠ be → Ms x9 = M x9 := fun x9 z0 z1 z2 z3 z4 z5 z6 => (hf49 x9 z0 z1 z2 z3 z4 z5 z6).trans ((hf39 x9 z0 z1 z2 z3 z4 z5 z6).trans (hf2 x9 z0 z1 z2 z3 z4 z5 z6))
            have hgi : (5 * i + j) / 5 = i ∧ (5 * i + j) % 5 = j := by omega
            have hrt : it_b rt (gP (nP q1) (5 * i + j)) := by unfold gP; rw [hgi.1, hgi.2, ← tX, ← tY]; exact hrt
            have hrs : it_b rs (gP (nP q2) (5 * i + j)) := by unfold gP; rw [hgi.1, hgi.2, ← tX2, ← tY2]; exact hrs
            refine lv_icmp_eq (tgt := 75) hx hb d_Md_alike_70 (by decide) (fun c_70 => ?_) (fun c_70 => ?_)
            · skip
              have hiff : gP (nP q1) (5 * i + j) ↔ gP (nP q2) (5 * i + j) := by
                rcases hrt with ⟨e1, p1⟩ | ⟨e1, p1⟩ <;> rcases hrs with ⟨e2, p2⟩ | ⟨e2, p2⟩
                · exact ⟨fun _ => p2, fun _ => p1⟩
                · exact absurd (e1.symm.trans (c_70.trans e2)) (by decide)
                · exact absurd (e1.symm.trans (c_70.trans e2)) (by decide)
                · exact ⟨fun z => absurd z p1, fun z => absurd z p2⟩
              obtain ⟨yn, eyn⟩ : ∃ y9 : Int32, y9 = yv + Int32.ofInt (1) := ⟨_, rfl⟩
              refine lv_iinc (v := yn) (lv' := [(4, .int yn), (3, .int xv), (0, .ref md), (1, .int (nI a)), (2, .int (nI b))]) hx hb d_Md_alike_75 hl (k := 0) rfl eyn.symm (by decide) rfl (fun ls hl => ?_)
              have tyn : yn.toInt = ((j + 1 : Nat) : Int) - 2 := by have h1 : (Int32.ofInt 1).toInt = 1 := rfl; rw [eyn, nm_iadd (by rw [hyv, h1]; omega), hyv, h1]; omega
              refine lv_goto (tgt := 44) hx hb d_Md_alike_78 (by decide) ?_
              exact ihz i (j + 1) (by omega) hi4 (by omega) xv yn hxv tyn H locs Ms u4 d4 NE4 IT4 PO4 MA4 AB4 BE4 ls hW hS hK49 hf5 (fun t ht => by rcases Nat.lt_or_ge t (5 * i + j) with z9 | z9; exact hdone t z9; rw [show t = 5 * i + j by omega]; exact hiff) (lv_sub hl [0, 1, 2, 3, 4] rfl)
            · skip
              refine lv_iconst (v := 0) hx hb d_Md_alike_73 (by decide) ?_
              rw [hQ9]
              have hno9 : ¬ (∀ t, t < 25 → (gP (nP q1) t ↔ gP (nP q2) t)) := by
                intro hall
                have hiff := hall (5 * i + j) (by omega)
                rcases hrt with ⟨e1, p1⟩ | ⟨e1, p1⟩ <;> rcases hrs with ⟨e2, p2⟩ | ⟨e2, p2⟩
                · exact c_70 (e1.trans e2.symm)
                · exact p2 (hiff.mp p1)
                · exact p1 (hiff.mpr p2)
                · exact c_70 (e1.trans e2.symm)
              exact hw_retz hx hb hr rfl hlocks hW hS (md_A.yes hcc (by rw [hpr.1, hpr.2]; exact Or.inr ⟨rfl, hno9⟩) ⟨u4, d4, pz, NE4, IT4, PO4, MA4, AB4, BE4, st, mt, hK49, md_T.kept hD hT hf5, hM, md_L.kept hD hL hf5, hg⟩ (md_F.of hf5)) d_Md_alike_74
      refine lv_bipush (v := (-2)) hx hb d_Md_alike_25 (by decide) ?_
      refine lv_istore_n (lv' := [(3, .int (-2)), (0, .ref md), (1, .int (nI a)), (2, .int (nI b))]) hx hb d_Md_alike_27 rfl hl (by decide) rfl (fun ls hl => ?_)
      refine lv_iload_n hx hb d_Md_alike_28 rfl (lv_at hl 0 rfl) ?_
      refine lv_iconst (v := 3) hx hb d_Md_alike_29 (by decide) ?_
      refine lv_icmp_ge (tgt := 87) hx hb d_Md_alike_30 (by decide) (fun c_30 => ?_) (fun c_30 => ?_)
      · skip
        exact absurd c_30 (by decide)
      · skip
        refine lv_aload_n hx hb d_Md_alike_33 rfl (lv_at hl 1 rfl) ?_
        refine hw_get (own := "QuantifierOutModel") (v := .int 0) hx hb hts i_Md hown hW w_md rfl 0 (by decide) (hts _ tw_603) (fun _ h9 => h9) rfl d_Md_alike_34 ?_
        refine lv_if_ne (tgt := 87) hx hb d_Md_alike_37 (by decide) (fun c_37 => ?_) (fun c_37 => ?_)
        · skip
          exact absurd rfl c_37
        · skip
          refine lv_bipush (v := (-2)) hx hb d_Md_alike_40 (by decide) ?_
          refine lv_istore (lv' := [(4, .int (-2)), (3, .int (-2)), (0, .ref md), (1, .int (nI a)), (2, .int (nI b))]) hx hb d_Md_alike_42 hl (by decide) rfl (fun ls hl => ?_)
          exact loop 30 0 0 (by omega) (by omega) (by omega) (-2) (-2) rfl rfl H locs Mw3 up dn NE IT PO MA AB BE ls hW hS hK1 hf1 (fun t ht => absurd ht (by omega)) (lv_sub hl [0, 1, 2, 3, 4] rfl)
end G52

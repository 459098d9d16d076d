/-! The reference: find -/
theorem md_T.kF {cI cZ : ClassId} {md kd on tw nu le fx fy si de ne it po ma ab be li fr to : Nat} {M M1 : Nat → Option va_E} {st : Nat → Nat → Int32} (hD : md_D md kd on tw nu le fx fy si de ne it po ma ab be li fr to) (h : md_T cI cZ kd on tw nu le fx fy si de M st) (hf : ∀ x9, x9 ≠ md → x9 ≠ ne → x9 ≠ it → x9 ≠ po → x9 ≠ ma → x9 ≠ ab → x9 ≠ be → x9 ≠ li → x9 ≠ fr → x9 ≠ to → M1 x9 = M x9) : md_T cI cZ kd on tw nu le fx fy si de M1 st := by
  have g : ∀ i, 0 < i → i < 10 → M1 (md_a md kd on tw nu le fx fy si de ne it po ma ab be li fr to i) = M (md_a md kd on tw nu le fx fy si de ne it po ma ab be li fr to i) := fun i h0 h1 => hf _ (Ne.symm (hD 0 i h0 (by omega))) (hD i 10 (by omega) (by decide)) (hD i 11 (by omega) (by decide)) (hD i 12 (by omega) (by decide)) (hD i 13 (by omega) (by decide)) (hD i 14 (by omega) (by decide)) (hD i 15 (by omega) (by decide)) (hD i 16 (by omega) (by decide)) (hD i 17 (by omega) (by decide)) (hD i 18 (by omega) (by decide))
  obtain ⟨h1, h2, h3, h4, h5, h6, h7, h8, h9⟩ := h
  exact ⟨(g 1 (by decide) (by decide)).trans h1, (g 2 (by decide) (by decide)).trans h2, (g 3 (by decide) (by decide)).trans h3, (g 4 (by decide) (by decide)).trans h4, (g 5 (by decide) (by decide)).trans h5, (g 6 (by decide) (by decide)).trans h6, (g 7 (by decide) (by decide)).trans h7, (g 8 (by decide) (by decide)).trans h8, (g 9 (by decide) (by decide)).trans h9⟩
theorem md_F.ofX {md kd on tw nu le fx fy si de ne it po ma ab be li fr to : Nat} {M M1 : Nat → Option va_E} (h : ∀ x9, x9 ≠ md → x9 ≠ ne → x9 ≠ it → x9 ≠ po → x9 ≠ ma → x9 ≠ ab → x9 ≠ be → x9 ≠ li → x9 ≠ fr → x9 ≠ to → M1 x9 = M x9) : md_F md kd on tw nu le fx fy si de ne it po ma ab be li fr to M M1 := fun x hx => h x (hx 0 (by decide)) (hx 10 (by decide)) (hx 11 (by decide)) (hx 12 (by decide)) (hx 13 (by decide)) (hx 14 (by decide)) (hx 15 (by decide)) (hx 16 (by decide)) (hx 17 (by decide)) (hx 18 (by decide))
/-- the object after find: mm pieces of the set S -/
def md_R (cI cJ cZ : ClassId) (md kd on tw nu le fx fy si de ne it po ma ab be li fr to : Nat) (M1 : Nat → Option va_E) (n : Nat) (g : Nat → abn) (mm : Nat) (S : Rat → Prop) : Prop := ∃ (u2 d2 : Int64) (NE2 IT2 : Nat → Int32) (PO2 : Nat → Int64) (MA2 : Nat → Int32) (AB2 BE2 : Nat → Int64) (st : Nat → Nat → Int32) (mt : Nat → Option nq) (LI2 FR2 TO2 : Nat → Int32) (n1 : Nat) (fs lS : Nat → Nat), md_W cI cJ cZ md kd on tw nu le fx fy si de ne it po ma ab be li fr to M1 (nI 0) n u2 d2 (nI mm) NE2 IT2 PO2 MA2 AB2 BE2 ∧ md_T cI cZ kd on tw nu le fx fy si de M1 st ∧ mt_ok n mt st ∧ (M1 li = some (.inl (cZ, 130, .inl LI2)) ∧ M1 fr = some (.inl (cI, 66, .inl FR2)) ∧ M1 to = some (.inl (cI, 66, .inl TO2))) ∧ (∀ i, i < n → ∃ q, mt i = some q ∧ abq q = g i) ∧ n1 ≤ 27 ∧ MA2 2 = nI n1 ∧ kr (kf (64 * 2) AB2) (kf (64 * 2) BE2) n1 255 50 ∧ mm ≤ 28 ∧ (∀ k, k < mm → FR2 k = nI (fs k) ∧ TO2 k = nI (lS k) ∧ fs k < 2 * n1 + 1 ∧ lS k < 2 * n1 + 1) ∧ qp_sys S mm (fun k => qi_L (mk_v (kf (64 * 2) AB2) (kf (64 * 2) BE2)) (fs k)) (fun k => qi_R (mk_v (kf (64 * 2) AB2) (kf (64 * 2) BE2)) n1 (lS k))
def md_Z (cI cJ cZ : ClassId) (md kd on tw nu le fx fy si de ne it po ma ab be li fr to : Nat) (n : Nat) (g : Nat → abn) (x1 : Int32) (M : Nat → Option va_E) (r : Int32) (M1 : Nat → Option va_E) : Prop := ((cSet n g x1 ≠ 0 ∧ r = 0 ∧ md_J cI cJ cZ md kd on tw nu le fx fy si de ne it po ma ab be li fr to M1 (nI (cSet n g x1)) n g) ∨ (cSet n g x1 = 0 ∧ r = 1 ∧ ∃ mm, md_R cI cJ cZ md kd on tw nu le fx fy si de ne it po ma ab be li fr to M1 n g mm (aSet (g (ix x1))))) ∧ md_F md kd on tw nu le fx fy si de ne it po ma ab be li fr to M M1
theorem md_Z.no {cI cJ cZ : ClassId} {md kd on tw nu le fx fy si de ne it po ma ab be li fr to : Nat} {n : Nat} {g : Nat → abn} {x1 : Int32} {c0 : Nat} {M M1 : Nat → Option va_E} (hc : cSet n g x1 = c0) (h0 : c0 ≠ 0) (hJ : md_J cI cJ cZ md kd on tw nu le fx fy si de ne it po ma ab be li fr to M1 (nI c0) n g) (hF : md_F md kd on tw nu le fx fy si de ne it po ma ab be li fr to M M1) : md_Z cI cJ cZ md kd on tw nu le fx fy si de ne it po ma ab be li fr to n g x1 M 0 M1 := by
  subst hc
  exact ⟨Or.inl ⟨h0, rfl, hJ⟩, hF⟩
theorem pj_m {t : Nat → Prop} {m : Nat} {fs ls : Nat → Nat} {s : Nat} {ip : Int32} (h : pj_I t m fs ls s ip) : 2 * m ≤ s + 1 := by
  rcases Nat.eq_zero_or_pos m with e | e
  · omega
  · have a := h.1.1 (m - 1) (by omega)
    have b := h.2.1 (m - 1) (by omega)
    omega
section G53
variable (l : Launch) (D : va_G) (cI cJ cZ cN : ClassId) (md kd on tw nu le fx fy si de ne it po ma ab be li fr to : Nat)
set_option maxHeartbeats 4000000 in
set_option maxRecDepth 100000 in
theorem c_Md_find (cd : Int32) (n : Nat) (g : Nat → abn) (sz : Nat) (M : Nat → Option va_E) (hD : md_D md kd on tw nu le fx fy si de ne it po ma ab be li fr to) (hJ : md_J cI cJ cZ md kd on tw nu le fx fy si de ne it po ma ab be li fr to M cd n g) (x1 : Int32) : Met l y_Md_find (.code y_Md_find b_Md_find 6 (some .boolean) :: ww) ({ frames := 8, cells := 0, slots := 0, locals := 250 }) (hw_Pc D qcl (qty cI cJ cZ cN) [.ref md, .int x1] M sz) (va_Qi (fun r M1 => md_Z cI cJ cZ md kd on tw nu le fx fy si de ne it po ma ab be li fr to n g x1 M r M1) (hw_B D qcl (qty cI cJ cZ cN) M sz) (hw_A M sz)) 0 0 (hw_A M sz) := by
  obtain ⟨up, dn, pz, NE, IT, PO, MA, AB, BE, st, mt, hK, hT, hM, hL, hg⟩ := hJ
  have hn := hM.1
  refine hw_met (by decide) (Nat.le_of_ble_eq_true rfl) ?_
  intro p e s m below meth c hx hb hr hml hown hlocks hnm hts hsz hX hW ls hl
  subst hsz
  have hA : ∀ q, s.heap.size ≤ q → hw_A M s.heap.size q := fun q h => Or.inr h
  have hS : va_S (hw_A M s.heap.size) s.heap s.heap [] := va_S.rf
  have hl : lv_has ls 6 [(0, .ref md), (1, .int x1)] := hl
  have hown : s.vm.findClass "QuantifierOutModel" = some m.cls := hown
  obtain ⟨Q9, hQ9⟩ : ∃ X : State → Prop, X = MQ below (va_Qi (fun r M1 => md_Z cI cJ cZ md kd on tw nu le fx fy si de ne it po ma ab be li fr to n g x1 M r M1) (hw_B D qcl (qty cI cJ cZ cN) M s.heap.size) (hw_A M s.heap.size)) [.ref md, .int x1].toArray s 0 0 (hw_A M s.heap.size) := ⟨_, rfl⟩
  rw [← hQ9]
  have w_md := hK.1
  have w_md : M md = some (.inr (8, [.int cd, .int (nI n), .ref kd, .ref on, .ref tw, .ref nu, .ref le, .ref fx, .ref fy, .ref si, .ref de, .ref ne, .ref it, .ref po, .ref ma, .ref ab, .ref be, .long up, .long dn, .ref li, .int pz, .ref fr, .ref to])) := w_md
  refine lv_aload_n hx hb d_Md_find_0 rfl (lv_at hl 0 rfl) ?_
  refine lv_aload_n hx hb d_Md_find_1 rfl (lv_at hl 0 rfl) ?_
  refine lv_iload_n hx hb d_Md_find_2 rfl (lv_at hl 1 rfl) ?_
  refine hw_calli (hw_runV (n := 1) (own := "QuantifierOutModel") (As := [.int x1]) (rest := [.ref md]) hx hb hml hown hts hX hW hl.1 (c_Md_isNode l D cI cJ cZ cN md kd on tw nu le fx fy si de ne it po ma ab be li fr to cd n up dn pz _ M w_md hn x1) w_md rfl tw_700 tw_702 ts_13 tw_5 tw_703 (by decide +kernel) rfl rfl ⟨by decide, by decide⟩ rfl rfl (Nat.le_of_ble_eq_true rfl) d_Md_find_3 ⟨by decide, by decide⟩) hW hS hA (fun rx Mi9 H locs hpi hz hW hS => ?_)
  obtain ⟨hb_rx, eMi9⟩ := hpi
  rw [eMi9] at hW
  refine lv_if_ne (tgt := 13) hx hb d_Md_find_6 (by decide) (fun c_6 => ?_) (fun c_6 => ?_)
  · skip
    obtain ⟨a, ha, rfl⟩ := it_b1 hb_rx c_6
    obtain ⟨q1, hq1, eq1⟩ := hg a ha
    obtain ⟨-, hr1, hmo1, hc1⟩ := hM.2.2 a q1 hq1
    have hga1 : g (ix (nI a)) = abq q1 := by rw [ix_nI (by omega)]; exact eq1.symm
    have his1 : isn n (nI a) := (isn_iff hn).mp ⟨a, ha, rfl⟩
    have hxx : aX (g (ix (nI a))) = nx q1 ∧ aY (g (ix (nI a))) = ny q1 ∧ aD (g (ix (nI a))) = nd q1 := by rw [hga1]; exact ⟨rfl, rfl, rfl⟩
    have hd2 := hmo1.2.2.2.1
    have t_fx : M fx = some (.inl (cZ, 60, .inl (st 5))) := hT.2.2.2.2.2.1
    have t_fy : M fy = some (.inl (cZ, 60, .inl (st 6))) := hT.2.2.2.2.2.2.1
    have t_de : M de = some (.inl (cI, 60, .inl (st 8))) := hT.2.2.2.2.2.2.2.2
    refine lv_aload_n hx hb d_Md_find_13 rfl (lv_at hl 0 rfl) ?_
    refine hw_get (own := "QuantifierOutModel") (v := .ref fx) hx hb hts i_Md hown hW w_md rfl 7 (by decide) (hts _ tw_610) (fun _ h9 => h9) rfl d_Md_find_14 ?_
    refine lv_iload_n hx hb d_Md_find_17 rfl (lv_at hl 1 rfl) ?_
    refine hw_zld hx hb hW 2 t_fx rfl a rfl (by omega) (by decide) d_Md_find_18 ?_
    refine lv_aload_n hx hb d_Md_find_19 rfl (lv_at hl 0 rfl) ?_
    refine hw_get (own := "QuantifierOutModel") (v := .ref fy) hx hb hts i_Md hown hW w_md rfl 8 (by decide) (hts _ tw_611) (fun _ h9 => h9) rfl d_Md_find_20 ?_
    refine lv_iload_n hx hb d_Md_find_23 rfl (lv_at hl 1 rfl) ?_
    refine hw_zld hx hb hW 2 t_fy rfl a rfl (by omega) (by decide) d_Md_find_24 ?_
    have heq : st 5 a = st 6 a ↔ nx q1 = ny q1 := by rw [hc1.1, hc1.2.1]; cases nx q1 <;> cases ny q1 <;> decide
    refine lv_icmp_eq (tgt := 38) hx hb d_Md_find_25 (by decide) (fun c_25 => ?_) (fun c_25 => ?_)
    · skip
      refine lv_iconst (v := 2) hx hb d_Md_find_38 (by decide) ?_
      refine lv_goto (tgt := 43) hx hb d_Md_find_39 (by decide) ?_
      refine hw_put (own := "QuantifierOutModel") (v := .int 2) (ty := .int) hx hb hts i_Md ft_Md tk_Md n_Md hown hW hS w_md rfl 0 (by decide) (hts _ tw_603) (fun _ h9 => h9) rfl (tk_Md 0 (by decide)) rfl rfl (Nat.le_of_ble_eq_true rfl) d_Md_find_43 (fun H locs hW hS => ?_)
      have hW : hw_W D qcl (qty cI cJ cZ cN) _ (va_up M md (some (.inr (8, [.int 2, .int (nI n), .ref kd, .ref on, .ref tw, .ref nu, .ref le, .ref fx, .ref fy, .ref si, .ref de, .ref ne, .ref it, .ref po, .ref ma, .ref ab, .ref be, .long up, .long dn, .ref li, .int pz, .ref fr, .ref to])))) s H := hW
      generalize hMw1 : va_up M md (some (.inr (8, [.int 2, .int (nI n), .ref kd, .ref on, .ref tw, .ref nu, .ref le, .ref fx, .ref fy, .ref si, .ref de, .ref ne, .ref it, .ref po, .ref ma, .ref ab, .ref be, .long up, .long dn, .ref li, .int pz, .ref fr, .ref to]))) = Mw1 at hW
      have t_fx : Mw1 fx = some (.inl (cZ, 60, .inl (st 5))) := by rw [← hMw1, va_up_ne _ _ (Ne.symm (show md ≠ fx from hD 0 6 (by decide) (by decide)))]; exact t_fx
      have t_fy : Mw1 fy = some (.inl (cZ, 60, .inl (st 6))) := by rw [← hMw1, va_up_ne _ _ (Ne.symm (show md ≠ fy from hD 0 7 (by decide) (by decide)))]; exact t_fy
      have t_de : Mw1 de = some (.inl (cI, 60, .inl (st 8))) := by rw [← hMw1, va_up_ne _ _ (Ne.symm (show md ≠ de from hD 0 9 (by decide) (by decide)))]; exact t_de
      have w_md : Mw1 md = some (.inr (8, [.int 2, .int (nI n), .ref kd, .ref on, .ref tw, .ref nu, .ref le, .ref fx, .ref fy, .ref si, .ref de, .ref ne, .ref it, .ref po, .ref ma, .ref ab, .ref be, .long up, .long dn, .ref li, .int pz, .ref fr, .ref to])) := by rw [← hMw1]; exact va_up_self _ _ _
      have hfr_Mw1 : ∀ x9, x9 ≠ md → Mw1 x9 = M x9 := fun x9 z9 => by rw [← hMw1, va_up_ne _ _ z9]
      refine lv_aload_n hx hb d_Md_find_46 rfl (lv_at hl 0 rfl) ?_
      refine hw_get (own := "QuantifierOutModel") (v := .int 2) hx hb hts i_Md hown hW w_md rfl 0 (by decide) (hts _ tw_603) (fun _ h9 => h9) rfl d_Md_find_47 ?_
      have hK1 : md_W cI cJ cZ md kd on tw nu le fx fy si de ne it po ma ab be li fr to Mw1 (nI 2) n up dn pz NE IT PO MA AB BE := md_W.cd hD hK w_md hfr_Mw1
      have hf1 : ∀ x9, x9 ≠ md → x9 ≠ ne → x9 ≠ it → x9 ≠ po → x9 ≠ ma → x9 ≠ ab → x9 ≠ be → Mw1 x9 = M x9 := fun x9 z0 z1 z2 z3 z4 z5 z6 => hfr_Mw1 x9 z0
      have hT1 := md_T.kept hD hT hf1
      have hL1 := md_L.kept hD hL hf1
      refine lv_if_le (tgt := 55) hx hb d_Md_find_50 (by decide) (fun c_50 => ?_) (fun c_50 => ?_)
      · skip
        exact absurd c_50 (by decide)
      · skip
        refine lv_iconst (v := 0) hx hb d_Md_find_53 (by decide) ?_
        rw [hQ9]
        exact hw_retz hx hb hr rfl hlocks hW hS (md_Z.no (by unfold cSet; rw [if_neg (fun z => z his1), hxx.1, hxx.2.1, if_pos (Or.inl (heq.mp c_25))]) (by decide) ⟨up, dn, pz, NE, IT, PO, MA, AB, BE, st, mt, hK1, hT1, hM, hL1, hg⟩ (md_F.of hf1)) d_Md_find_54
    · skip
      have hxy : nx q1 ≠ ny q1 := fun z => c_25 (heq.mpr z)
      refine lv_aload_n hx hb d_Md_find_28 rfl (lv_at hl 0 rfl) ?_
      refine hw_get (own := "QuantifierOutModel") (v := .ref de) hx hb hts i_Md hown hW w_md rfl 10 (by decide) (hts _ tw_613) (fun _ h9 => h9) rfl d_Md_find_29 ?_
      refine lv_iload_n hx hb d_Md_find_32 rfl (lv_at hl 1 rfl) ?_
      refine hw_ild hx hb hW 0 t_de rfl a rfl (by omega) (by decide) d_Md_find_33 ?_
      rw [hc1.2.2.2.1]
      refine lv_iconst (v := 1) hx hb d_Md_find_34 (by decide) ?_
      refine lv_icmp_le (tgt := 42) hx hb d_Md_find_35 (by decide) (fun c_35 => ?_) (fun c_35 => ?_)
      · skip
        have hd3 : nd q1 ≤ 1 := (nI_leI (b := 1) (by omega) (by omega)).mp c_35
        have hcc : cSet n g (nI a) = 0 := by unfold cSet; rw [if_neg (fun z => z his1), hxx.1, hxx.2.1, hxx.2.2, if_neg (fun z => z.elim hxy (by omega))]
        refine lv_iconst (v := 0) hx hb d_Md_find_42 (by decide) ?_
        refine hw_put (own := "QuantifierOutModel") (v := .int 0) (ty := .int) hx hb hts i_Md ft_Md tk_Md n_Md hown hW hS w_md rfl 0 (by decide) (hts _ tw_603) (fun _ h9 => h9) rfl (tk_Md 0 (by decide)) rfl rfl (Nat.le_of_ble_eq_true rfl) d_Md_find_43 (fun H locs hW hS => ?_)
        have hW : hw_W D qcl (qty cI cJ cZ cN) _ (va_up M md (some (.inr (8, [.int 0, .int (nI n), .ref kd, .ref on, .ref tw, .ref nu, .ref le, .ref fx, .ref fy, .ref si, .ref de, .ref ne, .ref it, .ref po, .ref ma, .ref ab, .ref be, .long up, .long dn, .ref li, .int pz, .ref fr, .ref to])))) s H := hW
        generalize hMw2 : va_up M md (some (.inr (8, [.int 0, .int (nI n), .ref kd, .ref on, .ref tw, .ref nu, .ref le, .ref fx, .ref fy, .ref si, .ref de, .ref ne, .ref it, .ref po, .ref ma, .ref ab, .ref be, .long up, .long dn, .ref li, .int pz, .ref fr, .ref to]))) = Mw2 at hW
        have t_fx : Mw2 fx = some (.inl (cZ, 60, .inl (st 5))) := by rw [← hMw2, va_up_ne _ _ (Ne.symm (show md ≠ fx from hD 0 6 (by decide) (by decide)))]; exact t_fx
        have t_fy : Mw2 fy = some (.inl (cZ, 60, .inl (st 6))) := by rw [← hMw2, va_up_ne _ _ (Ne.symm (show md ≠ fy from hD 0 7 (by decide) (by decide)))]; exact t_fy
        have t_de : Mw2 de = some (.inl (cI, 60, .inl (st 8))) := by rw [← hMw2, va_up_ne _ _ (Ne.symm (show md ≠ de from hD 0 9 (by decide) (by decide)))]; exact t_de
        have w_md : Mw2 md = some (.inr (8, [.int 0, .int (nI n), .ref kd, .ref on, .ref tw, .ref nu, .ref le, .ref fx, .ref fy, .ref si, .ref de, .ref ne, .ref it, .ref po, .ref ma, .ref ab, .ref be, .long up, .long dn, .ref li, .int pz, .ref fr, .ref to])) := by rw [← hMw2]; exact va_up_self _ _ _
        have hfr_Mw2 : ∀ x9, x9 ≠ md → Mw2 x9 = M x9 := fun x9 z9 => by rw [← hMw2, va_up_ne _ _ z9]
        refine lv_aload_n hx hb d_Md_find_46 rfl (lv_at hl 0 rfl) ?_
        refine hw_get (own := "QuantifierOutModel") (v := .int 0) hx hb hts i_Md hown hW w_md rfl 0 (by decide) (hts _ tw_603) (fun _ h9 => h9) rfl d_Md_find_47 ?_
        have hK1 : md_W cI cJ cZ md kd on tw nu le fx fy si de ne it po ma ab be li fr to Mw2 (nI 0) n up dn pz NE IT PO MA AB BE := md_W.cd hD hK w_md hfr_Mw2
        have hf1 : ∀ x9, x9 ≠ md → x9 ≠ ne → x9 ≠ it → x9 ≠ po → x9 ≠ ma → x9 ≠ ab → x9 ≠ be → Mw2 x9 = M x9 := fun x9 z0 z1 z2 z3 z4 z5 z6 => hfr_Mw2 x9 z0
        have hT1 := md_T.kept hD hT hf1
        have hL1 := md_L.kept hD hL hf1
        refine lv_if_le (tgt := 55) hx hb d_Md_find_50 (by decide) (fun c_50 => ?_) (fun c_50 => ?_)
        · skip
          have t1_fx : Mw2 fx = some (.inl (cZ, 60, .inl (st 5))) := hT1.2.2.2.2.2.1
          refine lv_aload_n hx hb d_Md_find_55 rfl (lv_at hl 0 rfl) ?_
          refine hw_get (own := "QuantifierOutModel") (v := .ref fx) hx hb hts i_Md hown hW w_md rfl 7 (by decide) (hts _ tw_610) (fun _ h9 => h9) rfl d_Md_find_56 ?_
          refine lv_iload_n hx hb d_Md_find_59 rfl (lv_at hl 1 rfl) ?_
          refine hw_zld hx hb hW 2 t1_fx rfl a rfl (by omega) (by decide) d_Md_find_60 ?_
          have rest : ∀ (j o : Nat) (ls : Array Slot), j + o = 1 → j = (if nx q1 = true then 0 else 1) → lv_has ls 6 [(0, .ref md), (1, .int (nI a))] → W p l e ({ frames := 8, cells := 0, slots := 0, locals := 250 }) s m [.ref md, .int (nI a)].toArray below meth c H locs 0 0 Q9 (F0 m 69 ls [.int (nI j)]) := by
            intro j o ls hjo hjd hl
            refine lv_istore_n (lv' := [(2, .int (nI j)), (0, .ref md), (1, .int (nI a))]) hx hb d_Md_find_69 rfl hl (by decide) rfl (fun ls hl => ?_)
            refine lv_aload_n hx hb d_Md_find_70 rfl (lv_at hl 1 rfl) ?_
            refine lv_iconst (v := 2) hx hb d_Md_find_71 (by decide) ?_
            refine lv_iload_n hx hb d_Md_find_72 rfl (lv_at hl 2 rfl) ?_
            refine lv_iload_n hx hb d_Md_find_73 rfl (lv_at hl 0 rfl) ?_
            refine lv_lconst (v := 0) hx hb d_Md_find_74 (by decide) ?_
            refine lv_lconst (v := 1) hx hb d_Md_find_75 (by decide) ?_
            refine hw_callv (hw_runV (n := 5) (own := "QuantifierOutModel") (As := [.int 2, .int (nI a), .int (nI j), .long 0, .long 1]) (rest := []) hx hb hml hown hts hX hW hl.1 (c_Md_gather l D cI cJ cZ cN md kd on tw nu le fx fy si de ne it po ma ab be li fr to (nI 0) n up dn pz NE IT PO MA AB BE 2 a j o 255 50 50 1 _ q1 0 1 mt st Mw2 hD hK1 hT1 hM ha hq1 (by omega) hjo (by decide) (by decide) (by decide) (by decide) (by decide) (by decide) (by decide) (by decide) (by decide) (by decide)) hK1.1 rfl tw_767 tw_769 ts_22 tw_5 tw_770 (by decide +kernel) rfl rfl ⟨by decide, by decide⟩ rfl rfl (Nat.le_of_ble_eq_true rfl) d_Md_find_76 ⟨by decide, by decide⟩) hW hS hA (fun Mg H locs hpg hz hW hS => ?_)
            obtain ⟨n1, NEg, ug, dg, ABg, BEg, hn27, hrow, hc0, hcv1, houtg, hneg, hKg, hfg⟩ := hpg
            obtain ⟨MV, hMV⟩ : ∃ f : Nat → Rat, f = mk_v (kf (64 * 2) ABg) (kf (64 * 2) BEg) := ⟨_, rfl⟩
            have hinc : qm_inc MV n1 := by rw [hMV]; exact hrow.2
            rw [← hMV] at hc0 hcv1
            have hq0 : qm_fr (0 : Int64).toInt (1 : Int64).toInt = 0 := by show qm_fr 0 1 = 0; rw [qm_fr_int]; rfl
            rw [hq0] at hc0
            obtain ⟨S9, hS9⟩ : ∃ S : Rat → Prop, S = aSet (g (ix (nI a))) := ⟨_, rfl⟩
            have hSS : ∀ u, S9 u ↔ nP_j j (nP q1) u 0 := by intro u; rw [hS9]; unfold aSet; rw [hxx.1, ← hjd, hga1]; exact Iff.rfl
            have hcell : ∀ s u u2, qi_at MV n1 s u → qi_at MV n1 s u2 → (nP_j j (nP q1) u 0 ↔ nP_j j (nP q1) u2 0) := by
              intro s u u2 hu hu2
              exact qm_same (nP_jinv hmo1.2.2.2.2.2.1 j) hd3 hc0 (fun e => hcv1 (by omega)) (fun m ⟨i, hi2, e⟩ => by rw [e]; exact qi_ss hu hu2 i hi2)
            obtain ⟨tt, htt⟩ : ∃ t : Nat → Prop, t = fun s9 => ∃ u, qi_at MV n1 s9 u ∧ S9 u := ⟨_, rfl⟩
            have htS : ∀ s9 u, qi_at MV n1 s9 u → (S9 u ↔ tt s9) := by
              intro s9 u hu
              rw [htt]
              refine ⟨fun z => ⟨u, hu, z⟩, fun ⟨u2, hu2, z⟩ => ?_⟩
              rw [hSS] at z ⊢
              exact (hcell s9 u u2 hu hu2).mpr z
            have wg_md := hKg.1
            have wg_md : Mg md = some (.inr (8, [.int (nI 0), .int (nI n), .ref kd, .ref on, .ref tw, .ref nu, .ref le, .ref fx, .ref fy, .ref si, .ref de, .ref ne, .ref it, .ref po, .ref ma, .ref ab, .ref be, .long ug, .long dg, .ref li, .int pz, .ref fr, .ref to])) := wg_md
            have wg_ma := hKg.2.2.2.2.1
            have wg_ma : Mg ma = some (.inl (cI, 3, .inl (upd MA 2 (nI n1)))) := wg_ma
            refine lv_iconst (v := 2) hx hb d_Md_find_79 (by decide) ?_
            refine lv_aload_n hx hb d_Md_find_80 rfl (lv_at hl 1 rfl) ?_
            refine hw_get (own := "QuantifierOutModel") (v := .ref ma) hx hb hts i_Md hown hW wg_md rfl 14 (by decide) (hts _ tw_617) (fun _ h9 => h9) rfl d_Md_find_81 ?_
            refine lv_iconst (v := 2) hx hb d_Md_find_84 (by decide) ?_
            refine hw_ild hx hb hW 0 wg_ma rfl 2 rfl (by decide) (by decide) d_Md_find_85 ?_
            rw [pk_us]
            refine lv_imul hx hb d_Md_find_86 ?_
            refine lv_topi (fun x3 ex3 => ?_)
            have em : x3 = nI (2 * n1) := by rw [ex3]; exact pk_mul 2 n1
            rw [em]
            refine lv_istore_n (lv' := [(3, .int (nI (2 * n1))), (2, .int (nI j)), (0, .ref md), (1, .int (nI a))]) hx hb d_Md_find_87 rfl hl (by decide) rfl (fun ls hl => ?_)
            refine lv_aload_n hx hb d_Md_find_88 rfl (lv_at hl 2 rfl) ?_
            refine lv_iconst (v := 0) hx hb d_Md_find_89 (by decide) ?_
            refine hw_put (own := "QuantifierOutModel") (v := .int 0) (ty := .int) hx hb hts i_Md ft_Md tk_Md n_Md hown hW hS wg_md rfl 20 (by decide) (hts _ tw_623) (fun _ h9 => h9) rfl (tk_Md 20 (by decide)) rfl rfl (Nat.le_of_ble_eq_true rfl) d_Md_find_90 (fun H locs hW hS => ?_)
            have hW : hw_W D qcl (qty cI cJ cZ cN) _ (va_up Mg md (some (.inr (8, [.int (nI 0), .int (nI n), .ref kd, .ref on, .ref tw, .ref nu, .ref le, .ref fx, .ref fy, .ref si, .ref de, .ref ne, .ref it, .ref po, .ref ma, .ref ab, .ref be, .long ug, .long dg, .ref li, .int 0, .ref fr, .ref to])))) s H := hW
            generalize hMw4 : va_up Mg md (some (.inr (8, [.int (nI 0), .int (nI n), .ref kd, .ref on, .ref tw, .ref nu, .ref le, .ref fx, .ref fy, .ref si, .ref de, .ref ne, .ref it, .ref po, .ref ma, .ref ab, .ref be, .long ug, .long dg, .ref li, .int 0, .ref fr, .ref to]))) = Mw4 at hW
            have wg_ma : Mw4 ma = some (.inl (cI, 3, .inl (upd MA 2 (nI n1)))) := by rw [← hMw4, va_up_ne _ _ (Ne.symm (show md ≠ ma from hD 0 13 (by decide) (by decide)))]; exact wg_ma
            have wg_md : Mw4 md = some (.inr (8, [.int (nI 0), .int (nI n), .ref kd, .ref on, .ref tw, .ref nu, .ref le, .ref fx, .ref fy, .ref si, .ref de, .ref ne, .ref it, .ref po, .ref ma, .ref ab, .ref be, .long ug, .long dg, .ref li, .int 0, .ref fr, .ref to])) := by rw [← hMw4]; exact va_up_self _ _ _
            have hfr_Mw4 : ∀ x9, x9 ≠ md → Mw4 x9 = Mg x9 := fun x9 z9 => by rw [← hMw4, va_up_ne _ _ z9]
            refine lv_iconst (v := 0) hx hb d_Md_find_93 (by decide) ?_
            refine lv_istore (lv' := [(4, .int 0), (3, .int (nI (2 * n1))), (2, .int (nI j)), (0, .ref md), (1, .int (nI a))]) hx hb d_Md_find_94 hl (by decide) rfl (fun ls hl => ?_)
            have hK3 : md_W cI cJ cZ md kd on tw nu le fx fy si de ne it po ma ab be li fr to Mw4 (nI 0) n ug dg (nI 0) NEg IT PO (upd MA 2 (nI n1)) ABg BEg := ⟨wg_md, (hfr_Mw4 ne (Ne.symm (show md ≠ ne from hD 0 10 (by decide) (by decide)))).trans hKg.2.1, (hfr_Mw4 it (Ne.symm (show md ≠ it from hD 0 11 (by decide) (by decide)))).trans hKg.2.2.1, (hfr_Mw4 po (Ne.symm (show md ≠ po from hD 0 12 (by decide) (by decide)))).trans hKg.2.2.2.1, (hfr_Mw4 ma (Ne.symm (show md ≠ ma from hD 0 13 (by decide) (by decide)))).trans hKg.2.2.2.2.1, (hfr_Mw4 ab (Ne.symm (show md ≠ ab from hD 0 14 (by decide) (by decide)))).trans hKg.2.2.2.2.2.1, (hfr_Mw4 be (Ne.symm (show md ≠ be from hD 0 15 (by decide) (by decide)))).trans hKg.2.2.2.2.2.2⟩
            have hfx3 : ∀ x9, x9 ≠ md → x9 ≠ ne → x9 ≠ it → x9 ≠ po → x9 ≠ ma → x9 ≠ ab → x9 ≠ be → x9 ≠ li → x9 ≠ fr → x9 ≠ to → Mw4 x9 = M x9 := fun x9 z0 z1 z2 z3 z4 z5 z6 z7 z8 z9 => ((hfr_Mw4 x9 z0).trans (hfg x9 z0 z1 z2 z3 z4 z5 z6)).trans (hf1 x9 z0 z1 z2 z3 z4 z5 z6)
            obtain ⟨LI0, FR0, TO0, hli0, hfr0, hto0⟩ := hL
            have loop : ∀ (z i : Nat), i + z = 2 * n1 + 1 → ∀ (H : Heap) (locs : List Loc) (M2 : Nat → Option va_E) (u2 d2 : Int64) (NE2 IT2 : Nat → Int32) (PO2 : Nat → Int64) (MA2 : Nat → Int32) (AB2 BE2 : Nat → Int64) (mm : Nat) (LI2 FR2 TO2 : Nat → Int32) (fs lS : Nat → Nat) (ipv : Int32) (ls : Array Slot), hw_W D qcl (qty cI cJ cZ cN) (hw_A M s.heap.size) M2 s H → va_S (hw_A M s.heap.size) s.heap H locs → md_W cI cJ cZ md kd on tw nu le fx fy si de ne it po ma ab be li fr to M2 (nI 0) n u2 d2 (nI mm) NE2 IT2 PO2 MA2 AB2 BE2 → (∀ x9, x9 ≠ md → x9 ≠ ne → x9 ≠ it → x9 ≠ po → x9 ≠ ma → x9 ≠ ab → x9 ≠ be → x9 ≠ li → x9 ≠ fr → x9 ≠ to → M2 x9 = M x9) → (M2 li = some (.inl (cZ, 130, .inl LI2)) ∧ M2 fr = some (.inl (cI, 66, .inl FR2)) ∧ M2 to = some (.inl (cI, 66, .inl TO2))) → (MA2 2 = nI n1 ∧ ∀ i, 128 ≤ i → AB2 i = ABg i ∧ BE2 i = BEg i) → pj_I tt mm fs lS i ipv → (i = 0 → ipv = 0) → (∀ i2, i2 + 1 = i → LI2 i2 = ipv) → (∀ k, k < mm → FR2 k = nI (fs k) ∧ TO2 k = nI (lS k)) → lv_has ls 6 [(4, .int (nI i)), (3, .int (nI (2 * n1))), (2, .int (nI j)), (0, .ref md), (1, .int (nI a))] → W p l e ({ frames := 8, cells := 0, slots := 0, locals := 250 }) s m [.ref md, .int (nI a)].toArray below meth c H locs 0 0 Q9 (F0 m 96 ls []) := by
              intro z
              induction z with
              | zero =>
                intro i hz9 H locs M2 u2 d2 NE2 IT2 PO2 MA2 AB2 BE2 mm LI2 FR2 TO2 fs lS ipv ls hW hS hK2 hfx hrw hkp hJ9 hip0 hip hFs hl
                have hT2 := md_T.kF hD hT hfx
                have w2_md := hK2.1
                have w2_md : M2 md = some (.inr (8, [.int (nI 0), .int (nI n), .ref kd, .ref on, .ref tw, .ref nu, .ref le, .ref fx, .ref fy, .ref si, .ref de, .ref ne, .ref it, .ref po, .ref ma, .ref ab, .ref be, .long u2, .long d2, .ref li, .int (nI mm), .ref fr, .ref to])) := w2_md
                refine lv_iload hx hb d_Md_find_96 (lv_at hl 0 rfl) ?_
                refine lv_iload_n hx hb d_Md_find_98 rfl (lv_at hl 1 rfl) ?_
                refine lv_icmp_gt (tgt := 227) hx hb d_Md_find_99 (by decide) (fun c_99 => ?_) (fun c_99 => ?_)
                · skip
                  have hi9 : i = 2 * n1 + 1 := by omega
                  subst hi9
                  obtain ⟨sst, hsst⟩ := qi_stx hinc
                  have hsys := qi_sys hinc hsst hJ9.1 (fun s9 _ u hu => htS s9 u hu)
                  have ea : kf (64 * 2) AB2 = kf (64 * 2) ABg := funext fun t => (hkp.2 _ (by omega)).1
                  have eb : kf (64 * 2) BE2 = kf (64 * 2) BEg := funext fun t => (hkp.2 _ (by omega)).2
                  have hrow2 : kr (kf (64 * 2) AB2) (kf (64 * 2) BE2) n1 255 50 := by rw [ea, eb]; exact hrow
                  have hMV2 : mk_v (kf (64 * 2) AB2) (kf (64 * 2) BE2) = MV := by rw [ea, eb, hMV]
                  have hmm := pj_m hJ9
                  have hbd : ∀ k, k < mm → FR2 k = nI (fs k) ∧ TO2 k = nI (lS k) ∧ fs k < 2 * n1 + 1 ∧ lS k < 2 * n1 + 1 := fun k hk => by have h1 := hJ9.1.1 k hk; exact ⟨(hFs k hk).1, (hFs k hk).2, by omega, by omega⟩
                  refine lv_iconst (v := 1) hx hb d_Md_find_227 (by decide) ?_
                  rw [hQ9]
                  rw [← hMV2, hS9] at hsys
                  exact hw_retz hx hb hr rfl hlocks hW hS ⟨Or.inr ⟨hcc, rfl, mm, u2, d2, NE2, IT2, PO2, MA2, AB2, BE2, st, mt, LI2, FR2, TO2, n1, fs, lS, hK2, hT2, hM, hrw, hg, hn27, hkp.1, hrow2, by omega, hbd, hsys⟩, md_F.ofX hfx⟩ d_Md_find_228
                · skip
                  exact absurd (nI_lt (show 2 * n1 < i by omega) (by omega)) c_99
              | succ z ihz =>
                intro i hz9 H locs M2 u2 d2 NE2 IT2 PO2 MA2 AB2 BE2 mm LI2 FR2 TO2 fs lS ipv ls hW hS hK2 hfx hrw hkp hJ9 hip0 hip hFs hl
                have hT2 := md_T.kF hD hT hfx
                have w2_md := hK2.1
                have w2_md : M2 md = some (.inr (8, [.int (nI 0), .int (nI n), .ref kd, .ref on, .ref tw, .ref nu, .ref le, .ref fx, .ref fy, .ref si, .ref de, .ref ne, .ref it, .ref po, .ref ma, .ref ab, .ref be, .long u2, .long d2, .ref li, .int (nI mm), .ref fr, .ref to])) := w2_md
                refine lv_iload hx hb d_Md_find_96 (lv_at hl 0 rfl) ?_
                refine lv_iload_n hx hb d_Md_find_98 rfl (lv_at hl 1 rfl) ?_
                refine lv_icmp_gt (tgt := 227) hx hb d_Md_find_99 (by decide) (fun c_99 => ?_) (fun c_99 => ?_)
                · skip
                  exact absurd c_99 (nI_nlt (by omega) (by omega))
                · skip
                  have next : ∀ (H : Heap) (locs : List Loc) (M2 : Nat → Option va_E) (u2 d2 : Int64) (NE2 IT2 : Nat → Int32) (PO2 : Nat → Int64) (MA2 : Nat → Int32) (AB2 BE2 : Nat → Int64) (mm : Nat) (LI2 FR2 TO2 : Nat → Int32) (fs lS : Nat → Nat) (ipv : Int32) (ls : Array Slot), hw_W D qcl (qty cI cJ cZ cN) (hw_A M s.heap.size) M2 s H → va_S (hw_A M s.heap.size) s.heap H locs → md_W cI cJ cZ md kd on tw nu le fx fy si de ne it po ma ab be li fr to M2 (nI 0) n u2 d2 (nI mm) NE2 IT2 PO2 MA2 AB2 BE2 → (∀ x9, x9 ≠ md → x9 ≠ ne → x9 ≠ it → x9 ≠ po → x9 ≠ ma → x9 ≠ ab → x9 ≠ be → x9 ≠ li → x9 ≠ fr → x9 ≠ to → M2 x9 = M x9) → (M2 li = some (.inl (cZ, 130, .inl LI2)) ∧ M2 fr = some (.inl (cI, 66, .inl FR2)) ∧ M2 to = some (.inl (cI, 66, .inl TO2))) → (MA2 2 = nI n1 ∧ ∀ i, 128 ≤ i → AB2 i = ABg i ∧ BE2 i = BEg i) → pj_I tt mm fs lS (i + 1) ipv → ((i + 1) = 0 → ipv = 0) → (∀ i2, i2 + 1 = (i + 1) → LI2 i2 = ipv) → (∀ k, k < mm → FR2 k = nI (fs k) ∧ TO2 k = nI (lS k)) → lv_has ls 6 [(4, .int (nI i)), (3, .int (nI (2 * n1))), (2, .int (nI j)), (0, .ref md), (1, .int (nI a))] → W p l e ({ frames := 8, cells := 0, slots := 0, locals := 250 }) s m [.ref md, .int (nI a)].toArray below meth c H locs 0 0 Q9 (F0 m 221 ls []) := by
                    intro H locs M2 u2 d2 NE2 IT2 PO2 MA2 AB2 BE2 mm LI2 FR2 TO2 fs lS ipv ls hW hS hK2 hfx hrw hkp hJ9 hip0 hip hFs hl
                    obtain ⟨k9, ek9⟩ : ∃ y9 : Int32, y9 = (nI i) + Int32.ofInt (1) := ⟨_, rfl⟩
                    refine lv_iinc (v := k9) (lv' := [(4, .int k9), (3, .int (nI (2 * n1))), (2, .int (nI j)), (0, .ref md), (1, .int (nI a))]) hx hb d_Md_find_221 hl (k := 0) rfl ek9.symm (by decide) rfl (fun ls hl => ?_)
                    have ek9b : k9 = nI (i + 1) := by rw [ek9]; exact nI_add i 1
                    subst ek9b
                    refine lv_goto (tgt := 96) hx hb d_Md_find_224 (by decide) ?_
                    exact ihz (i + 1) (by omega) H locs M2 u2 d2 NE2 IT2 PO2 MA2 AB2 BE2 mm LI2 FR2 TO2 fs lS ipv ls hW hS hK2 hfx hrw hkp hJ9 hip0 hip hFs (lv_sub hl [0, 1, 2, 3, 4] rfl)
                  have ea : kf (64 * 2) AB2 = kf (64 * 2) ABg := funext fun t => (hkp.2 _ (by omega)).1
                  have eb : kf (64 * 2) BE2 = kf (64 * 2) BEg := funext fun t => (hkp.2 _ (by omega)).2
                  have hrow2 : kr (kf (64 * 2) AB2) (kf (64 * 2) BE2) n1 255 50 := by rw [ea, eb]; exact hrow
                  have hMV2 : mk_v (kf (64 * 2) AB2) (kf (64 * 2) BE2) = MV := by rw [ea, eb, hMV]
                  refine lv_aload_n hx hb d_Md_find_102 rfl (lv_at hl 3 rfl) ?_
                  refine lv_iconst (v := 2) hx hb d_Md_find_103 (by decide) ?_
                  refine lv_iload hx hb d_Md_find_104 (lv_at hl 0 rfl) ?_
                  refine hw_callv (hw_runV (n := 2) (own := "QuantifierOutModel") (As := [.int 2, .int (nI i)]) (rest := []) hx hb hml hown hts hX hW hl.1 (c_Md_trial l D cI cJ cZ cN md kd on tw nu le fx fy si de ne it po ma ab be li fr to (nI 0) n u2 d2 (nI mm) NE2 IT2 PO2 MA2 AB2 BE2 2 n1 i 255 50 25500 5000 _ M2 hD hK2 (by omega) hkp.1 (by omega) (by omega) hrow2 (by decide) (by decide) (by decide) (by decide) (by decide) (by decide) (by decide)) hK2.1 rfl tw_783 tw_785 ts_26 tw_5 tw_786 (by decide +kernel) rfl rfl ⟨by decide, by decide⟩ rfl rfl (Nat.le_of_ble_eq_true rfl) d_Md_find_106 ⟨by decide, by decide⟩) hW hS hA (fun Mt H locs hpt9 hz hW hS => ?_)
                  obtain ⟨ut, dt, hdt0, hdt, hut, hat, hKt, hft⟩ := hpt9
                  rw [hMV2] at hat
                  have wt_md := hKt.1
                  have wt_md : Mt md = some (.inr (8, [.int (nI 0), .int (nI n), .ref kd, .ref on, .ref tw, .ref nu, .ref le, .ref fx, .ref fy, .ref si, .ref de, .ref ne, .ref it, .ref po, .ref ma, .ref ab, .ref be, .long ut, .long dt, .ref li, .int (nI mm), .ref fr, .ref to])) := wt_md
                  have wt_po := hKt.2.2.2.1
                  have wt_po : Mt po = some (.inl (cJ, 12, .inr (.inl PO2))) := wt_po
                  refine lv_iconst (v := 0) hx hb d_Md_find_109 (by decide) ?_
                  refine lv_istore (lv' := [(5, .int 0), (4, .int (nI i)), (3, .int (nI (2 * n1))), (2, .int (nI j)), (0, .ref md), (1, .int (nI a))]) hx hb d_Md_find_110 hl (by decide) rfl (fun ls hl => ?_)
                  refine lv_iload hx hb d_Md_find_112 (lv_at hl 0 rfl) ?_
                  refine lv_iconst (v := 4) hx hb d_Md_find_114 (by decide) ?_
                  refine lv_icmp_ge (tgt := 139) hx hb d_Md_find_115 (by decide) (fun c_1150 => absurd c_1150 (by decide)) (fun c_1150 => ?_)
                  refine lv_aload_n hx hb d_Md_find_118 rfl (lv_at hl 4 rfl) ?_
                  refine hw_get (own := "QuantifierOutModel") (v := .ref po) hx hb hts i_Md hown hW wt_md rfl 13 (by decide) (hts _ tw_616) (fun _ h9 => h9) rfl d_Md_find_119 ?_
                  refine lv_bipush (v := 8) hx hb d_Md_find_122 (by decide) ?_
                  refine lv_iload hx hb d_Md_find_124 (lv_at hl 0 rfl) ?_
                  refine lv_iadd hx hb d_Md_find_126 ?_
                  refine lv_topi (fun x5 ex5 => ?_)
                  have ejx5 : x5 = 8 := by rw [ex5]; rfl
                  rw [ejx5]
                  refine lv_iload hx hb d_Md_find_127 (lv_at hl 0 rfl) ?_
                  refine lv_iconst (v := 2) hx hb d_Md_find_129 (by decide) ?_
                  refine lv_irem hx hb d_Md_find_130 (by decide) ?_
                  refine lv_topi (fun x6 ex6 => ?_)
                  have ejx6 : x6 = 0 := by rw [ex6]; decide
                  rw [ejx6]
                  obtain ⟨x7, ex7⟩ : ∃ y9 : Int64, y9 = (0 : Int32).toInt64 := ⟨_, rfl⟩
                  refine lv_i2l (v := x7) hx hb d_Md_find_131 ex7.symm ?_
                  have ejx7 : x7 = 0 := by rw [ex7]; rfl
                  rw [ejx7]
                  refine hw_lst hx hb hW hS 1 wt_po rfl 8 rfl (by decide) (by decide) d_Md_find_132 (fun H locs hW hS => ?_)
                  have hW : hw_W D qcl (qty cI cJ cZ cN) _ (va_up Mt po (some (.inl (cJ, 12, .inr (.inl (vp_updL PO2 8 0)))))) s H := hW
                  generalize hMw8 : va_up Mt po (some (.inl (cJ, 12, .inr (.inl (vp_updL PO2 8 0))))) = Mw8 at hW
                  have wt_md : Mw8 md = some (.inr (8, [.int (nI 0), .int (nI n), .ref kd, .ref on, .ref tw, .ref nu, .ref le, .ref fx, .ref fy, .ref si, .ref de, .ref ne, .ref it, .ref po, .ref ma, .ref ab, .ref be, .long ut, .long dt, .ref li, .int (nI mm), .ref fr, .ref to])) := by rw [← hMw8, va_up_ne _ _ (show md ≠ po from hD 0 12 (by decide) (by decide))]; exact wt_md
                  have wt_po : Mw8 po = some (.inl (cJ, 12, .inr (.inl (vp_updL PO2 8 0)))) := by rw [← hMw8]; exact va_up_self _ _ _
                  have hfr_Mw8 : ∀ x9, x9 ≠ po → Mw8 x9 = Mt x9 := fun x9 z9 => by rw [← hMw8, va_up_ne _ _ z9]
                  obtain ⟨kx0, ekx0⟩ : ∃ y9 : Int32, y9 = 0 + Int32.ofInt (1) := ⟨_, rfl⟩
                  refine lv_iinc (v := kx0) (lv' := [(5, .int kx0), (4, .int (nI i)), (3, .int (nI (2 * n1))), (2, .int (nI j)), (0, .ref md), (1, .int (nI a))]) hx hb d_Md_find_133 hl (k := 0) rfl ekx0.symm (by decide) rfl (fun ls hl => ?_)
                  have ekx0b : kx0 = 1 := by rw [ekx0]; rfl
                  rw [ekx0b] at hl
                  refine lv_goto (tgt := 112) hx hb d_Md_find_136 (by decide) ?_
                  refine lv_iload hx hb d_Md_find_112 (lv_at hl 0 rfl) ?_
                  refine lv_iconst (v := 4) hx hb d_Md_find_114 (by decide) ?_
                  refine lv_icmp_ge (tgt := 139) hx hb d_Md_find_115 (by decide) (fun c_1151 => absurd c_1151 (by decide)) (fun c_1151 => ?_)
                  refine lv_aload_n hx hb d_Md_find_118 rfl (lv_at hl 4 rfl) ?_
                  refine hw_get (own := "QuantifierOutModel") (v := .ref po) hx hb hts i_Md hown hW wt_md rfl 13 (by decide) (hts _ tw_616) (fun _ h9 => h9) rfl d_Md_find_119 ?_
                  refine lv_bipush (v := 8) hx hb d_Md_find_122 (by decide) ?_
                  refine lv_iload hx hb d_Md_find_124 (lv_at hl 0 rfl) ?_
                  refine lv_iadd hx hb d_Md_find_126 ?_
                  refine lv_topi (fun x9 ex9 => ?_)
                  have ejx9 : x9 = 9 := by rw [ex9]; rfl
                  rw [ejx9]
                  refine lv_iload hx hb d_Md_find_127 (lv_at hl 0 rfl) ?_
                  refine lv_iconst (v := 2) hx hb d_Md_find_129 (by decide) ?_
                  refine lv_irem hx hb d_Md_find_130 (by decide) ?_
                  refine lv_topi (fun x10 ex10 => ?_)
                  have ejx10 : x10 = 1 := by rw [ex10]; decide
                  rw [ejx10]
                  obtain ⟨x11, ex11⟩ : ∃ y9 : Int64, y9 = (1 : Int32).toInt64 := ⟨_, rfl⟩
                  refine lv_i2l (v := x11) hx hb d_Md_find_131 ex11.symm ?_
                  have ejx11 : x11 = 1 := by rw [ex11]; rfl
                  rw [ejx11]
                  refine hw_lst hx hb hW hS 1 wt_po rfl 9 rfl (by decide) (by decide) d_Md_find_132 (fun H locs hW hS => ?_)
                  have hW : hw_W D qcl (qty cI cJ cZ cN) _ (va_up Mw8 po (some (.inl (cJ, 12, .inr (.inl (vp_updL (vp_updL PO2 8 0) 9 1)))))) s H := hW
                  generalize hMw12 : va_up Mw8 po (some (.inl (cJ, 12, .inr (.inl (vp_updL (vp_updL PO2 8 0) 9 1))))) = Mw12 at hW
                  have wt_md : Mw12 md = some (.inr (8, [.int (nI 0), .int (nI n), .ref kd, .ref on, .ref tw, .ref nu, .ref le, .ref fx, .ref fy, .ref si, .ref de, .ref ne, .ref it, .ref po, .ref ma, .ref ab, .ref be, .long ut, .long dt, .ref li, .int (nI mm), .ref fr, .ref to])) := by rw [← hMw12, va_up_ne _ _ (show md ≠ po from hD 0 12 (by decide) (by decide))]; exact wt_md
                  have wt_po : Mw12 po = some (.inl (cJ, 12, .inr (.inl (vp_updL (vp_updL PO2 8 0) 9 1)))) := by rw [← hMw12]; exact va_up_self _ _ _
                  have hfr_Mw12 : ∀ x9, x9 ≠ po → Mw12 x9 = Mw8 x9 := fun x9 z9 => by rw [← hMw12, va_up_ne _ _ z9]
                  obtain ⟨kx1, ekx1⟩ : ∃ y9 : Int32, y9 = 1 + Int32.ofInt (1) := ⟨_, rfl⟩
                  refine lv_iinc (v := kx1) (lv' := [(5, .int kx1), (4, .int (nI i)), (3, .int (nI (2 * n1))), (2, .int (nI j)), (0, .ref md), (1, .int (nI a))]) hx hb d_Md_find_133 hl (k := 0) rfl ekx1.symm (by decide) rfl (fun ls hl => ?_)
                  have ekx1b : kx1 = 2 := by rw [ekx1]; rfl
                  rw [ekx1b] at hl
                  refine lv_goto (tgt := 112) hx hb d_Md_find_136 (by decide) ?_
                  refine lv_iload hx hb d_Md_find_112 (lv_at hl 0 rfl) ?_
                  refine lv_iconst (v := 4) hx hb d_Md_find_114 (by decide) ?_
                  refine lv_icmp_ge (tgt := 139) hx hb d_Md_find_115 (by decide) (fun c_1152 => absurd c_1152 (by decide)) (fun c_1152 => ?_)
                  refine lv_aload_n hx hb d_Md_find_118 rfl (lv_at hl 4 rfl) ?_
                  refine hw_get (own := "QuantifierOutModel") (v := .ref po) hx hb hts i_Md hown hW wt_md rfl 13 (by decide) (hts _ tw_616) (fun _ h9 => h9) rfl d_Md_find_119 ?_
                  refine lv_bipush (v := 8) hx hb d_Md_find_122 (by decide) ?_
                  refine lv_iload hx hb d_Md_find_124 (lv_at hl 0 rfl) ?_
                  refine lv_iadd hx hb d_Md_find_126 ?_
                  refine lv_topi (fun x13 ex13 => ?_)
                  have ejx13 : x13 = 10 := by rw [ex13]; rfl
                  rw [ejx13]
                  refine lv_iload hx hb d_Md_find_127 (lv_at hl 0 rfl) ?_
                  refine lv_iconst (v := 2) hx hb d_Md_find_129 (by decide) ?_
                  refine lv_irem hx hb d_Md_find_130 (by decide) ?_
                  refine lv_topi (fun x14 ex14 => ?_)
                  have ejx14 : x14 = 0 := by rw [ex14]; decide
                  rw [ejx14]
                  obtain ⟨x15, ex15⟩ : ∃ y9 : Int64, y9 = (0 : Int32).toInt64 := ⟨_, rfl⟩
                  refine lv_i2l (v := x15) hx hb d_Md_find_131 ex15.symm ?_
                  have ejx15 : x15 = 0 := by rw [ex15]; rfl
                  rw [ejx15]
                  refine hw_lst hx hb hW hS 1 wt_po rfl 10 rfl (by decide) (by decide) d_Md_find_132 (fun H locs hW hS => ?_)
                  have hW : hw_W D qcl (qty cI cJ cZ cN) _ (va_up Mw12 po (some (.inl (cJ, 12, .inr (.inl (vp_updL (vp_updL (vp_updL PO2 8 0) 9 1) 10 0)))))) s H := hW
                  generalize hMw16 : va_up Mw12 po (some (.inl (cJ, 12, .inr (.inl (vp_updL (vp_updL (vp_updL PO2 8 0) 9 1) 10 0))))) = Mw16 at hW
                  have wt_md : Mw16 md = some (.inr (8, [.int (nI 0), .int (nI n), .ref kd, .ref on, .ref tw, .ref nu, .ref le, .ref fx, .ref fy, .ref si, .ref de, .ref ne, .ref it, .ref po, .ref ma, .ref ab, .ref be, .long ut, .long dt, .ref li, .int (nI mm), .ref fr, .ref to])) := by rw [← hMw16, va_up_ne _ _ (show md ≠ po from hD 0 12 (by decide) (by decide))]; exact wt_md
                  have wt_po : Mw16 po = some (.inl (cJ, 12, .inr (.inl (vp_updL (vp_updL (vp_updL PO2 8 0) 9 1) 10 0)))) := by rw [← hMw16]; exact va_up_self _ _ _
                  have hfr_Mw16 : ∀ x9, x9 ≠ po → Mw16 x9 = Mw12 x9 := fun x9 z9 => by rw [← hMw16, va_up_ne _ _ z9]
                  obtain ⟨kx2, ekx2⟩ : ∃ y9 : Int32, y9 = 2 + Int32.ofInt (1) := ⟨_, rfl⟩
                  refine lv_iinc (v := kx2) (lv' := [(5, .int kx2), (4, .int (nI i)), (3, .int (nI (2 * n1))), (2, .int (nI j)), (0, .ref md), (1, .int (nI a))]) hx hb d_Md_find_133 hl (k := 0) rfl ekx2.symm (by decide) rfl (fun ls hl => ?_)
                  have ekx2b : kx2 = 3 := by rw [ekx2]; rfl
                  rw [ekx2b] at hl
                  refine lv_goto (tgt := 112) hx hb d_Md_find_136 (by decide) ?_
                  refine lv_iload hx hb d_Md_find_112 (lv_at hl 0 rfl) ?_
                  refine lv_iconst (v := 4) hx hb d_Md_find_114 (by decide) ?_
                  refine lv_icmp_ge (tgt := 139) hx hb d_Md_find_115 (by decide) (fun c_1153 => absurd c_1153 (by decide)) (fun c_1153 => ?_)
                  refine lv_aload_n hx hb d_Md_find_118 rfl (lv_at hl 4 rfl) ?_
                  refine hw_get (own := "QuantifierOutModel") (v := .ref po) hx hb hts i_Md hown hW wt_md rfl 13 (by decide) (hts _ tw_616) (fun _ h9 => h9) rfl d_Md_find_119 ?_
                  refine lv_bipush (v := 8) hx hb d_Md_find_122 (by decide) ?_
                  refine lv_iload hx hb d_Md_find_124 (lv_at hl 0 rfl) ?_
                  refine lv_iadd hx hb d_Md_find_126 ?_
                  refine lv_topi (fun x17 ex17 => ?_)
                  have ejx17 : x17 = 11 := by rw [ex17]; rfl
                  rw [ejx17]
                  refine lv_iload hx hb d_Md_find_127 (lv_at hl 0 rfl) ?_
                  refine lv_iconst (v := 2) hx hb d_Md_find_129 (by decide) ?_
                  refine lv_irem hx hb d_Md_find_130 (by decide) ?_
                  refine lv_topi (fun x18 ex18 => ?_)
                  have ejx18 : x18 = 1 := by rw [ex18]; decide
                  rw [ejx18]
                  obtain ⟨x19, ex19⟩ : ∃ y9 : Int64, y9 = (1 : Int32).toInt64 := ⟨_, rfl⟩
                  refine lv_i2l (v := x19) hx hb d_Md_find_131 ex19.symm ?_
                  have ejx19 : x19 = 1 := by rw [ex19]; rfl
                  rw [ejx19]
                  refine hw_lst hx hb hW hS 1 wt_po rfl 11 rfl (by decide) (by decide) d_Md_find_132 (fun H locs hW hS => ?_)
                  have hW : hw_W D qcl (qty cI cJ cZ cN) _ (va_up Mw16 po (some (.inl (cJ, 12, .inr (.inl (vp_updL (vp_updL (vp_updL (vp_updL PO2 8 0) 9 1) 10 0) 11 1)))))) s H := hW
                  generalize hMw20 : va_up Mw16 po (some (.inl (cJ, 12, .inr (.inl (vp_updL (vp_updL (vp_updL (vp_updL PO2 8 0) 9 1) 10 0) 11 1))))) = Mw20 at hW
                  have wt_md : Mw20 md = some (.inr (8, [.int (nI 0), .int (nI n), .ref kd, .ref on, .ref tw, .ref nu, .ref le, .ref fx, .ref fy, .ref si, .ref de, .ref ne, .ref it, .ref po, .ref ma, .ref ab, .ref be, .long ut, .long dt, .ref li, .int (nI mm), .ref fr, .ref to])) := by rw [← hMw20, va_up_ne _ _ (show md ≠ po from hD 0 12 (by decide) (by decide))]; exact wt_md
                  have wt_po : Mw20 po = some (.inl (cJ, 12, .inr (.inl (vp_updL (vp_updL (vp_updL (vp_updL PO2 8 0) 9 1) 10 0) 11 1)))) := by rw [← hMw20]; exact va_up_self _ _ _
                  have hfr_Mw20 : ∀ x9, x9 ≠ po → Mw20 x9 = Mw16 x9 := fun x9 z9 => by rw [← hMw20, va_up_ne _ _ z9]
                  obtain ⟨kx3, ekx3⟩ : ∃ y9 : Int32, y9 = 3 + Int32.ofInt (1) := ⟨_, rfl⟩
                  refine lv_iinc (v := kx3) (lv' := [(5, .int kx3), (4, .int (nI i)), (3, .int (nI (2 * n1))), (2, .int (nI j)), (0, .ref md), (1, .int (nI a))]) hx hb d_Md_find_133 hl (k := 0) rfl ekx3.symm (by decide) rfl (fun ls hl => ?_)
                  have ekx3b : kx3 = 4 := by rw [ekx3]; rfl
                  rw [ekx3b] at hl
                  refine lv_goto (tgt := 112) hx hb d_Md_find_136 (by decide) ?_
                  refine lv_iload hx hb d_Md_find_112 (lv_at hl 0 rfl) ?_
                  refine lv_iconst (v := 4) hx hb d_Md_find_114 (by decide) ?_
                  refine lv_icmp_ge (tgt := 139) hx hb d_Md_find_115 (by decide) (fun c_1154 => ?_) (fun c_1154 => absurd (by decide) c_1154)
                  have hKp : md_W cI cJ cZ md kd on tw nu le fx fy si de ne it po ma ab be li fr to Mw20 (nI 0) n ut dt (nI mm) NE2 IT2 (po4 PO2 0 0) MA2 AB2 BE2 := ⟨(((((hfr_Mw20 md (show md ≠ po from hD 0 12 (by decide) (by decide)))).trans (hfr_Mw16 md (show md ≠ po from hD 0 12 (by decide) (by decide)))).trans (hfr_Mw12 md (show md ≠ po from hD 0 12 (by decide) (by decide)))).trans (hfr_Mw8 md (show md ≠ po from hD 0 12 (by decide) (by decide)))).trans hKt.1, (((((hfr_Mw20 ne (show ne ≠ po from hD 10 12 (by decide) (by decide)))).trans (hfr_Mw16 ne (show ne ≠ po from hD 10 12 (by decide) (by decide)))).trans (hfr_Mw12 ne (show ne ≠ po from hD 10 12 (by decide) (by decide)))).trans (hfr_Mw8 ne (show ne ≠ po from hD 10 12 (by decide) (by decide)))).trans hKt.2.1, (((((hfr_Mw20 it (show it ≠ po from hD 11 12 (by decide) (by decide)))).trans (hfr_Mw16 it (show it ≠ po from hD 11 12 (by decide) (by decide)))).trans (hfr_Mw12 it (show it ≠ po from hD 11 12 (by decide) (by decide)))).trans (hfr_Mw8 it (show it ≠ po from hD 11 12 (by decide) (by decide)))).trans hKt.2.2.1, wt_po, (((((hfr_Mw20 ma (Ne.symm (show po ≠ ma from hD 12 13 (by decide) (by decide))))).trans (hfr_Mw16 ma (Ne.symm (show po ≠ ma from hD 12 13 (by decide) (by decide))))).trans (hfr_Mw12 ma (Ne.symm (show po ≠ ma from hD 12 13 (by decide) (by decide))))).trans (hfr_Mw8 ma (Ne.symm (show po ≠ ma from hD 12 13 (by decide) (by decide))))).trans hKt.2.2.2.2.1, (((((hfr_Mw20 ab (Ne.symm (show po ≠ ab from hD 12 14 (by decide) (by decide))))).trans (hfr_Mw16 ab (Ne.symm (show po ≠ ab from hD 12 14 (by decide) (by decide))))).trans (hfr_Mw12 ab (Ne.symm (show po ≠ ab from hD 12 14 (by decide) (by decide))))).trans (hfr_Mw8 ab (Ne.symm (show po ≠ ab from hD 12 14 (by decide) (by decide))))).trans hKt.2.2.2.2.2.1, (((((hfr_Mw20 be (Ne.symm (show po ≠ be from hD 12 15 (by decide) (by decide))))).trans (hfr_Mw16 be (Ne.symm (show po ≠ be from hD 12 15 (by decide) (by decide))))).trans (hfr_Mw12 be (Ne.symm (show po ≠ be from hD 12 15 (by decide) (by decide))))).trans (hfr_Mw8 be (Ne.symm (show po ≠ be from hD 12 15 (by decide) (by decide))))).trans hKt.2.2.2.2.2.2⟩
                  have hfp : ∀ x9, x9 ≠ md → x9 ≠ ne → x9 ≠ it → x9 ≠ po → x9 ≠ ma → x9 ≠ ab → x9 ≠ be → Mw20 x9 = Mt x9 := fun x9 z0 z1 z2 z3 z4 z5 z6 => ((((hfr_Mw20 x9 z3)).trans (hfr_Mw16 x9 z3)).trans (hfr_Mw12 x9 z3)).trans (hfr_Mw8 x9 z3)
                  refine lv_aload_n hx hb d_Md_find_139 rfl (lv_at hl 4 rfl) ?_
                  refine lv_iconst (v := 2) hx hb d_Md_find_140 (by decide) ?_
                  refine lv_iload_n hx hb d_Md_find_141 rfl (lv_at hl 3 rfl) ?_
                  refine hw_callv (hw_runV (n := 2) (own := "QuantifierOutModel") (As := [.int 2, .int (nI j)]) (rest := []) hx hb hml hown hts hX hW hl.1 (c_Md_step l D cI cJ cZ cN md kd on tw nu le fx fy si de ne it po ma ab be li fr to (nI 0) n ut dt (nI mm) NE2 IT2 (po4 PO2 0 0) MA2 AB2 BE2 1 j o _ Mw20 hD hKp (by omega) hjo) hKp.1 rfl tw_787 tw_789 ts_27 tw_5 tw_790 (by decide +kernel) rfl rfl ⟨by decide, by decide⟩ rfl rfl (Nat.le_of_ble_eq_true rfl) d_Md_find_142 ⟨by decide, by decide⟩) hW hS hA (fun Ms H locs hps9 hz hW hS => ?_)
                  obtain ⟨PO3, hp1, hp2, hp3, hp4, hp5, hKs, hfs⟩ := hps9
                  have hfz3 : ∀ x9, x9 ≠ md → x9 ≠ ne → x9 ≠ it → x9 ≠ po → x9 ≠ ma → x9 ≠ ab → x9 ≠ be → Ms x9 = M2 x9 := fun x9 z0 z1 z2 z3 z4 z5 z6 => ((hfs x9 z0 z1 z2 z3 z4 z5 z6).trans (hfp x9 z0 z1 z2 z3 z4 z5 z6)).trans (hft x9 z0 z1 z2 z3 z4 z5 z6)
                  have hT3 := md_T.kept hD hT2 hfz3
                  have e8 : po4 PO2 0 0 8 = 0 := by unfold po4; rw [pk_uLn (by decide), pk_uLn (by decide), pk_uLn (by decide)]; exact pk_uLs
                  have e9 : po4 PO2 0 0 9 = 1 := by unfold po4; rw [pk_uLn (by decide), pk_uLn (by decide)]; exact pk_uLs
                  have e10 : po4 PO2 0 0 10 = 0 := by unfold po4; rw [pk_uLn (by decide)]; exact pk_uLs
                  have e11 : po4 PO2 0 0 11 = 1 := by unfold po4; exact pk_uLs
                  have ho0 : PO3 (4 * 1 + 2 * o) = 0 := by rw [hp4]; rcases (show o = 0 ∨ o = 1 by omega) with rfl | rfl; exact e8; exact e10
                  have ho1 : PO3 (4 * 1 + 2 * o + 1) = 1 := by rw [hp5]; rcases (show o = 0 ∨ o = 1 by omega) with rfl | rfl; exact e9; exact e11
                  have hBu : nP_j j (nP q1) (qm_fr ut.toInt dt.toInt) 0 ↔ nP q1 (pX PO3 1) (pY PO3 1) := by
                    rw [← hq0, ← ho0, ← ho1, ← hp2, ← hp3]; unfold pX pY nP_j
                    rcases (show j = 0 ∨ j = 1 by omega) with rfl | rfl
                    · rw [show o = 1 by omega]; rfl
                    · rw [show o = 0 by omega]; rfl
                  have i1 : (1 : Int64).toInt = 1 := rfl
                  have i0 : (0 : Int64).toInt = 0 := rfl
                  have hpt3 : pt_b PO3 1 1 1 := by
                    have en0 : pn 1 = 25500 := rfl; have ed0 : pd 1 = 5000 := rfl
                    unfold pt_b
                    rcases (show j = 0 ∨ j = 1 by omega) with rfl | rfl
                    · have eo : o = 1 := by omega
                      subst eo
                      refine ⟨⟨?_, ?_, ?_⟩, ?_, ?_, ?_⟩
                      · show 0 < (PO3 (4 * 1 + 2 * 0 + 1)).toInt; rw [hp3]; exact hdt0
                      · show (PO3 (4 * 1 + 2 * 0 + 1)).toInt ≤ _; rw [hp3]; omega
                      · show (PO3 (4 * 1 + 2 * 0)).toInt.natAbs ≤ _; rw [hp2]; omega
                      · show 0 < (PO3 (4 * 1 + 2 * 1 + 1)).toInt; rw [ho1]; omega
                      · show (PO3 (4 * 1 + 2 * 1 + 1)).toInt ≤ _; rw [ho1]; omega
                      · show (PO3 (4 * 1 + 2 * 1)).toInt.natAbs ≤ _; rw [ho0]; omega
                    · have eo : o = 0 := by omega
                      subst eo
                      refine ⟨⟨?_, ?_, ?_⟩, ?_, ?_, ?_⟩
                      · show 0 < (PO3 (4 * 1 + 2 * 0 + 1)).toInt; rw [ho1]; omega
                      · show (PO3 (4 * 1 + 2 * 0 + 1)).toInt ≤ _; rw [ho1]; omega
                      · show (PO3 (4 * 1 + 2 * 0)).toInt.natAbs ≤ _; rw [ho0]; omega
                      · show 0 < (PO3 (4 * 1 + 2 * 1 + 1)).toInt; rw [hp3]; exact hdt0
                      · show (PO3 (4 * 1 + 2 * 1 + 1)).toInt ≤ _; rw [hp3]; omega
                      · show (PO3 (4 * 1 + 2 * 1)).toInt.natAbs ≤ _; rw [hp2]; omega
                  have ws_md := hKs.1
                  have ws_md : Ms md = some (.inr (8, [.int (nI 0), .int (nI n), .ref kd, .ref on, .ref tw, .ref nu, .ref le, .ref fx, .ref fy, .ref si, .ref de, .ref ne, .ref it, .ref po, .ref ma, .ref ab, .ref be, .long ut, .long dt, .ref li, .int (nI mm), .ref fr, .ref to])) := ws_md
                  refine lv_aload_n hx hb d_Md_find_145 rfl (lv_at hl 4 rfl) ?_
                  refine hw_get (own := "QuantifierOutModel") (v := .ref li) hx hb hts i_Md hown hW ws_md rfl 19 (by decide) (hts _ tw_622) (fun _ h9 => h9) rfl d_Md_find_146 ?_
                  refine lv_iload hx hb d_Md_find_149 (lv_at hl 1 rfl) ?_
                  refine lv_aload_n hx hb d_Md_find_151 rfl (lv_at hl 4 rfl) ?_
                  refine lv_iload_n hx hb d_Md_find_152 rfl (lv_at hl 5 rfl) ?_
                  refine hw_calli (hw_runV (n := 1) (own := "QuantifierOutModel") (As := [.int (nI a)]) (rest := [.int (nI i), .ref li]) hx hb hml hown hts hX hW hl.1 (c_Md_truth1 l D cI cJ cZ cN md kd on tw nu le fx fy si de ne it po ma ab be li fr to (nI 0) n ut dt (nI mm) NE2 IT2 PO3 MA2 AB2 BE2 a _ q1 mt st Ms hD hKs hT3 hM hq1 hd3 hpt3) hKs.1 rfl tw_791 tw_793 ts_28 tw_5 tw_794 (by decide +kernel) rfl rfl ⟨by decide, by decide⟩ rfl rfl (Nat.le_of_ble_eq_true rfl) d_Md_find_153 ⟨by decide, by decide⟩) hW hS hA (fun rb Mr H locs hpr9 hz hW hS => ?_)
                  obtain ⟨hrb, u4, d4, NE4, IT4, PO4, MA4, AB4, BE4, htk, hK4, hf4⟩ := hpr9
                  obtain ⟨v1, v2, v3, v4, v5⟩ := htk
                  have hkp4 : MA4 2 = nI n1 ∧ ∀ i, 128 ≤ i → AB4 i = ABg i ∧ BE4 i = BEg i := ⟨(v4 2 (by omega)).trans hkp.1, fun i hi => ⟨((v5 i (by omega)).1).trans (hkp.2 i hi).1, ((v5 i (by omega)).2).trans (hkp.2 i hi).2⟩⟩
                  have hfz : ∀ x9, x9 ≠ md → x9 ≠ ne → x9 ≠ it → x9 ≠ po → x9 ≠ ma → x9 ≠ ab → x9 ≠ be → Mr x9 = M2 x9 := fun x9 z0 z1 z2 z3 z4 z5 z6 => (hf4 x9 z0 z1 z2 z3 z4 z5 z6).trans (hfz3 x9 z0 z1 z2 z3 z4 z5 z6)
                  have htr : it_b rb (tt i) := it_c hrb (hBu.symm.trans ((hSS _).symm.trans (htS i _ hat)))
                  have hr01 : rb = 0 ∨ rb = 1 := by rcases htr with ⟨z, _⟩ | ⟨z, _⟩; exact Or.inr z; exact Or.inl z
                  obtain ⟨hli2, hfr2, hto2⟩ := hrw
                  have hli4 : Mr li = some (.inl (cZ, 130, .inl LI2)) := (hfz li (Ne.symm (show md ≠ li from hD 0 16 (by decide) (by decide))) (Ne.symm (show ne ≠ li from hD 10 16 (by decide) (by decide))) (Ne.symm (show it ≠ li from hD 11 16 (by decide) (by decide))) (Ne.symm (show po ≠ li from hD 12 16 (by decide) (by decide))) (Ne.symm (show ma ≠ li from hD 13 16 (by decide) (by decide))) (Ne.symm (show ab ≠ li from hD 14 16 (by decide) (by decide))) (Ne.symm (show be ≠ li from hD 15 16 (by decide) (by decide)))).trans hli2
                  have hfr4 : Mr fr = some (.inl (cI, 66, .inl FR2)) := (hfz fr (Ne.symm (show md ≠ fr from hD 0 17 (by decide) (by decide))) (Ne.symm (show ne ≠ fr from hD 10 17 (by decide) (by decide))) (Ne.symm (show it ≠ fr from hD 11 17 (by decide) (by decide))) (Ne.symm (show po ≠ fr from hD 12 17 (by decide) (by decide))) (Ne.symm (show ma ≠ fr from hD 13 17 (by decide) (by decide))) (Ne.symm (show ab ≠ fr from hD 14 17 (by decide) (by decide))) (Ne.symm (show be ≠ fr from hD 15 17 (by decide) (by decide)))).trans hfr2
                  have hto4 : Mr to = some (.inl (cI, 66, .inl TO2)) := (hfz to (Ne.symm (show md ≠ to from hD 0 18 (by decide) (by decide))) (Ne.symm (show ne ≠ to from hD 10 18 (by decide) (by decide))) (Ne.symm (show it ≠ to from hD 11 18 (by decide) (by decide))) (Ne.symm (show po ≠ to from hD 12 18 (by decide) (by decide))) (Ne.symm (show ma ≠ to from hD 13 18 (by decide) (by decide))) (Ne.symm (show ab ≠ to from hD 14 18 (by decide) (by decide))) (Ne.symm (show be ≠ to from hD 15 18 (by decide) (by decide)))).trans hto2
                  have w4_md := hK4.1
                  have w4_md : Mr md = some (.inr (8, [.int (nI 0), .int (nI n), .ref kd, .ref on, .ref tw, .ref nu, .ref le, .ref fx, .ref fy, .ref si, .ref de, .ref ne, .ref it, .ref po, .ref ma, .ref ab, .ref be, .long u4, .long d4, .ref li, .int (nI mm), .ref fr, .ref to])) := w4_md
                  refine hw_zst hx hb hW hS 2 hli4 rfl i rfl (by omega) (by decide) (by rcases hr01 with z9 | z9 <;> rw [z9] <;> rfl) d_Md_find_156 (fun H locs hW hS => ?_)
                  have hW : hw_W D qcl (qty cI cJ cZ cN) _ (va_up Mr li (some (.inl (cZ, 130, .inl (upd LI2 i rb))))) s H := hW
                  generalize hMw21 : va_up Mr li (some (.inl (cZ, 130, .inl (upd LI2 i rb)))) = Mw21 at hW
                  have w4_md : Mw21 md = some (.inr (8, [.int (nI 0), .int (nI n), .ref kd, .ref on, .ref tw, .ref nu, .ref le, .ref fx, .ref fy, .ref si, .ref de, .ref ne, .ref it, .ref po, .ref ma, .ref ab, .ref be, .long u4, .long d4, .ref li, .int (nI mm), .ref fr, .ref to])) := by rw [← hMw21, va_up_ne _ _ (show md ≠ li from hD 0 16 (by decide) (by decide))]; exact w4_md
                  have hfr4 : Mw21 fr = some (.inl (cI, 66, .inl FR2)) := by rw [← hMw21, va_up_ne _ _ (Ne.symm (show li ≠ fr from hD 16 17 (by decide) (by decide)))]; exact hfr4
                  have hto4 : Mw21 to = some (.inl (cI, 66, .inl TO2)) := by rw [← hMw21, va_up_ne _ _ (Ne.symm (show li ≠ to from hD 16 18 (by decide) (by decide)))]; exact hto4
                  have hli4 : Mw21 li = some (.inl (cZ, 130, .inl (upd LI2 i rb))) := by rw [← hMw21]; exact va_up_self _ _ _
                  have hfr_Mw21 : ∀ x9, x9 ≠ li → Mw21 x9 = Mr x9 := fun x9 z9 => by rw [← hMw21, va_up_ne _ _ z9]
                  refine lv_aload_n hx hb d_Md_find_157 rfl (lv_at hl 4 rfl) ?_
                  refine hw_get (own := "QuantifierOutModel") (v := .ref li) hx hb hts i_Md hown hW w4_md rfl 19 (by decide) (hts _ tw_622) (fun _ h9 => h9) rfl d_Md_find_158 ?_
                  refine lv_iload hx hb d_Md_find_161 (lv_at hl 1 rfl) ?_
                  refine hw_zld hx hb hW 2 hli4 rfl i rfl (by omega) (by decide) d_Md_find_163 ?_
                  rw [pk_us]
                  have hmm := pj_m hJ9
                  refine lv_if_ne (tgt := 170) hx hb d_Md_find_164 (by decide) (fun c_164 => ?_) (fun c_164 => ?_)
                  · skip
                    have ht := it_b1 htr c_164
                    have er1 : rb = 1 := hr01.resolve_left c_164
                    refine lv_iload hx hb d_Md_find_170 (lv_at hl 1 rfl) ?_
                    refine lv_if_eq (tgt := 187) hx hb d_Md_find_172 (by decide) (fun c_172 => ?_) (fun c_172 => ?_)
                    · skip
                      have hi0 : i = 0 := (nI_eq (b := 0) (by omega) (by omega)).mp c_172
                      have hipz := hip0 hi0
                      obtain ⟨hms, hJ2⟩ := pj_new hJ9 ht hipz
                      refine lv_aload_n hx hb d_Md_find_187 rfl (lv_at hl 4 rfl) ?_
                      refine hw_get (own := "QuantifierOutModel") (v := .ref fr) hx hb hts i_Md hown hW w4_md rfl 21 (by decide) (hts _ tw_624) (fun _ h9 => h9) rfl d_Md_find_188 ?_
                      refine lv_aload_n hx hb d_Md_find_191 rfl (lv_at hl 4 rfl) ?_
                      refine hw_get (own := "QuantifierOutModel") (v := .int (nI mm)) hx hb hts i_Md hown hW w4_md rfl 20 (by decide) (hts _ tw_623) (fun _ h9 => h9) rfl d_Md_find_192 ?_
                      refine lv_iload hx hb d_Md_find_195 (lv_at hl 1 rfl) ?_
                      refine hw_ist hx hb hW hS 0 hfr4 rfl mm rfl (by omega) (by decide) d_Md_find_197 (fun H locs hW hS => ?_)
                      have hW : hw_W D qcl (qty cI cJ cZ cN) _ (va_up Mw21 fr (some (.inl (cI, 66, .inl (upd FR2 mm (nI i)))))) s H := hW
                      generalize hMw22 : va_up Mw21 fr (some (.inl (cI, 66, .inl (upd FR2 mm (nI i))))) = Mw22 at hW
                      have w4_md : Mw22 md = some (.inr (8, [.int (nI 0), .int (nI n), .ref kd, .ref on, .ref tw, .ref nu, .ref le, .ref fx, .ref fy, .ref si, .ref de, .ref ne, .ref it, .ref po, .ref ma, .ref ab, .ref be, .long u4, .long d4, .ref li, .int (nI mm), .ref fr, .ref to])) := by rw [← hMw22, va_up_ne _ _ (show md ≠ fr from hD 0 17 (by decide) (by decide))]; exact w4_md
                      have hto4 : Mw22 to = some (.inl (cI, 66, .inl TO2)) := by rw [← hMw22, va_up_ne _ _ (Ne.symm (show fr ≠ to from hD 17 18 (by decide) (by decide)))]; exact hto4
                      have hli4 : Mw22 li = some (.inl (cZ, 130, .inl (upd LI2 i rb))) := by rw [← hMw22, va_up_ne _ _ (show li ≠ fr from hD 16 17 (by decide) (by decide))]; exact hli4
                      have hfr4 : Mw22 fr = some (.inl (cI, 66, .inl (upd FR2 mm (nI i)))) := by rw [← hMw22]; exact va_up_self _ _ _
                      have hfr_Mw22 : ∀ x9, x9 ≠ fr → Mw22 x9 = Mw21 x9 := fun x9 z9 => by rw [← hMw22, va_up_ne _ _ z9]
                      refine lv_aload_n hx hb d_Md_find_198 rfl (lv_at hl 4 rfl) ?_
                      refine lv_dup hx hb d_Md_find_199 rfl ?_
                      refine hw_get (own := "QuantifierOutModel") (v := .int (nI mm)) hx hb hts i_Md hown hW w4_md rfl 20 (by decide) (hts _ tw_623) (fun _ h9 => h9) rfl d_Md_find_200 ?_
                      refine lv_iconst (v := 1) hx hb d_Md_find_203 (by decide) ?_
                      refine lv_iadd hx hb d_Md_find_204 ?_
                      refine lv_topi (fun x23 ex23 => ?_)
                      have es : x23 = nI (mm + 1) := by rw [ex23]; exact nI_1 mm
                      rw [es]
                      refine hw_put (own := "QuantifierOutModel") (v := .int (nI (mm + 1))) (ty := .int) hx hb hts i_Md ft_Md tk_Md n_Md hown hW hS w4_md rfl 20 (by decide) (hts _ tw_623) (fun _ h9 => h9) rfl (tk_Md 20 (by decide)) rfl rfl (Nat.le_of_ble_eq_true rfl) d_Md_find_205 (fun H locs hW hS => ?_)
                      have hW : hw_W D qcl (qty cI cJ cZ cN) _ (va_up Mw22 md (some (.inr (8, [.int (nI 0), .int (nI n), .ref kd, .ref on, .ref tw, .ref nu, .ref le, .ref fx, .ref fy, .ref si, .ref de, .ref ne, .ref it, .ref po, .ref ma, .ref ab, .ref be, .long u4, .long d4, .ref li, .int (nI (mm + 1)), .ref fr, .ref to])))) s H := hW
                      generalize hMw24 : va_up Mw22 md (some (.inr (8, [.int (nI 0), .int (nI n), .ref kd, .ref on, .ref tw, .ref nu, .ref le, .ref fx, .ref fy, .ref si, .ref de, .ref ne, .ref it, .ref po, .ref ma, .ref ab, .ref be, .long u4, .long d4, .ref li, .int (nI (mm + 1)), .ref fr, .ref to]))) = Mw24 at hW
                      have hto4 : Mw24 to = some (.inl (cI, 66, .inl TO2)) := by rw [← hMw24, va_up_ne _ _ (Ne.symm (show md ≠ to from hD 0 18 (by decide) (by decide)))]; exact hto4
                      have hli4 : Mw24 li = some (.inl (cZ, 130, .inl (upd LI2 i rb))) := by rw [← hMw24, va_up_ne _ _ (Ne.symm (show md ≠ li from hD 0 16 (by decide) (by decide)))]; exact hli4
                      have hfr4 : Mw24 fr = some (.inl (cI, 66, .inl (upd FR2 mm (nI i)))) := by rw [← hMw24, va_up_ne _ _ (Ne.symm (show md ≠ fr from hD 0 17 (by decide) (by decide)))]; exact hfr4
                      have w4_md : Mw24 md = some (.inr (8, [.int (nI 0), .int (nI n), .ref kd, .ref on, .ref tw, .ref nu, .ref le, .ref fx, .ref fy, .ref si, .ref de, .ref ne, .ref it, .ref po, .ref ma, .ref ab, .ref be, .long u4, .long d4, .ref li, .int (nI (mm + 1)), .ref fr, .ref to])) := by rw [← hMw24]; exact va_up_self _ _ _
                      have hfr_Mw24 : ∀ x9, x9 ≠ md → Mw24 x9 = Mw22 x9 := fun x9 z9 => by rw [← hMw24, va_up_ne _ _ z9]
                      refine lv_aload_n hx hb d_Md_find_208 rfl (lv_at hl 4 rfl) ?_
                      refine hw_get (own := "QuantifierOutModel") (v := .ref to) hx hb hts i_Md hown hW w4_md rfl 22 (by decide) (hts _ tw_625) (fun _ h9 => h9) rfl d_Md_find_209 ?_
                      refine lv_aload_n hx hb d_Md_find_212 rfl (lv_at hl 4 rfl) ?_
                      refine hw_get (own := "QuantifierOutModel") (v := .int (nI (mm + 1))) hx hb hts i_Md hown hW w4_md rfl 20 (by decide) (hts _ tw_623) (fun _ h9 => h9) rfl d_Md_find_213 ?_
                      refine lv_iconst (v := 1) hx hb d_Md_find_216 (by decide) ?_
                      refine lv_isub hx hb d_Md_find_217 ?_
                      refine lv_topi (fun x25 ex25 => ?_)
                      refine lv_iload hx hb d_Md_find_218 (lv_at hl 1 rfl) ?_
                      refine hw_ist hx hb hW hS 0 hto4 rfl mm (by rw [ex25]; exact nI_prd mm) (by omega) (by decide) d_Md_find_220 (fun H locs hW hS => ?_)
                      have hW : hw_W D qcl (qty cI cJ cZ cN) _ (va_up Mw24 to (some (.inl (cI, 66, .inl (upd TO2 mm (nI i)))))) s H := hW
                      generalize hMw26 : va_up Mw24 to (some (.inl (cI, 66, .inl (upd TO2 mm (nI i))))) = Mw26 at hW
                      have hli4 : Mw26 li = some (.inl (cZ, 130, .inl (upd LI2 i rb))) := by rw [← hMw26, va_up_ne _ _ (show li ≠ to from hD 16 18 (by decide) (by decide))]; exact hli4
                      have hfr4 : Mw26 fr = some (.inl (cI, 66, .inl (upd FR2 mm (nI i)))) := by rw [← hMw26, va_up_ne _ _ (show fr ≠ to from hD 17 18 (by decide) (by decide))]; exact hfr4
                      have w4_md : Mw26 md = some (.inr (8, [.int (nI 0), .int (nI n), .ref kd, .ref on, .ref tw, .ref nu, .ref le, .ref fx, .ref fy, .ref si, .ref de, .ref ne, .ref it, .ref po, .ref ma, .ref ab, .ref be, .long u4, .long d4, .ref li, .int (nI (mm + 1)), .ref fr, .ref to])) := by rw [← hMw26, va_up_ne _ _ (show md ≠ to from hD 0 18 (by decide) (by decide))]; exact w4_md
                      have hto4 : Mw26 to = some (.inl (cI, 66, .inl (upd TO2 mm (nI i)))) := by rw [← hMw26]; exact va_up_self _ _ _
                      have hfr_Mw26 : ∀ x9, x9 ≠ to → Mw26 x9 = Mw24 x9 := fun x9 z9 => by rw [← hMw26, va_up_ne _ _ z9]
                      refine next H locs Mw26 u4 d4 NE4 IT4 PO4 MA4 AB4 BE4 (mm + 1) _ _ _ (va_up fs mm i) (va_up lS mm i) rb ls hW hS ⟨w4_md, (((((hfr_Mw26 ne (show ne ≠ to from hD 10 18 (by decide) (by decide)))).trans (hfr_Mw24 ne (Ne.symm (show md ≠ ne from hD 0 10 (by decide) (by decide))))).trans (hfr_Mw22 ne (show ne ≠ fr from hD 10 17 (by decide) (by decide)))).trans (hfr_Mw21 ne (show ne ≠ li from hD 10 16 (by decide) (by decide)))).trans hK4.2.1, (((((hfr_Mw26 it (show it ≠ to from hD 11 18 (by decide) (by decide)))).trans (hfr_Mw24 it (Ne.symm (show md ≠ it from hD 0 11 (by decide) (by decide))))).trans (hfr_Mw22 it (show it ≠ fr from hD 11 17 (by decide) (by decide)))).trans (hfr_Mw21 it (show it ≠ li from hD 11 16 (by decide) (by decide)))).trans hK4.2.2.1, (((((hfr_Mw26 po (show po ≠ to from hD 12 18 (by decide) (by decide)))).trans (hfr_Mw24 po (Ne.symm (show md ≠ po from hD 0 12 (by decide) (by decide))))).trans (hfr_Mw22 po (show po ≠ fr from hD 12 17 (by decide) (by decide)))).trans (hfr_Mw21 po (show po ≠ li from hD 12 16 (by decide) (by decide)))).trans hK4.2.2.2.1, (((((hfr_Mw26 ma (show ma ≠ to from hD 13 18 (by decide) (by decide)))).trans (hfr_Mw24 ma (Ne.symm (show md ≠ ma from hD 0 13 (by decide) (by decide))))).trans (hfr_Mw22 ma (show ma ≠ fr from hD 13 17 (by decide) (by decide)))).trans (hfr_Mw21 ma (show ma ≠ li from hD 13 16 (by decide) (by decide)))).trans hK4.2.2.2.2.1, (((((hfr_Mw26 ab (show ab ≠ to from hD 14 18 (by decide) (by decide)))).trans (hfr_Mw24 ab (Ne.symm (show md ≠ ab from hD 0 14 (by decide) (by decide))))).trans (hfr_Mw22 ab (show ab ≠ fr from hD 14 17 (by decide) (by decide)))).trans (hfr_Mw21 ab (show ab ≠ li from hD 14 16 (by decide) (by decide)))).trans hK4.2.2.2.2.2.1, (((((hfr_Mw26 be (show be ≠ to from hD 15 18 (by decide) (by decide)))).trans (hfr_Mw24 be (Ne.symm (show md ≠ be from hD 0 15 (by decide) (by decide))))).trans (hfr_Mw22 be (show be ≠ fr from hD 15 17 (by decide) (by decide)))).trans (hfr_Mw21 be (show be ≠ li from hD 15 16 (by decide) (by decide)))).trans hK4.2.2.2.2.2.2⟩ (fun x9 z0 z1 z2 z3 z4 z5 z6 z7 z8 z9 => ((((((hfr_Mw26 x9 z9)).trans (hfr_Mw24 x9 z0)).trans (hfr_Mw22 x9 z8)).trans (hfr_Mw21 x9 z7)).trans (hfz x9 z0 z1 z2 z3 z4 z5 z6)).trans (hfx x9 z0 z1 z2 z3 z4 z5 z6 z7 z8 z9)) ⟨hli4, hfr4, hto4⟩ hkp4 (by rw [er1]; exact hJ2) (fun h9 => absurd h9 (by omega)) (fun i2 h9 => by rw [show i2 = i by omega, pk_us]) (fun k9 hk9 => ?_) (lv_sub hl [1, 2, 3, 4, 5] rfl)
                      by_cases z1 : k9 = mm
                      · rw [z1, pk_us, pk_us, va_up_self, va_up_self]; exact ⟨rfl, rfl⟩
                      · rw [pk_un z1, pk_un z1, va_up_ne _ _ z1, va_up_ne _ _ z1]; exact hFs k9 (by omega)
                    · skip
                      have hi0 : 0 < i := Nat.pos_of_ne_zero (fun z => c_172 (by rw [z]; rfl))
                      refine lv_aload_n hx hb d_Md_find_175 rfl (lv_at hl 4 rfl) ?_
                      refine hw_get (own := "QuantifierOutModel") (v := .ref li) hx hb hts i_Md hown hW w4_md rfl 19 (by decide) (hts _ tw_622) (fun _ h9 => h9) rfl d_Md_find_176 ?_
                      refine lv_iload hx hb d_Md_find_179 (lv_at hl 1 rfl) ?_
                      refine lv_iconst (v := 1) hx hb d_Md_find_181 (by decide) ?_
                      refine lv_isub hx hb d_Md_find_182 ?_
                      refine lv_topi (fun x27 ex27 => ?_)
                      refine hw_zld hx hb hW 2 hli4 rfl (i - 1) (by rw [ex27]; exact pk_sub (b := 1) hi0) (by omega) (by decide) d_Md_find_183 ?_
                      rw [pk_un (show i - 1 ≠ i by omega), hip (i - 1) (by omega)]
                      refine lv_if_ne (tgt := 208) hx hb d_Md_find_184 (by decide) (fun c_184 => ?_) (fun c_184 => ?_)
                      · skip
                        have hipn := c_184
                        obtain ⟨hmp, hJ2⟩ := pj_in hJ9 ht hipn
                        refine lv_aload_n hx hb d_Md_find_208 rfl (lv_at hl 4 rfl) ?_
                        refine hw_get (own := "QuantifierOutModel") (v := .ref to) hx hb hts i_Md hown hW w4_md rfl 22 (by decide) (hts _ tw_625) (fun _ h9 => h9) rfl d_Md_find_209 ?_
                        refine lv_aload_n hx hb d_Md_find_212 rfl (lv_at hl 4 rfl) ?_
                        refine hw_get (own := "QuantifierOutModel") (v := .int (nI mm)) hx hb hts i_Md hown hW w4_md rfl 20 (by decide) (hts _ tw_623) (fun _ h9 => h9) rfl d_Md_find_213 ?_
                        refine lv_iconst (v := 1) hx hb d_Md_find_216 (by decide) ?_
                        refine lv_isub hx hb d_Md_find_217 ?_
                        refine lv_topi (fun x28 ex28 => ?_)
                        refine lv_iload hx hb d_Md_find_218 (lv_at hl 1 rfl) ?_
                        refine hw_ist hx hb hW hS 0 hto4 rfl (mm - 1) (by rw [ex28]; exact pk_sub (b := 1) hmp) (by omega) (by decide) d_Md_find_220 (fun H locs hW hS => ?_)
                        have hW : hw_W D qcl (qty cI cJ cZ cN) _ (va_up Mw21 to (some (.inl (cI, 66, .inl (upd TO2 (mm - 1) (nI i)))))) s H := hW
                        generalize hMw29 : va_up Mw21 to (some (.inl (cI, 66, .inl (upd TO2 (mm - 1) (nI i))))) = Mw29 at hW
                        have w4_md : Mw29 md = some (.inr (8, [.int (nI 0), .int (nI n), .ref kd, .ref on, .ref tw, .ref nu, .ref le, .ref fx, .ref fy, .ref si, .ref de, .ref ne, .ref it, .ref po, .ref ma, .ref ab, .ref be, .long u4, .long d4, .ref li, .int (nI mm), .ref fr, .ref to])) := by rw [← hMw29, va_up_ne _ _ (show md ≠ to from hD 0 18 (by decide) (by decide))]; exact w4_md
                        have hfr4 : Mw29 fr = some (.inl (cI, 66, .inl FR2)) := by rw [← hMw29, va_up_ne _ _ (show fr ≠ to from hD 17 18 (by decide) (by decide))]; exact hfr4
                        have hli4 : Mw29 li = some (.inl (cZ, 130, .inl (upd LI2 i rb))) := by rw [← hMw29, va_up_ne _ _ (show li ≠ to from hD 16 18 (by decide) (by decide))]; exact hli4
                        have hto4 : Mw29 to = some (.inl (cI, 66, .inl (upd TO2 (mm - 1) (nI i)))) := by rw [← hMw29]; exact va_up_self _ _ _
                        have hfr_Mw29 : ∀ x9, x9 ≠ to → Mw29 x9 = Mw21 x9 := fun x9 z9 => by rw [← hMw29, va_up_ne _ _ z9]
                        refine next H locs Mw29 u4 d4 NE4 IT4 PO4 MA4 AB4 BE4 mm _ _ _ fs (va_up lS (mm - 1) i) rb ls hW hS ⟨w4_md, (((hfr_Mw29 ne (show ne ≠ to from hD 10 18 (by decide) (by decide)))).trans (hfr_Mw21 ne (show ne ≠ li from hD 10 16 (by decide) (by decide)))).trans hK4.2.1, (((hfr_Mw29 it (show it ≠ to from hD 11 18 (by decide) (by decide)))).trans (hfr_Mw21 it (show it ≠ li from hD 11 16 (by decide) (by decide)))).trans hK4.2.2.1, (((hfr_Mw29 po (show po ≠ to from hD 12 18 (by decide) (by decide)))).trans (hfr_Mw21 po (show po ≠ li from hD 12 16 (by decide) (by decide)))).trans hK4.2.2.2.1, (((hfr_Mw29 ma (show ma ≠ to from hD 13 18 (by decide) (by decide)))).trans (hfr_Mw21 ma (show ma ≠ li from hD 13 16 (by decide) (by decide)))).trans hK4.2.2.2.2.1, (((hfr_Mw29 ab (show ab ≠ to from hD 14 18 (by decide) (by decide)))).trans (hfr_Mw21 ab (show ab ≠ li from hD 14 16 (by decide) (by decide)))).trans hK4.2.2.2.2.2.1, (((hfr_Mw29 be (show be ≠ to from hD 15 18 (by decide) (by decide)))).trans (hfr_Mw21 be (show be ≠ li from hD 15 16 (by decide) (by decide)))).trans hK4.2.2.2.2.2.2⟩ (fun x9 z0 z1 z2 z3 z4 z5 z6 z7 z8 z9 => ((((hfr_Mw29 x9 z9)).trans (hfr_Mw21 x9 z7)).trans (hfz x9 z0 z1 z2 z3 z4 z5 z6)).trans (hfx x9 z0 z1 z2 z3 z4 z5 z6 z7 z8 z9)) ⟨hli4, hfr4, hto4⟩ hkp4 (by rw [er1]; exact hJ2) (fun h9 => absurd h9 (by omega)) (fun i2 h9 => by rw [show i2 = i by omega, pk_us]) (fun k9 hk9 => ?_) (lv_sub hl [1, 2, 3, 4, 5] rfl)
                        have h7 := hFs k9 hk9
                        by_cases z1 : k9 = mm - 1
                        · rw [z1] at h7 ⊢; rw [pk_us, va_up_self]; exact ⟨h7.1, rfl⟩
                        · rw [pk_un z1, va_up_ne _ _ z1]; exact h7
                      · skip
                        have hipz := c_184
                        obtain ⟨hms, hJ2⟩ := pj_new hJ9 ht hipz
                        refine lv_aload_n hx hb d_Md_find_187 rfl (lv_at hl 4 rfl) ?_
                        refine hw_get (own := "QuantifierOutModel") (v := .ref fr) hx hb hts i_Md hown hW w4_md rfl 21 (by decide) (hts _ tw_624) (fun _ h9 => h9) rfl d_Md_find_188 ?_
                        refine lv_aload_n hx hb d_Md_find_191 rfl (lv_at hl 4 rfl) ?_
                        refine hw_get (own := "QuantifierOutModel") (v := .int (nI mm)) hx hb hts i_Md hown hW w4_md rfl 20 (by decide) (hts _ tw_623) (fun _ h9 => h9) rfl d_Md_find_192 ?_
                        refine lv_iload hx hb d_Md_find_195 (lv_at hl 1 rfl) ?_
                        refine hw_ist hx hb hW hS 0 hfr4 rfl mm rfl (by omega) (by decide) d_Md_find_197 (fun H locs hW hS => ?_)
                        have hW : hw_W D qcl (qty cI cJ cZ cN) _ (va_up Mw21 fr (some (.inl (cI, 66, .inl (upd FR2 mm (nI i)))))) s H := hW
                        generalize hMw30 : va_up Mw21 fr (some (.inl (cI, 66, .inl (upd FR2 mm (nI i))))) = Mw30 at hW
                        have w4_md : Mw30 md = some (.inr (8, [.int (nI 0), .int (nI n), .ref kd, .ref on, .ref tw, .ref nu, .ref le, .ref fx, .ref fy, .ref si, .ref de, .ref ne, .ref it, .ref po, .ref ma, .ref ab, .ref be, .long u4, .long d4, .ref li, .int (nI mm), .ref fr, .ref to])) := by rw [← hMw30, va_up_ne _ _ (show md ≠ fr from hD 0 17 (by decide) (by decide))]; exact w4_md
                        have hto4 : Mw30 to = some (.inl (cI, 66, .inl TO2)) := by rw [← hMw30, va_up_ne _ _ (Ne.symm (show fr ≠ to from hD 17 18 (by decide) (by decide)))]; exact hto4
                        have hli4 : Mw30 li = some (.inl (cZ, 130, .inl (upd LI2 i rb))) := by rw [← hMw30, va_up_ne _ _ (show li ≠ fr from hD 16 17 (by decide) (by decide))]; exact hli4
                        have hfr4 : Mw30 fr = some (.inl (cI, 66, .inl (upd FR2 mm (nI i)))) := by rw [← hMw30]; exact va_up_self _ _ _
                        have hfr_Mw30 : ∀ x9, x9 ≠ fr → Mw30 x9 = Mw21 x9 := fun x9 z9 => by rw [← hMw30, va_up_ne _ _ z9]
                        refine lv_aload_n hx hb d_Md_find_198 rfl (lv_at hl 4 rfl) ?_
                        refine lv_dup hx hb d_Md_find_199 rfl ?_
                        refine hw_get (own := "QuantifierOutModel") (v := .int (nI mm)) hx hb hts i_Md hown hW w4_md rfl 20 (by decide) (hts _ tw_623) (fun _ h9 => h9) rfl d_Md_find_200 ?_
                        refine lv_iconst (v := 1) hx hb d_Md_find_203 (by decide) ?_
                        refine lv_iadd hx hb d_Md_find_204 ?_
                        refine lv_topi (fun x31 ex31 => ?_)
                        have es : x31 = nI (mm + 1) := by rw [ex31]; exact nI_1 mm
                        rw [es]
                        refine hw_put (own := "QuantifierOutModel") (v := .int (nI (mm + 1))) (ty := .int) hx hb hts i_Md ft_Md tk_Md n_Md hown hW hS w4_md rfl 20 (by decide) (hts _ tw_623) (fun _ h9 => h9) rfl (tk_Md 20 (by decide)) rfl rfl (Nat.le_of_ble_eq_true rfl) d_Md_find_205 (fun H locs hW hS => ?_)
                        have hW : hw_W D qcl (qty cI cJ cZ cN) _ (va_up Mw30 md (some (.inr (8, [.int (nI 0), .int (nI n), .ref kd, .ref on, .ref tw, .ref nu, .ref le, .ref fx, .ref fy, .ref si, .ref de, .ref ne, .ref it, .ref po, .ref ma, .ref ab, .ref be, .long u4, .long d4, .ref li, .int (nI (mm + 1)), .ref fr, .ref to])))) s H := hW
                        generalize hMw32 : va_up Mw30 md (some (.inr (8, [.int (nI 0), .int (nI n), .ref kd, .ref on, .ref tw, .ref nu, .ref le, .ref fx, .ref fy, .ref si, .ref de, .ref ne, .ref it, .ref po, .ref ma, .ref ab, .ref be, .long u4, .long d4, .ref li, .int (nI (mm + 1)), .ref fr, .ref to]))) = Mw32 at hW
                        have hto4 : Mw32 to = some (.inl (cI, 66, .inl TO2)) := by rw [← hMw32, va_up_ne _ _ (Ne.symm (show md ≠ to from hD 0 18 (by decide) (by decide)))]; exact hto4
                        have hli4 : Mw32 li = some (.inl (cZ, 130, .inl (upd LI2 i rb))) := by rw [← hMw32, va_up_ne _ _ (Ne.symm (show md ≠ li from hD 0 16 (by decide) (by decide)))]; exact hli4
                        have hfr4 : Mw32 fr = some (.inl (cI, 66, .inl (upd FR2 mm (nI i)))) := by rw [← hMw32, va_up_ne _ _ (Ne.symm (show md ≠ fr from hD 0 17 (by decide) (by decide)))]; exact hfr4
                        have w4_md : Mw32 md = some (.inr (8, [.int (nI 0), .int (nI n), .ref kd, .ref on, .ref tw, .ref nu, .ref le, .ref fx, .ref fy, .ref si, .ref de, .ref ne, .ref it, .ref po, .ref ma, .ref ab, .ref be, .long u4, .long d4, .ref li, .int (nI (mm + 1)), .ref fr, .ref to])) := by rw [← hMw32]; exact va_up_self _ _ _
                        have hfr_Mw32 : ∀ x9, x9 ≠ md → Mw32 x9 = Mw30 x9 := fun x9 z9 => by rw [← hMw32, va_up_ne _ _ z9]
                        refine lv_aload_n hx hb d_Md_find_208 rfl (lv_at hl 4 rfl) ?_
                        refine hw_get (own := "QuantifierOutModel") (v := .ref to) hx hb hts i_Md hown hW w4_md rfl 22 (by decide) (hts _ tw_625) (fun _ h9 => h9) rfl d_Md_find_209 ?_
                        refine lv_aload_n hx hb d_Md_find_212 rfl (lv_at hl 4 rfl) ?_
                        refine hw_get (own := "QuantifierOutModel") (v := .int (nI (mm + 1))) hx hb hts i_Md hown hW w4_md rfl 20 (by decide) (hts _ tw_623) (fun _ h9 => h9) rfl d_Md_find_213 ?_
                        refine lv_iconst (v := 1) hx hb d_Md_find_216 (by decide) ?_
                        refine lv_isub hx hb d_Md_find_217 ?_
                        refine lv_topi (fun x33 ex33 => ?_)
                        refine lv_iload hx hb d_Md_find_218 (lv_at hl 1 rfl) ?_
                        refine hw_ist hx hb hW hS 0 hto4 rfl mm (by rw [ex33]; exact nI_prd mm) (by omega) (by decide) d_Md_find_220 (fun H locs hW hS => ?_)
                        have hW : hw_W D qcl (qty cI cJ cZ cN) _ (va_up Mw32 to (some (.inl (cI, 66, .inl (upd TO2 mm (nI i)))))) s H := hW
                        generalize hMw34 : va_up Mw32 to (some (.inl (cI, 66, .inl (upd TO2 mm (nI i))))) = Mw34 at hW
                        have hli4 : Mw34 li = some (.inl (cZ, 130, .inl (upd LI2 i rb))) := by rw [← hMw34, va_up_ne _ _ (show li ≠ to from hD 16 18 (by decide) (by decide))]; exact hli4
                        have hfr4 : Mw34 fr = some (.inl (cI, 66, .inl (upd FR2 mm (nI i)))) := by rw [← hMw34, va_up_ne _ _ (show fr ≠ to from hD 17 18 (by decide) (by decide))]; exact hfr4
                        have w4_md : Mw34 md = some (.inr (8, [.int (nI 0), .int (nI n), .ref kd, .ref on, .ref tw, .ref nu, .ref le, .ref fx, .ref fy, .ref si, .ref de, .ref ne, .ref it, .ref po, .ref ma, .ref ab, .ref be, .long u4, .long d4, .ref li, .int (nI (mm + 1)), .ref fr, .ref to])) := by rw [← hMw34, va_up_ne _ _ (show md ≠ to from hD 0 18 (by decide) (by decide))]; exact w4_md
                        have hto4 : Mw34 to = some (.inl (cI, 66, .inl (upd TO2 mm (nI i)))) := by rw [← hMw34]; exact va_up_self _ _ _
                        have hfr_Mw34 : ∀ x9, x9 ≠ to → Mw34 x9 = Mw32 x9 := fun x9 z9 => by rw [← hMw34, va_up_ne _ _ z9]
                        refine next H locs Mw34 u4 d4 NE4 IT4 PO4 MA4 AB4 BE4 (mm + 1) _ _ _ (va_up fs mm i) (va_up lS mm i) rb ls hW hS ⟨w4_md, (((((hfr_Mw34 ne (show ne ≠ to from hD 10 18 (by decide) (by decide)))).trans (hfr_Mw32 ne (Ne.symm (show md ≠ ne from hD 0 10 (by decide) (by decide))))).trans (hfr_Mw30 ne (show ne ≠ fr from hD 10 17 (by decide) (by decide)))).trans (hfr_Mw21 ne (show ne ≠ li from hD 10 16 (by decide) (by decide)))).trans hK4.2.1, (((((hfr_Mw34 it (show it ≠ to from hD 11 18 (by decide) (by decide)))).trans (hfr_Mw32 it (Ne.symm (show md ≠ it from hD 0 11 (by decide) (by decide))))).trans (hfr_Mw30 it (show it ≠ fr from hD 11 17 (by decide) (by decide)))).trans (hfr_Mw21 it (show it ≠ li from hD 11 16 (by decide) (by decide)))).trans hK4.2.2.1, (((((hfr_Mw34 po (show po ≠ to from hD 12 18 (by decide) (by decide)))).trans (hfr_Mw32 po (Ne.symm (show md ≠ po from hD 0 12 (by decide) (by decide))))).trans (hfr_Mw30 po (show po ≠ fr from hD 12 17 (by decide) (by decide)))).trans (hfr_Mw21 po (show po ≠ li from hD 12 16 (by decide) (by decide)))).trans hK4.2.2.2.1, (((((hfr_Mw34 ma (show ma ≠ to from hD 13 18 (by decide) (by decide)))).trans (hfr_Mw32 ma (Ne.symm (show md ≠ ma from hD 0 13 (by decide) (by decide))))).trans (hfr_Mw30 ma (show ma ≠ fr from hD 13 17 (by decide) (by decide)))).trans (hfr_Mw21 ma (show ma ≠ li from hD 13 16 (by decide) (by decide)))).trans hK4.2.2.2.2.1, (((((hfr_Mw34 ab (show ab ≠ to from hD 14 18 (by decide) (by decide)))).trans (hfr_Mw32 ab (Ne.symm (show md ≠ ab from hD 0 14 (by decide) (by decide))))).trans (hfr_Mw30 ab (show ab ≠ fr from hD 14 17 (by decide) (by decide)))).trans (hfr_Mw21 ab (show ab ≠ li from hD 14 16 (by decide) (by decide)))).trans hK4.2.2.2.2.2.1, (((((hfr_Mw34 be (show be ≠ to from hD 15 18 (by decide) (by decide)))).trans (hfr_Mw32 be (Ne.symm (show md ≠ be from hD 0 15 (by decide) (by decide))))).trans (hfr_Mw30 be (show be ≠ fr from hD 15 17 (by decide) (by decide)))).trans (hfr_Mw21 be (show be ≠ li from hD 15 16 (by decide) (by decide)))).trans hK4.2.2.2.2.2.2⟩ (fun x9 z0 z1 z2 z3 z4 z5 z6 z7 z8 z9 => ((((((hfr_Mw34 x9 z9)).trans (hfr_Mw32 x9 z0)).trans (hfr_Mw30 x9 z8)).trans (hfr_Mw21 x9 z7)).trans (hfz x9 z0 z1 z2 z3 z4 z5 z6)).trans (hfx x9 z0 z1 z2 z3 z4 z5 z6 z7 z8 z9)) ⟨hli4, hfr4, hto4⟩ hkp4 (by rw [er1]; exact hJ2) (fun h9 => absurd h9 (by omega)) (fun i2 h9 => by rw [show i2 = i by omega, pk_us]) (fun k9 hk9 => ?_) (lv_sub hl [1, 2, 3, 4, 5] rfl)
                        by_cases z1 : k9 = mm
                        · rw [z1, pk_us, pk_us, va_up_self, va_up_self]; exact ⟨rfl, rfl⟩
                        · rw [pk_un z1, pk_un z1, va_up_ne _ _ z1, va_up_ne _ _ z1]; exact hFs k9 (by omega)
                  · skip
                    refine lv_goto (tgt := 221) hx hb d_Md_find_167 (by decide) ?_
                    exact next H locs Mw21 u4 d4 NE4 IT4 PO4 MA4 AB4 BE4 mm _ FR2 TO2 fs lS rb ls hW hS ⟨w4_md, ((hfr_Mw21 ne (show ne ≠ li from hD 10 16 (by decide) (by decide)))).trans hK4.2.1, ((hfr_Mw21 it (show it ≠ li from hD 11 16 (by decide) (by decide)))).trans hK4.2.2.1, ((hfr_Mw21 po (show po ≠ li from hD 12 16 (by decide) (by decide)))).trans hK4.2.2.2.1, ((hfr_Mw21 ma (show ma ≠ li from hD 13 16 (by decide) (by decide)))).trans hK4.2.2.2.2.1, ((hfr_Mw21 ab (show ab ≠ li from hD 14 16 (by decide) (by decide)))).trans hK4.2.2.2.2.2.1, ((hfr_Mw21 be (show be ≠ li from hD 15 16 (by decide) (by decide)))).trans hK4.2.2.2.2.2.2⟩ (fun x9 z0 z1 z2 z3 z4 z5 z6 z7 z8 z9 => (((hfr_Mw21 x9 z7)).trans (hfz x9 z0 z1 z2 z3 z4 z5 z6)).trans (hfx x9 z0 z1 z2 z3 z4 z5 z6 z7 z8 z9)) ⟨hli4, hfr4, hto4⟩ hkp4 (by rw [c_164]; exact pj_no hJ9 (it_b0 htr c_164)) (fun h9 => absurd h9 (by omega)) (fun i2 h9 => by rw [show i2 = i by omega, pk_us]) hFs (lv_sub hl [1, 2, 3, 4, 5] rfl)
            exact loop (2 * n1 + 1) 0 (by omega) _ _ Mw4 ug dg NEg IT PO (upd MA 2 (nI n1)) ABg BEg 0 LI0 FR0 TO0 (fun _ => 0) (fun _ => 0) 0 ls hW hS hK3 hfx3 ⟨(((hfr_Mw4 li (Ne.symm (show md ≠ li from hD 0 16 (by decide) (by decide)))).trans (hfg li (Ne.symm (show md ≠ li from hD 0 16 (by decide) (by decide))) (Ne.symm (show ne ≠ li from hD 10 16 (by decide) (by decide))) (Ne.symm (show it ≠ li from hD 11 16 (by decide) (by decide))) (Ne.symm (show po ≠ li from hD 12 16 (by decide) (by decide))) (Ne.symm (show ma ≠ li from hD 13 16 (by decide) (by decide))) (Ne.symm (show ab ≠ li from hD 14 16 (by decide) (by decide))) (Ne.symm (show be ≠ li from hD 15 16 (by decide) (by decide))))).trans (hf1 li (Ne.symm (show md ≠ li from hD 0 16 (by decide) (by decide))) (Ne.symm (show ne ≠ li from hD 10 16 (by decide) (by decide))) (Ne.symm (show it ≠ li from hD 11 16 (by decide) (by decide))) (Ne.symm (show po ≠ li from hD 12 16 (by decide) (by decide))) (Ne.symm (show ma ≠ li from hD 13 16 (by decide) (by decide))) (Ne.symm (show ab ≠ li from hD 14 16 (by decide) (by decide))) (Ne.symm (show be ≠ li from hD 15 16 (by decide) (by decide))))).trans hli0, (((hfr_Mw4 fr (Ne.symm (show md ≠ fr from hD 0 17 (by decide) (by decide)))).trans (hfg fr (Ne.symm (show md ≠ fr from hD 0 17 (by decide) (by decide))) (Ne.symm (show ne ≠ fr from hD 10 17 (by decide) (by decide))) (Ne.symm (show it ≠ fr from hD 11 17 (by decide) (by decide))) (Ne.symm (show po ≠ fr from hD 12 17 (by decide) (by decide))) (Ne.symm (show ma ≠ fr from hD 13 17 (by decide) (by decide))) (Ne.symm (show ab ≠ fr from hD 14 17 (by decide) (by decide))) (Ne.symm (show be ≠ fr from hD 15 17 (by decide) (by decide))))).trans (hf1 fr (Ne.symm (show md ≠ fr from hD 0 17 (by decide) (by decide))) (Ne.symm (show ne ≠ fr from hD 10 17 (by decide) (by decide))) (Ne.symm (show it ≠ fr from hD 11 17 (by decide) (by decide))) (Ne.symm (show po ≠ fr from hD 12 17 (by decide) (by decide))) (Ne.symm (show ma ≠ fr from hD 13 17 (by decide) (by decide))) (Ne.symm (show ab ≠ fr from hD 14 17 (by decide) (by decide))) (Ne.symm (show be ≠ fr from hD 15 17 (by decide) (by decide))))).trans hfr0, (((hfr_Mw4 to (Ne.symm (show md ≠ to from hD 0 18 (by decide) (by decide)))).trans (hfg to (Ne.symm (show md ≠ to from hD 0 18 (by decide) (by decide))) (Ne.symm (show ne ≠ to from hD 10 18 (by decide) (by decide))) (Ne.symm (show it ≠ to from hD 11 18 (by decide) (by decide))) (Ne.symm (show po ≠ to from hD 12 18 (by decide) (by decide))) (Ne.symm (show ma ≠ to from hD 13 18 (by decide) (by decide))) (Ne.symm (show ab ≠ to from hD 14 18 (by decide) (by decide))) (Ne.symm (show be ≠ to from hD 15 18 (by decide) (by decide))))).trans (hf1 to (Ne.symm (show md ≠ to from hD 0 18 (by decide) (by decide))) (Ne.symm (show ne ≠ to from hD 10 18 (by decide) (by decide))) (Ne.symm (show it ≠ to from hD 11 18 (by decide) (by decide))) (Ne.symm (show po ≠ to from hD 12 18 (by decide) (by decide))) (Ne.symm (show ma ≠ to from hD 13 18 (by decide) (by decide))) (Ne.symm (show ab ≠ to from hD 14 18 (by decide) (by decide))) (Ne.symm (show be ≠ to from hD 15 18 (by decide) (by decide))))).trans hto0⟩ ⟨pk_us, fun _ _ => ⟨rfl, rfl⟩⟩ (pj_0 tt _ _) (fun _ => rfl) (fun i2 h9 => absurd h9 (by omega)) (fun k9 hk9 => absurd hk9 (Nat.not_lt_zero k9)) (lv_sub hl [0, 1, 2, 3, 4] rfl)
          refine lv_if_eq (tgt := 68) hx hb d_Md_find_61 (by decide) (fun c_61 => ?_) (fun c_61 => ?_)
          · skip
            refine lv_iconst (v := 1) hx hb d_Md_find_68 (by decide) ?_
            have hnx : nx q1 = false := by cases hz9 : nx q1; rfl; rw [hc1.1, hz9] at c_61; exact absurd c_61 (by decide)
            exact rest 1 0 ls rfl (by rw [hnx]; rfl) (lv_sub hl [0, 1] rfl)
          · skip
            refine lv_iconst (v := 0) hx hb d_Md_find_64 (by decide) ?_
            refine lv_goto (tgt := 69) hx hb d_Md_find_65 (by decide) ?_
            have hnx : nx q1 = true := by cases hz9 : nx q1; rw [hc1.1, hz9] at c_61; exact absurd rfl c_61; rfl
            exact rest 0 1 ls rfl (by rw [hnx]; rfl) (lv_sub hl [0, 1] rfl)
        · skip
          exact absurd (by decide) c_50
      · skip
        have hd3 : 1 < nd q1 := by rcases Nat.lt_or_ge 1 (nd q1) with z | z; exact z; exact absurd ((nI_leI (b := 1) (by omega) (by omega)).mpr z) c_35
        refine lv_iconst (v := 2) hx hb d_Md_find_38 (by decide) ?_
        refine lv_goto (tgt := 43) hx hb d_Md_find_39 (by decide) ?_
        refine hw_put (own := "QuantifierOutModel") (v := .int 2) (ty := .int) hx hb hts i_Md ft_Md tk_Md n_Md hown hW hS w_md rfl 0 (by decide) (hts _ tw_603) (fun _ h9 => h9) rfl (tk_Md 0 (by decide)) rfl rfl (Nat.le_of_ble_eq_true rfl) d_Md_find_43 (fun H locs hW hS => ?_)
        have hW : hw_W D qcl (qty cI cJ cZ cN) _ (va_up M md (some (.inr (8, [.int 2, .int (nI n), .ref kd, .ref on, .ref tw, .ref nu, .ref le, .ref fx, .ref fy, .ref si, .ref de, .ref ne, .ref it, .ref po, .ref ma, .ref ab, .ref be, .long up, .long dn, .ref li, .int pz, .ref fr, .ref to])))) s H := hW
        generalize hMw35 : va_up M md (some (.inr (8, [.int 2, .int (nI n), .ref kd, .ref on, .ref tw, .ref nu, .ref le, .ref fx, .ref fy, .ref si, .ref de, .ref ne, .ref it, .ref po, .ref ma, .ref ab, .ref be, .long up, .long dn, .ref li, .int pz, .ref fr, .ref to]))) = Mw35 at hW
        have t_fx : Mw35 fx = some (.inl (cZ, 60, .inl (st 5))) := by rw [← hMw35, va_up_ne _ _ (Ne.symm (show md ≠ fx from hD 0 6 (by decide) (by decide)))]; exact t_fx
        have t_fy : Mw35 fy = some (.inl (cZ, 60, .inl (st 6))) := by rw [← hMw35, va_up_ne _ _ (Ne.symm (show md ≠ fy from hD 0 7 (by decide) (by decide)))]; exact t_fy
        have t_de : Mw35 de = some (.inl (cI, 60, .inl (st 8))) := by rw [← hMw35, va_up_ne _ _ (Ne.symm (show md ≠ de from hD 0 9 (by decide) (by decide)))]; exact t_de
        have w_md : Mw35 md = some (.inr (8, [.int 2, .int (nI n), .ref kd, .ref on, .ref tw, .ref nu, .ref le, .ref fx, .ref fy, .ref si, .ref de, .ref ne, .ref it, .ref po, .ref ma, .ref ab, .ref be, .long up, .long dn, .ref li, .int pz, .ref fr, .ref to])) := by rw [← hMw35]; exact va_up_self _ _ _
        have hfr_Mw35 : ∀ x9, x9 ≠ md → Mw35 x9 = M x9 := fun x9 z9 => by rw [← hMw35, va_up_ne _ _ z9]
        refine lv_aload_n hx hb d_Md_find_46 rfl (lv_at hl 0 rfl) ?_
        refine hw_get (own := "QuantifierOutModel") (v := .int 2) hx hb hts i_Md hown hW w_md rfl 0 (by decide) (hts _ tw_603) (fun _ h9 => h9) rfl d_Md_find_47 ?_
        have hK1 : md_W cI cJ cZ md kd on tw nu le fx fy si de ne it po ma ab be li fr to Mw35 (nI 2) n up dn pz NE IT PO MA AB BE := md_W.cd hD hK w_md hfr_Mw35
        have hf1 : ∀ x9, x9 ≠ md → x9 ≠ ne → x9 ≠ it → x9 ≠ po → x9 ≠ ma → x9 ≠ ab → x9 ≠ be → Mw35 x9 = M x9 := fun x9 z0 z1 z2 z3 z4 z5 z6 => hfr_Mw35 x9 z0
        have hT1 := md_T.kept hD hT hf1
        have hL1 := md_L.kept hD hL hf1
        refine lv_if_le (tgt := 55) hx hb d_Md_find_50 (by decide) (fun c_50 => ?_) (fun c_50 => ?_)
        · skip
          exact absurd c_50 (by decide)
        · skip
          refine lv_iconst (v := 0) hx hb d_Md_find_53 (by decide) ?_
          rw [hQ9]
          exact hw_retz hx hb hr rfl hlocks hW hS (md_Z.no (by unfold cSet; rw [if_neg (fun z => z his1), hxx.2.2, if_pos (Or.inr hd3)]) (by decide) ⟨up, dn, pz, NE, IT, PO, MA, AB, BE, st, mt, hK1, hT1, hM, hL1, hg⟩ (md_F.of hf1)) d_Md_find_54
  · skip
    refine lv_iconst (v := 1) hx hb d_Md_find_9 (by decide) ?_
    refine lv_goto (tgt := 43) hx hb d_Md_find_10 (by decide) ?_
    refine hw_put (own := "QuantifierOutModel") (v := .int 1) (ty := .int) hx hb hts i_Md ft_Md tk_Md n_Md hown hW hS w_md rfl 0 (by decide) (hts _ tw_603) (fun _ h9 => h9) rfl (tk_Md 0 (by decide)) rfl rfl (Nat.le_of_ble_eq_true rfl) d_Md_find_43 (fun H locs hW hS => ?_)
    have hW : hw_W D qcl (qty cI cJ cZ cN) _ (va_up M md (some (.inr (8, [.int 1, .int (nI n), .ref kd, .ref on, .ref tw, .ref nu, .ref le, .ref fx, .ref fy, .ref si, .ref de, .ref ne, .ref it, .ref po, .ref ma, .ref ab, .ref be, .long up, .long dn, .ref li, .int pz, .ref fr, .ref to])))) s H := hW
    generalize hMw36 : va_up M md (some (.inr (8, [.int 1, .int (nI n), .ref kd, .ref on, .ref tw, .ref nu, .ref le, .ref fx, .ref fy, .ref si, .ref de, .ref ne, .ref it, .ref po, .ref ma, .ref ab, .ref be, .long up, .long dn, .ref li, .int pz, .ref fr, .ref to]))) = Mw36 at hW
    have w_md : Mw36 md = some (.inr (8, [.int 1, .int (nI n), .ref kd, .ref on, .ref tw, .ref nu, .ref le, .ref fx, .ref fy, .ref si, .ref de, .ref ne, .ref it, .ref po, .ref ma, .ref ab, .ref be, .long up, .long dn, .ref li, .int pz, .ref fr, .ref to])) := by rw [← hMw36]; exact va_up_self _ _ _
    have hfr_Mw36 : ∀ x9, x9 ≠ md → Mw36 x9 = M x9 := fun x9 z9 => by rw [← hMw36, va_up_ne _ _ z9]
    refine lv_aload_n hx hb d_Md_find_46 rfl (lv_at hl 0 rfl) ?_
    refine hw_get (own := "QuantifierOutModel") (v := .int 1) hx hb hts i_Md hown hW w_md rfl 0 (by decide) (hts _ tw_603) (fun _ h9 => h9) rfl d_Md_find_47 ?_
    have hK1 : md_W cI cJ cZ md kd on tw nu le fx fy si de ne it po ma ab be li fr to Mw36 (nI 1) n up dn pz NE IT PO MA AB BE := md_W.cd hD hK w_md hfr_Mw36
    have hf1 : ∀ x9, x9 ≠ md → x9 ≠ ne → x9 ≠ it → x9 ≠ po → x9 ≠ ma → x9 ≠ ab → x9 ≠ be → Mw36 x9 = M x9 := fun x9 z0 z1 z2 z3 z4 z5 z6 => hfr_Mw36 x9 z0
    have hT1 := md_T.kept hD hT hf1
    have hL1 := md_L.kept hD hL hf1
    refine lv_if_le (tgt := 55) hx hb d_Md_find_50 (by decide) (fun c_50 => ?_) (fun c_50 => ?_)
    · skip
      exact absurd c_50 (by decide)
    · skip
      refine lv_iconst (v := 0) hx hb d_Md_find_53 (by decide) ?_
      rw [hQ9]
      exact hw_retz hx hb hr rfl hlocks hW hS (md_Z.no (by unfold cSet; rw [if_pos (fun h => it_b0 hb_rx c_6 ((isn_iff hn).mpr h))]) (by decide) ⟨up, dn, pz, NE, IT, PO, MA, AB, BE, st, mt, hK1, hT1, hM, hL1, hg⟩ (md_F.of hf1)) d_Md_find_54
end G53

section G47
variable (l : Launch) (D : va_G) (cI cJ cZ cN : ClassId) (md kd on tw nu le fx fy si de ne it po ma ab be li fr to : Nat)
set_option maxHeartbeats 4000000 in
set_option maxRecDepth 100000 in
theorem c_Md_tries2 (cd : Int32) (n : Nat) (up dn : Int64) (pz : Int32) (NE IT : Nat → Int32) (PO : Nat → Int64) (MA : Nat → Int32) (AB BE : Nat → Int64) (s9 sz : Nat) (q : nq) (mt : Nat → Option nq) (st : Nat → Nat → Int32) (M : Nat → Option va_E) (hD : md_D md kd on tw nu le fx fy si de ne it po ma ab be li fr to) (hK : md_W cI cJ cZ md kd on tw nu le fx fy si de ne it po ma ab be li fr to M cd n up dn pz NE IT PO MA AB BE) (hT : md_T cI cZ kd on tw nu le fx fy si de M st) (hM : mt_ok n mt st) (hq : mt s9 = some q) (j a : Nat) (kk : Bool) (hKK : nK q = .inr (.inr (.inr (j, a, kk)))) (hd : nd q ≤ 2) (hpt : pt_b PO 2 2 2) : Met l y_Md_tries2 (.code y_Md_tries2 b_Md_tries2 4 (some .boolean) :: ww) ({ frames := 6, cells := 0, slots := 0, locals := 200 }) (hw_Pc D qcl (qty cI cJ cZ cN) [.ref md, .int (nI s9)] M sz) (va_Qi (fun r M1 => it_b r (nP q (pX PO 2) (pY PO 2)) ∧ ∃ (u2 d2 : Int64) (NE2 IT2 : Nat → Int32) (PO2 : Nat → Int64) (MA2 : Nat → Int32) (AB2 BE2 : Nat → Int64), tk 120 2 NE IT PO MA AB BE NE2 IT2 PO2 MA2 AB2 BE2 ∧ md_W cI cJ cZ md kd on tw nu le fx fy si de ne it po ma ab be li fr to M1 cd n u2 d2 pz NE2 IT2 PO2 MA2 AB2 BE2 ∧ ∀ x9, x9 ≠ md → x9 ≠ ne → x9 ≠ it → x9 ≠ po → x9 ≠ ma → x9 ≠ ab → x9 ≠ be → M1 x9 = M x9) (hw_B D qcl (qty cI cJ cZ cN) M sz) (hw_A M sz)) 0 0 (hw_A M sz) := by
  have hn := hM.1
  have hsn := mt_lt hM hq
  have hmo := (hM.2.2 s9 q hq).2.2.1
  have hnk := hmo.1
  have ck := (hM.2.2 s9 q hq).2.2.2.2.2.2.2
  unfold nk_ok at hnk; unfold mt_k at ck
  rw [hKK] at hnk ck
  obtain ⟨q1, hj2, u1, u2, u3, u4, u5⟩ := hnk
  obtain ⟨k0, k1, k2, k3⟩ := ck
  have la := mt_lt hM u1
  obtain ⟨o, hjo⟩ : ∃ o, j + o = 1 := ⟨1 - j, by omega⟩
  have hmo1 := (hM.2.2 a q1 u1).2.2.1
  have hPP := tq_P u5
  refine hw_met (by decide) (Nat.le_of_ble_eq_true rfl) ?_
  intro p e s m below meth c hx hb hr hml hown hlocks hnm hts hsz hX hW ls hl
  subst hsz
  have hA : ∀ q, s.heap.size ≤ q → hw_A M s.heap.size q := fun q h => Or.inr h
  have hS : va_S (hw_A M s.heap.size) s.heap s.heap [] := va_S.rf
  have hl : lv_has ls 4 [(0, .ref md), (1, .int (nI s9))] := hl
  have hown : s.vm.findClass "QuantifierOutModel" = some m.cls := hown
  obtain ⟨Q9, hQ9⟩ : ∃ X : State → Prop, X = MQ below (va_Qi (fun r M1 => it_b r (nP q (pX PO 2) (pY PO 2)) ∧ ∃ (u2 d2 : Int64) (NE2 IT2 : Nat → Int32) (PO2 : Nat → Int64) (MA2 : Nat → Int32) (AB2 BE2 : Nat → Int64), tk 120 2 NE IT PO MA AB BE NE2 IT2 PO2 MA2 AB2 BE2 ∧ md_W cI cJ cZ md kd on tw nu le fx fy si de ne it po ma ab be li fr to M1 cd n u2 d2 pz NE2 IT2 PO2 MA2 AB2 BE2 ∧ ∀ x9, x9 ≠ md → x9 ≠ ne → x9 ≠ it → x9 ≠ po → x9 ≠ ma → x9 ≠ ab → x9 ≠ be → M1 x9 = M x9) (hw_B D qcl (qty cI cJ cZ cN) M s.heap.size) (hw_A M s.heap.size)) [.ref md, .int (nI s9)].toArray s 0 0 (hw_A M s.heap.size) := ⟨_, rfl⟩
  rw [← hQ9]
  have w_md := hK.1
  have w_md : M md = some (.inr (8, [.int cd, .int (nI n), .ref kd, .ref on, .ref tw, .ref nu, .ref le, .ref fx, .ref fy, .ref si, .ref de, .ref ne, .ref it, .ref po, .ref ma, .ref ab, .ref be, .long up, .long dn, .ref li, .int pz, .ref fr, .ref to])) := w_md
  have w_po := hK.2.2.2.1
  have w_po : M po = some (.inl (cJ, 12, .inr (.inl PO))) := w_po
  have t_le : M le = some (.inl (cI, 60, .inl (st 4))) := hT.2.2.2.2.1
  have t_on : M on = some (.inl (cI, 60, .inl (st 1))) := hT.2.1
  have t_kd : M kd = some (.inl (cI, 60, .inl (st 0))) := hT.1
  refine lv_aload_n hx hb d_Md_tries2_0 rfl (lv_at hl 0 rfl) ?_
  refine hw_get (own := "QuantifierOutModel") (v := .ref le) hx hb hts i_Md hown hW w_md rfl 6 (by decide) (hts _ tw_609) (fun _ h9 => h9) rfl d_Md_tries2_1 ?_
  refine lv_iload_n hx hb d_Md_tries2_4 rfl (lv_at hl 1 rfl) ?_
  refine hw_ild hx hb hW 0 t_le rfl s9 rfl (by omega) (by decide) d_Md_tries2_5 ?_
  rw [k3]
  refine lv_istore_n (lv' := [(2, .int (nI j)), (0, .ref md), (1, .int (nI s9))]) hx hb d_Md_tries2_6 rfl hl (by decide) rfl (fun ls hl => ?_)
  refine lv_aload_n hx hb d_Md_tries2_7 rfl (lv_at hl 1 rfl) ?_
  refine lv_iconst (v := 2) hx hb d_Md_tries2_8 (by decide) ?_
  refine lv_aload_n hx hb d_Md_tries2_9 rfl (lv_at hl 1 rfl) ?_
  refine hw_get (own := "QuantifierOutModel") (v := .ref on) hx hb hts i_Md hown hW w_md rfl 3 (by decide) (hts _ tw_606) (fun _ h9 => h9) rfl d_Md_tries2_10 ?_
  refine lv_iload_n hx hb d_Md_tries2_13 rfl (lv_at hl 2 rfl) ?_
  refine hw_ild hx hb hW 0 t_on rfl s9 rfl (by omega) (by decide) d_Md_tries2_14 ?_
  rw [k1]
  have e2j : (2 : Int32) * nI j = nI (2 * j) := pk_mul 2 j
  refine lv_iload_n hx hb d_Md_tries2_15 rfl (lv_at hl 0 rfl) ?_
  refine lv_aload_n hx hb d_Md_tries2_16 rfl (lv_at hl 1 rfl) ?_
  refine hw_get (own := "QuantifierOutModel") (v := .ref po) hx hb hts i_Md hown hW w_md rfl 13 (by decide) (hts _ tw_616) (fun _ h9 => h9) rfl d_Md_tries2_17 ?_
  refine lv_bipush (v := 10) hx hb d_Md_tries2_20 (by decide) ?_
  refine lv_iconst (v := 2) hx hb d_Md_tries2_22 (by decide) ?_
  refine lv_iload_n hx hb d_Md_tries2_23 rfl (lv_at hl 0 rfl) ?_
  refine lv_imul hx hb d_Md_tries2_24 ?_
  refine lv_topi (fun x1 ex1 => ?_)
  refine lv_isub hx hb d_Md_tries2_25 ?_
  refine lv_topi (fun x2 ex2 => ?_)
  have eix2 : x2 = nI (8 + 2 * o + 0) := by rw [ex2, ex1, e2j, show (10 : Int32) = nI 10 from rfl, pk_sub (by omega)]; congr 1; omega
  refine hw_lld hx hb hW 1 w_po rfl (8 + 2 * o + 0) eix2 (by omega) (by decide) d_Md_tries2_26 ?_
  refine lv_topl (fun oU eoU => ?_)
  refine lv_aload_n hx hb d_Md_tries2_27 rfl (lv_at hl 1 rfl) ?_
  refine hw_get (own := "QuantifierOutModel") (v := .ref po) hx hb hts i_Md hown hW w_md rfl 13 (by decide) (hts _ tw_616) (fun _ h9 => h9) rfl d_Md_tries2_28 ?_
  refine lv_bipush (v := 11) hx hb d_Md_tries2_31 (by decide) ?_
  refine lv_iconst (v := 2) hx hb d_Md_tries2_33 (by decide) ?_
  refine lv_iload_n hx hb d_Md_tries2_34 rfl (lv_at hl 0 rfl) ?_
  refine lv_imul hx hb d_Md_tries2_35 ?_
  refine lv_topi (fun x3 ex3 => ?_)
  refine lv_isub hx hb d_Md_tries2_36 ?_
  refine lv_topi (fun x4 ex4 => ?_)
  have eix4 : x4 = nI (8 + 2 * o + 1) := by rw [ex4, ex3, e2j, show (11 : Int32) = nI 11 from rfl, pk_sub (by omega)]; congr 1; omega
  refine hw_lld hx hb hW 1 w_po rfl (8 + 2 * o + 1) eix4 (by omega) (by decide) d_Md_tries2_37 ?_
  refine lv_topl (fun oD eoD => ?_)
  have hob : 0 < oD.toInt ∧ oD.toInt ≤ pd 2 ∧ oU.toInt.natAbs ≤ pn 2 := by
    rw [eoU, eoD]; unfold pt_b at hpt
    rcases (show o = 0 ∨ o = 1 by omega) with rfl | rfl
    · exact hpt.1
    · exact hpt.2
  obtain ⟨hob0, hob1, hob2⟩ := hob
  have epn : pn 2 = 50 := rfl
  have epd : pd 2 = 1 := rfl
  refine hw_callv (hw_runV (n := 5) (own := "QuantifierOutModel") (As := [.int 2, .int (nI a), .int (nI j), .long oU, .long oD]) (rest := []) hx hb hml hown hts hX hW hl.1 (c_Md_gather l D cI cJ cZ cN md kd on tw nu le fx fy si de ne it po ma ab be li fr to cd n up dn pz NE IT PO MA AB BE 2 a j o 255 50 50 1 _ q1 oU oD mt st M hD hK hT hM la u1 (by omega) hjo hob0 (by omega) (by omega) (by decide) (by decide) (by decide) (by decide) (by decide) (by decide) (by decide)) hK.1 rfl tw_767 tw_769 ts_22 tw_5 tw_770 (by decide +kernel) rfl rfl ⟨by decide, by decide⟩ rfl rfl (Nat.le_of_ble_eq_true rfl) d_Md_tries2_38 ⟨by decide, by decide⟩) hW hS hA (fun Mg H locs hpg hz hW hS => ?_)
  obtain ⟨n1, NEg, ug, dg, ABg, BEg, hn27, hrow, hc0, hc1, houtg, hneg, hKg, hfg⟩ := hpg
  obtain ⟨MV, hMV⟩ : ∃ f : Nat → Rat, f = mk_v (kf (64 * 2) ABg) (kf (64 * 2) BEg) := ⟨_, rfl⟩
  have hinc : qm_inc MV n1 := by rw [hMV]; exact hrow.2
  rw [← hMV] at hc0 hc1
  obtain ⟨y0, hy0⟩ : ∃ y : Rat, y = qm_fr oU.toInt oD.toInt := ⟨_, rfl⟩
  rw [← hy0] at hc0
  have hy0e : (if j = 0 then pY PO 2 else pX PO 2) = y0 := by
    rw [hy0, eoU, eoD]; unfold pX pY
    rcases (show o = 0 ∨ o = 1 by omega) with rfl | rfl
    · rw [if_neg (by omega)]
    · rw [if_pos (by omega)]
  obtain ⟨Bq, hBq⟩ : ∃ B : Rat → Prop, B = fun u => nP_j j (nP q1) u y0 := ⟨_, rfl⟩
  have hcell : ∀ s u u2, qi_at MV n1 s u → qi_at MV n1 s u2 → (Bq u ↔ Bq u2) := by
    intro s u u2 hu hu2
    rw [hBq]
    exact qm_same (nP_jinv hmo1.2.2.2.2.2.1 j) (by omega) hc0 (fun e => hc1 (by omega)) (fun m ⟨i, hi2, e⟩ => by rw [e]; exact qi_ss hu hu2 i hi2)
  have hgoal : nP q (pX PO 2) (pY PO 2) ↔ if kk = true then ∀ u, Bq u else ∃ u, Bq u := by rw [hBq, ← hy0e]; exact hPP _ _
  have tkg : tk 120 2 NE IT PO MA AB BE NEg IT PO (upd MA 2 (nI n1)) ABg BEg := ⟨fun i h1 h2 => hneg i h2, fun _ _ => rfl, fun _ _ => rfl, fun i hi => pk_un (by omega), fun i hi => houtg i (Or.inr (by omega))⟩
  have loop : ∀ (z i : Nat), i + z = 2 * n1 + 1 → ∀ (H : Heap) (locs : List Loc) (M2 : Nat → Option va_E) (u2 d2 : Int64) (NE2 IT2 : Nat → Int32) (PO2 : Nat → Int64) (MA2 : Nat → Int32) (AB2 BE2 : Nat → Int64) (ls : Array Slot), hw_W D qcl (qty cI cJ cZ cN) (hw_A M s.heap.size) M2 s H → va_S (hw_A M s.heap.size) s.heap H locs → md_W cI cJ cZ md kd on tw nu le fx fy si de ne it po ma ab be li fr to M2 cd n u2 d2 pz NE2 IT2 PO2 MA2 AB2 BE2 → (∀ x9, x9 ≠ md → x9 ≠ ne → x9 ≠ it → x9 ≠ po → x9 ≠ ma → x9 ≠ ab → x9 ≠ be → M2 x9 = M x9) → ((∀ i, 120 ≤ i → i < 180 → NE2 i = NEg i) ∧ (∀ i, 120 ≤ i → IT2 i = IT i) ∧ (∀ i, 8 ≤ i → PO2 i = PO i) ∧ (∀ i, 1 < i → MA2 i = upd MA 2 (nI n1) i) ∧ (∀ i, 128 ≤ i → AB2 i = ABg i ∧ BE2 i = BEg i)) → (∀ i2, i2 < i → ∀ u, qi_at MV n1 i2 u → (Bq u ↔ kk = true)) → lv_has ls 4 [(3, .int (nI i)), (2, .int (nI j)), (0, .ref md), (1, .int (nI s9))] → W p l e ({ frames := 6, cells := 0, slots := 0, locals := 200 }) s m [.ref md, .int (nI s9)].toArray below meth c H locs 0 0 Q9 (F0 m 43 ls []) := by
    intro z
    induction z with
    | zero =>
      intro i hz9 H locs M2 u2 d2 NE2 IT2 PO2 MA2 AB2 BE2 ls hW hS hK2 hf2 hin2 hall hl
      have hT2 := md_T.kept hD hT hf2
      have hma2 : MA2 2 = nI n1 := by rw [hin2.2.2.2.1 2 (by omega)]; exact pk_us
      have w2_md := hK2.1
      have w2_md : M2 md = some (.inr (8, [.int cd, .int (nI n), .ref kd, .ref on, .ref tw, .ref nu, .ref le, .ref fx, .ref fy, .ref si, .ref de, .ref ne, .ref it, .ref po, .ref ma, .ref ab, .ref be, .long u2, .long d2, .ref li, .int pz, .ref fr, .ref to])) := w2_md
      have w2_ma := hK2.2.2.2.2.1
      have w2_ma : M2 ma = some (.inl (cI, 3, .inl MA2)) := w2_ma
      have t2_kd : M2 kd = some (.inl (cI, 60, .inl (st 0))) := hT2.1
      have t2_on : M2 on = some (.inl (cI, 60, .inl (st 1))) := hT2.2.1
      refine lv_iload_n hx hb d_Md_tries2_43 rfl (lv_at hl 0 rfl) ?_
      refine lv_iconst (v := 2) hx hb d_Md_tries2_44 (by decide) ?_
      refine lv_aload_n hx hb d_Md_tries2_45 rfl (lv_at hl 2 rfl) ?_
      refine hw_get (own := "QuantifierOutModel") (v := .ref ma) hx hb hts i_Md hown hW w2_md rfl 14 (by decide) (hts _ tw_617) (fun _ h9 => h9) rfl d_Md_tries2_46 ?_
      refine lv_iconst (v := 2) hx hb d_Md_tries2_49 (by decide) ?_
      refine hw_ild hx hb hW 0 w2_ma rfl 2 rfl (by omega) (by decide) d_Md_tries2_50 ?_
      rw [hma2]
      refine lv_imul hx hb d_Md_tries2_51 ?_
      refine lv_topi (fun x5 ex5 => ?_)
      have em : x5 = nI (2 * n1) := by rw [ex5]; exact pk_mul 2 n1
      rw [em]
      refine lv_icmp_gt (tgt := 117) hx hb d_Md_tries2_52 (by decide) (fun c_52 => ?_) (fun c_52 => ?_)
      · skip
        have hevery : ∀ u, (Bq u ↔ kk = true) := fun u => by obtain ⟨s, hs, hu⟩ := qi_ex hinc u; exact hall s (by omega) u hu
        refine lv_aload_n hx hb d_Md_tries2_117 rfl (lv_at hl 2 rfl) ?_
        refine hw_get (own := "QuantifierOutModel") (v := .ref kd) hx hb hts i_Md hown hW w2_md rfl 2 (by decide) (hts _ tw_605) (fun _ h9 => h9) rfl d_Md_tries2_118 ?_
        refine lv_iload_n hx hb d_Md_tries2_121 rfl (lv_at hl 3 rfl) ?_
        refine hw_ild hx hb hW 0 t2_kd rfl s9 rfl (by omega) (by decide) d_Md_tries2_122 ?_
        rw [k0]
        refine lv_iconst (v := 5) hx hb d_Md_tries2_123 (by decide) ?_
        refine lv_icmp_ne (tgt := 131) hx hb d_Md_tries2_124 (by decide) (fun c_124 => ?_) (fun c_124 => ?_)
        · skip
          have hkk : kk = false := by cases kk; rfl; exact absurd rfl c_124
          refine lv_iconst (v := 0) hx hb d_Md_tries2_131 (by decide) ?_
          rw [hQ9]
          exact hw_retz hx hb hr rfl hlocks hW hS ⟨Or.inr ⟨rfl, fun z9 => by rw [hgoal, hkk, if_neg (by decide)] at z9; obtain ⟨u, hu⟩ := z9; have := (hevery u).mp hu; rw [hkk] at this; cases this⟩, u2, d2, NE2, IT2, PO2, MA2, AB2, BE2, ⟨fun i h1 h2 => (hin2.1 i h1 h2).trans (hneg i h2), fun i h1 => hin2.2.1 i h1, fun i h1 => hin2.2.2.1 i h1, fun i h1 => (hin2.2.2.2.1 i (by omega)).trans (pk_un (by omega)), fun i h1 => ⟨(hin2.2.2.2.2 i (by omega)).1.trans (houtg i (Or.inr (by omega))).1, (hin2.2.2.2.2 i (by omega)).2.trans (houtg i (Or.inr (by omega))).2⟩⟩, hK2, hf2⟩ d_Md_tries2_132
        · skip
          have hkk : kk = true := by cases kk; exact absurd c_124 (by decide); rfl
          refine lv_iconst (v := 1) hx hb d_Md_tries2_127 (by decide) ?_
          refine lv_goto (tgt := 132) hx hb d_Md_tries2_128 (by decide) ?_
          rw [hQ9]
          exact hw_retz hx hb hr rfl hlocks hW hS ⟨Or.inl ⟨rfl, by rw [hgoal, hkk, if_pos rfl]; exact fun u => (hevery u).mpr hkk⟩, u2, d2, NE2, IT2, PO2, MA2, AB2, BE2, ⟨fun i h1 h2 => (hin2.1 i h1 h2).trans (hneg i h2), fun i h1 => hin2.2.1 i h1, fun i h1 => hin2.2.2.1 i h1, fun i h1 => (hin2.2.2.2.1 i (by omega)).trans (pk_un (by omega)), fun i h1 => ⟨(hin2.2.2.2.2 i (by omega)).1.trans (houtg i (Or.inr (by omega))).1, (hin2.2.2.2.2 i (by omega)).2.trans (houtg i (Or.inr (by omega))).2⟩⟩, hK2, hf2⟩ d_Md_tries2_132
      · skip
        exact absurd (nI_lt (show 2 * n1 < i by omega) (by omega)) c_52
    | succ z ihz =>
      intro i hz9 H locs M2 u2 d2 NE2 IT2 PO2 MA2 AB2 BE2 ls hW hS hK2 hf2 hin2 hall hl
      have hT2 := md_T.kept hD hT hf2
      have hma2 : MA2 2 = nI n1 := by rw [hin2.2.2.2.1 2 (by omega)]; exact pk_us
      have w2_md := hK2.1
      have w2_md : M2 md = some (.inr (8, [.int cd, .int (nI n), .ref kd, .ref on, .ref tw, .ref nu, .ref le, .ref fx, .ref fy, .ref si, .ref de, .ref ne, .ref it, .ref po, .ref ma, .ref ab, .ref be, .long u2, .long d2, .ref li, .int pz, .ref fr, .ref to])) := w2_md
      have w2_ma := hK2.2.2.2.2.1
      have w2_ma : M2 ma = some (.inl (cI, 3, .inl MA2)) := w2_ma
      have t2_kd : M2 kd = some (.inl (cI, 60, .inl (st 0))) := hT2.1
      have t2_on : M2 on = some (.inl (cI, 60, .inl (st 1))) := hT2.2.1
      refine lv_iload_n hx hb d_Md_tries2_43 rfl (lv_at hl 0 rfl) ?_
      refine lv_iconst (v := 2) hx hb d_Md_tries2_44 (by decide) ?_
      refine lv_aload_n hx hb d_Md_tries2_45 rfl (lv_at hl 2 rfl) ?_
      refine hw_get (own := "QuantifierOutModel") (v := .ref ma) hx hb hts i_Md hown hW w2_md rfl 14 (by decide) (hts _ tw_617) (fun _ h9 => h9) rfl d_Md_tries2_46 ?_
      refine lv_iconst (v := 2) hx hb d_Md_tries2_49 (by decide) ?_
      refine hw_ild hx hb hW 0 w2_ma rfl 2 rfl (by omega) (by decide) d_Md_tries2_50 ?_
      rw [hma2]
      refine lv_imul hx hb d_Md_tries2_51 ?_
      refine lv_topi (fun x6 ex6 => ?_)
      have em : x6 = nI (2 * n1) := by rw [ex6]; exact pk_mul 2 n1
      rw [em]
      refine lv_icmp_gt (tgt := 117) hx hb d_Md_tries2_52 (by decide) (fun c_52 => ?_) (fun c_52 => ?_)
      · skip
        exact absurd c_52 (nI_nlt (by omega) (by omega))
      · skip
        have hrow2 : kr (kf (64 * 2) AB2) (kf (64 * 2) BE2) n1 255 50 := by
          have ea : kf (64 * 2) AB2 = kf (64 * 2) ABg := funext fun t => (hin2.2.2.2.2 _ (by omega)).1
          have eb : kf (64 * 2) BE2 = kf (64 * 2) BEg := funext fun t => (hin2.2.2.2.2 _ (by omega)).2
          rw [ea, eb]; exact hrow
        have hMV2 : mk_v (kf (64 * 2) AB2) (kf (64 * 2) BE2) = MV := by
          have ea : kf (64 * 2) AB2 = kf (64 * 2) ABg := funext fun t => (hin2.2.2.2.2 _ (by omega)).1
          have eb : kf (64 * 2) BE2 = kf (64 * 2) BEg := funext fun t => (hin2.2.2.2.2 _ (by omega)).2
          rw [ea, eb, hMV]
        refine lv_aload_n hx hb d_Md_tries2_55 rfl (lv_at hl 2 rfl) ?_
        refine lv_iconst (v := 2) hx hb d_Md_tries2_56 (by decide) ?_
        refine lv_iload_n hx hb d_Md_tries2_57 rfl (lv_at hl 0 rfl) ?_
        refine hw_callv (hw_runV (n := 2) (own := "QuantifierOutModel") (As := [.int 2, .int (nI i)]) (rest := []) hx hb hml hown hts hX hW hl.1 (c_Md_trial l D cI cJ cZ cN md kd on tw nu le fx fy si de ne it po ma ab be li fr to cd n u2 d2 pz NE2 IT2 PO2 MA2 AB2 BE2 2 n1 i 255 50 25500 5000 _ M2 hD hK2 (by omega) hma2 (by omega) (by omega) hrow2 (by decide) (by decide) (by decide) (by decide) (by decide) (by decide) (by decide)) hK2.1 rfl tw_783 tw_785 ts_26 tw_5 tw_786 (by decide +kernel) rfl rfl ⟨by decide, by decide⟩ rfl rfl (Nat.le_of_ble_eq_true rfl) d_Md_tries2_58 ⟨by decide, by decide⟩) hW hS hA (fun Mt H locs hpt9 hz hW hS => ?_)
        obtain ⟨ut, dt, hdt0, hdt, hut, hat, hKt, hft⟩ := hpt9
        rw [hMV2] at hat
        refine lv_aload_n hx hb d_Md_tries2_61 rfl (lv_at hl 2 rfl) ?_
        refine lv_iconst (v := 2) hx hb d_Md_tries2_62 (by decide) ?_
        refine lv_iload_n hx hb d_Md_tries2_63 rfl (lv_at hl 1 rfl) ?_
        refine hw_callv (hw_runV (n := 2) (own := "QuantifierOutModel") (As := [.int 2, .int (nI j)]) (rest := []) hx hb hml hown hts hX hW hl.1 (c_Md_step l D cI cJ cZ cN md kd on tw nu le fx fy si de ne it po ma ab be li fr to cd n ut dt pz NE2 IT2 PO2 MA2 AB2 BE2 1 j o _ Mt hD hKt (by omega) hjo) hKt.1 rfl tw_787 tw_789 ts_27 tw_5 tw_790 (by decide +kernel) rfl rfl ⟨by decide, by decide⟩ rfl rfl (Nat.le_of_ble_eq_true rfl) d_Md_tries2_64 ⟨by decide, by decide⟩) hW hS hA (fun Ms H locs hps9 hz hW hS => ?_)
        obtain ⟨PO3, hp1, hp2, hp3, hp4, hp5, hKs, hfs⟩ := hps9
        have hf3 : ∀ x9, x9 ≠ md → x9 ≠ ne → x9 ≠ it → x9 ≠ po → x9 ≠ ma → x9 ≠ ab → x9 ≠ be → Ms x9 = M x9 := fun x9 z0 z1 z2 z3 z4 z5 z6 => ((hfs x9 z0 z1 z2 z3 z4 z5 z6).trans (hft x9 z0 z1 z2 z3 z4 z5 z6)).trans (hf2 x9 z0 z1 z2 z3 z4 z5 z6)
        have hT3 := md_T.kept hD hT hf3
        have w3_md := hKs.1
        have w3_md : Ms md = some (.inr (8, [.int cd, .int (nI n), .ref kd, .ref on, .ref tw, .ref nu, .ref le, .ref fx, .ref fy, .ref si, .ref de, .ref ne, .ref it, .ref po, .ref ma, .ref ab, .ref be, .long ut, .long dt, .ref li, .int pz, .ref fr, .ref to])) := w3_md
        have t3_on : Ms on = some (.inl (cI, 60, .inl (st 1))) := hT3.2.1
        have t3_kd : Ms kd = some (.inl (cI, 60, .inl (st 0))) := hT3.1
        refine lv_aload_n hx hb d_Md_tries2_67 rfl (lv_at hl 2 rfl) ?_
        refine lv_aload_n hx hb d_Md_tries2_68 rfl (lv_at hl 2 rfl) ?_
        refine hw_get (own := "QuantifierOutModel") (v := .ref on) hx hb hts i_Md hown hW w3_md rfl 3 (by decide) (hts _ tw_606) (fun _ h9 => h9) rfl d_Md_tries2_69 ?_
        refine lv_iload_n hx hb d_Md_tries2_72 rfl (lv_at hl 3 rfl) ?_
        refine hw_ild hx hb hW 0 t3_on rfl s9 rfl (by omega) (by decide) d_Md_tries2_73 ?_
        rw [k1]
        have hoo : ∀ i, i < 2 → PO3 (4 + 2 * o + i) = PO (8 + 2 * o + i) := fun i hi => by
          rcases (show i = 0 ∨ i = 1 by omega) with rfl | rfl
          · rw [Nat.add_zero, Nat.add_zero, show 4 + 2 * o = 4 * 1 + 2 * o by omega, hp4]; exact hin2.2.2.1 _ (by omega)
          · rw [show 4 + 2 * o + 1 = 4 * 1 + 2 * o + 1 by omega, hp5]; exact hin2.2.2.1 _ (by omega)
        have ho0 : PO3 (4 * 1 + 2 * o) = oU := by rw [hp4, eoU]; exact hin2.2.2.1 _ (by omega)
        have ho1 : PO3 (4 * 1 + 2 * o + 1) = oD := by rw [hp5, eoD]; exact hin2.2.2.1 _ (by omega)
        have hBu : Bq (qm_fr ut.toInt dt.toInt) ↔ nP q1 (pX PO3 1) (pY PO3 1) := by
          rw [hBq, hy0, ← ho0, ← ho1, ← hp2, ← hp3]; unfold pX pY nP_j
          rcases (show j = 0 ∨ j = 1 by omega) with rfl | rfl
          · rw [show o = 1 by omega]; rfl
          · rw [show o = 0 by omega]; rfl
        have hpt3 : pt_b PO3 1 1 1 := by
          have en0 : pn 1 = 25500 := rfl; have ed0 : pd 1 = 5000 := rfl
          unfold pt_b
          rcases (show j = 0 ∨ j = 1 by omega) with rfl | rfl
          · have eo : o = 1 := by omega
            subst eo
            refine ⟨⟨?_, ?_, ?_⟩, ?_, ?_, ?_⟩
            · show 0 < (PO3 (4 * 1 + 2 * 0 + 1)).toInt; rw [hp3]; exact hdt0
            · show (PO3 (4 * 1 + 2 * 0 + 1)).toInt ≤ _; rw [hp3]; omega
            · show (PO3 (4 * 1 + 2 * 0)).toInt.natAbs ≤ _; rw [hp2]; omega
            · show 0 < (PO3 (4 * 1 + 2 * 1 + 1)).toInt; rw [ho1]; exact hob0
            · show (PO3 (4 * 1 + 2 * 1 + 1)).toInt ≤ _; rw [ho1]; omega
            · show (PO3 (4 * 1 + 2 * 1)).toInt.natAbs ≤ _; rw [ho0]; omega
          · have eo : o = 0 := by omega
            subst eo
            refine ⟨⟨?_, ?_, ?_⟩, ?_, ?_, ?_⟩
            · show 0 < (PO3 (4 * 1 + 2 * 0 + 1)).toInt; rw [ho1]; exact hob0
            · show (PO3 (4 * 1 + 2 * 0 + 1)).toInt ≤ _; rw [ho1]; omega
            · show (PO3 (4 * 1 + 2 * 0)).toInt.natAbs ≤ _; rw [ho0]; omega
            · show 0 < (PO3 (4 * 1 + 2 * 1 + 1)).toInt; rw [hp3]; exact hdt0
            · show (PO3 (4 * 1 + 2 * 1 + 1)).toInt ≤ _; rw [hp3]; omega
            · show (PO3 (4 * 1 + 2 * 1)).toInt.natAbs ≤ _; rw [hp2]; omega
        refine hw_calli (hw_runV (n := 1) (own := "QuantifierOutModel") (As := [.int (nI a)]) (rest := []) hx hb hml hown hts hX hW hl.1 (c_Md_truth1 l D cI cJ cZ cN md kd on tw nu le fx fy si de ne it po ma ab be li fr to cd n ut dt pz NE2 IT2 PO3 MA2 AB2 BE2 a _ q1 mt st Ms hD hKs hT3 hM u1 (by omega) hpt3) hKs.1 rfl tw_791 tw_793 ts_28 tw_5 tw_794 (by decide +kernel) rfl rfl ⟨by decide, by decide⟩ rfl rfl (Nat.le_of_ble_eq_true rfl) d_Md_tries2_74 ⟨by decide, by decide⟩) hW hS hA (fun rb Mr H locs hpr9 hz hW hS => ?_)
        obtain ⟨hrb, u4, d4, NE4, IT4, PO4, MA4, AB4, BE4, htk, hK4, hf4⟩ := hpr9
        obtain ⟨v1, v2, v3, v4, v5⟩ := htk
        have hrB : it_b rb (Bq (qm_fr ut.toInt dt.toInt)) := by rcases hrb with ⟨z8, z9⟩ | ⟨z8, z9⟩; exact Or.inl ⟨z8, hBu.mpr z9⟩; exact Or.inr ⟨z8, fun z => z9 (hBu.mp z)⟩
        have hf5 : ∀ x9, x9 ≠ md → x9 ≠ ne → x9 ≠ it → x9 ≠ po → x9 ≠ ma → x9 ≠ ab → x9 ≠ be → Mr x9 = M x9 := fun x9 z0 z1 z2 z3 z4 z5 z6 => (hf4 x9 z0 z1 z2 z3 z4 z5 z6).trans (hf3 x9 z0 z1 z2 z3 z4 z5 z6)
        have hT4 := md_T.kept hD hT hf5
        have hin4 : (∀ i, 120 ≤ i → i < 180 → NE4 i = NEg i) ∧ (∀ i, 120 ≤ i → IT4 i = IT i) ∧ (∀ i, 8 ≤ i → PO4 i = PO i) ∧ (∀ i, 1 < i → MA4 i = upd MA 2 (nI n1) i) ∧ (∀ i, 128 ≤ i → AB4 i = ABg i ∧ BE4 i = BEg i) := ⟨fun i h1 h2 => (v1 i (by omega) h2).trans (hin2.1 i h1 h2), fun i h1 => (v2 i (by omega)).trans (hin2.2.1 i h1), fun i h1 => ((v3 i (by omega)).trans (hp1 i (by omega))).trans (hin2.2.2.1 i h1), fun i h1 => (v4 i (by omega)).trans (hin2.2.2.2.1 i h1), fun i h1 => ⟨(v5 i (by omega)).1.trans (hin2.2.2.2.2 i h1).1, (v5 i (by omega)).2.trans (hin2.2.2.2.2 i h1).2⟩⟩
        have w4_md := hK4.1
        have w4_md : Mr md = some (.inr (8, [.int cd, .int (nI n), .ref kd, .ref on, .ref tw, .ref nu, .ref le, .ref fx, .ref fy, .ref si, .ref de, .ref ne, .ref it, .ref po, .ref ma, .ref ab, .ref be, .long u4, .long d4, .ref li, .int pz, .ref fr, .ref to])) := w4_md
        have t4_kd : Mr kd = some (.inl (cI, 60, .inl (st 0))) := hT4.1
        refine lv_aload_n hx hb d_Md_tries2_77 rfl (lv_at hl 2 rfl) ?_
        refine hw_get (own := "QuantifierOutModel") (v := .ref kd) hx hb hts i_Md hown hW w4_md rfl 2 (by decide) (hts _ tw_605) (fun _ h9 => h9) rfl d_Md_tries2_78 ?_
        refine lv_iload_n hx hb d_Md_tries2_81 rfl (lv_at hl 3 rfl) ?_
        refine hw_ild hx hb hW 0 t4_kd rfl s9 rfl (by omega) (by decide) d_Md_tries2_82 ?_
        rw [k0]
        refine lv_iconst (v := 4) hx hb d_Md_tries2_83 (by decide) ?_
        refine lv_icmp_ne (tgt := 91) hx hb d_Md_tries2_84 (by decide) (fun c_84 => ?_) (fun c_84 => ?_)
        · skip
          have hkk : kk = true := by cases kk; exact absurd rfl c_84; rfl
          refine lv_iconst (v := 0) hx hb d_Md_tries2_91 (by decide) ?_
          refine lv_icmp_ne (tgt := 111) hx hb d_Md_tries2_92 (by decide) (fun c_92 => ?_) (fun c_92 => ?_)
          · skip
            obtain ⟨k9, ek9⟩ : ∃ y9 : Int32, y9 = (nI i) + Int32.ofInt (1) := ⟨_, rfl⟩
            refine lv_iinc (v := k9) (lv' := [(3, .int k9), (2, .int (nI j)), (0, .ref md), (1, .int (nI s9))]) hx hb d_Md_tries2_111 hl (k := 0) rfl ek9.symm (by decide) rfl (fun ls hl => ?_)
            have ek9b : k9 = nI (i + 1) := by rw [ek9]; exact nI_add i 1
            subst ek9b
            refine lv_goto (tgt := 43) hx hb d_Md_tries2_114 (by decide) ?_
            have hB0 : (Bq (qm_fr ut.toInt dt.toInt) ↔ kk = true) := by rw [hkk]; exact ⟨fun _ => rfl, fun _ => it_b1 hrB c_92⟩
            exact ihz (i + 1) (by omega) H locs Mr u4 d4 NE4 IT4 PO4 MA4 AB4 BE4 ls hW hS hK4 hf5 hin4 (fun i2 hi2 u hu => by rcases Nat.lt_or_ge i2 i with z9 | z9; exact hall i2 z9 u hu; rw [show i2 = i by omega] at hu; exact (hcell i u _ hu hat).trans hB0) (lv_sub hl [0, 1, 2, 3] rfl)
          · skip
            refine lv_aload_n hx hb d_Md_tries2_95 rfl (lv_at hl 2 rfl) ?_
            refine hw_get (own := "QuantifierOutModel") (v := .ref kd) hx hb hts i_Md hown hW w4_md rfl 2 (by decide) (hts _ tw_605) (fun _ h9 => h9) rfl d_Md_tries2_96 ?_
            refine lv_iload_n hx hb d_Md_tries2_99 rfl (lv_at hl 3 rfl) ?_
            refine hw_ild hx hb hW 0 t4_kd rfl s9 rfl (by omega) (by decide) d_Md_tries2_100 ?_
            rw [k0]
            refine lv_iconst (v := 4) hx hb d_Md_tries2_101 (by decide) ?_
            refine lv_icmp_ne (tgt := 109) hx hb d_Md_tries2_102 (by decide) (fun c_102 => ?_) (fun c_102 => ?_)
            · skip
              refine lv_iconst (v := 0) hx hb d_Md_tries2_109 (by decide) ?_
              rw [hQ9]
              exact hw_retz hx hb hr rfl hlocks hW hS ⟨Or.inr ⟨rfl, fun z9 => by rw [hgoal, hkk, if_pos rfl] at z9; exact it_b0 hrB c_92 (z9 _)⟩, u4, d4, NE4, IT4, PO4, MA4, AB4, BE4, ⟨fun i h1 h2 => (hin4.1 i h1 h2).trans (hneg i h2), fun i h1 => hin4.2.1 i h1, fun i h1 => hin4.2.2.1 i h1, fun i h1 => (hin4.2.2.2.1 i (by omega)).trans (pk_un (by omega)), fun i h1 => ⟨(hin4.2.2.2.2 i (by omega)).1.trans (houtg i (Or.inr (by omega))).1, (hin4.2.2.2.2 i (by omega)).2.trans (houtg i (Or.inr (by omega))).2⟩⟩, hK4, hf5⟩ d_Md_tries2_110
            · skip
              rw [hkk] at c_102; exact absurd c_102 (by decide)
        · skip
          have hkk : kk = false := by cases kk; rfl; exact absurd c_84 (by decide)
          refine lv_iconst (v := 1) hx hb d_Md_tries2_87 (by decide) ?_
          refine lv_goto (tgt := 92) hx hb d_Md_tries2_88 (by decide) ?_
          refine lv_icmp_ne (tgt := 111) hx hb d_Md_tries2_92 (by decide) (fun c_92 => ?_) (fun c_92 => ?_)
          · skip
            obtain ⟨k9, ek9⟩ : ∃ y9 : Int32, y9 = (nI i) + Int32.ofInt (1) := ⟨_, rfl⟩
            refine lv_iinc (v := k9) (lv' := [(3, .int k9), (2, .int (nI j)), (0, .ref md), (1, .int (nI s9))]) hx hb d_Md_tries2_111 hl (k := 0) rfl ek9.symm (by decide) rfl (fun ls hl => ?_)
            have ek9b : k9 = nI (i + 1) := by rw [ek9]; exact nI_add i 1
            subst ek9b
            refine lv_goto (tgt := 43) hx hb d_Md_tries2_114 (by decide) ?_
            have hB0 : (Bq (qm_fr ut.toInt dt.toInt) ↔ kk = true) := by rw [hkk]; exact ⟨fun z9 => absurd (hrB.elim (fun z8 => z8.1) (fun z8 => absurd z9 z8.2)) c_92, fun z9 => by cases z9⟩
            exact ihz (i + 1) (by omega) H locs Mr u4 d4 NE4 IT4 PO4 MA4 AB4 BE4 ls hW hS hK4 hf5 hin4 (fun i2 hi2 u hu => by rcases Nat.lt_or_ge i2 i with z9 | z9; exact hall i2 z9 u hu; rw [show i2 = i by omega] at hu; exact (hcell i u _ hu hat).trans hB0) (lv_sub hl [0, 1, 2, 3] rfl)
          · skip
            refine lv_aload_n hx hb d_Md_tries2_95 rfl (lv_at hl 2 rfl) ?_
            refine hw_get (own := "QuantifierOutModel") (v := .ref kd) hx hb hts i_Md hown hW w4_md rfl 2 (by decide) (hts _ tw_605) (fun _ h9 => h9) rfl d_Md_tries2_96 ?_
            refine lv_iload_n hx hb d_Md_tries2_99 rfl (lv_at hl 3 rfl) ?_
            refine hw_ild hx hb hW 0 t4_kd rfl s9 rfl (by omega) (by decide) d_Md_tries2_100 ?_
            rw [k0]
            refine lv_iconst (v := 4) hx hb d_Md_tries2_101 (by decide) ?_
            refine lv_icmp_ne (tgt := 109) hx hb d_Md_tries2_102 (by decide) (fun c_102 => ?_) (fun c_102 => ?_)
            · skip
              exact absurd (by rw [hkk]; rfl) c_102
            · skip
              refine lv_iconst (v := 1) hx hb d_Md_tries2_105 (by decide) ?_
              refine lv_goto (tgt := 110) hx hb d_Md_tries2_106 (by decide) ?_
              rw [hQ9]
              exact hw_retz hx hb hr rfl hlocks hW hS ⟨Or.inl ⟨rfl, by rw [hgoal, hkk, if_neg (by decide)]; exact ⟨_, it_b1 hrB (by rw [c_92]; decide)⟩⟩, u4, d4, NE4, IT4, PO4, MA4, AB4, BE4, ⟨fun i h1 h2 => (hin4.1 i h1 h2).trans (hneg i h2), fun i h1 => hin4.2.1 i h1, fun i h1 => hin4.2.2.1 i h1, fun i h1 => (hin4.2.2.2.1 i (by omega)).trans (pk_un (by omega)), fun i h1 => ⟨(hin4.2.2.2.2 i (by omega)).1.trans (houtg i (Or.inr (by omega))).1, (hin4.2.2.2.2 i (by omega)).2.trans (houtg i (Or.inr (by omega))).2⟩⟩, hK4, hf5⟩ d_Md_tries2_110
  refine lv_iconst (v := 0) hx hb d_Md_tries2_41 (by decide) ?_
  refine lv_istore_n (lv' := [(3, .int 0), (2, .int (nI j)), (0, .ref md), (1, .int (nI s9))]) hx hb d_Md_tries2_42 rfl hl (by decide) rfl (fun ls hl => ?_)
  exact loop (2 * n1 + 1) 0 (by omega) _ _ Mg ug dg NEg IT PO (upd MA 2 (nI n1)) ABg BEg ls hW hS hKg hfg ⟨fun _ _ _ => rfl, fun _ _ => rfl, fun _ _ => rfl, fun _ _ => rfl, fun _ _ => ⟨rfl, rfl⟩⟩ (fun i2 hi2 => absurd hi2 (Nat.not_lt_zero i2)) (lv_sub hl [0, 1, 2, 3] rfl)
end G47

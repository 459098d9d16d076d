section G48
variable (l : Launch) (D : va_G) (cI cJ cZ cN : ClassId) (md kd on tw nu le fx fy si de ne it po ma ab be li fr to : Nat)
set_option maxHeartbeats 4000000 in
set_option maxRecDepth 100000 in
theorem c_Md_truth2 (cd : Int32) (n : Nat) (up dn : Int64) (pz : Int32) (NE IT : Nat → Int32) (PO : Nat → Int64) (MA : Nat → Int32) (AB BE : Nat → Int64) (p0 sz : Nat)  (q : nq) (mt : Nat → Option nq) (st : Nat → Nat → Int32) (M : Nat → Option va_E) (hD : md_D md kd on tw nu le fx fy si de ne it po ma ab be li fr to) (hK : md_W cI cJ cZ md kd on tw nu le fx fy si de ne it po ma ab be li fr to M cd n up dn pz NE IT PO MA AB BE) (hT : md_T cI cZ kd on tw nu le fx fy si de M st) (hM : mt_ok n mt st) (hq : mt p0 = some q) (hd : nd q ≤ 2) (hpt : pt_b PO 2 2 2) : Met l y_Md_truth2 (.code y_Md_truth2 b_Md_truth2 3 (some .boolean) :: ww) ({ frames := 7, cells := 0, slots := 0, locals := 230 }) (hw_Pc D qcl (qty cI cJ cZ cN) [.ref md, .int (nI p0)] M sz) (va_Qi (fun r M1 => it_b r (nP q (pX PO 2) (pY PO 2)) ∧ ∃ (u2 d2 : Int64) (NE2 IT2 : Nat → Int32) (PO2 : Nat → Int64) (MA2 : Nat → Int32) (AB2 BE2 : Nat → Int64), tk 180 2 NE IT PO MA AB BE NE2 IT2 PO2 MA2 AB2 BE2 ∧ md_W cI cJ cZ md kd on tw nu le fx fy si de ne it po ma ab be li fr to M1 cd n u2 d2 pz NE2 IT2 PO2 MA2 AB2 BE2 ∧ ∀ x9, x9 ≠ md → x9 ≠ ne → x9 ≠ it → x9 ≠ po → x9 ≠ ma → x9 ≠ ab → x9 ≠ be → M1 x9 = M x9) (hw_B D qcl (qty cI cJ cZ cN) M sz) (hw_A M sz)) 0 0 (hw_A M sz) := by
  have hn := hM.1
  have hp := mt_lt hM hq
  refine hw_met (by decide) (Nat.le_of_ble_eq_true rfl) ?_
  intro p e s m below meth c hx hb hr hml hown hlocks hnm hts hsz hX hW ls hl
  subst hsz
  have hA : ∀ q, s.heap.size ≤ q → hw_A M s.heap.size q := fun q h => Or.inr h
  have hS : va_S (hw_A M s.heap.size) s.heap s.heap [] := va_S.rf
  have hl : lv_has ls 3 [(0, .ref md), (1, .int (nI p0))] := hl
  have hown : s.vm.findClass "QuantifierOutModel" = some m.cls := hown
  obtain ⟨Q9, hQ9⟩ : ∃ X : State → Prop, X = MQ below (va_Qi (fun r M1 => it_b r (nP q (pX PO 2) (pY PO 2)) ∧ ∃ (u2 d2 : Int64) (NE2 IT2 : Nat → Int32) (PO2 : Nat → Int64) (MA2 : Nat → Int32) (AB2 BE2 : Nat → Int64), tk 180 2 NE IT PO MA AB BE NE2 IT2 PO2 MA2 AB2 BE2 ∧ md_W cI cJ cZ md kd on tw nu le fx fy si de ne it po ma ab be li fr to M1 cd n u2 d2 pz NE2 IT2 PO2 MA2 AB2 BE2 ∧ ∀ x9, x9 ≠ md → x9 ≠ ne → x9 ≠ it → x9 ≠ po → x9 ≠ ma → x9 ≠ ab → x9 ≠ be → M1 x9 = M x9) (hw_B D qcl (qty cI cJ cZ cN) M s.heap.size) (hw_A M s.heap.size)) [.ref md, .int (nI p0)].toArray s 0 0 (hw_A M s.heap.size) := ⟨_, rfl⟩
  rw [← hQ9]
  refine lv_aload_n hx hb d_Md_truth2_0 rfl (lv_at hl 0 rfl) ?_
  refine lv_iload_n hx hb d_Md_truth2_1 rfl (lv_at hl 1 rfl) ?_
  refine lv_bipush (v := 120) hx hb d_Md_truth2_2 (by decide) ?_
  refine hw_callv (hw_runV (n := 2) (own := "QuantifierOutModel") (As := [.int (nI p0), .int 120]) (rest := []) hx hb hml hown hts hX hW hl.1 (c_Md_mark l D cI cJ cZ cN md kd on tw nu le fx fy si de ne it po ma ab be li fr to cd n up dn pz NE IT PO MA AB BE p0 120 _ mt st M hD hK hT hM hp (by omega)) hK.1 rfl tw_747 tw_749 ts_17 tw_5 tw_750 (by decide +kernel) rfl rfl ⟨by decide, by decide⟩ rfl rfl (Nat.le_of_ble_eq_true rfl) d_Md_truth2_4 ⟨by decide, by decide⟩) hW hS hA (fun Mm H locs hpm hz hW hS => ?_)
  obtain ⟨NEm, hnem, hw, hKm, hfm⟩ := hpm
  have hTm := md_T.kept hD hT hfm
  have hdn : ∀ t qt, t < 60 → NEm (120 + t) = 1 → mt t = some qt → nd qt ≤ 2 := fun t qt ht h1 h2 => Nat.le_trans (hw.2.2.2.2.2 t qt q ht h1 h2 hq) hd
  have loop : ∀ (z s9 : Nat), s9 + z = p0 + 1 → ∀ (H : Heap) (locs : List Loc) (M2 : Nat → Option va_E) (u2 d2 : Int64) (NE2 IT2 : Nat → Int32) (PO2 : Nat → Int64) (MA2 : Nat → Int32) (AB2 BE2 : Nat → Int64) (ls : Array Slot), hw_W D qcl (qty cI cJ cZ cN) (hw_A M s.heap.size) M2 s H → va_S (hw_A M s.heap.size) s.heap H locs → md_W cI cJ cZ md kd on tw nu le fx fy si de ne it po ma ab be li fr to M2 cd n u2 d2 pz NE2 IT2 PO2 MA2 AB2 BE2 → (∀ x9, x9 ≠ md → x9 ≠ ne → x9 ≠ it → x9 ≠ po → x9 ≠ ma → x9 ≠ ab → x9 ≠ be → M2 x9 = M x9) → ((∀ i, 120 ≤ i → i < 180 → NE2 i = NEm i) ∧ (∀ i, 180 ≤ i → IT2 i = IT i) ∧ (∀ i, 8 ≤ i → PO2 i = PO i) ∧ (∀ i, 2 < i → MA2 i = MA i) ∧ (∀ i, 192 ≤ i → AB2 i = AB i ∧ BE2 i = BE i)) → (∀ t, t < s9 → NEm (120 + t) = 1 → tv mt IT2 PO 2 t) → lv_has ls 3 [(2, .int (nI s9)), (0, .ref md), (1, .int (nI p0))] → W p l e ({ frames := 7, cells := 0, slots := 0, locals := 230 }) s m [.ref md, .int (nI p0)].toArray below meth c H locs 0 0 Q9 (F0 m 9 ls []) := by
    intro z
    induction z with
    | zero =>
      intro s9 hz9 H locs M2 u2 d2 NE2 IT2 PO2 MA2 AB2 BE2 ls hW hS hK2 hf2 hin2 hdone hl
      have hs9 : s9 = p0 + 1 := by omega
      subst hs9
      refine lv_iload_n hx hb d_Md_truth2_9 rfl (lv_at hl 0 rfl) ?_
      refine lv_iload_n hx hb d_Md_truth2_10 rfl (lv_at hl 2 rfl) ?_
      refine lv_icmp_gt (tgt := 65) hx hb d_Md_truth2_11 (by decide) (fun c_11 => ?_) (fun c_11 => ?_)
      · skip
        have w2_md := hK2.1
        have w2_md : M2 md = some (.inr (8, [.int cd, .int (nI n), .ref kd, .ref on, .ref tw, .ref nu, .ref le, .ref fx, .ref fy, .ref si, .ref de, .ref ne, .ref it, .ref po, .ref ma, .ref ab, .ref be, .long u2, .long d2, .ref li, .int pz, .ref fr, .ref to])) := w2_md
        have w2_it := hK2.2.2.1
        have w2_it : M2 it = some (.inl (cZ, 180, .inl IT2)) := w2_it
        refine lv_aload_n hx hb d_Md_truth2_65 rfl (lv_at hl 1 rfl) ?_
        refine hw_get (own := "QuantifierOutModel") (v := .ref it) hx hb hts i_Md hown hW w2_md rfl 12 (by decide) (hts _ tw_615) (fun _ h9 => h9) rfl d_Md_truth2_66 ?_
        refine lv_bipush (v := 120) hx hb d_Md_truth2_69 (by decide) ?_
        refine lv_iload_n hx hb d_Md_truth2_71 rfl (lv_at hl 2 rfl) ?_
        refine lv_iadd hx hb d_Md_truth2_72 ?_
        refine lv_topi (fun x1 ex1 => ?_)
        have eix1 : x1 = nI (120 + p0) := by rw [ex1]; exact nI_add 120 p0
        refine hw_zld hx hb hW 2 w2_it rfl (120 + p0) eix1 (by omega) (by decide) d_Md_truth2_73 ?_
        have htv : it_b (IT2 (120 + p0)) (nP q (pX PO 2) (pY PO 2)) := by
          have h9 := hdone p0 (Nat.lt_succ_self p0) hw.2.1 q hq
          rw [show 60 * 2 + p0 = 120 + p0 by omega] at h9; exact h9
        have hr01 : IT2 (120 + p0) = 0 ∨ IT2 (120 + p0) = 1 := by rcases htv with ⟨z, _⟩ | ⟨z, _⟩; exact Or.inr z; exact Or.inl z
        rw [hQ9]
        obtain ⟨i1, i2, i3, i4, i5⟩ := hin2
        exact hw_retz hx hb hr (nar01 hr01) hlocks hW hS ⟨htv, u2, d2, NE2, IT2, PO2, MA2, AB2, BE2, ⟨fun i h1 h2 => (i1 i (by omega) h2).trans (hnem i (Or.inr (by omega))), i2, i3, i4, i5⟩, hK2, hf2⟩ d_Md_truth2_74
      · skip
        exact absurd (nI_lt (Nat.lt_succ_self p0) (by omega)) c_11
    | succ z ihz =>
      intro s9 hz9 H locs M2 u2 d2 NE2 IT2 PO2 MA2 AB2 BE2 ls hW hS hK2 hf2 hin2 hdone hl
      refine lv_iload_n hx hb d_Md_truth2_9 rfl (lv_at hl 0 rfl) ?_
      refine lv_iload_n hx hb d_Md_truth2_10 rfl (lv_at hl 2 rfl) ?_
      refine lv_icmp_gt (tgt := 65) hx hb d_Md_truth2_11 (by decide) (fun c_11 => ?_) (fun c_11 => ?_)
      · skip
        exact absurd c_11 (nI_nlt (by omega) (by omega))
      · skip
        have hT2 := md_T.kept hD hT hf2
        obtain ⟨qs, hqs⟩ := hM.2.1 s9 (by omega)
        have next : ∀ (H : Heap) (locs : List Loc) (M2 : Nat → Option va_E) (u2 d2 : Int64) (NE2 IT2 : Nat → Int32) (PO2 : Nat → Int64) (MA2 : Nat → Int32) (AB2 BE2 : Nat → Int64) (ls : Array Slot), hw_W D qcl (qty cI cJ cZ cN) (hw_A M s.heap.size) M2 s H → va_S (hw_A M s.heap.size) s.heap H locs → md_W cI cJ cZ md kd on tw nu le fx fy si de ne it po ma ab be li fr to M2 cd n u2 d2 pz NE2 IT2 PO2 MA2 AB2 BE2 → (∀ x9, x9 ≠ md → x9 ≠ ne → x9 ≠ it → x9 ≠ po → x9 ≠ ma → x9 ≠ ab → x9 ≠ be → M2 x9 = M x9) → ((∀ i, 120 ≤ i → i < 180 → NE2 i = NEm i) ∧ (∀ i, 180 ≤ i → IT2 i = IT i) ∧ (∀ i, 8 ≤ i → PO2 i = PO i) ∧ (∀ i, 2 < i → MA2 i = MA i) ∧ (∀ i, 192 ≤ i → AB2 i = AB i ∧ BE2 i = BE i)) → (∀ t, t < s9 + 1 → NEm (120 + t) = 1 → tv mt IT2 PO 2 t) → lv_has ls 3 [(2, .int (nI s9)), (0, .ref md), (1, .int (nI p0))] → W p l e ({ frames := 7, cells := 0, slots := 0, locals := 230 }) s m [.ref md, .int (nI p0)].toArray below meth c H locs 0 0 Q9 (F0 m 59 ls []) := by
          intro H locs M2 u2 d2 NE2 IT2 PO2 MA2 AB2 BE2 ls hW hS hK2 hf2 hin2 hdone hl
          obtain ⟨k9, ek9⟩ : ∃ y9 : Int32, y9 = (nI s9) + Int32.ofInt (1) := ⟨_, rfl⟩
          refine lv_iinc (v := k9) (lv' := [(2, .int k9), (0, .ref md), (1, .int (nI p0))]) hx hb d_Md_truth2_59 hl (k := 0) rfl ek9.symm (by decide) rfl (fun ls hl => ?_)
          have ek9b : k9 = nI (s9 + 1) := by rw [ek9]; exact nI_add s9 1
          subst ek9b
          refine lv_goto (tgt := 9) hx hb d_Md_truth2_62 (by decide) ?_
          exact ihz (s9 + 1) (by omega) H locs M2 u2 d2 NE2 IT2 PO2 MA2 AB2 BE2 ls hW hS hK2 hf2 hin2 hdone (lv_sub hl [0, 1, 2] rfl)
        have w2_md := hK2.1
        have w2_md : M2 md = some (.inr (8, [.int cd, .int (nI n), .ref kd, .ref on, .ref tw, .ref nu, .ref le, .ref fx, .ref fy, .ref si, .ref de, .ref ne, .ref it, .ref po, .ref ma, .ref ab, .ref be, .long u2, .long d2, .ref li, .int pz, .ref fr, .ref to])) := w2_md
        have w2_ne := hK2.2.1
        have w2_ne : M2 ne = some (.inl (cZ, 240, .inl NE2)) := w2_ne
        have w2_it := hK2.2.2.1
        have w2_it : M2 it = some (.inl (cZ, 180, .inl IT2)) := w2_it
        have t2_kd : M2 kd = some (.inl (cI, 60, .inl (st 0))) := hT2.1
        refine lv_aload_n hx hb d_Md_truth2_14 rfl (lv_at hl 1 rfl) ?_
        refine hw_get (own := "QuantifierOutModel") (v := .ref ne) hx hb hts i_Md hown hW w2_md rfl 11 (by decide) (hts _ tw_614) (fun _ h9 => h9) rfl d_Md_truth2_15 ?_
        refine lv_bipush (v := 120) hx hb d_Md_truth2_18 (by decide) ?_
        refine lv_iload_n hx hb d_Md_truth2_20 rfl (lv_at hl 0 rfl) ?_
        refine lv_iadd hx hb d_Md_truth2_21 ?_
        refine lv_topi (fun x2 ex2 => ?_)
        have eix2 : x2 = nI (120 + s9) := by rw [ex2]; exact nI_add 120 s9
        refine hw_zld hx hb hW 2 w2_ne rfl (120 + s9) eix2 (by omega) (by decide) d_Md_truth2_22 ?_
        have hw9 : NE2 (120 + s9) = NEm (120 + s9) := by rw [hin2.1 _ (by omega) (by omega)]
        refine lv_if_eq (tgt := 59) hx hb d_Md_truth2_23 (by decide) (fun c_23 => ?_) (fun c_23 => ?_)
        · skip
          exact next H locs M2 u2 d2 NE2 IT2 PO2 MA2 AB2 BE2 ls hW hS hK2 hf2 hin2 (fun t ht h9 => by rcases Nat.lt_or_ge t s9 with z9 | z9; exact hdone t z9 h9; rw [show t = s9 by omega, ← hw9, c_23] at h9; exact absurd h9 (by decide)) hl
        · skip
          have hwm : NEm (120 + s9) = 1 := by rw [← hw9]; exact (show NE2 (120 + s9) = 0 ∨ NE2 (120 + s9) = 1 by rw [hw9]; exact hw.1 s9 (by omega)).resolve_left c_23
          have hds := hdn s9 qs (by omega) hwm hqs
          have hcl := hw.2.2.2.1 s9 qs (by omega) hwm hqs
          have hrs := (hM.2.2 s9 qs hqs).2.1
          have hch : ∀ a, nc_in qs a → tv mt IT2 PO 2 a := by
            intro a ha
            have hnk := (hM.2.2 s9 qs hqs).2.2.1.1
            unfold nk_ok at hnk; unfold nc_in at ha; unfold nc_ok at hcl
            rcases hKK : nK qs with op | ⟨x, y, kk⟩ | x | ⟨j, x, kk⟩
            · rw [hKK] at ha; exact ha.elim
            · rw [hKK] at ha hnk hcl; obtain ⟨q1, q2, u1, u2, u3, u4, _⟩ := hnk
              have r1 := (hM.2.2 x q1 u1).2.1; have r2 := (hM.2.2 y q2 u2).2.1
              rcases ha with rfl | rfl
              · exact hdone _ (by omega) hcl.1
              · exact hdone _ (by omega) hcl.2
            · rw [hKK] at ha hnk hcl; obtain ⟨q1, u1, u3, _⟩ := hnk
              have r1 := (hM.2.2 x q1 u1).2.1
              have ha : a = x := ha; subst ha; exact hdone _ (by omega) hcl
            · rw [hKK] at ha hnk hcl; obtain ⟨q1, u0, u1, u3, _⟩ := hnk
              have r1 := (hM.2.2 x q1 u1).2.1
              have ha : a = x := ha; subst ha; exact hdone _ (by omega) hcl
          have hpo : ∀ i, 8 ≤ i → PO2 i = PO i := hin2.2.2.1
          have hpX : pX PO2 2 = pX PO 2 ∧ pY PO2 2 = pY PO 2 := by unfold pX pY; rw [hpo _ (by omega), hpo _ (by omega), hpo _ (by omega), hpo _ (by omega)]; exact ⟨rfl, rfl⟩
          have hpt2 : pt_b PO2 2 2 2 := by unfold pt_b; rw [hpo _ (by omega), hpo _ (by omega), hpo _ (by omega), hpo _ (by omega)]; exact hpt
          have hch2 : ∀ a, nc_in qs a → tv mt IT2 PO2 2 a := fun a ha q9 hq9 => by rw [hpX.1, hpX.2]; exact hch a ha q9 hq9
          refine lv_aload_n hx hb d_Md_truth2_26 rfl (lv_at hl 1 rfl) ?_
          refine hw_get (own := "QuantifierOutModel") (v := .ref it) hx hb hts i_Md hown hW w2_md rfl 12 (by decide) (hts _ tw_615) (fun _ h9 => h9) rfl d_Md_truth2_27 ?_
          refine lv_bipush (v := 120) hx hb d_Md_truth2_30 (by decide) ?_
          refine lv_iload_n hx hb d_Md_truth2_32 rfl (lv_at hl 0 rfl) ?_
          refine lv_iadd hx hb d_Md_truth2_33 ?_
          refine lv_topi (fun x3 ex3 => ?_)
          refine lv_aload_n hx hb d_Md_truth2_34 rfl (lv_at hl 1 rfl) ?_
          refine hw_get (own := "QuantifierOutModel") (v := .ref kd) hx hb hts i_Md hown hW w2_md rfl 2 (by decide) (hts _ tw_605) (fun _ h9 => h9) rfl d_Md_truth2_35 ?_
          refine lv_iload_n hx hb d_Md_truth2_38 rfl (lv_at hl 0 rfl) ?_
          refine hw_ild hx hb hW 0 t2_kd rfl s9 rfl (by omega) (by decide) d_Md_truth2_39 ?_
          refine lv_iconst (v := 4) hx hb d_Md_truth2_40 (by decide) ?_
          have hck := (hM.2.2 s9 qs hqs).2.2.2.2.2.2.2
          refine lv_icmp_ge (tgt := 53) hx hb d_Md_truth2_41 (by decide) (fun c_41 => ?_) (fun c_41 => ?_)
          · skip
            obtain ⟨j, a, kk, hKK⟩ : ∃ j a kk, nK qs = .inr (.inr (.inr (j, a, kk))) := by
              unfold mt_k at hck
              rcases hKK : nK qs with z | ⟨x, y, kk⟩ | z | ⟨j, a, kk⟩
              · rw [hKK] at hck; exact absurd (show st 0 s9 < 4 by rw [hck.1]; decide) (by rw [nm_ilt]; rw [nm_ile] at c_41; omega)
              · rw [hKK] at hck; exact absurd (show st 0 s9 < 4 by rw [hck.1]; cases kk <;> decide) (by rw [nm_ilt]; rw [nm_ile] at c_41; omega)
              · rw [hKK] at hck; exact absurd (show st 0 s9 < 4 by rw [hck.1]; decide) (by rw [nm_ilt]; rw [nm_ile] at c_41; omega)
              · exact ⟨j, a, kk, rfl⟩
            refine lv_aload_n hx hb d_Md_truth2_53 rfl (lv_at hl 1 rfl) ?_
            refine lv_iload_n hx hb d_Md_truth2_54 rfl (lv_at hl 0 rfl) ?_
            refine hw_calli (hw_runV (n := 1) (own := "QuantifierOutModel") (As := [.int (nI s9)]) (rest := [.int x3, .ref it]) hx hb hml hown hts hX hW hl.1 (c_Md_tries2 l D cI cJ cZ cN md kd on tw nu le fx fy si de ne it po ma ab be li fr to cd n u2 d2 pz NE2 IT2 PO2 MA2 AB2 BE2 s9 _ qs mt st M2 hD hK2 hT2 hM hqs j a kk hKK hds hpt2) hK2.1 rfl tw_763 tw_765 ts_21 tw_5 tw_766 (by decide +kernel) rfl rfl ⟨by decide, by decide⟩ rfl rfl (Nat.le_of_ble_eq_true rfl) d_Md_truth2_55 ⟨by decide, by decide⟩) hW hS hA (fun rp Mp H locs hpl hz hW hS => ?_)
            obtain ⟨hrp, u3, d3, NE3, IT3, PO3, MA3, AB3, BE3, htk, hK3, hf3⟩ := hpl
            rw [hpX.1, hpX.2] at hrp
            obtain ⟨v1, v2, v3, v4, v5⟩ := htk
            have hf4 : ∀ x9, x9 ≠ md → x9 ≠ ne → x9 ≠ it → x9 ≠ po → x9 ≠ ma → x9 ≠ ab → x9 ≠ be → Mp x9 = M x9 := fun x9 z0 z1 z2 z3 z4 z5 z6 => (hf3 x9 z0 z1 z2 z3 z4 z5 z6).trans (hf2 x9 z0 z1 z2 z3 z4 z5 z6)
            have hin3 : (∀ i, 120 ≤ i → i < 180 → NE3 i = NEm i) ∧ (∀ i, 180 ≤ i → IT3 i = IT i) ∧ (∀ i, 8 ≤ i → PO3 i = PO i) ∧ (∀ i, 2 < i → MA3 i = MA i) ∧ (∀ i, 192 ≤ i → AB3 i = AB i ∧ BE3 i = BE i) := ⟨fun i h1 h2 => (v1 i h1 h2).trans (hin2.1 i h1 h2), fun i h1 => (v2 i (by omega)).trans (hin2.2.1 i h1), fun i h1 => (v3 i h1).trans (hin2.2.2.1 i h1), fun i h1 => (v4 i h1).trans (hin2.2.2.2.1 i h1), fun i h1 => ⟨(v5 i h1).1.trans (hin2.2.2.2.2 i h1).1, (v5 i h1).2.trans (hin2.2.2.2.2 i h1).2⟩⟩
            have w3_md := hK3.1
            have w3_md : Mp md = some (.inr (8, [.int cd, .int (nI n), .ref kd, .ref on, .ref tw, .ref nu, .ref le, .ref fx, .ref fy, .ref si, .ref de, .ref ne, .ref it, .ref po, .ref ma, .ref ab, .ref be, .long u3, .long d3, .ref li, .int pz, .ref fr, .ref to])) := w3_md
            have w3_it := hK3.2.2.1
            have w3_it : Mp it = some (.inl (cZ, 180, .inl IT3)) := w3_it
            have hr01 : rp = 0 ∨ rp = 1 := by rcases hrp with ⟨z, _⟩ | ⟨z, _⟩; exact Or.inr z; exact Or.inl z
            have esx3 : x3 = nI (120 + s9) := by rw [ex3]; exact nI_add 120 s9
            refine hw_zst hx hb hW hS 2 w3_it rfl (120 + s9) esx3 (by omega) (by decide) (by rcases hr01 with z9 | z9 <;> rw [z9] <;> rfl) d_Md_truth2_58 (fun H locs hW hS => ?_)
            have hW : hw_W D qcl (qty cI cJ cZ cN) _ (va_up Mp it (some (.inl (cZ, 180, .inl (upd IT3 (120 + s9) rp))))) s H := hW
            generalize hMw4 : va_up Mp it (some (.inl (cZ, 180, .inl (upd IT3 (120 + s9) rp)))) = Mw4 at hW
            have w3_md : Mw4 md = some (.inr (8, [.int cd, .int (nI n), .ref kd, .ref on, .ref tw, .ref nu, .ref le, .ref fx, .ref fy, .ref si, .ref de, .ref ne, .ref it, .ref po, .ref ma, .ref ab, .ref be, .long u3, .long d3, .ref li, .int pz, .ref fr, .ref to])) := by rw [← hMw4, va_up_ne _ _ (show md ≠ it from hD 0 11 (by decide) (by decide))]; exact w3_md
            have w3_it : Mw4 it = some (.inl (cZ, 180, .inl (upd IT3 (120 + s9) rp))) := by rw [← hMw4]; exact va_up_self _ _ _
            have hfr_Mw4 : ∀ x9, x9 ≠ it → Mw4 x9 = Mp x9 := fun x9 z9 => by rw [← hMw4, va_up_ne _ _ z9]
            refine next H locs Mw4 _ _ _ _ _ _ _ _ ls hW hS ⟨w3_md, ((hfr_Mw4 ne (show ne ≠ it from hD 10 11 (by decide) (by decide)))).trans hK3.2.1, w3_it, ((hfr_Mw4 po (Ne.symm (show it ≠ po from hD 11 12 (by decide) (by decide))))).trans hK3.2.2.2.1, ((hfr_Mw4 ma (Ne.symm (show it ≠ ma from hD 11 13 (by decide) (by decide))))).trans hK3.2.2.2.2.1, ((hfr_Mw4 ab (Ne.symm (show it ≠ ab from hD 11 14 (by decide) (by decide))))).trans hK3.2.2.2.2.2.1, ((hfr_Mw4 be (Ne.symm (show it ≠ be from hD 11 15 (by decide) (by decide))))).trans hK3.2.2.2.2.2.2⟩ (fun x9 z0 z1 z2 z3 z4 z5 z6 => ((hfr_Mw4 x9 z2)).trans (hf4 x9 z0 z1 z2 z3 z4 z5 z6)) ⟨hin3.1, (fun i hi => by rw [pk_un (by omega)]; exact hin3.2.1 i hi), hin3.2.2⟩ (fun t ht h9 => ?_) hl
            intro q9 hq9
            by_cases z9 : t = s9
            · subst z9; have : q9 = qs := Option.some.inj (hq9.symm.trans hqs)
              subst this; rw [show 60 * 2 + t = 120 + t by omega, pk_us]; exact hrp
            · rw [pk_un (by omega), v2 _ (by omega)]; exact hdone t (by omega) h9 q9 hq9
          · skip
            have hnq : ¬ nk_q (nK qs) := by
              unfold nk_q; unfold mt_k at hck
              rcases hKK : nK qs with z | z | z | ⟨j, a, kk⟩
              · exact id
              · exact id
              · exact id
              · intro _; rw [hKK] at hck; rw [hck.1] at c_41; exact c_41 (by cases kk <;> decide)
            refine lv_aload_n hx hb d_Md_truth2_44 rfl (lv_at hl 1 rfl) ?_
            refine lv_iconst (v := 2) hx hb d_Md_truth2_45 (by decide) ?_
            refine lv_iload_n hx hb d_Md_truth2_46 rfl (lv_at hl 0 rfl) ?_
            refine hw_calli (hw_runV (n := 2) (own := "QuantifierOutModel") (As := [.int 2, .int (nI s9)]) (rest := [.int x3, .ref it]) hx hb hml hown hts hX hW hl.1 (c_Md_plain l D cI cJ cZ cN md kd on tw nu le fx fy si de ne it po ma ab be li fr to cd n u2 d2 pz NE2 IT2 PO2 MA2 AB2 BE2 2 s9 2 2 _ qs mt st M2 hK2 hT2 hM hqs hnq (by omega) hpt2 (by omega) hch2) hK2.1 rfl tw_751 tw_753 ts_18 tw_5 tw_754 (by decide +kernel) rfl rfl ⟨by decide, by decide⟩ rfl rfl (Nat.le_of_ble_eq_true rfl) d_Md_truth2_47 ⟨by decide, by decide⟩) hW hS hA (fun rp Mp H locs hpl hz hW hS => ?_)
            obtain ⟨hrp, eMp⟩ := hpl
            rw [eMp] at hW
            rw [hpX.1, hpX.2] at hrp
            refine lv_goto (tgt := 58) hx hb d_Md_truth2_50 (by decide) ?_
            have hr01 : rp = 0 ∨ rp = 1 := by rcases hrp with ⟨z, _⟩ | ⟨z, _⟩; exact Or.inr z; exact Or.inl z
            have esx3 : x3 = nI (120 + s9) := by rw [ex3]; exact nI_add 120 s9
            refine hw_zst hx hb hW hS 2 w2_it rfl (120 + s9) esx3 (by omega) (by decide) (by rcases hr01 with z9 | z9 <;> rw [z9] <;> rfl) d_Md_truth2_58 (fun H locs hW hS => ?_)
            have hW : hw_W D qcl (qty cI cJ cZ cN) _ (va_up M2 it (some (.inl (cZ, 180, .inl (upd IT2 (120 + s9) rp))))) s H := hW
            generalize hMw5 : va_up M2 it (some (.inl (cZ, 180, .inl (upd IT2 (120 + s9) rp)))) = Mw5 at hW
            have w2_md : Mw5 md = some (.inr (8, [.int cd, .int (nI n), .ref kd, .ref on, .ref tw, .ref nu, .ref le, .ref fx, .ref fy, .ref si, .ref de, .ref ne, .ref it, .ref po, .ref ma, .ref ab, .ref be, .long u2, .long d2, .ref li, .int pz, .ref fr, .ref to])) := by rw [← hMw5, va_up_ne _ _ (show md ≠ it from hD 0 11 (by decide) (by decide))]; exact w2_md
            have w2_ne : Mw5 ne = some (.inl (cZ, 240, .inl NE2)) := by rw [← hMw5, va_up_ne _ _ (show ne ≠ it from hD 10 11 (by decide) (by decide))]; exact w2_ne
            have t2_kd : Mw5 kd = some (.inl (cI, 60, .inl (st 0))) := by rw [← hMw5, va_up_ne _ _ (show kd ≠ it from hD 1 11 (by decide) (by decide))]; exact t2_kd
            have w2_it : Mw5 it = some (.inl (cZ, 180, .inl (upd IT2 (120 + s9) rp))) := by rw [← hMw5]; exact va_up_self _ _ _
            have hfr_Mw5 : ∀ x9, x9 ≠ it → Mw5 x9 = M2 x9 := fun x9 z9 => by rw [← hMw5, va_up_ne _ _ z9]
            refine next H locs Mw5 _ _ _ _ _ _ _ _ ls hW hS ⟨w2_md, w2_ne, w2_it, ((hfr_Mw5 po (Ne.symm (show it ≠ po from hD 11 12 (by decide) (by decide))))).trans hK2.2.2.2.1, ((hfr_Mw5 ma (Ne.symm (show it ≠ ma from hD 11 13 (by decide) (by decide))))).trans hK2.2.2.2.2.1, ((hfr_Mw5 ab (Ne.symm (show it ≠ ab from hD 11 14 (by decide) (by decide))))).trans hK2.2.2.2.2.2.1, ((hfr_Mw5 be (Ne.symm (show it ≠ be from hD 11 15 (by decide) (by decide))))).trans hK2.2.2.2.2.2.2⟩ (fun x9 z0 z1 z2 z3 z4 z5 z6 => ((hfr_Mw5 x9 z2)).trans (hf2 x9 z0 z1 z2 z3 z4 z5 z6)) ⟨hin2.1, (fun i hi => by rw [pk_un (by omega)]; exact hin2.2.1 i hi), hin2.2.2⟩ (fun t ht h9 => ?_) hl
            intro q9 hq9
            by_cases z9 : t = s9
            · subst z9; have : q9 = qs := Option.some.inj (hq9.symm.trans hqs)
              subst this; rw [show 60 * 2 + t = 120 + t by omega, pk_us]; exact hrp
            · rw [pk_un (by omega)]; exact hdone t (by omega) h9 q9 hq9
  refine lv_iconst (v := 0) hx hb d_Md_truth2_7 (by decide) ?_
  refine lv_istore_n (lv' := [(2, .int 0), (0, .ref md), (1, .int (nI p0))]) hx hb d_Md_truth2_8 rfl hl (by decide) rfl (fun ls hl => ?_)
  exact loop (p0 + 1) 0 (by omega) _ _ Mm up dn NEm IT PO MA AB BE ls hW hS hKm hfm ⟨fun _ _ _ => rfl, fun _ _ => rfl, fun _ _ => rfl, fun _ _ => rfl, fun _ _ => ⟨rfl, rfl⟩⟩ (fun t ht => absurd ht (Nat.not_lt_zero t)) (lv_sub hl [0, 1, 2] rfl)
end G48

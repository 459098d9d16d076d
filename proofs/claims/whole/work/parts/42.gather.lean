section G42
variable (l : Launch) (D : va_G) (cI cJ cZ cN : ClassId) (md kd on tw nu le fx fy si de ne it po ma ab be li fr to : Nat)
set_option maxHeartbeats 4000000 in
set_option maxRecDepth 100000 in
theorem c_Md_gather (cd : Int32) (n : Nat) (up dn : Int64) (pz : Int32) (NE IT : Nat → Int32) (PO : Nat → Int64) (MA : Nat → Int32) (AB BE : Nat → Int64) (lv p0 j o N Dn Vn Vd sz : Nat) (q : nq) (oU oD : Int64) (mt : Nat → Option nq) (st : Nat → Nat → Int32) (M : Nat → Option va_E) (hD : md_D md kd on tw nu le fx fy si de ne it po ma ab be li fr to) (hK : md_W cI cJ cZ md kd on tw nu le fx fy si de ne it po ma ab be li fr to M cd n up dn pz NE IT PO MA AB BE) (hT : md_T cI cZ kd on tw nu le fx fy si de M st) (hM : mt_ok n mt st) (hp : p0 < n) (hq : mt p0 = some q) (hlv : lv < 3) (hjo : j + o = 1) (ho0 : 0 < oD.toInt) (ho1 : oD.toInt ≤ Vd) (ho2 : oU.toInt.natAbs ≤ Vn) (hN : 5 * Vn + 5 * Vd ≤ N) (hDn : 5 * Vd ≤ Dn) (hN50 : 50 ≤ N) (hD50 : 50 ≤ Dn) (hB : N * Dn ≤ 1000000000000000000) (hN9 : N ≤ 1000000000000) (hD9 : Dn ≤ 1000000000000) : Met l y_Md_gather (.code y_Md_gather b_Md_gather 10 none :: ww) ({ frames := 2, cells := 0, slots := 0, locals := 80 }) (hw_Pc D qcl (qty cI cJ cZ cN) [.ref md, .int (nI lv), .int (nI p0), .int (nI j), .long oU, .long oD] M sz) (va_Qv (fun M1 => ∃ (n1 : Nat) (NE2 : Nat → Int32) (u2 d2 : Int64) (AB2 BE2 : Nat → Int64), n1 ≤ 27 ∧ kr (kf (64 * lv) AB2) (kf (64 * lv) BE2) n1 N Dn ∧ qm_cov0 (nl_j j (nL q)) (qm_fr oU.toInt oD.toInt) (fun m => ∃ i, i < n1 ∧ m = mk_v (kf (64 * lv) AB2) (kf (64 * lv) BE2) i) ∧ (0 < nd q → qm_cov1 (nl_j j (nL q)) (fun m => ∃ i, i < n1 ∧ m = mk_v (kf (64 * lv) AB2) (kf (64 * lv) BE2) i)) ∧ (∀ i, (i < 64 * lv ∨ 64 * lv + 64 ≤ i) → AB2 i = AB i ∧ BE2 i = BE i) ∧ (∀ i, i < 180 → NE2 i = NE i) ∧ md_W cI cJ cZ md kd on tw nu le fx fy si de ne it po ma ab be li fr to M1 cd n u2 d2 pz NE2 IT PO (upd MA lv (nI n1)) AB2 BE2 ∧ ∀ x9, x9 ≠ md → x9 ≠ ne → x9 ≠ it → x9 ≠ po → x9 ≠ ma → x9 ≠ ab → x9 ≠ be → M1 x9 = M x9) (hw_B D qcl (qty cI cJ cZ cN) M sz) (hw_A M sz)) 0 0 (hw_A M sz) := by
  have hn := hM.1
  have hbnd : ∀ t qa op, mt t = some qa → nK qa = .inl op → ∀ i, i < 3 → (st 3 (4 * t + i)).toInt.natAbs ≤ 5 := by
    intro t qa op h1 h2 i hi
    obtain ⟨_, _, hmo, _, _, _, _, ck⟩ := hM.2.2 t qa h1
    have hnk := hmo.1
    unfold nk_ok at hnk; unfold mt_k at ck
    rw [h2] at hnk ck
    obtain ⟨l9, e9, _⟩ := hnk
    obtain ⟨z1, z2, z3⟩ := ck.2.1 l9 e9
    have z4 := hmo.2.2.2.2.1 l9 (by rw [e9]; exact List.mem_singleton.mpr rfl)
    rcases (show i = 0 ∨ i = 1 ∨ i = 2 by omega) with rfl | rfl | rfl
    · rw [Nat.add_zero, z1]; exact z4.1
    · rw [z2]; exact z4.2.1
    · rw [z3]; exact z4.2.2
  have hbat : ∀ t, t < n → st 0 t = 0 → ∀ i, i < 3 → (st 3 (4 * t + i)).toInt.natAbs ≤ 5 := by
    intro t ht h0
    obtain ⟨qa, hqa⟩ := hM.2.1 t ht
    obtain ⟨_, _, _, _, _, _, _, ck⟩ := hM.2.2 t qa hqa
    unfold mt_k at ck
    rcases hKK : nK qa with op | ⟨a, b, kk⟩ | a | ⟨j, a, kk⟩
    · exact hbnd t qa op hqa hKK
    · rw [hKK] at ck; rw [h0] at ck; exact absurd ck.1 (by cases kk <;> decide)
    · rw [hKK] at ck; rw [h0] at ck; exact absurd ck.1 (by decide)
    · rw [hKK] at ck; rw [h0] at ck; exact absurd ck.1 (by cases kk <;> decide)
  obtain ⟨_, _, _, _, _, _, c8, _⟩ := hM.2.2 p0 q hq
  have hdp2 := (hM.2.2 p0 q hq).2.2.1.2.2.2.1
  refine hw_met (by decide) (Nat.le_of_ble_eq_true rfl) ?_
  intro p e s m below meth c hx hb hr hml hown hlocks hnm hts hsz hX hW ls hl
  subst hsz
  have hA : ∀ q, s.heap.size ≤ q → hw_A M s.heap.size q := fun q h => Or.inr h
  have hS : va_S (hw_A M s.heap.size) s.heap s.heap [] := va_S.rf
  have hl : lv_has ls 10 [(0, .ref md), (1, .int (nI lv)), (2, .int (nI p0)), (3, .int (nI j)), (4, .long oU), (6, .long oD)] := hl
  have hown : s.vm.findClass "QuantifierOutModel" = some m.cls := hown
  obtain ⟨Q9, hQ9⟩ : ∃ X : State → Prop, X = MQ below (va_Qv (fun M1 => ∃ (n1 : Nat) (NE2 : Nat → Int32) (u2 d2 : Int64) (AB2 BE2 : Nat → Int64), n1 ≤ 27 ∧ kr (kf (64 * lv) AB2) (kf (64 * lv) BE2) n1 N Dn ∧ qm_cov0 (nl_j j (nL q)) (qm_fr oU.toInt oD.toInt) (fun m => ∃ i, i < n1 ∧ m = mk_v (kf (64 * lv) AB2) (kf (64 * lv) BE2) i) ∧ (0 < nd q → qm_cov1 (nl_j j (nL q)) (fun m => ∃ i, i < n1 ∧ m = mk_v (kf (64 * lv) AB2) (kf (64 * lv) BE2) i)) ∧ (∀ i, (i < 64 * lv ∨ 64 * lv + 64 ≤ i) → AB2 i = AB i ∧ BE2 i = BE i) ∧ (∀ i, i < 180 → NE2 i = NE i) ∧ md_W cI cJ cZ md kd on tw nu le fx fy si de ne it po ma ab be li fr to M1 cd n u2 d2 pz NE2 IT PO (upd MA lv (nI n1)) AB2 BE2 ∧ ∀ x9, x9 ≠ md → x9 ≠ ne → x9 ≠ it → x9 ≠ po → x9 ≠ ma → x9 ≠ ab → x9 ≠ be → M1 x9 = M x9) (hw_B D qcl (qty cI cJ cZ cN) M s.heap.size) (hw_A M s.heap.size)) [.ref md, .int (nI lv), .int (nI p0), .int (nI j), .long oU, .long oD].toArray s 0 0 (hw_A M s.heap.size) := ⟨_, rfl⟩
  rw [← hQ9]
  have w_md := hK.1
  have w_md : M md = some (.inr (8, [.int cd, .int (nI n), .ref kd, .ref on, .ref tw, .ref nu, .ref le, .ref fx, .ref fy, .ref si, .ref de, .ref ne, .ref it, .ref po, .ref ma, .ref ab, .ref be, .long up, .long dn, .ref li, .int pz, .ref fr, .ref to])) := w_md
  have w_ma := hK.2.2.2.2.1
  have w_ma : M ma = some (.inl (cI, 3, .inl MA)) := w_ma
  refine lv_aload_n hx hb d_Md_gather_0 rfl (lv_at hl 0 rfl) ?_
  refine hw_get (own := "QuantifierOutModel") (v := .ref ma) hx hb hts i_Md hown hW w_md rfl 14 (by decide) (hts _ tw_617) (fun _ h9 => h9) rfl d_Md_gather_1 ?_
  refine lv_iload_n hx hb d_Md_gather_4 rfl (lv_at hl 1 rfl) ?_
  refine lv_iconst (v := 0) hx hb d_Md_gather_5 (by decide) ?_
  refine hw_ist hx hb hW hS 0 w_ma rfl lv rfl (by omega) (by decide) d_Md_gather_6 (fun H locs hW hS => ?_)
  have hW : hw_W D qcl (qty cI cJ cZ cN) _ (va_up M ma (some (.inl (cI, 3, .inl (upd MA lv 0))))) s H := hW
  generalize hMw1 : va_up M ma (some (.inl (cI, 3, .inl (upd MA lv 0)))) = Mw1 at hW
  have w_md : Mw1 md = some (.inr (8, [.int cd, .int (nI n), .ref kd, .ref on, .ref tw, .ref nu, .ref le, .ref fx, .ref fy, .ref si, .ref de, .ref ne, .ref it, .ref po, .ref ma, .ref ab, .ref be, .long up, .long dn, .ref li, .int pz, .ref fr, .ref to])) := by rw [← hMw1, va_up_ne _ _ (show md ≠ ma from hD 0 13 (by decide) (by decide))]; exact w_md
  have w_ma : Mw1 ma = some (.inl (cI, 3, .inl (upd MA lv 0))) := by rw [← hMw1]; exact va_up_self _ _ _
  have hfr_Mw1 : ∀ x9, x9 ≠ ma → Mw1 x9 = M x9 := fun x9 z9 => by rw [← hMw1, va_up_ne _ _ z9]
  have hK0 : md_W cI cJ cZ md kd on tw nu le fx fy si de ne it po ma ab be li fr to Mw1 cd n up dn pz NE IT PO (upd MA lv 0) AB BE := ⟨w_md, ((hfr_Mw1 ne (show ne ≠ ma from hD 10 13 (by decide) (by decide)))).trans hK.2.1, ((hfr_Mw1 it (show it ≠ ma from hD 11 13 (by decide) (by decide)))).trans hK.2.2.1, ((hfr_Mw1 po (show po ≠ ma from hD 12 13 (by decide) (by decide)))).trans hK.2.2.2.1, w_ma, ((hfr_Mw1 ab (Ne.symm (show ma ≠ ab from hD 13 14 (by decide) (by decide))))).trans hK.2.2.2.2.2.1, ((hfr_Mw1 be (Ne.symm (show ma ≠ be from hD 13 15 (by decide) (by decide))))).trans hK.2.2.2.2.2.2⟩
  have hf0 : ∀ x9, x9 ≠ md → x9 ≠ ne → x9 ≠ it → x9 ≠ po → x9 ≠ ma → x9 ≠ ab → x9 ≠ be → Mw1 x9 = M x9 := fun x9 z0 z1 z2 z3 z4 z5 z6 => (hfr_Mw1 x9 z4)
  have hT0 := md_T.kept hD hT hf0
  refine lv_aload_n hx hb d_Md_gather_7 rfl (lv_at hl 0 rfl) ?_
  refine lv_iload_n hx hb d_Md_gather_8 rfl (lv_at hl 2 rfl) ?_
  refine lv_sipush (v := 180) hx hb d_Md_gather_9 (by decide) ?_
  refine hw_callv (hw_runV (n := 2) (own := "QuantifierOutModel") (As := [.int (nI p0), .int 180]) (rest := []) hx hb hml hown hts hX hW hl.1 (c_Md_mark l D cI cJ cZ cN md kd on tw nu le fx fy si de ne it po ma ab be li fr to cd n up dn pz NE IT PO (upd MA lv 0) AB BE p0 180 _ mt st Mw1 hD hK0 hT0 hM hp (by omega)) hK0.1 rfl tw_747 tw_749 ts_17 tw_5 tw_750 (by decide +kernel) rfl rfl ⟨by decide, by decide⟩ rfl rfl (Nat.le_of_ble_eq_true rfl) d_Md_gather_12 ⟨by decide, by decide⟩) hW hS hA (fun Mm H locs hpm hz hW hS => ?_)
  obtain ⟨NE2, hne2, hneed, hKm, hfm⟩ := hpm
  have hw := hneed
  have hfm0 : ∀ x9, x9 ≠ md → x9 ≠ ne → x9 ≠ it → x9 ≠ po → x9 ≠ ma → x9 ≠ ab → x9 ≠ be → Mm x9 = M x9 := fun x9 z0 z1 z2 z3 z4 z5 z6 => (hfm x9 z0 z1 z2 z3 z4 z5 z6).trans (hf0 x9 z0 z1 z2 z3 z4 z5 z6)
  obtain ⟨ww9, hww⟩ : ∃ f : Nat → Int32, f = fun t => NE2 (180 + t) := ⟨_, rfl⟩
  rw [← hww] at hw
  have hwt : ∀ t, NE2 (180 + t) = ww9 t := fun t => by rw [hww]
  have h6 := hw.2.2.2.2.1
  have outer : ∀ (z s9 : Nat), s9 + z = p0 + 1 → ∀ (H : Heap) (locs : List Loc) (M2 : Nat → Option va_E) (n1 : Nat) (u2 d2 : Int64) (A2 B2 : Nat → Int64) (ls : Array Slot), hw_W D qcl (qty cI cJ cZ cN) (hw_A M s.heap.size) M2 s H → va_S (hw_A M s.heap.size) s.heap H locs → md_W cI cJ cZ md kd on tw nu le fx fy si de ne it po ma ab be li fr to M2 cd n u2 d2 pz NE2 IT PO (upd MA lv (nI n1)) A2 B2 → (∀ x9, x9 ≠ md → x9 ≠ ne → x9 ≠ it → x9 ≠ po → x9 ≠ ma → x9 ≠ ab → x9 ≠ be → M2 x9 = M x9) → (∀ i, (i < 64 * lv ∨ 64 * lv + 64 ≤ i) → A2 i = AB i ∧ B2 i = BE i) → gs_O st ww9 j o oU.toInt oD.toInt (64 * lv) N Dn (nd q) A2 B2 n1 s9 → lv_has ls 10 [(8, .int (nI s9)), (0, .ref md), (1, .int (nI lv)), (2, .int (nI p0)), (3, .int (nI j)), (4, .long oU), (6, .long oD)] → W p l e ({ frames := 2, cells := 0, slots := 0, locals := 80 }) s m [.ref md, .int (nI lv), .int (nI p0), .int (nI j), .long oU, .long oD].toArray below meth c H locs 0 0 Q9 (F0 m 18 ls []) := by
    intro z
    induction z with
    | zero =>
      intro s9 hz H locs M2 n1 u2 d2 A2 B2 ls hW hS hK2 hf2 hout2 hgo hl
      have hs9 : s9 = p0 + 1 := by omega
      subst hs9
      refine lv_iload hx hb d_Md_gather_18 (lv_at hl 0 rfl) ?_
      refine lv_iload_n hx hb d_Md_gather_20 rfl (lv_at hl 3 rfl) ?_
      refine lv_icmp_gt (tgt := 229) hx hb d_Md_gather_21 (by decide) (fun c_21 => ?_) (fun c_21 => ?_)
      · skip
        have hc6 : sm (na st ww9) (p0 + 1) ≤ 6 := Nat.le_trans (sm_mono (by omega)) h6
        have hcc := gs_54 hc6
        have hn27 := hgo.2.1
        obtain ⟨v0, v1⟩ := gs_cov hM hw hq hjo ho0 hgo
        rw [hQ9]
        exact hw_retv hx hb hr hlocks hW hS ⟨n1, NE2, u2, d2, A2, B2, by omega, hgo.1, v0, v1, hout2, fun i hi => hne2 i (Or.inl hi), hK2, hf2⟩ d_Md_gather_229
      · skip
        exact absurd (nI_lt (Nat.lt_succ_self p0) (by omega)) c_21
    | succ z ihz =>
      intro s9 hz H locs M2 n1 u2 d2 A2 B2 ls hW hS hK2 hf2 hout2 hgo hl
      refine lv_iload hx hb d_Md_gather_18 (lv_at hl 0 rfl) ?_
      refine lv_iload_n hx hb d_Md_gather_20 rfl (lv_at hl 3 rfl) ?_
      refine lv_icmp_gt (tgt := 229) hx hb d_Md_gather_21 (by decide) (fun c_21 => ?_) (fun c_21 => ?_)
      · skip
        exact absurd c_21 (nI_nlt (by omega) (by omega))
      · skip
        have hT2 := md_T.kept hD hT hf2
        have next : ∀ (H : Heap) (locs : List Loc) (M2 : Nat → Option va_E) (n1 : Nat) (u2 d2 : Int64) (A2 B2 : Nat → Int64) (ls : Array Slot), hw_W D qcl (qty cI cJ cZ cN) (hw_A M s.heap.size) M2 s H → va_S (hw_A M s.heap.size) s.heap H locs → md_W cI cJ cZ md kd on tw nu le fx fy si de ne it po ma ab be li fr to M2 cd n u2 d2 pz NE2 IT PO (upd MA lv (nI n1)) A2 B2 → (∀ x9, x9 ≠ md → x9 ≠ ne → x9 ≠ it → x9 ≠ po → x9 ≠ ma → x9 ≠ ab → x9 ≠ be → M2 x9 = M x9) → (∀ i, (i < 64 * lv ∨ 64 * lv + 64 ≤ i) → A2 i = AB i ∧ B2 i = BE i) → gs_O st ww9 j o oU.toInt oD.toInt (64 * lv) N Dn (nd q) A2 B2 n1 (s9 + 1) → lv_has ls 10 [(8, .int (nI s9)), (0, .ref md), (1, .int (nI lv)), (2, .int (nI p0)), (3, .int (nI j)), (4, .long oU), (6, .long oD)] → W p l e ({ frames := 2, cells := 0, slots := 0, locals := 80 }) s m [.ref md, .int (nI lv), .int (nI p0), .int (nI j), .long oU, .long oD].toArray below meth c H locs 0 0 Q9 (F0 m 223 ls []) := by
          intro H locs M2 n1 u2 d2 A2 B2 ls hW hS hK2 hf2 hout2 hgo hl
          obtain ⟨k9, ek9⟩ : ∃ y9 : Int32, y9 = (nI s9) + Int32.ofInt (1) := ⟨_, rfl⟩
          refine lv_iinc (v := k9) (lv' := [(8, .int k9), (0, .ref md), (1, .int (nI lv)), (2, .int (nI p0)), (3, .int (nI j)), (4, .long oU), (6, .long oD)]) hx hb d_Md_gather_223 hl (k := 0) rfl ek9.symm (by decide) rfl (fun ls hl => ?_)
          have ek9b : k9 = nI (s9 + 1) := by rw [ek9]; exact nI_add s9 1
          subst ek9b
          refine lv_goto (tgt := 18) hx hb d_Md_gather_226 (by decide) ?_
          exact ihz (s9 + 1) (by omega) H locs M2 n1 u2 d2 A2 B2 ls hW hS hK2 hf2 hout2 hgo (lv_sub hl [0, 1, 2, 3, 4, 5, 6] rfl)
        have w2_md := hK2.1
        have w2_md : M2 md = some (.inr (8, [.int cd, .int (nI n), .ref kd, .ref on, .ref tw, .ref nu, .ref le, .ref fx, .ref fy, .ref si, .ref de, .ref ne, .ref it, .ref po, .ref ma, .ref ab, .ref be, .long u2, .long d2, .ref li, .int pz, .ref fr, .ref to])) := w2_md
        have w2_ne := hK2.2.1
        have w2_ne : M2 ne = some (.inl (cZ, 240, .inl NE2)) := w2_ne
        have t2_kd : M2 kd = some (.inl (cI, 60, .inl (st 0))) := hT2.1
        have t2_nu : M2 nu = some (.inl (cI, 240, .inl (st 3))) := hT2.2.2.2.1
        have t2_de : M2 de = some (.inl (cI, 60, .inl (st 8))) := hT2.2.2.2.2.2.2.2.2
        refine lv_aload_n hx hb d_Md_gather_24 rfl (lv_at hl 1 rfl) ?_
        refine hw_get (own := "QuantifierOutModel") (v := .ref ne) hx hb hts i_Md hown hW w2_md rfl 11 (by decide) (hts _ tw_614) (fun _ h9 => h9) rfl d_Md_gather_25 ?_
        refine lv_sipush (v := 180) hx hb d_Md_gather_28 (by decide) ?_
        refine lv_iload hx hb d_Md_gather_31 (lv_at hl 0 rfl) ?_
        refine lv_iadd hx hb d_Md_gather_33 ?_
        refine lv_topi (fun x2 ex2 => ?_)
        have eix2 : x2 = nI (180 + s9) := by rw [ex2]; exact nI_add 180 s9
        refine hw_zld hx hb hW 2 w2_ne rfl (180 + s9) eix2 (by omega) (by decide) d_Md_gather_34 ?_
        rw [hwt s9]
        refine lv_if_eq (tgt := 223) hx hb d_Md_gather_35 (by decide) (fun c_35 => ?_) (fun c_35 => ?_)
        · skip
          exact next H locs M2 n1 u2 d2 A2 B2 ls hW hS hK2 hf2 hout2 (gs_skip hgo (fun z9 => by rw [c_35] at z9; exact absurd z9.1 (by decide))) (lv_sub hl [0, 1, 2, 3, 4, 5, 6] rfl)
        · skip
          have hws : ww9 s9 = 1 := (hw.1 s9 (by omega)).resolve_left c_35
          refine lv_aload_n hx hb d_Md_gather_38 rfl (lv_at hl 1 rfl) ?_
          refine hw_get (own := "QuantifierOutModel") (v := .ref kd) hx hb hts i_Md hown hW w2_md rfl 2 (by decide) (hts _ tw_605) (fun _ h9 => h9) rfl d_Md_gather_39 ?_
          refine lv_iload hx hb d_Md_gather_42 (lv_at hl 0 rfl) ?_
          refine hw_ild hx hb hW 0 t2_kd rfl s9 rfl (by omega) (by decide) d_Md_gather_44 ?_
          refine lv_if_eq (tgt := 51) hx hb d_Md_gather_45 (by decide) (fun c_45 => ?_) (fun c_45 => ?_)
          · skip
            have hbs := hbat s9 (by omega) c_45
            have q1 := hbs j (by omega)
            have q2 := hbs o (by omega)
            have q3 := hbs 2 (by omega)
            obtain ⟨hc5, hcs⟩ := na_c h6 (show s9 < 60 by omega) hws c_45
            have hc40 := gs_40 hc5
            have tail : ∀ (H : Heap) (locs : List Loc) (M2 : Nat → Option va_E) (n1 : Nat) (u2 d2 : Int64) (A2 B2 : Nat → Int64) (t9 : Nat) (ls : Array Slot), t9 ≤ s9 → (s9 ≤ t9 ∨ ¬ 0 < nd q) → hw_W D qcl (qty cI cJ cZ cN) (hw_A M s.heap.size) M2 s H → va_S (hw_A M s.heap.size) s.heap H locs → md_W cI cJ cZ md kd on tw nu le fx fy si de ne it po ma ab be li fr to M2 cd n u2 d2 pz NE2 IT PO (upd MA lv (nI n1)) A2 B2 → (∀ x9, x9 ≠ md → x9 ≠ ne → x9 ≠ it → x9 ≠ po → x9 ≠ ma → x9 ≠ ab → x9 ≠ be → M2 x9 = M x9) → (∀ i, (i < 64 * lv ∨ 64 * lv + 64 ≤ i) → A2 i = AB i ∧ B2 i = BE i) → gs_N st ww9 j o oU.toInt oD.toInt (64 * lv) N Dn (nd q) A2 B2 n1 s9 t9 → lv_has ls 10 [(8, .int (nI s9)), (0, .ref md), (1, .int (nI lv)), (2, .int (nI p0)), (3, .int (nI j)), (4, .long oU), (6, .long oD)] → W p l e ({ frames := 2, cells := 0, slots := 0, locals := 80 }) s m [.ref md, .int (nI lv), .int (nI p0), .int (nI j), .long oU, .long oD].toArray below meth c H locs 0 0 Q9 (F0 m 166 ls []) := by
              intro H locs M2 n1 u2 d2 A2 B2 t9 ls ht9 hx9 hW hS hK2 hf2 hout2 hgn hl
              have hT2 := md_T.kept hD hT hf2
              have hm9 := sm_mono (f := na st ww9) ht9
              have hn2 := hgn.2.1
              have w3_md := hK2.1
              have w3_md : M2 md = some (.inr (8, [.int cd, .int (nI n), .ref kd, .ref on, .ref tw, .ref nu, .ref le, .ref fx, .ref fy, .ref si, .ref de, .ref ne, .ref it, .ref po, .ref ma, .ref ab, .ref be, .long u2, .long d2, .ref li, .int pz, .ref fr, .ref to])) := w3_md
              have t3_nu : M2 nu = some (.inl (cI, 240, .inl (st 3))) := hT2.2.2.2.1
              have t3_de : M2 de = some (.inl (cI, 60, .inl (st 8))) := hT2.2.2.2.2.2.2.2.2
              refine lv_aload_n hx hb d_Md_gather_166 rfl (lv_at hl 1 rfl) ?_
              refine hw_get (own := "QuantifierOutModel") (v := .ref de) hx hb hts i_Md hown hW w3_md rfl 10 (by decide) (hts _ tw_613) (fun _ h9 => h9) rfl d_Md_gather_167 ?_
              refine lv_iload_n hx hb d_Md_gather_170 rfl (lv_at hl 3 rfl) ?_
              refine hw_ild hx hb hW 0 t3_de rfl p0 rfl (by omega) (by decide) d_Md_gather_171 ?_
              rw [c8]
              refine lv_if_le (tgt := 223) hx hb d_Md_gather_172 (by decide) (fun c_172 => ?_) (fun c_172 => ?_)
              · skip
                exact next H locs M2 n1 u2 d2 A2 B2 ls hW hS hK2 hf2 hout2 (gs_NO h6 (by omega) hws c_45 hgn ht9 hx9 (kq_rf hgn.1) (Nat.le_succ _)) (lv_sub hl [0, 1, 2, 3, 4, 5, 6] rfl)
              · skip
                refine lv_aload_n hx hb d_Md_gather_175 rfl (lv_at hl 1 rfl) ?_
                refine lv_iload hx hb d_Md_gather_176 (lv_at hl 0 rfl) ?_
                refine lv_iload_n hx hb d_Md_gather_178 rfl (lv_at hl 4 rfl) ?_
                refine hw_calli (hw_runV (n := 2) (own := "QuantifierOutModel") (As := [.int (nI s9), .int (nI j)]) (rest := []) hx hb hml hown hts hX hW hl.1 (c_Md_of l D cI cJ cZ cN md kd on tw nu le fx fy si de ne it po ma ab be li fr to cd n u2 d2 pz s9 j _ (st 3) M2 w3_md t3_nu (by omega)) w3_md rfl tw_759 tw_761 ts_20 tw_5 tw_762 (by decide +kernel) rfl rfl ⟨by decide, by decide⟩ rfl rfl (Nat.le_of_ble_eq_true rfl) d_Md_gather_179 ⟨by decide, by decide⟩) hW hS hA (fun r1 Mo9 H locs hpo hz hW hS => ?_)
                obtain ⟨er1, eMo9⟩ := hpo
                rw [eMo9] at hW
                refine lv_if_eq (tgt := 223) hx hb d_Md_gather_182 (by decide) (fun c_182 => ?_) (fun c_182 => ?_)
                · skip
                  exact next H locs M2 n1 u2 d2 A2 B2 ls hW hS hK2 hf2 hout2 (gs_NO h6 (by omega) hws c_45 hgn ht9 hx9 (kq_rf hgn.1) (Nat.le_succ _)) (lv_sub hl [0, 1, 2, 3, 4, 5, 6] rfl)
                · skip
                  refine lv_aload_n hx hb d_Md_gather_185 rfl (lv_at hl 1 rfl) ?_
                  refine lv_iload hx hb d_Md_gather_186 (lv_at hl 0 rfl) ?_
                  refine lv_iconst (v := 1) hx hb d_Md_gather_188 (by decide) ?_
                  refine lv_iload_n hx hb d_Md_gather_189 rfl (lv_at hl 4 rfl) ?_
                  refine lv_isub hx hb d_Md_gather_190 ?_
                  refine lv_topi (fun x3 ex3 => ?_)
                  have eox3 : x3 = nI o := by rw [ex3]; exact sub_jo hjo
                  rw [eox3]
                  refine hw_calli (hw_runV (n := 2) (own := "QuantifierOutModel") (As := [.int (nI s9), .int (nI o)]) (rest := []) hx hb hml hown hts hX hW hl.1 (c_Md_of l D cI cJ cZ cN md kd on tw nu le fx fy si de ne it po ma ab be li fr to cd n u2 d2 pz s9 o _ (st 3) M2 w3_md t3_nu (by omega)) w3_md rfl tw_759 tw_761 ts_20 tw_5 tw_762 (by decide +kernel) rfl rfl ⟨by decide, by decide⟩ rfl rfl (Nat.le_of_ble_eq_true rfl) d_Md_gather_191 ⟨by decide, by decide⟩) hW hS hA (fun r2 Mo9 H locs hpo hz hW hS => ?_)
                  obtain ⟨er2, eMo9⟩ := hpo
                  rw [eMo9] at hW
                  refine lv_if_ne (tgt := 223) hx hb d_Md_gather_194 (by decide) (fun c_194 => ?_) (fun c_194 => ?_)
                  · skip
                    exact next H locs M2 n1 u2 d2 A2 B2 ls hW hS hK2 hf2 hout2 (gs_NO h6 (by omega) hws c_45 hgn ht9 hx9 (kq_rf hgn.1) (Nat.le_succ _)) (lv_sub hl [0, 1, 2, 3, 4, 5, 6] rfl)
                  · skip
                    refine lv_aload_n hx hb d_Md_gather_197 rfl (lv_at hl 1 rfl) ?_
                    refine lv_aload_n hx hb d_Md_gather_198 rfl (lv_at hl 1 rfl) ?_
                    refine lv_iload hx hb d_Md_gather_199 (lv_at hl 0 rfl) ?_
                    refine lv_iconst (v := 2) hx hb d_Md_gather_201 (by decide) ?_
                    refine hw_calli (hw_runV (n := 2) (own := "QuantifierOutModel") (As := [.int (nI s9), .int 2]) (rest := [.ref md]) hx hb hml hown hts hX hW hl.1 (c_Md_of l D cI cJ cZ cN md kd on tw nu le fx fy si de ne it po ma ab be li fr to cd n u2 d2 pz s9 2 _ (st 3) M2 w3_md t3_nu (by omega)) w3_md rfl tw_759 tw_761 ts_20 tw_5 tw_762 (by decide +kernel) rfl rfl ⟨by decide, by decide⟩ rfl rfl (Nat.le_of_ble_eq_true rfl) d_Md_gather_202 ⟨by decide, by decide⟩) hW hS hA (fun r3 Mo9 H locs hpo hz hW hS => ?_)
                    obtain ⟨er3, eMo9⟩ := hpo
                    rw [eMo9] at hW
                    refine lv_ineg hx hb d_Md_gather_205 ?_
                    refine lv_topi (fun x4 ex4 => ?_)
                    obtain ⟨x5, ex5⟩ : ∃ y9 : Int64, y9 = (x4 : Int32).toInt64 := ⟨_, rfl⟩
                    refine lv_i2l (v := x5) hx hb d_Md_gather_206 ex5.symm ?_
                    refine lv_aload_n hx hb d_Md_gather_207 rfl (lv_at hl 1 rfl) ?_
                    refine lv_iload hx hb d_Md_gather_208 (lv_at hl 0 rfl) ?_
                    refine lv_iload_n hx hb d_Md_gather_210 rfl (lv_at hl 4 rfl) ?_
                    refine hw_calli (hw_runV (n := 2) (own := "QuantifierOutModel") (As := [.int (nI s9), .int (nI j)]) (rest := [.long x5, .ref md]) hx hb hml hown hts hX hW hl.1 (c_Md_of l D cI cJ cZ cN md kd on tw nu le fx fy si de ne it po ma ab be li fr to cd n u2 d2 pz s9 j _ (st 3) M2 w3_md t3_nu (by omega)) w3_md rfl tw_759 tw_761 ts_20 tw_5 tw_762 (by decide +kernel) rfl rfl ⟨by decide, by decide⟩ rfl rfl (Nat.le_of_ble_eq_true rfl) d_Md_gather_211 ⟨by decide, by decide⟩) hW hS hA (fun r4 Mo9 H locs hpo hz hW hS => ?_)
                    obtain ⟨er4, eMo9⟩ := hpo
                    rw [eMo9] at hW
                    obtain ⟨x6, ex6⟩ : ∃ y9 : Int64, y9 = (r4 : Int32).toInt64 := ⟨_, rfl⟩
                    refine lv_i2l (v := x6) hx hb d_Md_gather_214 ex6.symm ?_
                    have tX : x5.toInt = -(st 3 (4 * s9 + 2)).toInt := by rw [ex5, nm_i2l, ex4, er3]; exact nm_ineg (by omega)
                    have tY : x6.toInt = (st 3 (4 * s9 + j)).toInt := by rw [ex6, nm_i2l, er4]
                    have hY0 : x6.toInt ≠ 0 := by rw [tY]; intro z9; exact c_182 (by rw [er1]; exact Int32.toInt_inj.mp z9)
                    refine hw_callv (hw_runV (n := 2) (own := "QuantifierOutModel") (As := [.long x5, .long x6]) (rest := []) hx hb hml hown hts hX hW hl.1 (c_Md_lowest l D cI cJ cZ cN md kd on tw nu le fx fy si de ne it po ma ab be li fr to cd n u2 d2 pz _ M2 hK2.1 x5 x6 hY0 (by rw [tX]; omega) (by rw [tY]; omega)) hK2.1 rfl tw_771 tw_773 ts_23 tw_5 tw_774 (by decide +kernel) rfl rfl ⟨by decide, by decide⟩ rfl rfl (Nat.le_of_ble_eq_true rfl) d_Md_gather_215 ⟨by decide, by decide⟩) hW hS hA (fun Mlv H locs hpl hz hW hS => ?_)
                    obtain ⟨uv, dv, huv, hdv, eMlv⟩ := hpl
                    have hflv : ∀ x9, x9 ≠ md → Mlv x9 = M2 x9 := fun x9 z9 => by rw [eMlv, va_up_ne _ _ z9]
                    have hKlv : md_W cI cJ cZ md kd on tw nu le fx fy si de ne it po ma ab be li fr to Mlv cd n uv dv pz NE2 IT PO (upd MA lv (nI n1)) A2 B2 := ⟨by rw [eMlv]; exact va_up_self _ _ _, (hflv ne (Ne.symm (show md ≠ ne from hD 0 10 (by decide) (by decide)))).trans hK2.2.1, (hflv it (Ne.symm (show md ≠ it from hD 0 11 (by decide) (by decide)))).trans hK2.2.2.1, (hflv po (Ne.symm (show md ≠ po from hD 0 12 (by decide) (by decide)))).trans hK2.2.2.2.1, (hflv ma (Ne.symm (show md ≠ ma from hD 0 13 (by decide) (by decide)))).trans hK2.2.2.2.2.1, (hflv ab (Ne.symm (show md ≠ ab from hD 0 14 (by decide) (by decide)))).trans hK2.2.2.2.2.2.1, (hflv be (Ne.symm (show md ≠ be from hD 0 15 (by decide) (by decide)))).trans hK2.2.2.2.2.2.2⟩
                    obtain ⟨b1, b2⟩ := fr_bd (a := x5.toInt) hY0
                    refine lv_aload_n hx hb d_Md_gather_218 rfl (lv_at hl 1 rfl) ?_
                    refine lv_iload_n hx hb d_Md_gather_219 rfl (lv_at hl 2 rfl) ?_
                    refine hw_callv (hw_runV (n := 1) (own := "QuantifierOutModel") (As := [.int (nI lv)]) (rest := []) hx hb hml hown hts hX hW hl.1 (c_Md_keep l D cI cJ cZ cN md kd on tw nu le fx fy si de ne it po ma ab be li fr to cd n uv dv pz NE2 IT PO (upd MA lv (nI n1)) A2 B2 lv n1 N Dn _ _ Mlv hD hKlv hlv pk_us (by omega) hgn.1 hB huv hdv (by rw [huv]; have h8 : x5.toInt.natAbs ≤ 5 := by { rw [tX]; omega }; omega) (by rw [hdv]; have h8 : x6.toInt.natAbs ≤ 5 := by { rw [tY]; omega }; omega)) hKlv.1 rfl tw_775 tw_777 ts_24 tw_5 tw_778 (by decide +kernel) rfl rfl ⟨by decide, by decide⟩ rfl rfl (Nat.le_of_ble_eq_true rfl) d_Md_gather_220 ⟨by decide, by decide⟩) hW hS hA (fun Mkv H locs hpk hz hW hS => ?_)
                    obtain ⟨n3, A3, B3, hkp, hK3, hfk⟩ := hpk
                    rw [upd_upd] at hK3
                    have hf3 : ∀ x9, x9 ≠ md → x9 ≠ ne → x9 ≠ it → x9 ≠ po → x9 ≠ ma → x9 ≠ ab → x9 ≠ be → Mkv x9 = M x9 := fun x9 z0 z1 z2 z3 z4 z5 z6 => ((hfk x9 z0 z1 z2 z3 z4 z5 z6).trans (hflv x9 z0)).trans (hf2 x9 z0 z1 z2 z3 z4 z5 z6)
                    obtain ⟨hkq, hk1, hkh⟩ := kp_kq hkp
                    have hout3 : ∀ i, (i < 64 * lv ∨ 64 * lv + 64 ≤ i) → A3 i = AB i ∧ B3 i = BE i := fun i hi => ⟨(hkq.2.2.2 i hi).1.trans (hout2 i hi).1, (hkq.2.2.2 i hi).2.trans (hout2 i hi).2⟩
                    exact next H locs Mkv n3 uv dv A3 B3 ls hW hS hK3 hf3 hout3 (gs_NO h6 (by omega) hws c_45 hgn ht9 hx9 hkq hk1) (lv_sub hl [0, 1, 2, 3, 4, 5, 6] rfl)
            have inner : ∀ (y9 t9 : Nat), t9 + y9 = s9 → ∀ (H : Heap) (locs : List Loc) (M2 : Nat → Option va_E) (n1 : Nat) (u2 d2 : Int64) (A2 B2 : Nat → Int64) (ls : Array Slot), hw_W D qcl (qty cI cJ cZ cN) (hw_A M s.heap.size) M2 s H → va_S (hw_A M s.heap.size) s.heap H locs → md_W cI cJ cZ md kd on tw nu le fx fy si de ne it po ma ab be li fr to M2 cd n u2 d2 pz NE2 IT PO (upd MA lv (nI n1)) A2 B2 → (∀ x9, x9 ≠ md → x9 ≠ ne → x9 ≠ it → x9 ≠ po → x9 ≠ ma → x9 ≠ ab → x9 ≠ be → M2 x9 = M x9) → (∀ i, (i < 64 * lv ∨ 64 * lv + 64 ≤ i) → A2 i = AB i ∧ B2 i = BE i) → gs_N st ww9 j o oU.toInt oD.toInt (64 * lv) N Dn (nd q) A2 B2 n1 s9 t9 → lv_has ls 10 [(9, .int (nI t9)), (8, .int (nI s9)), (0, .ref md), (1, .int (nI lv)), (2, .int (nI p0)), (3, .int (nI j)), (4, .long oU), (6, .long oD)] → W p l e ({ frames := 2, cells := 0, slots := 0, locals := 80 }) s m [.ref md, .int (nI lv), .int (nI p0), .int (nI j), .long oU, .long oD].toArray below meth c H locs 0 0 Q9 (F0 m 110 ls []) := by
              intro y9
              induction y9 with
              | zero =>
                intro t9 hy H locs M2 n1 u2 d2 A2 B2 ls hW hS hK2 hf2 hout2 hgn hl
                refine lv_iload hx hb d_Md_gather_110 (lv_at hl 0 rfl) ?_
                refine lv_iload hx hb d_Md_gather_112 (lv_at hl 1 rfl) ?_
                refine lv_icmp_ge (tgt := 166) hx hb d_Md_gather_114 (by decide) (fun c_114 => ?_) (fun c_114 => ?_)
                · skip
                  exact tail H locs M2 n1 u2 d2 A2 B2 t9 ls (by omega) (Or.inl (by omega)) hW hS hK2 hf2 hout2 hgn (lv_sub hl [1, 2, 3, 4, 5, 6, 7] rfl)
                · skip
                  exact absurd (nI_le (by omega) (by omega)) c_114
              | succ y9 ihy =>
                intro t9 hy H locs M2 n1 u2 d2 A2 B2 ls hW hS hK2 hf2 hout2 hgn hl
                refine lv_iload hx hb d_Md_gather_110 (lv_at hl 0 rfl) ?_
                refine lv_iload hx hb d_Md_gather_112 (lv_at hl 1 rfl) ?_
                refine lv_icmp_ge (tgt := 166) hx hb d_Md_gather_114 (by decide) (fun c_114 => ?_) (fun c_114 => ?_)
                · skip
                  exact absurd c_114 (nI_ge (by omega) (by omega))
                · skip
                  have hT2 := md_T.kept hD hT hf2
                  have hm9 := sm_mono (f := na st ww9) (show t9 ≤ s9 by omega)
                  have hn2 := hgn.2.1
                  have w4_md := hK2.1
                  have w4_md : M2 md = some (.inr (8, [.int cd, .int (nI n), .ref kd, .ref on, .ref tw, .ref nu, .ref le, .ref fx, .ref fy, .ref si, .ref de, .ref ne, .ref it, .ref po, .ref ma, .ref ab, .ref be, .long u2, .long d2, .ref li, .int pz, .ref fr, .ref to])) := w4_md
                  have w4_ne := hK2.2.1
                  have w4_ne : M2 ne = some (.inl (cZ, 240, .inl NE2)) := w4_ne
                  have t4_kd : M2 kd = some (.inl (cI, 60, .inl (st 0))) := hT2.1
                  have t4_de : M2 de = some (.inl (cI, 60, .inl (st 8))) := hT2.2.2.2.2.2.2.2.2
                  refine lv_aload_n hx hb d_Md_gather_117 rfl (lv_at hl 2 rfl) ?_
                  refine hw_get (own := "QuantifierOutModel") (v := .ref de) hx hb hts i_Md hown hW w4_md rfl 10 (by decide) (hts _ tw_613) (fun _ h9 => h9) rfl d_Md_gather_118 ?_
                  refine lv_iload_n hx hb d_Md_gather_121 rfl (lv_at hl 4 rfl) ?_
                  refine hw_ild hx hb hW 0 t4_de rfl p0 rfl (by omega) (by decide) d_Md_gather_122 ?_
                  rw [c8]
                  refine lv_if_le (tgt := 166) hx hb d_Md_gather_123 (by decide) (fun c_123 => ?_) (fun c_123 => ?_)
                  · skip
                    exact tail H locs M2 n1 u2 d2 A2 B2 t9 ls (by omega) (Or.inr (fun z9 => nI_nle z9 (by omega) c_123)) hW hS hK2 hf2 hout2 hgn (lv_sub hl [1, 2, 3, 4, 5, 6, 7] rfl)
                  · skip
                    have on9 : ∀ (H : Heap) (locs : List Loc) (M2 : Nat → Option va_E) (n1 : Nat) (u2 d2 : Int64) (A2 B2 : Nat → Int64) (ls : Array Slot), hw_W D qcl (qty cI cJ cZ cN) (hw_A M s.heap.size) M2 s H → va_S (hw_A M s.heap.size) s.heap H locs → md_W cI cJ cZ md kd on tw nu le fx fy si de ne it po ma ab be li fr to M2 cd n u2 d2 pz NE2 IT PO (upd MA lv (nI n1)) A2 B2 → (∀ x9, x9 ≠ md → x9 ≠ ne → x9 ≠ it → x9 ≠ po → x9 ≠ ma → x9 ≠ ab → x9 ≠ be → M2 x9 = M x9) → (∀ i, (i < 64 * lv ∨ 64 * lv + 64 ≤ i) → A2 i = AB i ∧ B2 i = BE i) → gs_N st ww9 j o oU.toInt oD.toInt (64 * lv) N Dn (nd q) A2 B2 n1 s9 (t9 + 1) → lv_has ls 10 [(9, .int (nI t9)), (8, .int (nI s9)), (0, .ref md), (1, .int (nI lv)), (2, .int (nI p0)), (3, .int (nI j)), (4, .long oU), (6, .long oD)] → W p l e ({ frames := 2, cells := 0, slots := 0, locals := 80 }) s m [.ref md, .int (nI lv), .int (nI p0), .int (nI j), .long oU, .long oD].toArray below meth c H locs 0 0 Q9 (F0 m 160 ls []) := by
                      intro H locs M2 n1 u2 d2 A2 B2 ls hW hS hK2 hf2 hout2 hgn hl
                      obtain ⟨k9, ek9⟩ : ∃ y9 : Int32, y9 = (nI t9) + Int32.ofInt (1) := ⟨_, rfl⟩
                      refine lv_iinc (v := k9) (lv' := [(9, .int k9), (8, .int (nI s9)), (0, .ref md), (1, .int (nI lv)), (2, .int (nI p0)), (3, .int (nI j)), (4, .long oU), (6, .long oD)]) hx hb d_Md_gather_160 hl (k := 0) rfl ek9.symm (by decide) rfl (fun ls hl => ?_)
                      have ek9b : k9 = nI (t9 + 1) := by rw [ek9]; exact nI_add t9 1
                      subst ek9b
                      refine lv_goto (tgt := 110) hx hb d_Md_gather_163 (by decide) ?_
                      exact ihy (t9 + 1) (by omega) H locs M2 n1 u2 d2 A2 B2 ls hW hS hK2 hf2 hout2 hgn (lv_sub hl [0, 1, 2, 3, 4, 5, 6, 7] rfl)
                    refine lv_aload_n hx hb d_Md_gather_126 rfl (lv_at hl 2 rfl) ?_
                    refine hw_get (own := "QuantifierOutModel") (v := .ref ne) hx hb hts i_Md hown hW w4_md rfl 11 (by decide) (hts _ tw_614) (fun _ h9 => h9) rfl d_Md_gather_127 ?_
                    refine lv_sipush (v := 180) hx hb d_Md_gather_130 (by decide) ?_
                    refine lv_iload hx hb d_Md_gather_133 (lv_at hl 0 rfl) ?_
                    refine lv_iadd hx hb d_Md_gather_135 ?_
                    refine lv_topi (fun x7 ex7 => ?_)
                    have eix7 : x7 = nI (180 + t9) := by rw [ex7]; exact nI_add 180 t9
                    refine hw_zld hx hb hW 2 w4_ne rfl (180 + t9) eix7 (by omega) (by decide) d_Md_gather_136 ?_
                    rw [hwt t9]
                    refine lv_if_eq (tgt := 160) hx hb d_Md_gather_137 (by decide) (fun c_137 => ?_) (fun c_137 => ?_)
                    · skip
                      exact on9 H locs M2 n1 u2 d2 A2 B2 ls hW hS hK2 hf2 hout2 (gs_NN hgn (kq_rf hgn.1) (Nat.le_add_right _ _) (fun z8 z9 => absurd z8 (by rw [c_137]; decide))) hl
                    · skip
                      have hwt9 : ww9 t9 = 1 := (hw.1 t9 (by omega)).resolve_left c_137
                      refine lv_aload_n hx hb d_Md_gather_140 rfl (lv_at hl 2 rfl) ?_
                      refine hw_get (own := "QuantifierOutModel") (v := .ref kd) hx hb hts i_Md hown hW w4_md rfl 2 (by decide) (hts _ tw_605) (fun _ h9 => h9) rfl d_Md_gather_141 ?_
                      refine lv_iload hx hb d_Md_gather_144 (lv_at hl 0 rfl) ?_
                      refine hw_ild hx hb hW 0 t4_kd rfl t9 rfl (by omega) (by decide) d_Md_gather_146 ?_
                      refine lv_if_ne (tgt := 160) hx hb d_Md_gather_147 (by decide) (fun c_147 => ?_) (fun c_147 => ?_)
                      · skip
                        exact on9 H locs M2 n1 u2 d2 A2 B2 ls hW hS hK2 hf2 hout2 (gs_NN hgn (kq_rf hgn.1) (Nat.le_add_right _ _) (fun z8 z9 => absurd z9 c_147)) hl
                      · skip
                        refine lv_aload_n hx hb d_Md_gather_150 rfl (lv_at hl 2 rfl) ?_
                        refine lv_iload_n hx hb d_Md_gather_151 rfl (lv_at hl 3 rfl) ?_
                        refine lv_iload hx hb d_Md_gather_152 (lv_at hl 1 rfl) ?_
                        refine lv_iload hx hb d_Md_gather_154 (lv_at hl 0 rfl) ?_
                        refine lv_iload_n hx hb d_Md_gather_156 rfl (lv_at hl 5 rfl) ?_
                        refine hw_callv (hw_runV (n := 4) (own := "QuantifierOutModel") (As := [.int (nI lv), .int (nI s9), .int (nI t9), .int (nI j)]) (rest := []) hx hb hml hown hts hX hW hl.1 (c_Md_meet l D cI cJ cZ cN md kd on tw nu le fx fy si de ne it po ma ab be li fr to cd n u2 d2 pz NE2 IT PO (upd MA lv (nI n1)) A2 B2 lv n1 N Dn s9 t9 j o _ st M2 hD hK2 hT2 hlv pk_us (by omega) hgn.1 hB hN50 hD50 (by omega) (by omega) hjo hbs (hbat t9 (by omega) c_147)) hK2.1 rfl tw_779 tw_781 ts_25 tw_5 tw_782 (by decide +kernel) rfl rfl ⟨by decide, by decide⟩ rfl rfl (Nat.le_of_ble_eq_true rfl) d_Md_gather_157 ⟨by decide, by decide⟩) hW hS hA (fun Me H locs hpe hz hW hS => ?_)
                        obtain ⟨n3, u3, d3, A3, B3, hkq, hk1, hkm, hK3, hfe⟩ := hpe
                        rw [upd_upd] at hK3
                        exact on9 H locs Me n3 u3 d3 A3 B3 ls hW hS hK3 (fun x9 z0 z1 z2 z3 z4 z5 z6 => (hfe x9 z0 z1 z2 z3 z4 z5 z6).trans (hf2 x9 z0 z1 z2 z3 z4 z5 z6)) (fun i hi => ⟨(hkq.2.2.2 i hi).1.trans (hout2 i hi).1, (hkq.2.2.2 i hi).2.trans (hout2 i hi).2⟩) (gs_NN hgn hkq (by rw [na_1 hwt9 c_147]; exact hk1) (fun _ _ => hkm)) hl
            refine lv_aload_n hx hb d_Md_gather_51 rfl (lv_at hl 1 rfl) ?_
            refine lv_iload hx hb d_Md_gather_52 (lv_at hl 0 rfl) ?_
            refine lv_iload_n hx hb d_Md_gather_54 rfl (lv_at hl 4 rfl) ?_
            refine hw_calli (hw_runV (n := 2) (own := "QuantifierOutModel") (As := [.int (nI s9), .int (nI j)]) (rest := []) hx hb hml hown hts hX hW hl.1 (c_Md_of l D cI cJ cZ cN md kd on tw nu le fx fy si de ne it po ma ab be li fr to cd n u2 d2 pz s9 j _ (st 3) M2 w2_md t2_nu (by omega)) w2_md rfl tw_759 tw_761 ts_20 tw_5 tw_762 (by decide +kernel) rfl rfl ⟨by decide, by decide⟩ rfl rfl (Nat.le_of_ble_eq_true rfl) d_Md_gather_55 ⟨by decide, by decide⟩) hW hS hA (fun r1 Mo9 H locs hpo hz hW hS => ?_)
            obtain ⟨er1, eMo9⟩ := hpo
            rw [eMo9] at hW
            refine lv_if_eq (tgt := 107) hx hb d_Md_gather_58 (by decide) (fun c_58 => ?_) (fun c_58 => ?_)
            · skip
              refine lv_iconst (v := 0) hx hb d_Md_gather_107 (by decide) ?_
              refine lv_istore (lv' := [(9, .int 0), (8, .int (nI s9)), (0, .ref md), (1, .int (nI lv)), (2, .int (nI p0)), (3, .int (nI j)), (4, .long oU), (6, .long oD)]) hx hb d_Md_gather_108 hl (by decide) rfl (fun ls hl => ?_)
              exact inner s9 0 (by omega) H locs M2 n1 u2 d2 A2 B2 ls hW hS hK2 hf2 hout2 (gs_ON hgo (kq_rf hgo.1) (Nat.le_succ _) (fun z9 => absurd (show (st 3 (4 * s9 + j)).toInt * oD.toInt = 0 by rw [← er1, c_58]; show (0 : Int) * oD.toInt = 0; omega) z9)) (lv_sub hl [0, 1, 2, 3, 4, 5, 6, 7] rfl)
            · skip
              refine lv_aload_n hx hb d_Md_gather_61 rfl (lv_at hl 1 rfl) ?_
              refine lv_aload_n hx hb d_Md_gather_62 rfl (lv_at hl 1 rfl) ?_
              refine lv_iload hx hb d_Md_gather_63 (lv_at hl 0 rfl) ?_
              refine lv_iconst (v := 1) hx hb d_Md_gather_65 (by decide) ?_
              refine lv_iload_n hx hb d_Md_gather_66 rfl (lv_at hl 4 rfl) ?_
              refine lv_isub hx hb d_Md_gather_67 ?_
              refine lv_topi (fun x8 ex8 => ?_)
              have eox8 : x8 = nI o := by rw [ex8]; exact sub_jo hjo
              rw [eox8]
              refine hw_calli (hw_runV (n := 2) (own := "QuantifierOutModel") (As := [.int (nI s9), .int (nI o)]) (rest := [.ref md]) hx hb hml hown hts hX hW hl.1 (c_Md_of l D cI cJ cZ cN md kd on tw nu le fx fy si de ne it po ma ab be li fr to cd n u2 d2 pz s9 o _ (st 3) M2 w2_md t2_nu (by omega)) w2_md rfl tw_759 tw_761 ts_20 tw_5 tw_762 (by decide +kernel) rfl rfl ⟨by decide, by decide⟩ rfl rfl (Nat.le_of_ble_eq_true rfl) d_Md_gather_68 ⟨by decide, by decide⟩) hW hS hA (fun r2 Mo9 H locs hpo hz hW hS => ?_)
              obtain ⟨er2, eMo9⟩ := hpo
              rw [eMo9] at hW
              obtain ⟨x9, ex9⟩ : ∃ y9 : Int64, y9 = (r2 : Int32).toInt64 := ⟨_, rfl⟩
              refine lv_i2l (v := x9) hx hb d_Md_gather_71 ex9.symm ?_
              refine lv_lload hx hb d_Md_gather_72 (lv_at hl 5 rfl) ?_
              refine lv_lmul hx hb d_Md_gather_74 ?_
              refine lv_topl (fun x10 ex10 => ?_)
              refine lv_aload_n hx hb d_Md_gather_75 rfl (lv_at hl 1 rfl) ?_
              refine lv_iload hx hb d_Md_gather_76 (lv_at hl 0 rfl) ?_
              refine lv_iconst (v := 2) hx hb d_Md_gather_78 (by decide) ?_
              refine hw_calli (hw_runV (n := 2) (own := "QuantifierOutModel") (As := [.int (nI s9), .int 2]) (rest := [.long x10, .ref md]) hx hb hml hown hts hX hW hl.1 (c_Md_of l D cI cJ cZ cN md kd on tw nu le fx fy si de ne it po ma ab be li fr to cd n u2 d2 pz s9 2 _ (st 3) M2 w2_md t2_nu (by omega)) w2_md rfl tw_759 tw_761 ts_20 tw_5 tw_762 (by decide +kernel) rfl rfl ⟨by decide, by decide⟩ rfl rfl (Nat.le_of_ble_eq_true rfl) d_Md_gather_79 ⟨by decide, by decide⟩) hW hS hA (fun r3 Mo9 H locs hpo hz hW hS => ?_)
              obtain ⟨er3, eMo9⟩ := hpo
              rw [eMo9] at hW
              obtain ⟨x11, ex11⟩ : ∃ y9 : Int64, y9 = (r3 : Int32).toInt64 := ⟨_, rfl⟩
              refine lv_i2l (v := x11) hx hb d_Md_gather_82 ex11.symm ?_
              refine lv_lload hx hb d_Md_gather_83 (lv_at hl 6 rfl) ?_
              refine lv_lmul hx hb d_Md_gather_85 ?_
              refine lv_topl (fun x12 ex12 => ?_)
              refine lv_ladd hx hb d_Md_gather_86 ?_
              refine lv_topl (fun x13 ex13 => ?_)
              refine lv_lneg hx hb d_Md_gather_87 ?_
              refine lv_topl (fun x14 ex14 => ?_)
              refine lv_aload_n hx hb d_Md_gather_88 rfl (lv_at hl 1 rfl) ?_
              refine lv_iload hx hb d_Md_gather_89 (lv_at hl 0 rfl) ?_
              refine lv_iload_n hx hb d_Md_gather_91 rfl (lv_at hl 4 rfl) ?_
              refine hw_calli (hw_runV (n := 2) (own := "QuantifierOutModel") (As := [.int (nI s9), .int (nI j)]) (rest := [.long x14, .ref md]) hx hb hml hown hts hX hW hl.1 (c_Md_of l D cI cJ cZ cN md kd on tw nu le fx fy si de ne it po ma ab be li fr to cd n u2 d2 pz s9 j _ (st 3) M2 w2_md t2_nu (by omega)) w2_md rfl tw_759 tw_761 ts_20 tw_5 tw_762 (by decide +kernel) rfl rfl ⟨by decide, by decide⟩ rfl rfl (Nat.le_of_ble_eq_true rfl) d_Md_gather_92 ⟨by decide, by decide⟩) hW hS hA (fun r4 Mo9 H locs hpo hz hW hS => ?_)
              obtain ⟨er4, eMo9⟩ := hpo
              rw [eMo9] at hW
              obtain ⟨x15, ex15⟩ : ∃ y9 : Int64, y9 = (r4 : Int32).toInt64 := ⟨_, rfl⟩
              refine lv_i2l (v := x15) hx hb d_Md_gather_95 ex15.symm ?_
              refine lv_lload hx hb d_Md_gather_96 (lv_at hl 6 rfl) ?_
              refine lv_lmul hx hb d_Md_gather_98 ?_
              refine lv_topl (fun x16 ex16 => ?_)
              have tx9 : x9.toInt = (st 3 (4 * s9 + o)).toInt := by rw [ex9, nm_i2l, er2]
              have tx11 : x11.toInt = (st 3 (4 * s9 + 2)).toInt := by rw [ex11, nm_i2l, er3]
              have tx15 : x15.toInt = (st 3 (4 * s9 + j)).toInt := by rw [ex15, nm_i2l, er4]
              have m1 := nm_mulb q2 ho2
              have m2 := nm_mulb q3 (show oD.toInt.natAbs ≤ Vd by omega)
              have m3 := nm_mulb q1 (show oD.toInt.natAbs ≤ Vd by omega)
              have tx10 : x10.toInt = (st 3 (4 * s9 + o)).toInt * oU.toInt := by rw [ex10, nm_lmul (by rw [tx9]; omega), tx9]
              have tx12 : x12.toInt = (st 3 (4 * s9 + 2)).toInt * oD.toInt := by rw [ex12, nm_lmul (by rw [tx11]; omega), tx11]
              have tx13 : x13.toInt = (st 3 (4 * s9 + o)).toInt * oU.toInt + (st 3 (4 * s9 + 2)).toInt * oD.toInt := by rw [ex13, nm_ladd (by rw [tx10, tx12]; omega), tx10, tx12]
              have tX : x14.toInt = -((st 3 (4 * s9 + o)).toInt * oU.toInt + (st 3 (4 * s9 + 2)).toInt * oD.toInt) := by rw [ex14, nm_lneg (by rw [tx13]; omega), tx13]
              have tY : x16.toInt = (st 3 (4 * s9 + j)).toInt * oD.toInt := by rw [ex16, nm_lmul (by rw [tx15]; omega), tx15]
              have hY0 : x16.toInt ≠ 0 := by rw [tY]; intro z9; rcases Int.mul_eq_zero.mp z9 with z8 | z8; exact c_58 (by rw [er1]; exact Int32.toInt_inj.mp z8); omega
              have hn2 := hgo.2.1
              refine hw_callv (hw_runV (n := 2) (own := "QuantifierOutModel") (As := [.long x14, .long x16]) (rest := []) hx hb hml hown hts hX hW hl.1 (c_Md_lowest l D cI cJ cZ cN md kd on tw nu le fx fy si de ne it po ma ab be li fr to cd n u2 d2 pz _ M2 hK2.1 x14 x16 hY0 (by rw [tX]; omega) (by rw [tY]; omega)) hK2.1 rfl tw_771 tw_773 ts_23 tw_5 tw_774 (by decide +kernel) rfl rfl ⟨by decide, by decide⟩ rfl rfl (Nat.le_of_ble_eq_true rfl) d_Md_gather_99 ⟨by decide, by decide⟩) hW hS hA (fun Mlf H locs hpl hz hW hS => ?_)
              obtain ⟨uf, df, huf, hdf, eMlf⟩ := hpl
              have hflf : ∀ x9, x9 ≠ md → Mlf x9 = M2 x9 := fun x9 z9 => by rw [eMlf, va_up_ne _ _ z9]
              have hKlf : md_W cI cJ cZ md kd on tw nu le fx fy si de ne it po ma ab be li fr to Mlf cd n uf df pz NE2 IT PO (upd MA lv (nI n1)) A2 B2 := ⟨by rw [eMlf]; exact va_up_self _ _ _, (hflf ne (Ne.symm (show md ≠ ne from hD 0 10 (by decide) (by decide)))).trans hK2.2.1, (hflf it (Ne.symm (show md ≠ it from hD 0 11 (by decide) (by decide)))).trans hK2.2.2.1, (hflf po (Ne.symm (show md ≠ po from hD 0 12 (by decide) (by decide)))).trans hK2.2.2.2.1, (hflf ma (Ne.symm (show md ≠ ma from hD 0 13 (by decide) (by decide)))).trans hK2.2.2.2.2.1, (hflf ab (Ne.symm (show md ≠ ab from hD 0 14 (by decide) (by decide)))).trans hK2.2.2.2.2.2.1, (hflf be (Ne.symm (show md ≠ be from hD 0 15 (by decide) (by decide)))).trans hK2.2.2.2.2.2.2⟩
              obtain ⟨b1, b2⟩ := fr_bd (a := x14.toInt) hY0
              refine lv_aload_n hx hb d_Md_gather_102 rfl (lv_at hl 1 rfl) ?_
              refine lv_iload_n hx hb d_Md_gather_103 rfl (lv_at hl 2 rfl) ?_
              refine hw_callv (hw_runV (n := 1) (own := "QuantifierOutModel") (As := [.int (nI lv)]) (rest := []) hx hb hml hown hts hX hW hl.1 (c_Md_keep l D cI cJ cZ cN md kd on tw nu le fx fy si de ne it po ma ab be li fr to cd n uf df pz NE2 IT PO (upd MA lv (nI n1)) A2 B2 lv n1 N Dn _ _ Mlf hD hKlf hlv pk_us (by omega) hgo.1 hB huf hdf (by rw [huf]; have h8 : x14.toInt.natAbs ≤ N := by { rw [tX]; omega }; omega) (by rw [hdf]; have h8 : x16.toInt.natAbs ≤ Dn := by { rw [tY]; omega }; omega)) hKlf.1 rfl tw_775 tw_777 ts_24 tw_5 tw_778 (by decide +kernel) rfl rfl ⟨by decide, by decide⟩ rfl rfl (Nat.le_of_ble_eq_true rfl) d_Md_gather_104 ⟨by decide, by decide⟩) hW hS hA (fun Mkf H locs hpk hz hW hS => ?_)
              obtain ⟨n3, A3, B3, hkp, hK3, hfk⟩ := hpk
              rw [upd_upd] at hK3
              have hf3 : ∀ x9, x9 ≠ md → x9 ≠ ne → x9 ≠ it → x9 ≠ po → x9 ≠ ma → x9 ≠ ab → x9 ≠ be → Mkf x9 = M x9 := fun x9 z0 z1 z2 z3 z4 z5 z6 => ((hfk x9 z0 z1 z2 z3 z4 z5 z6).trans (hflf x9 z0)).trans (hf2 x9 z0 z1 z2 z3 z4 z5 z6)
              obtain ⟨hkq, hk1, hkh⟩ := kp_kq hkp
              have hout3 : ∀ i, (i < 64 * lv ∨ 64 * lv + 64 ≤ i) → A3 i = AB i ∧ B3 i = BE i := fun i hi => ⟨(hkq.2.2.2 i hi).1.trans (hout2 i hi).1, (hkq.2.2.2 i hi).2.trans (hout2 i hi).2⟩
              rw [tX, tY] at hkh
              refine lv_iconst (v := 0) hx hb d_Md_gather_107 (by decide) ?_
              refine lv_istore (lv' := [(9, .int 0), (8, .int (nI s9)), (0, .ref md), (1, .int (nI lv)), (2, .int (nI p0)), (3, .int (nI j)), (4, .long oU), (6, .long oD)]) hx hb d_Md_gather_108 hl (by decide) rfl (fun ls hl => ?_)
              exact inner s9 0 (by omega) H locs Mkf n3 uf df A3 B3 ls hW hS hK3 hf3 hout3 (gs_ON hgo hkq hk1 (fun _ => hkh)) (lv_sub hl [0, 1, 2, 3, 4, 5, 6, 7] rfl)
          · skip
            refine lv_goto (tgt := 223) hx hb d_Md_gather_48 (by decide) ?_
            exact next H locs M2 n1 u2 d2 A2 B2 ls hW hS hK2 hf2 hout2 (gs_skip hgo (fun z9 => c_45 z9.2)) (lv_sub hl [0, 1, 2, 3, 4, 5, 6] rfl)
  refine lv_iconst (v := 0) hx hb d_Md_gather_15 (by decide) ?_
  refine lv_istore (lv' := [(8, .int 0), (0, .ref md), (1, .int (nI lv)), (2, .int (nI p0)), (3, .int (nI j)), (4, .long oU), (6, .long oD)]) hx hb d_Md_gather_16 hl (by decide) rfl (fun ls hl => ?_)
  have hr0 : kr (kf (64 * lv) AB) (kf (64 * lv) BE) 0 N Dn := ⟨fun i hi => absurd hi (Nat.not_lt_zero i), fun i j _ hj => absurd hj (Nat.not_lt_zero j)⟩
  exact outer (p0 + 1) 0 (by omega) _ _ Mm 0 up dn AB BE ls hW hS hKm hfm0 (fun _ _ => ⟨rfl, rfl⟩) ⟨hr0, Nat.zero_le _, fun t ht => absurd ht (Nat.not_lt_zero t), fun _ t r ht => absurd ht (Nat.not_lt_zero t)⟩ (lv_sub hl [0, 1, 2, 3, 4, 5, 6] rfl)
end G42

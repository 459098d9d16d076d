/-! The reference: truth at a point -/
/-- what is left alone: needed and isTrue from a on, points and marks above the level -/
def tk (a lv : Nat) (NE IT : Nat → Int32) (PO : Nat → Int64) (MA : Nat → Int32) (AB BE : Nat → Int64) (NE2 IT2 : Nat → Int32) (PO2 : Nat → Int64) (MA2 : Nat → Int32) (AB2 BE2 : Nat → Int64) : Prop := (∀ i, a ≤ i → i < 180 → NE2 i = NE i) ∧ (∀ i, a ≤ i → IT2 i = IT i) ∧ (∀ i, 4 * lv ≤ i → PO2 i = PO i) ∧ (∀ i, lv < i → MA2 i = MA i) ∧ ∀ i, 64 * (lv + 1) ≤ i → AB2 i = AB i ∧ BE2 i = BE i
theorem tk_rf {a lv : Nat} {NE IT : Nat → Int32} {PO : Nat → Int64} {MA : Nat → Int32} {AB BE : Nat → Int64} : tk a lv NE IT PO MA AB BE NE IT PO MA AB BE := ⟨fun _ _ _ => rfl, fun _ _ => rfl, fun _ _ => rfl, fun _ _ => rfl, fun _ _ => ⟨rfl, rfl⟩⟩
theorem tk_tr {a b c lv k m : Nat} {NE IT : Nat → Int32} {PO : Nat → Int64} {MA : Nat → Int32} {AB BE : Nat → Int64} {NE2 IT2 : Nat → Int32} {PO2 : Nat → Int64} {MA2 : Nat → Int32} {AB2 BE2 : Nat → Int64} {NE3 IT3 : Nat → Int32} {PO3 : Nat → Int64} {MA3 : Nat → Int32} {AB3 BE3 : Nat → Int64} (h : tk a lv NE IT PO MA AB BE NE2 IT2 PO2 MA2 AB2 BE2) (g : tk b k NE2 IT2 PO2 MA2 AB2 BE2 NE3 IT3 PO3 MA3 AB3 BE3) (h1 : a ≤ c) (h2 : b ≤ c) (h3 : lv ≤ m) (h4 : k ≤ m) : tk c m NE IT PO MA AB BE NE3 IT3 PO3 MA3 AB3 BE3 :=
  ⟨fun i x y => (g.1 i (by omega) y).trans (h.1 i (by omega) y), fun i x => (g.2.1 i (by omega)).trans (h.2.1 i (by omega)), fun i x => (g.2.2.1 i (by omega)).trans (h.2.2.1 i (by omega)), fun i x => (g.2.2.2.1 i (by omega)).trans (h.2.2.2.1 i (by omega)), fun i x => ⟨(g.2.2.2.2 i (by omega)).1.trans (h.2.2.2.2 i (by omega)).1, (g.2.2.2.2 i (by omega)).2.trans (h.2.2.2.2 i (by omega)).2⟩⟩
/-- isTrue has the truth of the node t at the level's point -/
def tv (mt : Nat → Option nq) (IT : Nat → Int32) (PO : Nat → Int64) (lv t : Nat) : Prop := ∀ q, mt t = some q → it_b (IT (60 * lv + t)) (nP q (pX PO lv) (pY PO lv))
def nc_in (q : nq) (a : Nat) : Prop := match nK q with
  | .inl _ => False
  | .inr (.inl (x, y, _)) => a = x ∨ a = y
  | .inr (.inr (.inl x)) => a = x
  | .inr (.inr (.inr (_, x, _))) => a = x
def nk_q (k : nk) : Prop := match k with
  | .inr (.inr (.inr _)) => True
  | _ => False
theorem tq_P {P P1 : Rat → Rat → Prop} {j : Nat} {kk : Bool} (h : ∀ x y, P x y ↔ if kk = true then (if j = 0 then ∀ u, P1 u y else ∀ u, P1 x u) else (if j = 0 then ∃ u, P1 u y else ∃ u, P1 x u)) (x y : Rat) : P x y ↔ if kk = true then ∀ u, nP_j j P1 u (if j = 0 then y else x) else ∃ u, nP_j j P1 u (if j = 0 then y else x) := by
  rw [h x y]
  unfold nP_j
  by_cases e : j = 0
  · simp only [if_pos e]
  · simp only [if_neg e]
theorem mt_lt {n : Nat} {mt : Nat → Option nq} {st : Nat → Nat → Int32} (hM : mt_ok n mt st) {a : Nat} {q : nq} (h : mt a = some q) : a < n := (hM.2.2 a q h).1
theorem quant_d {n : Nat} {mt : Nat → Option nq} {st : Nat → Nat → Int32} (hM : mt_ok n mt st) {s : Nat} {q : nq} (hq : mt s = some q) {j a : Nat} {kk : Bool} (hK : nK q = .inr (.inr (.inr (j, a, kk)))) (hd : nd q ≤ 0) : False := by
  have h := (hM.2.2 s q hq).2.2.1.1
  unfold nk_ok at h
  rw [hK] at h
  obtain ⟨q1, -, -, -, h3, -⟩ := h
  omega
section G43
variable (l : Launch) (D : va_G) (cI cJ cZ cN : ClassId) (md kd on tw nu le fx fy si de ne it po ma ab be li fr to : Nat)
set_option maxHeartbeats 4000000 in
set_option maxRecDepth 100000 in
theorem c_Md_plain (cd : Int32) (n : Nat) (up dn : Int64) (pz : Int32) (NE IT : Nat → Int32) (PO : Nat → Int64) (MA : Nat → Int32) (AB BE : Nat → Int64) (lv s9 cx cy sz : Nat) (q : nq) (mt : Nat → Option nq) (st : Nat → Nat → Int32) (M : Nat → Option va_E) (hK : md_W cI cJ cZ md kd on tw nu le fx fy si de ne it po ma ab be li fr to M cd n up dn pz NE IT PO MA AB BE) (hT : md_T cI cZ kd on tw nu le fx fy si de M st) (hM : mt_ok n mt st) (hq : mt s9 = some q) (hnq : ¬ nk_q (nK q)) (hlv : lv < 3) (hpt : pt_b PO lv cx cy) (hcc : 1 ≤ cx + cy) (hch : ∀ a, nc_in q a → tv mt IT PO lv a) : Met l y_Md_plain (.code y_Md_plain b_Md_plain 4 (some .boolean) :: ww) ({ frames := 2, cells := 0, slots := 0, locals := 80 }) (hw_Pc D qcl (qty cI cJ cZ cN) [.ref md, .int (nI lv), .int (nI s9)] M sz) (va_Qi (fun r M1 => it_b r (nP q (pX PO lv) (pY PO lv)) ∧ M1 = M) (hw_B D qcl (qty cI cJ cZ cN) M sz) (hw_A M sz)) 0 0 (hw_A M sz) := by
  have hn := hM.1
  obtain ⟨hsn, hrk, hmo, _, _, _, _, ck⟩ := hM.2.2 s9 q hq
  have hnk := hmo.1
  unfold nk_ok at hnk; unfold mt_k at ck
  refine hw_met (by decide) (Nat.le_of_ble_eq_true rfl) ?_
  intro p e s m below meth c hx hb hr hml hown hlocks hnm hts hsz hX hW ls hl
  subst hsz
  have hA : ∀ q, s.heap.size ≤ q → hw_A M s.heap.size q := fun q h => Or.inr h
  have hS : va_S (hw_A M s.heap.size) s.heap s.heap [] := va_S.rf
  have hl : lv_has ls 4 [(0, .ref md), (1, .int (nI lv)), (2, .int (nI s9))] := hl
  have hown : s.vm.findClass "QuantifierOutModel" = some m.cls := hown
  have w_md := hK.1
  have w_md : M md = some (.inr (8, [.int cd, .int (nI n), .ref kd, .ref on, .ref tw, .ref nu, .ref le, .ref fx, .ref fy, .ref si, .ref de, .ref ne, .ref it, .ref po, .ref ma, .ref ab, .ref be, .long up, .long dn, .ref li, .int pz, .ref fr, .ref to])) := w_md
  have w_it := hK.2.2.1
  have w_it : M it = some (.inl (cZ, 180, .inl IT)) := w_it
  have t_kd : M kd = some (.inl (cI, 60, .inl (st 0))) := hT.1
  have t_on : M on = some (.inl (cI, 60, .inl (st 1))) := hT.2.1
  have t_tw : M tw = some (.inl (cI, 60, .inl (st 2))) := hT.2.2.1
  have t_nu : M nu = some (.inl (cI, 240, .inl (st 3))) := hT.2.2.2.1
  refine lv_bipush (v := 60) hx hb d_Md_plain_0 (by decide) ?_
  refine lv_iload_n hx hb d_Md_plain_2 rfl (lv_at hl 1 rfl) ?_
  refine lv_imul hx hb d_Md_plain_3 ?_
  refine lv_topi (fun x1 ex1 => ?_)
  refine lv_istore_n (lv' := [(3, .int x1), (0, .ref md), (1, .int (nI lv)), (2, .int (nI s9))]) hx hb d_Md_plain_4 rfl hl (by decide) rfl (fun ls hl => ?_)
  refine lv_aload_n hx hb d_Md_plain_5 rfl (lv_at hl 1 rfl) ?_
  refine hw_get (own := "QuantifierOutModel") (v := .ref kd) hx hb hts i_Md hown hW w_md rfl 2 (by decide) (hts _ tw_605) (fun _ h9 => h9) rfl d_Md_plain_6 ?_
  refine lv_iload_n hx hb d_Md_plain_9 rfl (lv_at hl 3 rfl) ?_
  refine hw_ild hx hb hW 0 t_kd rfl s9 rfl (by omega) (by decide) d_Md_plain_10 ?_
  have e60 : x1 = nI (60 * lv) := by rw [ex1]; exact pk_mul 60 lv
  rcases hKK : nK q with op | ⟨a, b, kk⟩ | a | ⟨j, a, kk⟩
  · skip
    rw [hKK] at ck hnk
    obtain ⟨l9, e9, hP, ho3, _⟩ := hnk
    obtain ⟨k0, k1, k2⟩ := ck
    obtain ⟨z1, z2, z3⟩ := k1 l9 e9
    have z4 := hmo.2.2.2.2.1 l9 (by rw [e9]; exact List.mem_singleton.mpr rfl)
    rw [k0]
    refine lv_tableIn (off := 25) (tgt := 36) hx hb d_Md_plain_11 (by decide) (by decide) (by decide) (by decide) ?_
    refine lv_aload_n hx hb d_Md_plain_36 rfl (lv_at hl 1 rfl) ?_
    refine lv_iload_n hx hb d_Md_plain_37 rfl (lv_at hl 2 rfl) ?_
    refine lv_iload_n hx hb d_Md_plain_38 rfl (lv_at hl 3 rfl) ?_
    refine hw_calli (hw_runV (n := 2) (own := "QuantifierOutModel") (As := [.int (nI lv), .int (nI s9)]) (rest := []) hx hb hml hown hts hX hW hl.1 (c_Md_atomAt l D cI cJ cZ cN md kd on tw nu le fx fy si de ne it po ma ab be li fr to cd n up dn pz NE IT PO MA AB BE lv s9 op cx cy _ st M hK hT hlv (by omega) ho3 k2 (fun i hi => by rcases (show i = 0 ∨ i = 1 ∨ i = 2 by omega) with rfl | rfl | rfl; rw [Nat.add_zero, z1]; exact z4.1; rw [z2]; exact z4.2.1; rw [z3]; exact z4.2.2) hpt hcc) hK.1 rfl tw_755 tw_757 ts_19 tw_5 tw_758 (by decide +kernel) rfl rfl ⟨by decide, by decide⟩ rfl rfl (Nat.le_of_ble_eq_true rfl) d_Md_plain_39 ⟨by decide, by decide⟩) hW hS hA (fun ra Ma H locs hpa hz hW hS => ?_)
    obtain ⟨hra, eMa⟩ := hpa
    rw [eMa] at hW
    rw [z1, z2, z3] at hra
    have hr01 : ra = 0 ∨ ra = 1 := by rcases hra with ⟨z, _⟩ | ⟨z, _⟩; exact Or.inr z; exact Or.inl z
    refine hw_retz hx hb hr (nar01 hr01) hlocks hW hS ⟨?_, rfl⟩ d_Md_plain_42
    rcases hra with ⟨z8, z9⟩ | ⟨z8, z9⟩
    · exact Or.inl ⟨z8, (hP _ _).mpr z9⟩
    · exact Or.inr ⟨z8, fun z => z9 ((hP _ _).mp z)⟩
  · skip
    rw [hKK] at ck hnk
    obtain ⟨q1, q2, u1, u2, u3, u4, u5, u6, u7⟩ := hnk
    obtain ⟨k0, k1, k2⟩ := ck
    have la := mt_lt hM u1
    have lb := mt_lt hM u2
    have hin : ∀ c, (c = a ∨ c = b) → nc_in q c := fun c hc => by unfold nc_in; rw [hKK]; exact hc
    have ta := hch a (hin a (Or.inl rfl)) q1 u1
    have tb := hch b (hin b (Or.inr rfl)) q2 u2
    rw [k0]
    cases kk
    · skip
      have u7 : ∀ x y, nP q x y ↔ nP q1 x y ∨ nP q2 x y := u7
      refine lv_tableIn (off := 70) (tgt := 81) hx hb d_Md_plain_11 (by decide) (by decide) (by decide) (by decide) ?_
      refine lv_aload_n hx hb d_Md_plain_81 rfl (lv_at hl 1 rfl) ?_
      refine hw_get (own := "QuantifierOutModel") (v := .ref it) hx hb hts i_Md hown hW w_md rfl 12 (by decide) (hts _ tw_615) (fun _ h9 => h9) rfl d_Md_plain_82 ?_
      refine lv_iload_n hx hb d_Md_plain_85 rfl (lv_at hl 0 rfl) ?_
      refine lv_aload_n hx hb d_Md_plain_86 rfl (lv_at hl 1 rfl) ?_
      refine hw_get (own := "QuantifierOutModel") (v := .ref on) hx hb hts i_Md hown hW w_md rfl 3 (by decide) (hts _ tw_606) (fun _ h9 => h9) rfl d_Md_plain_87 ?_
      refine lv_iload_n hx hb d_Md_plain_90 rfl (lv_at hl 3 rfl) ?_
      refine hw_ild hx hb hW 0 t_on rfl s9 rfl (by omega) (by decide) d_Md_plain_91 ?_
      rw [k1]
      refine lv_iadd hx hb d_Md_plain_92 ?_
      refine lv_topi (fun x2 ex2 => ?_)
      have eix2 : x2 = nI (60 * lv + a) := by rw [ex2, e60]; exact nI_add _ _
      refine hw_zld hx hb hW 2 w_it rfl (60 * lv + a) eix2 (by omega) (by decide) d_Md_plain_93 ?_
      refine lv_if_ne (tgt := 113) hx hb d_Md_plain_94 (by decide) (fun c_94 => ?_) (fun c_94 => ?_)
      · skip
        refine lv_iconst (v := 1) hx hb d_Md_plain_113 (by decide) ?_
        refine lv_goto (tgt := 118) hx hb d_Md_plain_114 (by decide) ?_
        exact hw_retz hx hb hr rfl hlocks hW hS ⟨Or.inl ⟨rfl, (u7 _ _).mpr (Or.inl (it_b1 ta c_94))⟩, rfl⟩ d_Md_plain_118
      · skip
        refine lv_aload_n hx hb d_Md_plain_97 rfl (lv_at hl 1 rfl) ?_
        refine hw_get (own := "QuantifierOutModel") (v := .ref it) hx hb hts i_Md hown hW w_md rfl 12 (by decide) (hts _ tw_615) (fun _ h9 => h9) rfl d_Md_plain_98 ?_
        refine lv_iload_n hx hb d_Md_plain_101 rfl (lv_at hl 0 rfl) ?_
        refine lv_aload_n hx hb d_Md_plain_102 rfl (lv_at hl 1 rfl) ?_
        refine hw_get (own := "QuantifierOutModel") (v := .ref tw) hx hb hts i_Md hown hW w_md rfl 4 (by decide) (hts _ tw_607) (fun _ h9 => h9) rfl d_Md_plain_103 ?_
        refine lv_iload_n hx hb d_Md_plain_106 rfl (lv_at hl 3 rfl) ?_
        refine hw_ild hx hb hW 0 t_tw rfl s9 rfl (by omega) (by decide) d_Md_plain_107 ?_
        rw [k2]
        refine lv_iadd hx hb d_Md_plain_108 ?_
        refine lv_topi (fun x3 ex3 => ?_)
        have eix3 : x3 = nI (60 * lv + b) := by rw [ex3, e60]; exact nI_add _ _
        refine hw_zld hx hb hW 2 w_it rfl (60 * lv + b) eix3 (by omega) (by decide) d_Md_plain_109 ?_
        refine lv_if_eq (tgt := 117) hx hb d_Md_plain_110 (by decide) (fun c_110 => ?_) (fun c_110 => ?_)
        · skip
          refine lv_iconst (v := 0) hx hb d_Md_plain_117 (by decide) ?_
          exact hw_retz hx hb hr rfl hlocks hW hS ⟨Or.inr ⟨rfl, fun z9 => ((u7 _ _).mp z9).elim (it_b0 ta c_94) (it_b0 tb c_110)⟩, rfl⟩ d_Md_plain_118
        · skip
          refine lv_iconst (v := 1) hx hb d_Md_plain_113 (by decide) ?_
          refine lv_goto (tgt := 118) hx hb d_Md_plain_114 (by decide) ?_
          exact hw_retz hx hb hr rfl hlocks hW hS ⟨Or.inl ⟨rfl, (u7 _ _).mpr (Or.inr (it_b1 tb c_110))⟩, rfl⟩ d_Md_plain_118
    · skip
      have u7 : ∀ x y, nP q x y ↔ nP q1 x y ∧ nP q2 x y := u7
      refine lv_tableIn (off := 32) (tgt := 43) hx hb d_Md_plain_11 (by decide) (by decide) (by decide) (by decide) ?_
      refine lv_aload_n hx hb d_Md_plain_43 rfl (lv_at hl 1 rfl) ?_
      refine hw_get (own := "QuantifierOutModel") (v := .ref it) hx hb hts i_Md hown hW w_md rfl 12 (by decide) (hts _ tw_615) (fun _ h9 => h9) rfl d_Md_plain_44 ?_
      refine lv_iload_n hx hb d_Md_plain_47 rfl (lv_at hl 0 rfl) ?_
      refine lv_aload_n hx hb d_Md_plain_48 rfl (lv_at hl 1 rfl) ?_
      refine hw_get (own := "QuantifierOutModel") (v := .ref on) hx hb hts i_Md hown hW w_md rfl 3 (by decide) (hts _ tw_606) (fun _ h9 => h9) rfl d_Md_plain_49 ?_
      refine lv_iload_n hx hb d_Md_plain_52 rfl (lv_at hl 3 rfl) ?_
      refine hw_ild hx hb hW 0 t_on rfl s9 rfl (by omega) (by decide) d_Md_plain_53 ?_
      rw [k1]
      refine lv_iadd hx hb d_Md_plain_54 ?_
      refine lv_topi (fun x4 ex4 => ?_)
      have eix4 : x4 = nI (60 * lv + a) := by rw [ex4, e60]; exact nI_add _ _
      refine hw_zld hx hb hW 2 w_it rfl (60 * lv + a) eix4 (by omega) (by decide) d_Md_plain_55 ?_
      refine lv_if_eq (tgt := 79) hx hb d_Md_plain_56 (by decide) (fun c_56 => ?_) (fun c_56 => ?_)
      · skip
        refine lv_iconst (v := 0) hx hb d_Md_plain_79 (by decide) ?_
        exact hw_retz hx hb hr rfl hlocks hW hS ⟨Or.inr ⟨rfl, fun z9 => it_b0 ta c_56 ((u7 _ _).mp z9).1⟩, rfl⟩ d_Md_plain_80
      · skip
        refine lv_aload_n hx hb d_Md_plain_59 rfl (lv_at hl 1 rfl) ?_
        refine hw_get (own := "QuantifierOutModel") (v := .ref it) hx hb hts i_Md hown hW w_md rfl 12 (by decide) (hts _ tw_615) (fun _ h9 => h9) rfl d_Md_plain_60 ?_
        refine lv_iload_n hx hb d_Md_plain_63 rfl (lv_at hl 0 rfl) ?_
        refine lv_aload_n hx hb d_Md_plain_64 rfl (lv_at hl 1 rfl) ?_
        refine hw_get (own := "QuantifierOutModel") (v := .ref tw) hx hb hts i_Md hown hW w_md rfl 4 (by decide) (hts _ tw_607) (fun _ h9 => h9) rfl d_Md_plain_65 ?_
        refine lv_iload_n hx hb d_Md_plain_68 rfl (lv_at hl 3 rfl) ?_
        refine hw_ild hx hb hW 0 t_tw rfl s9 rfl (by omega) (by decide) d_Md_plain_69 ?_
        rw [k2]
        refine lv_iadd hx hb d_Md_plain_70 ?_
        refine lv_topi (fun x5 ex5 => ?_)
        have eix5 : x5 = nI (60 * lv + b) := by rw [ex5, e60]; exact nI_add _ _
        refine hw_zld hx hb hW 2 w_it rfl (60 * lv + b) eix5 (by omega) (by decide) d_Md_plain_71 ?_
        refine lv_if_eq (tgt := 79) hx hb d_Md_plain_72 (by decide) (fun c_72 => ?_) (fun c_72 => ?_)
        · skip
          refine lv_iconst (v := 0) hx hb d_Md_plain_79 (by decide) ?_
          exact hw_retz hx hb hr rfl hlocks hW hS ⟨Or.inr ⟨rfl, fun z9 => it_b0 tb c_72 ((u7 _ _).mp z9).2⟩, rfl⟩ d_Md_plain_80
        · skip
          refine lv_iconst (v := 1) hx hb d_Md_plain_75 (by decide) ?_
          refine lv_goto (tgt := 80) hx hb d_Md_plain_76 (by decide) ?_
          exact hw_retz hx hb hr rfl hlocks hW hS ⟨Or.inl ⟨rfl, (u7 _ _).mpr ⟨it_b1 ta c_56, it_b1 tb c_72⟩⟩, rfl⟩ d_Md_plain_80
  · skip
    rw [hKK] at ck hnk
    obtain ⟨q1, u1, u2, u3, u4, u5, _⟩ := hnk
    obtain ⟨k0, k1, k2⟩ := ck
    have la := mt_lt hM u1
    have ta := hch a (by unfold nc_in; rw [hKK]) q1 u1
    rw [k0]
    refine lv_tableOut (tgt := 119) hx hb d_Md_plain_11 (by decide) (by decide) ?_
    refine lv_aload_n hx hb d_Md_plain_119 rfl (lv_at hl 1 rfl) ?_
    refine hw_get (own := "QuantifierOutModel") (v := .ref it) hx hb hts i_Md hown hW w_md rfl 12 (by decide) (hts _ tw_615) (fun _ h9 => h9) rfl d_Md_plain_120 ?_
    refine lv_iload_n hx hb d_Md_plain_123 rfl (lv_at hl 0 rfl) ?_
    refine lv_aload_n hx hb d_Md_plain_124 rfl (lv_at hl 1 rfl) ?_
    refine hw_get (own := "QuantifierOutModel") (v := .ref on) hx hb hts i_Md hown hW w_md rfl 3 (by decide) (hts _ tw_606) (fun _ h9 => h9) rfl d_Md_plain_125 ?_
    refine lv_iload_n hx hb d_Md_plain_128 rfl (lv_at hl 3 rfl) ?_
    refine hw_ild hx hb hW 0 t_on rfl s9 rfl (by omega) (by decide) d_Md_plain_129 ?_
    rw [k1]
    refine lv_iadd hx hb d_Md_plain_130 ?_
    refine lv_topi (fun x6 ex6 => ?_)
    have eix6 : x6 = nI (60 * lv + a) := by rw [ex6, e60]; exact nI_add _ _
    refine hw_zld hx hb hW 2 w_it rfl (60 * lv + a) eix6 (by omega) (by decide) d_Md_plain_131 ?_
    refine lv_if_ne (tgt := 139) hx hb d_Md_plain_132 (by decide) (fun c_132 => ?_) (fun c_132 => ?_)
    · skip
      refine lv_iconst (v := 0) hx hb d_Md_plain_139 (by decide) ?_
      exact hw_retz hx hb hr rfl hlocks hW hS ⟨Or.inr ⟨rfl, fun z9 => (u5 _ _).mp z9 (it_b1 ta c_132)⟩, rfl⟩ d_Md_plain_140
    · skip
      refine lv_iconst (v := 1) hx hb d_Md_plain_135 (by decide) ?_
      refine lv_goto (tgt := 140) hx hb d_Md_plain_136 (by decide) ?_
      exact hw_retz hx hb hr rfl hlocks hW hS ⟨Or.inl ⟨rfl, (u5 _ _).mpr (it_b0 ta c_132)⟩, rfl⟩ d_Md_plain_140
  · exact absurd (by rw [hKK]; trivial) hnq
end G43

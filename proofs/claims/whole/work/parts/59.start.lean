/-! The law's loop, and its start -/
section G59
variable {p : Program} {l : Launch} {e : Env} {s : State} {m : MethodId} {below : List Frame} {meth : Method} {c : Code} {b L : Nat} {xs : Nat → Int32} {D : va_G} {cI cJ cZ cN : ClassId} {h0 na v va vb om oa ob im ia ib ro mk ka kb fa la : Nat} {md kd on tw nu le fx fy si de ne it po ma ab be li fr to : Nat} {ou : Nat}
set_option maxHeartbeats 4000000 in
set_option maxRecDepth 100000 in
theorem lw_loop (hC : lw_C p l s m meth c b L xs) (hD : md_D md kd on tw nu le fx fy si de ne it po ma ab be li fr to) (ho : ∀ i, i < 19 → ou ≠ md_a md kd on tw nu le fx fy si de ne it po ma ab be li fr to i) : ∀ (z t : Nat), t + z = 513 → ∀ (M : Nat → Option va_E) (H : Heap) (locs : List Loc) (ls : Array Slot), lw_S cI cJ cZ cN D h0 na v va vb om oa ob im ia ib ro mk ka kb fa la md kd on tw nu le fx fy si de ne it po ma ab be li fr to ou s M H locs → lv_has ls 8 [(4, .int (nI (5 * t))), (3, .ref ou), (2, .ref md), (1, .ref h0), (0, .ref b)] → W p l e room_1 s m #[Value.ref b] below meth c H locs (40 + 5 * t) (2100 + 43 * t) (lw_Z below #[Value.ref b] s) (F0 m 23 ls []) := by
  obtain ⟨hx, hb, hr, hml, hown, hts, hXs, hbl, hlocks, hX, hZ, hN, hl0, hL9⟩ := id hC
  have hbA : ¬ lw_Aq s b := fun h => absurd hbl (Nat.not_lt.mpr h)
  intro z
  induction z with
  | zero =>
    intro t hz9 M H locs ls hs hl
    obtain ⟨hW, hS, hst⟩ := id hs
    refine lv_iload hx hb d_Lw_law_23 (lv_at hl 0 rfl) ?_
    refine lv_aload_n hx hb d_Lw_law_25 rfl (lv_at hl 4 rfl) ?_
    refine va_slen hx hb hXs hbl hbA hS d_Lw_law_26 ?_
    refine W.eq (g2 := F0 m 27 ls [.int (nI L), .int (nI (5 * t))]) rfl ?_
    refine lv_iconst (v := 5) hx hb d_Lw_law_27 (by decide) ?_
    refine lv_isub hx hb d_Lw_law_28 ?_
    refine lv_topi (fun x1 ex1 => ?_)
    have tx : x1.toInt = (L : Int) - 5 := by rw [ex1, nm_isub (by rw [nI_toInt (by omega)]; have : (5 : Int32).toInt = 5 := rfl; omega), nI_toInt (by omega)]; rfl
    have t5 : (nI (5 * t)).toInt = ((5 * t : Nat) : Int) := nI_toInt (by omega)
    refine lv_icmp_gt (tgt := 983) hx hb d_Lw_law_29 (by decide) (fun c_29 => ?_) (fun c_29 => ?_)
    · skip
      refine lv_iconst (v := 1) hx hb d_Lw_law_983 (by decide) ?_
      exact lw_fin hx hb hr hlocks hS (by omega) (by omega) d_Lw_law_984
    · skip
      have ht : 5 * t + 5 ≤ L := by rw [nm_ilt, tx, t5] at c_29; omega
      exact absurd ht (by omega)
  | succ z ihz =>
    intro t hz9 M H locs ls hs hl
    obtain ⟨hW, hS, hst⟩ := id hs
    refine lv_iload hx hb d_Lw_law_23 (lv_at hl 0 rfl) ?_
    refine lv_aload_n hx hb d_Lw_law_25 rfl (lv_at hl 4 rfl) ?_
    refine va_slen hx hb hXs hbl hbA hS d_Lw_law_26 ?_
    refine W.eq (g2 := F0 m 27 ls [.int (nI L), .int (nI (5 * t))]) rfl ?_
    refine lv_iconst (v := 5) hx hb d_Lw_law_27 (by decide) ?_
    refine lv_isub hx hb d_Lw_law_28 ?_
    refine lv_topi (fun x2 ex2 => ?_)
    have tx : x2.toInt = (L : Int) - 5 := by rw [ex2, nm_isub (by rw [nI_toInt (by omega)]; have : (5 : Int32).toInt = 5 := rfl; omega), nI_toInt (by omega)]; rfl
    have t5 : (nI (5 * t)).toInt = ((5 * t : Nat) : Int) := nI_toInt (by omega)
    refine lv_icmp_gt (tgt := 983) hx hb d_Lw_law_29 (by decide) (fun c_29 => ?_) (fun c_29 => ?_)
    · skip
      refine lv_iconst (v := 1) hx hb d_Lw_law_983 (by decide) ?_
      exact lw_fin hx hb hr hlocks hS (by omega) (by omega) d_Lw_law_984
    · skip
      have ht : 5 * t + 5 ≤ L := by rw [nm_ilt, tx, t5] at c_29; omega
      have next : ∀ (M : Nat → Option va_E) (H : Heap) (locs : List Loc) (ls : Array Slot), lw_S cI cJ cZ cN D h0 na v va vb om oa ob im ia ib ro mk ka kb fa la md kd on tw nu le fx fy si de ne it po ma ab be li fr to ou s M H locs → lv_has ls 8 [(4, .int (nI (5 * t))), (3, .ref ou), (2, .ref md), (1, .ref h0), (0, .ref b)] → W p l e room_1 s m #[Value.ref b] below meth c H locs (40 + 5 * t + 5) (2100 + 43 * t + 43) (lw_Z below #[Value.ref b] s) (F0 m 977 ls []) := by
        intro M H locs ls hs hl
        obtain ⟨k9, ek9⟩ : ∃ y9 : Int32, y9 = (nI (5 * t)) + Int32.ofInt (5) := ⟨_, rfl⟩
        refine lv_iinc (v := k9) (lv' := [(4, .int k9), (3, .ref ou), (2, .ref md), (1, .ref h0), (0, .ref b)]) hx hb d_Lw_law_977 hl (k := 0) rfl ek9.symm (by decide) rfl (fun ls hl => ?_)
        have ek9b : k9 = nI (5 * (t + 1)) := by rw [ek9]; exact nI_add (5 * t) 5
        subst ek9b
        refine lv_goto (tgt := 23) hx hb d_Lw_law_980 (by decide) ?_
        refine W.widen (k := 40 + 5 * (t + 1)) (n := 2100 + 43 * (t + 1)) (by omega) (by omega) ?_
        exact ihz (t + 1) (by omega) M H locs ls hs (lv_sub hl [0, 1, 2, 3, 4] rfl)
      refine lv_aload_n hx hb d_Lw_law_32 rfl (lv_at hl 4 rfl) ?_
      refine lv_iload hx hb d_Lw_law_33 (lv_at hl 0 rfl) ?_
      refine hw_sld hx hb hXs hbl hbA hS (5 * t) rfl (by omega) (by omega) d_Lw_law_35 ?_
      refine lv_bipush (v := 15) hx hb d_Lw_law_36 (by decide) ?_
      refine lv_iand hx hb d_Lw_law_38 ?_
      refine lv_topi (fun x3 ex3 => ?_)
      obtain ⟨j, hj, ej⟩ := pk_andE (xs (5 * t)) (m := 15) 4 (by decide)
      have ex9 : x3 = nI j := by rw [ex3]; exact ej
      rw [ex9]
      rcases (show j = 0 ∨ j = 1 ∨ j = 2 ∨ j = 3 ∨ j = 4 ∨ j = 5 ∨ j = 6 ∨ j = 7 ∨ j = 8 ∨ j = 9 ∨ j = 10 ∨ j = 11 ∨ j = 12 ∨ j = 13 ∨ j = 14 ∨ j = 15 by omega) with rfl | rfl | rfl | rfl | rfl | rfl | rfl | rfl | rfl | rfl | rfl | rfl | rfl | rfl | rfl | rfl
      · refine lv_tableIn (off := 65) (tgt := 104) hx hb d_Lw_law_39 (by decide) (by decide) (by decide) (by decide) ?_
        exact lw_c_atom hC hD ho t ht M H locs _ _ hs (by omega) (by omega) ls (lv_sub hl [0, 1, 2, 3, 4] rfl) next
      · refine lv_tableIn (off := 157) (tgt := 196) hx hb d_Lw_law_39 (by decide) (by decide) (by decide) (by decide) ?_
        exact lw_c_both hC hD ho t ht M H locs _ _ hs (by omega) (by omega) ls (lv_sub hl [0, 1, 2, 3, 4] rfl) next
      · refine lv_tableIn (off := 225) (tgt := 264) hx hb d_Lw_law_39 (by decide) (by decide) (by decide) (by decide) ?_
        exact lw_c_either hC hD ho t ht M H locs _ _ hs (by omega) (by omega) ls (lv_sub hl [0, 1, 2, 3, 4] rfl) next
      · refine lv_tableIn (off := 293) (tgt := 332) hx hb d_Lw_law_39 (by decide) (by decide) (by decide) (by decide) ?_
        exact lw_c_not hC hD ho t ht M H locs _ _ hs (by omega) (by omega) ls (lv_sub hl [0, 1, 2, 3, 4] rfl) next
      · refine lv_tableIn (off := 349) (tgt := 388) hx hb d_Lw_law_39 (by decide) (by decide) (by decide) (by decide) ?_
        exact lw_c_some hC hD ho t ht M H locs _ _ hs (by omega) (by omega) ls (lv_sub hl [0, 1, 2, 3, 4] rfl) next
      · refine lv_tableIn (off := 417) (tgt := 456) hx hb d_Lw_law_39 (by decide) (by decide) (by decide) (by decide) ?_
        exact lw_c_every hC hD ho t ht M H locs _ _ hs (by omega) (by omega) ls (lv_sub hl [0, 1, 2, 3, 4] rfl) next
      · refine lv_tableIn (off := 485) (tgt := 524) hx hb d_Lw_law_39 (by decide) (by decide) (by decide) (by decide) ?_
        exact lw_c_known hC hD ho t ht M H locs _ _ hs (by omega) (by omega) ls (lv_sub hl [0, 1, 2, 3, 4] rfl) next
      · refine lv_tableIn (off := 553) (tgt := 592) hx hb d_Lw_law_39 (by decide) (by decide) (by decide) (by decide) ?_
        exact lw_c_holds hC hD ho t ht M H locs _ _ hs (by omega) (by omega) ls (lv_sub hl [0, 1, 2, 3, 4] rfl) next
      · refine lv_tableIn (off := 640) (tgt := 679) hx hb d_Lw_law_39 (by decide) (by decide) (by decide) (by decide) ?_
        exact lw_c_decide hC hD ho t ht M H locs _ _ hs (by omega) (by omega) ls (lv_sub hl [0, 1, 2, 3, 4] rfl) next
      · refine lv_tableIn (off := 703) (tgt := 742) hx hb d_Lw_law_39 (by decide) (by decide) (by decide) (by decide) ?_
        exact lw_c_pieces hC hD ho t ht M H locs _ _ hs (by omega) (by omega) ls (lv_sub hl [0, 1, 2, 3, 4] rfl) next
      · refine lv_tableIn (off := 759) (tgt := 798) hx hb d_Lw_law_39 (by decide) (by decide) (by decide) (by decide) ?_
        exact lw_c_end hC hD ho t ht M H locs _ _ hs (by omega) (by omega) ls (lv_sub hl [0, 1, 2, 3, 4] rfl) next
      · refine lv_tableIn (off := 850) (tgt := 889) hx hb d_Lw_law_39 (by decide) (by decide) (by decide) (by decide) ?_
        exact lw_c_alike hC hD ho t ht M H locs _ _ hs (by omega) (by omega) ls (lv_sub hl [0, 1, 2, 3, 4] rfl) next
      · refine lv_tableIn (off := 925) (tgt := 964) hx hb d_Lw_law_39 (by decide) (by decide) (by decide) (by decide) ?_
        exact lw_c_count hC hD ho t ht M H locs _ _ hs (by omega) (by omega) ls (lv_sub hl [0, 1, 2, 3, 4] rfl) next
      · refine lv_tableOut (tgt := 977) hx hb d_Lw_law_39 (by decide) (by decide) ?_
        refine W.widen (k := 40 + 5 * t + 5) (n := 2100 + 43 * t + 43) (by omega) (by omega) ?_
        exact next M H locs ls hs (lv_sub hl [0, 1, 2, 3, 4] rfl)
      · refine lv_tableOut (tgt := 977) hx hb d_Lw_law_39 (by decide) (by decide) ?_
        refine W.widen (k := 40 + 5 * t + 5) (n := 2100 + 43 * t + 43) (by omega) (by omega) ?_
        exact next M H locs ls hs (lv_sub hl [0, 1, 2, 3, 4] rfl)
      · refine lv_tableOut (tgt := 977) hx hb d_Lw_law_39 (by decide) (by decide) ?_
        refine W.widen (k := 40 + 5 * t + 5) (n := 2100 + 43 * t + 43) (by omega) (by omega) ?_
        exact next M H locs ls hs (lv_sub hl [0, 1, 2, 3, 4] rfl)
end G59
theorem lw_rc {args : Array Value} {s : State} {t : FieldType} (h : (Cond.arrayClass t).before args s = true) (ho : ∀ C, t ≠ .object C) : ∃ c : ClassId, ArrOfT s c t ∧ va_RA s c t := by
  obtain ⟨c, k, comp, h1, h2, h3⟩ := Cond.arrayClass_spec h
  refine ⟨c, fun N z => ⟨(fun q hq => by cases hq), k, h2, comp, h3⟩, ?_⟩
  cases t <;> first | exact h1 | exact absurd rfl (ho _)
theorem lw_ro {args : Array Value} {s : State} {C : String} (h : (Cond.arrayOver (.object C)).before args s = true) : ∃ c : ClassId, ArrOfT s c (.object C) ∧ va_RA s c (.object C) := by
  obtain ⟨comp, c, k, h1, -, h2, h3, h4⟩ := Cond.arrayOver_spec h
  exact ⟨c, fun N z => ⟨(fun q hq => by cases hq), k, h2, comp, h3⟩, k, comp, h2, h3, h1, h4⟩
theorem lw_str {args : Array Value} {s : State} {own tx : String} {k : Nat} {cur : ClassId} (hcur : s.vm.findClass own = some cur) (h : (Cond.stringRef own k tx).before args s = true) : ∃ sa, vk_R own k tx sa s := by
  obtain ⟨_, _, _, a, _, _, _, _, _, h2⟩ := Cond.stringRef_spec hcur h
  exact ⟨a, vk_R.of h h2⟩
theorem lw_xin : ∀ w ∈ hw_xw, w ∈ lw_tbl := by decide +kernel
theorem lw_sin : ∀ w ∈ hz_strs, Cond.stringRef "QuantifierOut" w.1 w.2 ∈ lw_tbl := by decide +kernel
theorem lw_ao : Cond.arrayOver (.object "QuantifierOut$Node") ∈ lw_tbl := by decide +kernel
theorem lw_l1 : Cond.laysStatic Bundle.tN "UNASSIGNED_STACK" Bundle.steD ∈ lw_tbl := by decide +kernel
theorem lw_l2 : Cond.laysStatic Bundle.tN "SUPPRESSED_SENTINEL" Bundle.listD ∈ lw_tbl := by decide +kernel
theorem lw_l3 : Cond.initialized Bundle.tN ∈ lw_tbl := by decide +kernel
set_option maxHeartbeats 4000000 in
set_option maxRecDepth 100000 in
theorem whole_start {p : Program} {e : Env} {s : State} {m : MethodId} {below : List Frame} {meth : Method} {c : Code} (l : Launch) (hl9 : l.stackTraces = false) {b L : Nat} {xs : Nat → Int32} (hL : L ≤ 2560) (C0 : lw_At p s m meth c b L xs) : W p l e room_1 s m #[Value.ref b] below meth c s.heap [] 0 0 (lw_Z below #[Value.ref b] s) (entryFrame m ([Value.ref b] : List Value).toArray 8) := by
  obtain ⟨hx, hb, hr, hml, hown, htt, hXs, hbl, hlocks, hgv⟩ := C0
  have hown : s.vm.findClass "QuantifierOutLaw" = some m.cls := hown
  have hts : ∀ w ∈ ww, w.before #[Value.ref b] s = true := fun w h => htt w (ww_tbl w h)
  have hfl := flat_of_before _ hgv
  obtain ⟨k0, i0, hK0⟩ := u_known (C := "QuantifierOut") (T := F_Qo) (N := 4) (n := 4) hts i_Qo (hts _ tw_20)
  obtain ⟨k1, i1, hK1⟩ := u_known (C := "QuantifierOut$Atom") (T := F_At) (N := 8) (n := 8) hts i_At (hts _ tw_216)
  obtain ⟨k2, i2, hK2⟩ := u_known (C := "QuantifierOut$Marks") (T := F_Mk) (N := 3) (n := 3) hts i_Mk (hts _ tw_36)
  obtain ⟨k3, i3, hK3⟩ := u_known (C := "QuantifierOut$Negation") (T := F_Ng) (N := 5) (n := 5) hts i_Ng (hts _ tw_363)
  obtain ⟨k4, i4, hK4⟩ := u_known (C := "QuantifierOut$Pair") (T := F_Pr) (N := 7) (n := 7) hts i_Pr (hts _ tw_310)
  obtain ⟨k5, i5, hK5⟩ := u_known (C := "QuantifierOut$Pieces") (T := F_Pc) (N := 5) (n := 5) hts i_Pc (hts _ tw_72)
  obtain ⟨k6, i6, hK6⟩ := u_known (C := "QuantifierOut$Quantified") (T := F_Qf) (N := 7) (n := 7) hts i_Qf (hts _ tw_390)
  obtain ⟨k7, i7, hK7⟩ := u_known (C := "QuantifierOut$Values") (T := F_Vs) (N := 4) (n := 4) hts i_Vs (hts _ tw_30)
  obtain ⟨k8, i8, hK8⟩ := u_known (C := "QuantifierOutModel") (T := F_Md) (N := 23) (n := 23) hts i_Md (hts _ tw_598)
  obtain ⟨D, hKD⟩ : ∃ D : va_G, ∀ (k : Nat) (q : vw_C), qcl[k]? = some q → u_Kn s q.1 q.2.1 q.2.2 (D.1 k) (D.2 k) := by
    refine ⟨(fun k => if k = 0 then k0 else if k = 1 then k1 else if k = 2 then k2 else if k = 3 then k3 else if k = 4 then k4 else if k = 5 then k5 else if k = 6 then k6 else if k = 7 then k7 else k8, fun k => if k = 0 then i0 else if k = 1 then i1 else if k = 2 then i2 else if k = 3 then i3 else if k = 4 then i4 else if k = 5 then i5 else if k = 6 then i6 else if k = 7 then i7 else i8), fun k q hq => ?_⟩
    match k, hq with
    | 0, hq => cases hq; exact hK0
    | 1, hq => cases hq; exact hK1
    | 2, hq => cases hq; exact hK2
    | 3, hq => cases hq; exact hK3
    | 4, hq => cases hq; exact hK4
    | 5, hq => cases hq; exact hK5
    | 6, hq => cases hq; exact hK6
    | 7, hq => cases hq; exact hK7
    | 8, hq => cases hq; exact hK8
    | k + 9, hq => simp at hq
  obtain ⟨cI, hcI⟩ := lw_rc (hts _ tw_96) (fun _ h9 => by cases h9)
  obtain ⟨cJ, hcJ⟩ := lw_rc (hts _ tw_51) (fun _ h9 => by cases h9)
  obtain ⟨cZ, hcZ⟩ := lw_rc (hts _ tw_673) (fun _ h9 => by cases h9)
  obtain ⟨cN, hcN⟩ := lw_ro (htt _ lw_ao)
  have hK : va_K D qcl (qty cI cJ cZ cN) s := by
    refine ⟨hKD, fun k q hk => ?_⟩
    match k, hk with
    | 0, hk => cases hk; exact hcI
    | 1, hk => cases hk; exact hcJ
    | 2, hk => cases hk; exact hcZ
    | 3, hk => cases hk; exact hcN
    | k + 4, hk => simp at hk
  have hX : hw_X s := ⟨fun w hw => va_Nw.of (hw_xw_ot w hw) (htt w (lw_xin w hw)), va_AO.of (htt _ lw_ao)⟩
  obtain ⟨cur, hcur⟩ : ∃ cur, s.vm.findClass "QuantifierOut" = some cur := by obtain ⟨_, h9⟩ := hK0; exact ⟨_, h9.1⟩
  have hZ : hz (lw_Aq s) s s.heap := ⟨vx_Zqof (htt _ lw_l1) (htt _ lw_l3) (hfl _ (by decide +kernel)) (fun a h9 => Nat.not_le.mpr h9), vx_Zqof (htt _ lw_l2) (htt _ lw_l3) (hfl _ (by decide +kernel)) (fun a h9 => Nat.not_le.mpr h9), fun w hw => lw_str hcur (htt _ (lw_sin w hw))⟩
  have hN : nc3 s := ⟨va_Nc.of (hfl _ (by decide +kernel)), va_Nc.of (hfl _ (by decide +kernel)), va_Nc.of (hfl _ (by decide +kernel))⟩
  obtain ⟨M0, hM0⟩ : ∃ f : Nat → Option va_E, f = fun _ => none := ⟨_, rfl⟩
  have hW : hw_W D qcl (qty cI cJ cZ cN) (lw_Aq s) M0 s s.heap := ⟨[], by rw [hM0]; rfl, (fun k q h => by simp at h), ⟨(fun i j p q h => by simp at h), (fun k q h => by simp at h)⟩, hK⟩
  have hS : va_S (lw_Aq s) s.heap s.heap [] := va_S.rf
  have hA : ∀ q, s.heap.size ≤ q → lw_Aq s q := fun q h => h
  have hl := lv_entry ([Value.ref b] : List Value) (n := 8) (Nat.le_of_ble_eq_true rfl)
  rw [lg_entry_eq]
  generalize (lg_sl ([Value.ref b]) ++ List.replicate (8 - (lg_sl ([Value.ref b])).length) Slot.unset).toArray = ls at hl ⊢
  have hl : lv_has ls 8 [(0, .ref b)] := hl
  have hmono : ∀ x9, M0 x9 = none → M0 x9 = none := fun _ z9 => z9
  refine hw_new (ci := 0) (own := "QuantifierOutLaw") (fs := [.null, .null, .null, .int 0]) hx hb hts i_Qo ft_Qo tk_Qo hown (hts _ tw_19) (hts _ tw_20) (hts _ tw_1) hW hS hA rfl (by intro j9 hj9; rcases (show j9 = 0 ∨ j9 = 1 ∨ j9 = 2 ∨ j9 = 3 by omega) with rfl | rfl | rfl | rfl <;> rfl) (Nat.le_of_ble_eq_true rfl) (Nat.le_of_ble_eq_true rfl) d_Lw_law_0 (fun h0 H hq_h0 hW hS => ?_)
  have hW : hw_W D qcl (qty cI cJ cZ cN) _ (va_up M0 h0 (some (.inr (0, [.null, .null, .null, .int 0])))) s H := hW
  generalize hMw1 : va_up M0 h0 (some (.inr (0, [.null, .null, .null, .int 0]))) = Mw1 at hW
  have hy_h0 : Mw1 h0 = some (.inr (0, [.null, .null, .null, .int 0])) := by rw [← hMw1]; exact va_up_self _ _ _
  have z_h0 : M0 h0 = none := hmono h0 hq_h0
  have hmono : ∀ x9, Mw1 x9 = none → M0 x9 = none := fun x9 z9 => hmono x9 (va_up_none (by rw [hMw1]; exact z9))
  have hfr_Mw1 : ∀ x9, x9 ≠ h0 → Mw1 x9 = M0 x9 := fun x9 z9 => by rw [← hMw1, va_up_ne _ _ z9]
  refine lv_dup hx hb d_Lw_law_3 rfl ?_
  refine hw_callv (hw_runI (n := 0) (own := "QuantifierOutLaw") (As := []) (rest := [.ref h0]) hx hb hml hown hts hX hW hl.1 (c_Qo_init l D cI cJ cZ cN h0 _ (fun _ => False) (fun _ => (fun _ _ => True, [], true, true, 0, 0, .inl 0)) Mw1 hy_h0 (fun z h9 => h9.elim)) tw_21 tw_22 tw_1 tw_23 rfl (by decide +kernel) rfl rfl ⟨by decide, by decide⟩ rfl rfl (Nat.le_of_ble_eq_true rfl) d_Lw_law_4 ⟨by decide, by decide⟩) hW hS hA (fun Mq H locs hp hz hW hS => ?_)
  obtain ⟨⟨na, v, va, vb, om, oa, ob, im, ia, ib, ro, mk, ka, kb, fa, la, hI⟩, hfq⟩ := hp
  refine lv_astore_n (lv' := [(1, .ref h0), (0, .ref b)]) hx hb d_Lw_law_7 rfl hl (by decide) rfl (fun ls hl => ?_)
  refine hw_new (ci := 8) (own := "QuantifierOutLaw") (fs := [.int 0, .int 0, .null, .null, .null, .null, .null, .null, .null, .null, .null, .null, .null, .null, .null, .null, .null, .long 0, .long 0, .null, .int 0, .null, .null]) hx hb hts i_Md ft_Md tk_Md hown (hts _ tw_597) (hts _ tw_598) (hts _ tw_5) hW hS hA rfl (by intro j9 hj9; rcases (show j9 = 0 ∨ j9 = 1 ∨ j9 = 2 ∨ j9 = 3 ∨ j9 = 4 ∨ j9 = 5 ∨ j9 = 6 ∨ j9 = 7 ∨ j9 = 8 ∨ j9 = 9 ∨ j9 = 10 ∨ j9 = 11 ∨ j9 = 12 ∨ j9 = 13 ∨ j9 = 14 ∨ j9 = 15 ∨ j9 = 16 ∨ j9 = 17 ∨ j9 = 18 ∨ j9 = 19 ∨ j9 = 20 ∨ j9 = 21 ∨ j9 = 22 by omega) with rfl | rfl | rfl | rfl | rfl | rfl | rfl | rfl | rfl | rfl | rfl | rfl | rfl | rfl | rfl | rfl | rfl | rfl | rfl | rfl | rfl | rfl | rfl <;> rfl) (Nat.le_of_ble_eq_true rfl) (Nat.le_of_ble_eq_true rfl) d_Lw_law_8 (fun md H hq_md hW hS => ?_)
  have hW : hw_W D qcl (qty cI cJ cZ cN) _ (va_up Mq md (some (.inr (8, [.int 0, .int 0, .null, .null, .null, .null, .null, .null, .null, .null, .null, .null, .null, .null, .null, .null, .null, .long 0, .long 0, .null, .int 0, .null, .null])))) s H := hW
  generalize hMw2 : va_up Mq md (some (.inr (8, [.int 0, .int 0, .null, .null, .null, .null, .null, .null, .null, .null, .null, .null, .null, .null, .null, .null, .null, .long 0, .long 0, .null, .int 0, .null, .null]))) = Mw2 at hW
  have hy_md : Mw2 md = some (.inr (8, [.int 0, .int 0, .null, .null, .null, .null, .null, .null, .null, .null, .null, .null, .null, .null, .null, .null, .null, .long 0, .long 0, .null, .int 0, .null, .null])) := by rw [← hMw2]; exact va_up_self _ _ _
  have hfr_Mw2 : ∀ x9, x9 ≠ md → Mw2 x9 = Mq x9 := fun x9 z9 => by rw [← hMw2, va_up_ne _ _ z9]
  refine lv_dup hx hb d_Lw_law_11 rfl ?_
  refine hw_callv (hw_runI (n := 0) (own := "QuantifierOutLaw") (As := []) (rest := [.ref md]) hx hb hml hown hts hX hW hl.1 (c_Md_init l D cI cJ cZ cN md _ (fun _ => abq (fun _ _ => True, [], true, true, 0, 0, .inl 0)) Mw2 hy_md) tw_599 tw_600 tw_5 tw_601 rfl (by decide +kernel) rfl rfl ⟨by decide, by decide⟩ rfl rfl (Nat.le_of_ble_eq_true rfl) d_Lw_law_12 ⟨by decide, by decide⟩) hW hS hA (fun Mm H locs hp hz hW hS => ?_)
  obtain ⟨⟨kd, on, tw, nu, le, fx, fy, si, de, ne, it, po, ma, ab, be, li, fr, to, hD, hmd, hnw⟩, hfm⟩ := hp
  refine lv_astore_n (lv' := [(2, .ref md), (1, .ref h0), (0, .ref b)]) hx hb d_Lw_law_15 rfl hl (by decide) rfl (fun ls hl => ?_)
  refine lv_iconst (v := 1) hx hb d_Lw_law_16 (by decide) ?_
  refine hw_newl (N' := 1) hx hb (hts _ tw_51) hW hS hA 1 rfl (by decide) (by decide) (by decide) (Nat.le_of_ble_eq_true rfl) (Nat.le_of_ble_eq_true rfl) d_Lw_law_17 (fun ou H hq_ou hW hS => ?_)
  have hW : hw_W D qcl (qty cI cJ cZ cN) _ (va_up Mm ou (some (.inl (cJ, 1, .inr (.inl (fun _ => 0)))))) s H := hW
  generalize hMw3 : va_up Mm ou (some (.inl (cJ, 1, .inr (.inl (fun _ => 0))))) = Mw3 at hW
  have hy_ou : Mw3 ou = some (.inl (cJ, 1, .inr (.inl (fun _ => 0)))) := by rw [← hMw3]; exact va_up_self _ _ _
  have hfr_Mw3 : ∀ x9, x9 ≠ ou → Mw3 x9 = Mm x9 := fun x9 z9 => by rw [← hMw3, va_up_ne _ _ z9]
  refine lv_astore_n (lv' := [(3, .ref ou), (2, .ref md), (1, .ref h0), (0, .ref b)]) hx hb d_Lw_law_19 rfl hl (by decide) rfl (fun ls hl => ?_)
  refine lv_iconst (v := 0) hx hb d_Lw_law_20 (by decide) ?_
  refine lv_istore (lv' := [(4, .int 0), (3, .ref ou), (2, .ref md), (1, .ref h0), (0, .ref b)]) hx hb d_Lw_law_21 hl (by decide) rfl (fun ls hl => ?_)
  have hmq : ∀ x, Mq x ≠ none → Mm x = Mq x := fun x h9 => by
    have hxm : x ≠ md := fun e9 => h9 (by rw [e9]; exact hq_md)
    have e1 := hfr_Mw2 x hxm
    exact (hfm x (by rw [e1]; exact h9) hxm).trans e1
  have hme : ∀ i, i < 19 → Mm (md_a md kd on tw nu le fx fy si de ne it po ma ab be li fr to i) ≠ none := md_J.ex hmd
  have ho : ∀ i, i < 19 → ou ≠ md_a md kd on tw nu le fx fy si de ne it po ma ab be li fr to i := fun i hi e9 => hme i hi (by rw [← e9]; exact hq_ou)
  have hqn : ∀ i, i < 19 → Mq (md_a md kd on tw nu le fx fy si de ne it po ma ab be li fr to i) = none := fun i hi => by
    rcases Nat.eq_zero_or_pos i with e9 | e9
    · rw [e9]; exact hq_md
    · have h8 := hnw i e9 hi
      rw [hfr_Mw2 _ (Ne.symm (hD 0 i e9 hi))] at h8; exact h8
  have hqo : Mq ou = none := by
    cases h9 : Mq ou with
    | none => rfl
    | some e9 => have h8 := hmq ou (by rw [h9]; exact Option.some_ne_none _); rw [hq_ou, h9] at h8; cases h8
  have hM3 : ∀ x, Mq x ≠ none → Mw3 x = Mq x := fun x h9 => (hfr_Mw3 x (fun e9 => h9 (e9 ▸ hqo))).trans (hmq x h9)
  have hI3 := qo_Z (Z2 := (lw_Zc md kd on tw nu le fx fy si de ne it po ma ab be li fr to ou)) hI hM3 (fun z h9 => by rcases h9 with ⟨i, hi, e9⟩ | e9; rw [e9]; exact hqn i hi; rw [e9]; exact hqo) (fun z h9 => by rcases h9 with ⟨i, hi, e9⟩ | e9; rw [e9, hfr_Mw3 _ (Ne.symm (ho i hi))]; exact hme i hi; rw [e9, hy_ou]; exact Option.some_ne_none _)
  have hmd3 := md_J.keep (M1 := Mw3) hmd (fun i hi => hfr_Mw3 _ (Ne.symm (ho i hi)))
  refine W.widen (k := 40 + 5 * 0) (n := 2100 + 43 * 0) (by omega) (by omega) ?_
  exact lw_loop ⟨hx, hb, hr, hml, hown, hts, hXs, hbl, hlocks, hX, hZ, hN, hl9, hL⟩ hD ho 513 0 rfl Mw3 H locs ls ⟨hW, hS, 0, _, _, 0, _, ⟨_, _, hI3⟩, (fun i hi => absurd hi (Nat.not_lt_zero i)), hmd3, hy_ou⟩ (lv_sub hl [0, 1, 2, 3, 4] rfl)

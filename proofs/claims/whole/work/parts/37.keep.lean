/-! The reference: keep -/
theorem fr_self (v : Rat) : qm_fr v.num (v.den : Int) = v := by
  unfold qm_fr
  rw [← Rat.divInt_eq_div]
  exact Rat.num_divInt_den v
def kf (o : Nat) (A : Nat → Int64) (i : Nat) : Int64 := A (o + i)
/-- a rising row of fractions in lowest terms -/
def kr (f g : Nat → Int64) (n N Dn : Nat) : Prop := (∀ i, i < n → 0 < (g i).toInt ∧ (g i).toInt ≤ Dn ∧ (f i).toInt.natAbs ≤ N ∧ (f i).toInt = (mk_v f g i).num ∧ (g i).toInt = ((mk_v f g i).den : Int)) ∧ qm_inc (mk_v f g) n
def kp_P (o n0 N Dn : Nat) (AB BE : Nat → Int64) (v : Rat) (n1 : Nat) (AB' BE' : Nat → Int64) : Prop := n0 ≤ n1 ∧ n1 ≤ n0 + 1 ∧ kr (kf o AB') (kf o BE') n1 N Dn ∧ (∀ i, i < n0 → ∃ j, j < n1 ∧ mk_v (kf o AB') (kf o BE') j = mk_v (kf o AB) (kf o BE) i) ∧ (∃ j, j < n1 ∧ mk_v (kf o AB') (kf o BE') j = v) ∧ ∀ j, (j < o ∨ o + 64 ≤ j) → AB' j = AB j ∧ BE' j = BE j
theorem kp_same {o n0 N Dn k : Nat} {AB BE : Nat → Int64} {v : Rat} (hr : kr (kf o AB) (kf o BE) n0 N Dn) (hk : k < n0) (hv : mk_v (kf o AB) (kf o BE) k = v) : kp_P o n0 N Dn AB BE v n0 AB BE := ⟨Nat.le_refl _, Nat.le_succ _, hr, fun i hi => ⟨i, hi, rfl⟩, ⟨k, hk, hv⟩, fun _ _ => ⟨rfl, rfl⟩⟩
theorem kp_new {o n0 N Dn k : Nat} {AB BE AB' BE' : Nat → Int64} {u d : Int64} {v : Rat} (hr : kr (kf o AB) (kf o BE) n0 N Dn) (hk : k ≤ n0) (hn : n0 < 64) (hu : u.toInt = v.num) (hd : d.toInt = (v.den : Int)) (huB : u.toInt.natAbs ≤ N) (hdB : d.toInt ≤ Dn) (h2 : ∀ i, i < k → mk_v (kf o AB) (kf o BE) i < v) (h1 : ∀ i, k ≤ i → i < n0 → v < mk_v (kf o AB) (kf o BE) i)
    (a1 : ∀ i, i < k → AB' (o + i) = AB (o + i) ∧ BE' (o + i) = BE (o + i)) (a2 : AB' (o + k) = u ∧ BE' (o + k) = d) (a3 : ∀ i, k ≤ i → i < n0 → AB' (o + (i + 1)) = AB (o + i) ∧ BE' (o + (i + 1)) = BE (o + i)) (a4 : ∀ j, (j < o ∨ o + 64 ≤ j) → AB' j = AB j ∧ BE' j = BE j) : kp_P o n0 N Dn AB BE v (n0 + 1) AB' BE' := by
  have hd0 : 0 < d.toInt := by rw [hd]; have := v.den_pos; omega
  have hvv : qm_fr u.toInt d.toInt = v := by
    rw [hu, hd]
    exact fr_self v
  obtain ⟨r1, r2⟩ := hr
  have v1 : ∀ i, i < k → mk_v (kf o AB') (kf o BE') i = mk_v (kf o AB) (kf o BE) i := fun i hi => by unfold mk_v kf; rw [(a1 i hi).1, (a1 i hi).2]
  have v2 : mk_v (kf o AB') (kf o BE') k = v := by unfold mk_v kf; rw [a2.1, a2.2]; exact hvv
  have v3 : ∀ i, k ≤ i → i < n0 → mk_v (kf o AB') (kf o BE') (i + 1) = mk_v (kf o AB) (kf o BE) i := fun i h h' => by unfold mk_v kf; rw [(a3 i h h').1, (a3 i h h').2]
  have s1 : ∀ i, i < k → kf o AB' i = kf o AB i ∧ kf o BE' i = kf o BE i := a1
  have s2 : kf o AB' k = u ∧ kf o BE' k = d := a2
  have s3 : ∀ i, k ≤ i → i < n0 → kf o AB' (i + 1) = kf o AB i ∧ kf o BE' (i + 1) = kf o BE i := a3
  refine ⟨Nat.le_succ _, Nat.le_refl _, ⟨fun i hi => ?_, fun i j hij hj => ?_⟩, fun i hi => ?_, ⟨k, by omega, v2⟩, a4⟩
  · rcases Nat.lt_trichotomy i k with c | c | c
    · rw [v1 i c, (s1 i c).1, (s1 i c).2]; exact r1 i (by omega)
    · subst c; rw [v2, s2.1, s2.2]; exact ⟨hd0, hdB, huB, hu, hd⟩
    · obtain ⟨z, rfl⟩ : ∃ z, i = z + 1 := ⟨i - 1, by omega⟩
      rw [v3 z (by omega) (by omega), (s3 z (by omega) (by omega)).1, (s3 z (by omega) (by omega)).2]; exact r1 z (by omega)
  · rcases Nat.lt_trichotomy i k with c | c | c
    · rw [v1 i c]
      rcases Nat.lt_trichotomy j k with e | e | e
      · rw [v1 j e]; exact r2 i j hij (by omega)
      · subst e; rw [v2]; exact h2 i c
      · obtain ⟨z, rfl⟩ : ∃ z, j = z + 1 := ⟨j - 1, by omega⟩
        rw [v3 z (by omega) (by omega)]; exact r2 i z (by omega) (by omega)
    · subst c
      obtain ⟨z, rfl⟩ : ∃ z, j = z + 1 := ⟨j - 1, by omega⟩
      rw [v2, v3 z (by omega) (by omega)]; exact h1 z (by omega) (by omega)
    · obtain ⟨z, rfl⟩ : ∃ z, j = z + 1 := ⟨j - 1, by omega⟩
      obtain ⟨y, rfl⟩ : ∃ y, i = y + 1 := ⟨i - 1, by omega⟩
      rw [v3 z (by omega) (by omega), v3 y (by omega) (by omega)]; exact r2 y z (by omega) (by omega)
  · rcases Nat.lt_or_ge i k with c | c
    · exact ⟨i, by omega, v1 i c⟩
    · exact ⟨i + 1, by omega, v3 i c hi⟩
/-- a kept fraction against a new one, by the products that the machine makes -/
theorem kp_cmp {a b u d : Int64} {N Dn : Nat} (hB : N * Dn ≤ 1000000000000000000) (hb : 0 < b.toInt) (hbB : b.toInt ≤ Dn) (haB : a.toInt.natAbs ≤ N) (hd : 0 < d.toInt) (hdB : d.toInt ≤ Dn) (huB : u.toInt.natAbs ≤ N) : (a * d < u * b ↔ qm_fr a.toInt b.toInt < qm_fr u.toInt d.toInt) := by
  have h1 : (a.toInt * d.toInt).natAbs ≤ N * Dn := nm_mulb haB (by omega)
  have h2 : (u.toInt * b.toInt).natAbs ≤ N * Dn := nm_mulb huB (by omega)
  rw [nm_llt, nm_lmul (by omega), nm_lmul (by omega), qm_fr_lt hb hd]
theorem upd_id (f : Nat → Int32) (k : Nat) : upd f k (f k) = f := by
  funext i
  by_cases h : i = k
  · subst h; exact pk_us
  · exact pk_un h
section G37
variable (l : Launch) (D : va_G) (cI cJ cZ cN : ClassId) (md kd on tw nu le fx fy si de ne it po ma ab be li fr to : Nat)
set_option maxHeartbeats 4000000 in
set_option maxRecDepth 100000 in
theorem c_Md_keep (cd : Int32) (n : Nat) (up dn : Int64) (pz : Int32) (NE IT : Nat → Int32) (PO : Nat → Int64) (MA : Nat → Int32) (AB BE : Nat → Int64) (lv n0 N Dn sz : Nat) (v : Rat) (M : Nat → Option va_E) (hD : md_D md kd on tw nu le fx fy si de ne it po ma ab be li fr to) (hK : md_W cI cJ cZ md kd on tw nu le fx fy si de ne it po ma ab be li fr to M cd n up dn pz NE IT PO MA AB BE) (hlv : lv < 3) (hma : MA lv = nI n0) (hn0 : n0 < 64) (hr9 : kr (kf (64 * lv) AB) (kf (64 * lv) BE) n0 N Dn) (hB : N * Dn ≤ 1000000000000000000) (hu : up.toInt = v.num) (hd : dn.toInt = (v.den : Int)) (huB : up.toInt.natAbs ≤ N) (hdB : dn.toInt ≤ Dn) : Met l y_Md_keep (.code y_Md_keep b_Md_keep 5 none :: ww) ({ frames := 0, cells := 0, slots := 0, locals := 0 }) (hw_Pc D qcl (qty cI cJ cZ cN) [.ref md, .int (nI lv)] M sz) (va_Qv (fun M1 => ∃ (n1 : Nat) (AB2 BE2 : Nat → Int64), kp_P (64 * lv) n0 N Dn AB BE v n1 AB2 BE2 ∧ md_W cI cJ cZ md kd on tw nu le fx fy si de ne it po ma ab be li fr to M1 cd n up dn pz NE IT PO (upd MA lv (nI n1)) AB2 BE2 ∧ ∀ x9, x9 ≠ md → x9 ≠ ne → x9 ≠ it → x9 ≠ po → x9 ≠ ma → x9 ≠ ab → x9 ≠ be → M1 x9 = M x9) (hw_B D qcl (qty cI cJ cZ cN) M sz) (hw_A M sz)) 0 0 (hw_A M sz) := by
  have hd0 : 0 < dn.toInt := by rw [hd]; have := v.den_pos; omega
  have hvv : qm_fr up.toInt dn.toInt = v := by rw [hu, hd]; exact fr_self v
  refine hw_met (by decide) (Nat.le_of_ble_eq_true rfl) ?_
  intro p e s m below meth c hx hb hr hml hown hlocks hnm hts hsz hX hW ls hl
  subst hsz
  have hA : ∀ q, s.heap.size ≤ q → hw_A M s.heap.size q := fun q h => Or.inr h
  have hS : va_S (hw_A M s.heap.size) s.heap s.heap [] := va_S.rf
  have hl : lv_has ls 5 [(0, .ref md), (1, .int (nI lv))] := hl
  have hown : s.vm.findClass "QuantifierOutModel" = some m.cls := hown
  obtain ⟨Q9, hQ9⟩ : ∃ X : State → Prop, X = MQ below (va_Qv (fun M1 => ∃ (n1 : Nat) (AB2 BE2 : Nat → Int64), kp_P (64 * lv) n0 N Dn AB BE v n1 AB2 BE2 ∧ md_W cI cJ cZ md kd on tw nu le fx fy si de ne it po ma ab be li fr to M1 cd n up dn pz NE IT PO (upd MA lv (nI n1)) AB2 BE2 ∧ ∀ x9, x9 ≠ md → x9 ≠ ne → x9 ≠ it → x9 ≠ po → x9 ≠ ma → x9 ≠ ab → x9 ≠ be → M1 x9 = M x9) (hw_B D qcl (qty cI cJ cZ cN) M s.heap.size) (hw_A M s.heap.size)) [.ref md, .int (nI lv)].toArray s 0 0 (hw_A M s.heap.size) := ⟨_, rfl⟩
  rw [← hQ9]
  have w_md := hK.1
  have w_md : M md = some (.inr (8, [.int cd, .int (nI n), .ref kd, .ref on, .ref tw, .ref nu, .ref le, .ref fx, .ref fy, .ref si, .ref de, .ref ne, .ref it, .ref po, .ref ma, .ref ab, .ref be, .long up, .long dn, .ref li, .int pz, .ref fr, .ref to])) := w_md
  have w_ma := hK.2.2.2.2.1
  have w_ma : M ma = some (.inl (cI, 3, .inl MA)) := w_ma
  have w_ab := hK.2.2.2.2.2.1
  have w_ab : M ab = some (.inl (cJ, 192, .inr (.inl AB))) := w_ab
  have w_be := hK.2.2.2.2.2.2
  have w_be : M be = some (.inl (cJ, 192, .inr (.inl BE))) := w_be
  refine lv_bipush (v := 64) hx hb d_Md_keep_0 (by decide) ?_
  refine lv_iload_n hx hb d_Md_keep_2 rfl (lv_at hl 1 rfl) ?_
  refine lv_imul hx hb d_Md_keep_3 ?_
  refine lv_topi (fun x1 ex1 => ?_)
  refine lv_istore_n (lv' := [(2, .int x1), (0, .ref md), (1, .int (nI lv))]) hx hb d_Md_keep_4 rfl hl (by decide) rfl (fun ls hl => ?_)
  refine lv_iload_n hx hb d_Md_keep_5 rfl (lv_at hl 0 rfl) ?_
  refine lv_aload_n hx hb d_Md_keep_6 rfl (lv_at hl 1 rfl) ?_
  refine hw_get (own := "QuantifierOutModel") (v := .ref ma) hx hb hts i_Md hown hW w_md rfl 14 (by decide) (hts _ tw_617) (fun _ h9 => h9) rfl d_Md_keep_7 ?_
  refine lv_iload_n hx hb d_Md_keep_10 rfl (lv_at hl 2 rfl) ?_
  have e64 : (64 : Int32) * nI lv = nI (64 * lv) := pk_mul 64 lv
  have ek : x1 = nI (64 * lv) := by rw [ex1]; exact e64
  refine hw_ild hx hb hW 0 w_ma rfl lv rfl (by omega) (by decide) d_Md_keep_11 ?_
  rw [hma]
  refine lv_iadd hx hb d_Md_keep_12 ?_
  refine lv_topi (fun x2 ex2 => ?_)
  refine lv_istore_n (lv' := [(3, .int x2), (2, .int x1), (0, .ref md), (1, .int (nI lv))]) hx hb d_Md_keep_13 rfl hl (by decide) rfl (fun ls hl => ?_)
  have ee : x2 = nI (64 * lv + n0) := by rw [ex2, ek]; exact nI_add _ _
  have insert : ∀ (k : Nat), k ≤ n0 → (∀ i, i < k → mk_v (kf (64 * lv) AB) (kf (64 * lv) BE) i < v) → (∀ i, k ≤ i → i < n0 → v < mk_v (kf (64 * lv) AB) (kf (64 * lv) BE) i) → ∀ (ls : Array Slot), lv_has ls 5 [(2, .int (nI (64 * lv + k))), (3, .int (nI (64 * lv + n0))), (0, .ref md), (1, .int (nI lv))] → W p l e ({ frames := 0, cells := 0, slots := 0, locals := 0 }) s m [.ref md, .int (nI lv)].toArray below meth c s.heap [] 0 0 Q9 (F0 m 85 ls []) := by
    intro k hk hlo hhi ls hl
    have loop : ∀ (z i : Nat), i = k + z → i ≤ n0 → ∀ (H : Heap) (locs : List Loc) (M2 : Nat → Option va_E) (A2 B2 : Nat → Int64) (ls : Array Slot), hw_W D qcl (qty cI cJ cZ cN) (hw_A M s.heap.size) M2 s H → va_S (hw_A M s.heap.size) s.heap H locs → md_W cI cJ cZ md kd on tw nu le fx fy si de ne it po ma ab be li fr to M2 cd n up dn pz NE IT PO MA A2 B2 → (∀ x9, x9 ≠ md → x9 ≠ ne → x9 ≠ it → x9 ≠ po → x9 ≠ ma → x9 ≠ ab → x9 ≠ be → M2 x9 = M x9) → (∀ t, i < t → t ≤ n0 → A2 (64 * lv + t) = AB (64 * lv + (t - 1)) ∧ B2 (64 * lv + t) = BE (64 * lv + (t - 1))) ∧ (∀ j, (j ≤ 64 * lv + i ∨ 64 * lv + n0 < j) → A2 j = AB j ∧ B2 j = BE j) → lv_has ls 5 [(4, .int (nI (64 * lv + i))), (2, .int (nI (64 * lv + k))), (3, .int (nI (64 * lv + n0))), (0, .ref md), (1, .int (nI lv))] → W p l e ({ frames := 0, cells := 0, slots := 0, locals := 0 }) s m [.ref md, .int (nI lv)].toArray below meth c H locs 0 0 Q9 (F0 m 88 ls []) := by
      intro z
      induction z with
      | zero =>
        intro i hi hin H locs M2 A2 B2 ls hW hS hK2 hf2 hsh hl
        have hik : i = k := by omega
        subst hik
        refine lv_iload hx hb d_Md_keep_88 (lv_at hl 0 rfl) ?_
        refine lv_iload_n hx hb d_Md_keep_90 rfl (lv_at hl 1 rfl) ?_
        refine lv_icmp_le (tgt := 132) hx hb d_Md_keep_91 (by decide) (fun c_91 => ?_) (fun c_91 => ?_)
        · skip
          have w2_md := hK2.1
          have w2_md : M2 md = some (.inr (8, [.int cd, .int (nI n), .ref kd, .ref on, .ref tw, .ref nu, .ref le, .ref fx, .ref fy, .ref si, .ref de, .ref ne, .ref it, .ref po, .ref ma, .ref ab, .ref be, .long up, .long dn, .ref li, .int pz, .ref fr, .ref to])) := w2_md
          have w2_ma := hK2.2.2.2.2.1
          have w2_ma : M2 ma = some (.inl (cI, 3, .inl MA)) := w2_ma
          have w2_ab := hK2.2.2.2.2.2.1
          have w2_ab : M2 ab = some (.inl (cJ, 192, .inr (.inl A2))) := w2_ab
          have w2_be := hK2.2.2.2.2.2.2
          have w2_be : M2 be = some (.inl (cJ, 192, .inr (.inl B2))) := w2_be
          refine lv_aload_n hx hb d_Md_keep_132 rfl (lv_at hl 3 rfl) ?_
          refine hw_get (own := "QuantifierOutModel") (v := .ref ab) hx hb hts i_Md hown hW w2_md rfl 15 (by decide) (hts _ tw_618) (fun _ h9 => h9) rfl d_Md_keep_133 ?_
          refine lv_iload_n hx hb d_Md_keep_136 rfl (lv_at hl 1 rfl) ?_
          refine lv_aload_n hx hb d_Md_keep_137 rfl (lv_at hl 3 rfl) ?_
          refine hw_get (own := "QuantifierOutModel") (v := .long up) hx hb hts i_Md hown hW w2_md rfl 17 (by decide) (hts _ tw_620) (fun _ h9 => h9) rfl d_Md_keep_138 ?_
          refine hw_lst hx hb hW hS 1 w2_ab rfl (64 * lv + i) rfl (by omega) (by decide) d_Md_keep_141 (fun H locs hW hS => ?_)
          have hW : hw_W D qcl (qty cI cJ cZ cN) _ (va_up M2 ab (some (.inl (cJ, 192, .inr (.inl (vp_updL A2 (64 * lv + i) up)))))) s H := hW
          generalize hMw3 : va_up M2 ab (some (.inl (cJ, 192, .inr (.inl (vp_updL A2 (64 * lv + i) up))))) = Mw3 at hW
          have w2_md : Mw3 md = some (.inr (8, [.int cd, .int (nI n), .ref kd, .ref on, .ref tw, .ref nu, .ref le, .ref fx, .ref fy, .ref si, .ref de, .ref ne, .ref it, .ref po, .ref ma, .ref ab, .ref be, .long up, .long dn, .ref li, .int pz, .ref fr, .ref to])) := by rw [← hMw3, va_up_ne _ _ (show md ≠ ab from hD 0 14 (by decide) (by decide))]; exact w2_md
          have w2_ma : Mw3 ma = some (.inl (cI, 3, .inl MA)) := by rw [← hMw3, va_up_ne _ _ (show ma ≠ ab from hD 13 14 (by decide) (by decide))]; exact w2_ma
          have w2_be : Mw3 be = some (.inl (cJ, 192, .inr (.inl B2))) := by rw [← hMw3, va_up_ne _ _ (Ne.symm (show ab ≠ be from hD 14 15 (by decide) (by decide)))]; exact w2_be
          have w2_ab : Mw3 ab = some (.inl (cJ, 192, .inr (.inl (vp_updL A2 (64 * lv + i) up)))) := by rw [← hMw3]; exact va_up_self _ _ _
          have hfr_Mw3 : ∀ x9, x9 ≠ ab → Mw3 x9 = M2 x9 := fun x9 z9 => by rw [← hMw3, va_up_ne _ _ z9]
          refine lv_aload_n hx hb d_Md_keep_142 rfl (lv_at hl 3 rfl) ?_
          refine hw_get (own := "QuantifierOutModel") (v := .ref be) hx hb hts i_Md hown hW w2_md rfl 16 (by decide) (hts _ tw_619) (fun _ h9 => h9) rfl d_Md_keep_143 ?_
          refine lv_iload_n hx hb d_Md_keep_146 rfl (lv_at hl 1 rfl) ?_
          refine lv_aload_n hx hb d_Md_keep_147 rfl (lv_at hl 3 rfl) ?_
          refine hw_get (own := "QuantifierOutModel") (v := .long dn) hx hb hts i_Md hown hW w2_md rfl 18 (by decide) (hts _ tw_621) (fun _ h9 => h9) rfl d_Md_keep_148 ?_
          refine hw_lst hx hb hW hS 1 w2_be rfl (64 * lv + i) rfl (by omega) (by decide) d_Md_keep_151 (fun H locs hW hS => ?_)
          have hW : hw_W D qcl (qty cI cJ cZ cN) _ (va_up Mw3 be (some (.inl (cJ, 192, .inr (.inl (vp_updL B2 (64 * lv + i) dn)))))) s H := hW
          generalize hMw4 : va_up Mw3 be (some (.inl (cJ, 192, .inr (.inl (vp_updL B2 (64 * lv + i) dn))))) = Mw4 at hW
          have w2_md : Mw4 md = some (.inr (8, [.int cd, .int (nI n), .ref kd, .ref on, .ref tw, .ref nu, .ref le, .ref fx, .ref fy, .ref si, .ref de, .ref ne, .ref it, .ref po, .ref ma, .ref ab, .ref be, .long up, .long dn, .ref li, .int pz, .ref fr, .ref to])) := by rw [← hMw4, va_up_ne _ _ (show md ≠ be from hD 0 15 (by decide) (by decide))]; exact w2_md
          have w2_ma : Mw4 ma = some (.inl (cI, 3, .inl MA)) := by rw [← hMw4, va_up_ne _ _ (show ma ≠ be from hD 13 15 (by decide) (by decide))]; exact w2_ma
          have w2_ab : Mw4 ab = some (.inl (cJ, 192, .inr (.inl (vp_updL A2 (64 * lv + i) up)))) := by rw [← hMw4, va_up_ne _ _ (show ab ≠ be from hD 14 15 (by decide) (by decide))]; exact w2_ab
          have w2_be : Mw4 be = some (.inl (cJ, 192, .inr (.inl (vp_updL B2 (64 * lv + i) dn)))) := by rw [← hMw4]; exact va_up_self _ _ _
          have hfr_Mw4 : ∀ x9, x9 ≠ be → Mw4 x9 = Mw3 x9 := fun x9 z9 => by rw [← hMw4, va_up_ne _ _ z9]
          refine lv_aload_n hx hb d_Md_keep_152 rfl (lv_at hl 3 rfl) ?_
          refine hw_get (own := "QuantifierOutModel") (v := .ref ma) hx hb hts i_Md hown hW w2_md rfl 14 (by decide) (hts _ tw_617) (fun _ h9 => h9) rfl d_Md_keep_153 ?_
          refine lv_iload_n hx hb d_Md_keep_156 rfl (lv_at hl 4 rfl) ?_
          refine lv_dup2_11 hx hb d_Md_keep_157 rfl rfl ?_
          refine hw_ild hx hb hW 0 w2_ma rfl lv rfl (by omega) (by decide) d_Md_keep_158 ?_
          rw [hma]
          refine lv_iconst (v := 1) hx hb d_Md_keep_159 (by decide) ?_
          refine lv_iadd hx hb d_Md_keep_160 ?_
          refine lv_topi (fun x5 ex5 => ?_)
          have en : x5 = nI (n0 + 1) := by rw [ex5]; exact nI_1 n0
          rw [en]
          refine hw_ist hx hb hW hS 0 w2_ma rfl lv rfl (by omega) (by decide) d_Md_keep_161 (fun H locs hW hS => ?_)
          have hW : hw_W D qcl (qty cI cJ cZ cN) _ (va_up Mw4 ma (some (.inl (cI, 3, .inl (upd MA lv (nI (n0 + 1))))))) s H := hW
          generalize hMw6 : va_up Mw4 ma (some (.inl (cI, 3, .inl (upd MA lv (nI (n0 + 1)))))) = Mw6 at hW
          have w2_md : Mw6 md = some (.inr (8, [.int cd, .int (nI n), .ref kd, .ref on, .ref tw, .ref nu, .ref le, .ref fx, .ref fy, .ref si, .ref de, .ref ne, .ref it, .ref po, .ref ma, .ref ab, .ref be, .long up, .long dn, .ref li, .int pz, .ref fr, .ref to])) := by rw [← hMw6, va_up_ne _ _ (show md ≠ ma from hD 0 13 (by decide) (by decide))]; exact w2_md
          have w2_ab : Mw6 ab = some (.inl (cJ, 192, .inr (.inl (vp_updL A2 (64 * lv + i) up)))) := by rw [← hMw6, va_up_ne _ _ (Ne.symm (show ma ≠ ab from hD 13 14 (by decide) (by decide)))]; exact w2_ab
          have w2_be : Mw6 be = some (.inl (cJ, 192, .inr (.inl (vp_updL B2 (64 * lv + i) dn)))) := by rw [← hMw6, va_up_ne _ _ (Ne.symm (show ma ≠ be from hD 13 15 (by decide) (by decide)))]; exact w2_be
          have w2_ma : Mw6 ma = some (.inl (cI, 3, .inl (upd MA lv (nI (n0 + 1))))) := by rw [← hMw6]; exact va_up_self _ _ _
          have hfr_Mw6 : ∀ x9, x9 ≠ ma → Mw6 x9 = Mw4 x9 := fun x9 z9 => by rw [← hMw6, va_up_ne _ _ z9]
          rw [hQ9]
          refine hw_retv hx hb hr hlocks hW hS ⟨n0 + 1, _, _, ?_, ⟨w2_md, ((((hfr_Mw6 ne (show ne ≠ ma from hD 10 13 (by decide) (by decide)))).trans (hfr_Mw4 ne (show ne ≠ be from hD 10 15 (by decide) (by decide)))).trans (hfr_Mw3 ne (show ne ≠ ab from hD 10 14 (by decide) (by decide)))).trans hK2.2.1, ((((hfr_Mw6 it (show it ≠ ma from hD 11 13 (by decide) (by decide)))).trans (hfr_Mw4 it (show it ≠ be from hD 11 15 (by decide) (by decide)))).trans (hfr_Mw3 it (show it ≠ ab from hD 11 14 (by decide) (by decide)))).trans hK2.2.2.1, ((((hfr_Mw6 po (show po ≠ ma from hD 12 13 (by decide) (by decide)))).trans (hfr_Mw4 po (show po ≠ be from hD 12 15 (by decide) (by decide)))).trans (hfr_Mw3 po (show po ≠ ab from hD 12 14 (by decide) (by decide)))).trans hK2.2.2.2.1, w2_ma, w2_ab, w2_be⟩, fun x9 z0 z1 z2 z3 z4 z5 z6 => ((((hfr_Mw6 x9 z4)).trans (hfr_Mw4 x9 z6)).trans (hfr_Mw3 x9 z5)).trans (hf2 x9 z0 z1 z2 z3 z4 z5 z6)⟩ d_Md_keep_162
          refine kp_new hr9 hk hn0 hu hd huB hdB hlo hhi ?_ ?_ ?_ ?_
          · intro t ht; rw [pk_uLn (by omega), pk_uLn (by omega)]; exact hsh.2 _ (Or.inl (by omega))
          · exact ⟨pk_uLs, pk_uLs⟩
          · intro t h1 h2; rw [pk_uLn (by omega), pk_uLn (by omega)]; exact hsh.1 (t + 1) (by omega) (by omega)
          · intro j hj; rw [pk_uLn (by omega), pk_uLn (by omega)]; exact hsh.2 j (by omega)
        · skip
          exact absurd (nI_le (Nat.le_refl _) (by omega)) c_91
      | succ z ihz =>
        intro i hi hin H locs M2 A2 B2 ls hW hS hK2 hf2 hsh hl
        refine lv_iload hx hb d_Md_keep_88 (lv_at hl 0 rfl) ?_
        refine lv_iload_n hx hb d_Md_keep_90 rfl (lv_at hl 1 rfl) ?_
        refine lv_icmp_le (tgt := 132) hx hb d_Md_keep_91 (by decide) (fun c_91 => ?_) (fun c_91 => ?_)
        · skip
          exact absurd c_91 (nI_ge (by omega) (by omega))
        · skip
          have w2_md := hK2.1
          have w2_md : M2 md = some (.inr (8, [.int cd, .int (nI n), .ref kd, .ref on, .ref tw, .ref nu, .ref le, .ref fx, .ref fy, .ref si, .ref de, .ref ne, .ref it, .ref po, .ref ma, .ref ab, .ref be, .long up, .long dn, .ref li, .int pz, .ref fr, .ref to])) := w2_md
          have w2_ma := hK2.2.2.2.2.1
          have w2_ma : M2 ma = some (.inl (cI, 3, .inl MA)) := w2_ma
          have w2_ab := hK2.2.2.2.2.2.1
          have w2_ab : M2 ab = some (.inl (cJ, 192, .inr (.inl A2))) := w2_ab
          have w2_be := hK2.2.2.2.2.2.2
          have w2_be : M2 be = some (.inl (cJ, 192, .inr (.inl B2))) := w2_be
          refine lv_aload_n hx hb d_Md_keep_94 rfl (lv_at hl 3 rfl) ?_
          refine hw_get (own := "QuantifierOutModel") (v := .ref ab) hx hb hts i_Md hown hW w2_md rfl 15 (by decide) (hts _ tw_618) (fun _ h9 => h9) rfl d_Md_keep_95 ?_
          refine lv_iload hx hb d_Md_keep_98 (lv_at hl 0 rfl) ?_
          refine lv_aload_n hx hb d_Md_keep_100 rfl (lv_at hl 3 rfl) ?_
          refine hw_get (own := "QuantifierOutModel") (v := .ref ab) hx hb hts i_Md hown hW w2_md rfl 15 (by decide) (hts _ tw_618) (fun _ h9 => h9) rfl d_Md_keep_101 ?_
          refine lv_iload hx hb d_Md_keep_104 (lv_at hl 0 rfl) ?_
          refine lv_iconst (v := 1) hx hb d_Md_keep_106 (by decide) ?_
          refine lv_isub hx hb d_Md_keep_107 ?_
          refine lv_topi (fun x7 ex7 => ?_)
          have epx7 : x7 = nI (64 * lv + (i - 1)) := by rw [ex7, show 64 * lv + i = 64 * lv + (i - 1) + 1 by omega]; exact nI_pred _
          refine hw_lld hx hb hW 1 w2_ab rfl (64 * lv + (i - 1)) epx7 (by omega) (by decide) d_Md_keep_108 ?_
          refine hw_lst hx hb hW hS 1 w2_ab rfl (64 * lv + i) rfl (by omega) (by decide) d_Md_keep_109 (fun H locs hW hS => ?_)
          have hW : hw_W D qcl (qty cI cJ cZ cN) _ (va_up M2 ab (some (.inl (cJ, 192, .inr (.inl (vp_updL A2 (64 * lv + i) (A2 (64 * lv + (i - 1))))))))) s H := hW
          generalize hMw8 : va_up M2 ab (some (.inl (cJ, 192, .inr (.inl (vp_updL A2 (64 * lv + i) (A2 (64 * lv + (i - 1)))))))) = Mw8 at hW
          have w2_md : Mw8 md = some (.inr (8, [.int cd, .int (nI n), .ref kd, .ref on, .ref tw, .ref nu, .ref le, .ref fx, .ref fy, .ref si, .ref de, .ref ne, .ref it, .ref po, .ref ma, .ref ab, .ref be, .long up, .long dn, .ref li, .int pz, .ref fr, .ref to])) := by rw [← hMw8, va_up_ne _ _ (show md ≠ ab from hD 0 14 (by decide) (by decide))]; exact w2_md
          have w2_ma : Mw8 ma = some (.inl (cI, 3, .inl MA)) := by rw [← hMw8, va_up_ne _ _ (show ma ≠ ab from hD 13 14 (by decide) (by decide))]; exact w2_ma
          have w2_be : Mw8 be = some (.inl (cJ, 192, .inr (.inl B2))) := by rw [← hMw8, va_up_ne _ _ (Ne.symm (show ab ≠ be from hD 14 15 (by decide) (by decide)))]; exact w2_be
          have w2_ab : Mw8 ab = some (.inl (cJ, 192, .inr (.inl (vp_updL A2 (64 * lv + i) (A2 (64 * lv + (i - 1))))))) := by rw [← hMw8]; exact va_up_self _ _ _
          have hfr_Mw8 : ∀ x9, x9 ≠ ab → Mw8 x9 = M2 x9 := fun x9 z9 => by rw [← hMw8, va_up_ne _ _ z9]
          refine lv_aload_n hx hb d_Md_keep_110 rfl (lv_at hl 3 rfl) ?_
          refine hw_get (own := "QuantifierOutModel") (v := .ref be) hx hb hts i_Md hown hW w2_md rfl 16 (by decide) (hts _ tw_619) (fun _ h9 => h9) rfl d_Md_keep_111 ?_
          refine lv_iload hx hb d_Md_keep_114 (lv_at hl 0 rfl) ?_
          refine lv_aload_n hx hb d_Md_keep_116 rfl (lv_at hl 3 rfl) ?_
          refine hw_get (own := "QuantifierOutModel") (v := .ref be) hx hb hts i_Md hown hW w2_md rfl 16 (by decide) (hts _ tw_619) (fun _ h9 => h9) rfl d_Md_keep_117 ?_
          refine lv_iload hx hb d_Md_keep_120 (lv_at hl 0 rfl) ?_
          refine lv_iconst (v := 1) hx hb d_Md_keep_122 (by decide) ?_
          refine lv_isub hx hb d_Md_keep_123 ?_
          refine lv_topi (fun x9 ex9 => ?_)
          have epx9 : x9 = nI (64 * lv + (i - 1)) := by rw [ex9, show 64 * lv + i = 64 * lv + (i - 1) + 1 by omega]; exact nI_pred _
          refine hw_lld hx hb hW 1 w2_be rfl (64 * lv + (i - 1)) epx9 (by omega) (by decide) d_Md_keep_124 ?_
          refine hw_lst hx hb hW hS 1 w2_be rfl (64 * lv + i) rfl (by omega) (by decide) d_Md_keep_125 (fun H locs hW hS => ?_)
          have hW : hw_W D qcl (qty cI cJ cZ cN) _ (va_up Mw8 be (some (.inl (cJ, 192, .inr (.inl (vp_updL B2 (64 * lv + i) (B2 (64 * lv + (i - 1))))))))) s H := hW
          generalize hMw10 : va_up Mw8 be (some (.inl (cJ, 192, .inr (.inl (vp_updL B2 (64 * lv + i) (B2 (64 * lv + (i - 1)))))))) = Mw10 at hW
          have w2_md : Mw10 md = some (.inr (8, [.int cd, .int (nI n), .ref kd, .ref on, .ref tw, .ref nu, .ref le, .ref fx, .ref fy, .ref si, .ref de, .ref ne, .ref it, .ref po, .ref ma, .ref ab, .ref be, .long up, .long dn, .ref li, .int pz, .ref fr, .ref to])) := by rw [← hMw10, va_up_ne _ _ (show md ≠ be from hD 0 15 (by decide) (by decide))]; exact w2_md
          have w2_ma : Mw10 ma = some (.inl (cI, 3, .inl MA)) := by rw [← hMw10, va_up_ne _ _ (show ma ≠ be from hD 13 15 (by decide) (by decide))]; exact w2_ma
          have w2_ab : Mw10 ab = some (.inl (cJ, 192, .inr (.inl (vp_updL A2 (64 * lv + i) (A2 (64 * lv + (i - 1))))))) := by rw [← hMw10, va_up_ne _ _ (show ab ≠ be from hD 14 15 (by decide) (by decide))]; exact w2_ab
          have w2_be : Mw10 be = some (.inl (cJ, 192, .inr (.inl (vp_updL B2 (64 * lv + i) (B2 (64 * lv + (i - 1))))))) := by rw [← hMw10]; exact va_up_self _ _ _
          have hfr_Mw10 : ∀ x9, x9 ≠ be → Mw10 x9 = Mw8 x9 := fun x9 z9 => by rw [← hMw10, va_up_ne _ _ z9]
          obtain ⟨k9, ek9⟩ : ∃ y9 : Int32, y9 = (nI (64 * lv + i)) + Int32.ofInt (-1) := ⟨_, rfl⟩
          refine lv_iinc (v := k9) (lv' := [(4, .int k9), (2, .int (nI (64 * lv + k))), (3, .int (nI (64 * lv + n0))), (0, .ref md), (1, .int (nI lv))]) hx hb d_Md_keep_126 hl (k := 0) rfl ek9.symm (by decide) rfl (fun ls hl => ?_)
          have ek9b : k9 = nI (64 * lv + (i - 1)) := by rw [ek9, show 64 * lv + i = 64 * lv + (i - 1) + 1 by omega]; exact pk_m1 _
          subst ek9b
          refine lv_goto (tgt := 88) hx hb d_Md_keep_129 (by decide) ?_
          refine ihz (i - 1) (by omega) (by omega) H locs Mw10 _ _ ls hW hS ⟨w2_md, (((hfr_Mw10 ne (show ne ≠ be from hD 10 15 (by decide) (by decide)))).trans (hfr_Mw8 ne (show ne ≠ ab from hD 10 14 (by decide) (by decide)))).trans hK2.2.1, (((hfr_Mw10 it (show it ≠ be from hD 11 15 (by decide) (by decide)))).trans (hfr_Mw8 it (show it ≠ ab from hD 11 14 (by decide) (by decide)))).trans hK2.2.2.1, (((hfr_Mw10 po (show po ≠ be from hD 12 15 (by decide) (by decide)))).trans (hfr_Mw8 po (show po ≠ ab from hD 12 14 (by decide) (by decide)))).trans hK2.2.2.2.1, w2_ma, w2_ab, w2_be⟩ (fun x9 z0 z1 z2 z3 z4 z5 z6 => (((hfr_Mw10 x9 z6)).trans (hfr_Mw8 x9 z5)).trans (hf2 x9 z0 z1 z2 z3 z4 z5 z6)) ⟨?_, ?_⟩ (lv_sub hl [0, 1, 2, 3, 4] rfl)
          · intro t h1 h2
            by_cases z9 : t = i
            · rw [z9, pk_uLs, pk_uLs]; exact hsh.2 _ (Or.inl (by omega))
            · rw [pk_uLn (by omega), pk_uLn (by omega)]; exact hsh.1 t (by omega) h2
          · intro j hj; rw [pk_uLn (by omega), pk_uLn (by omega)]; exact hsh.2 j (by omega)
    refine lv_iload_n hx hb d_Md_keep_85 rfl (lv_at hl 1 rfl) ?_
    refine lv_istore (lv' := [(4, .int (nI (64 * lv + n0))), (2, .int (nI (64 * lv + k))), (3, .int (nI (64 * lv + n0))), (0, .ref md), (1, .int (nI lv))]) hx hb d_Md_keep_86 hl (by decide) rfl (fun ls hl => ?_)
    exact loop (n0 - k) n0 (by omega) (Nat.le_refl n0) _ _ M AB BE ls hW hS hK (fun _ _ _ _ _ _ _ _ => rfl) ⟨fun t h1 h2 => absurd h1 (by omega), fun j _ => ⟨rfl, rfl⟩⟩ (lv_sub hl [0, 1, 2, 3, 4] rfl)
  have found : ∀ (k : Nat), k ≤ n0 → (∀ i, i < k → mk_v (kf (64 * lv) AB) (kf (64 * lv) BE) i < v) → (k < n0 → ¬ mk_v (kf (64 * lv) AB) (kf (64 * lv) BE) k < v) → ∀ (ls : Array Slot), lv_has ls 5 [(2, .int (nI (64 * lv + k))), (3, .int (nI (64 * lv + n0))), (0, .ref md), (1, .int (nI lv))] → W p l e ({ frames := 0, cells := 0, slots := 0, locals := 0 }) s m [.ref md, .int (nI lv)].toArray below meth c s.heap [] 0 0 Q9 (F0 m 51 ls []) := by
    intro k hk hlo hst ls hl
    refine lv_iload_n hx hb d_Md_keep_51 rfl (lv_at hl 0 rfl) ?_
    refine lv_iload_n hx hb d_Md_keep_52 rfl (lv_at hl 1 rfl) ?_
    refine lv_icmp_ge (tgt := 85) hx hb d_Md_keep_53 (by decide) (fun c_53 => ?_) (fun c_53 => ?_)
    · skip
      have hkn : k = n0 := by have := (nI_leI (by omega) (by omega)).mp c_53; omega
      exact insert k hk hlo (fun i h1 h2 => absurd h2 (by omega)) ls hl
    · skip
      have hkn : k < n0 := by
        rcases Nat.lt_or_ge k n0 with z9 | z9
        · exact z9
        · exact absurd ((nI_leI (by omega) (by omega)).mpr (by omega)) c_53
      obtain ⟨g1, g2, g3, g4, g5⟩ := hr9.1 k hkn
      have hge : v ≤ mk_v (kf (64 * lv) AB) (kf (64 * lv) BE) k := Rat.not_lt.mp (hst hkn)
      have strict : mk_v (kf (64 * lv) AB) (kf (64 * lv) BE) k ≠ v → ∀ i, k ≤ i → i < n0 → v < mk_v (kf (64 * lv) AB) (kf (64 * lv) BE) i := fun hne i h1 h2 => by
        have h0 : v < mk_v (kf (64 * lv) AB) (kf (64 * lv) BE) k := Rat.lt_of_le_of_ne hge (Ne.symm hne)
        rcases Nat.lt_or_ge k i with z9 | z9
        · have := hr9.2 k i z9 h2; grind
        · rw [show i = k by omega]; exact h0
      refine lv_aload_n hx hb d_Md_keep_56 rfl (lv_at hl 2 rfl) ?_
      refine hw_get (own := "QuantifierOutModel") (v := .ref ab) hx hb hts i_Md hown hW w_md rfl 15 (by decide) (hts _ tw_618) (fun _ h9 => h9) rfl d_Md_keep_57 ?_
      refine lv_iload_n hx hb d_Md_keep_60 rfl (lv_at hl 0 rfl) ?_
      refine hw_lld hx hb hW 1 w_ab rfl (64 * lv + k) rfl (by omega) (by decide) d_Md_keep_61 ?_
      refine lv_aload_n hx hb d_Md_keep_62 rfl (lv_at hl 2 rfl) ?_
      refine hw_get (own := "QuantifierOutModel") (v := .long up) hx hb hts i_Md hown hW w_md rfl 17 (by decide) (hts _ tw_620) (fun _ h9 => h9) rfl d_Md_keep_63 ?_
      refine W.lcmp hx hb d_Md_keep_66 ?_
      refine lv_if_ne (tgt := 85) hx hb d_Md_keep_67 (by decide) (fun c_66 => ?_) (fun c_66 => ?_)
      · skip
        first | rw [lg_cmp_eq] at c_66 | rw [ne_eq, lg_cmp_eq] at c_66 | simp only [ne_eq, lg_cmp_eq, not_not, Decidable.not_not] at c_66
        exact insert k hk hlo (strict (fun z9 => c_66 (Int64.toInt_inj.mp (by rw [hu, ← z9]; exact g4)))) ls hl
      · skip
        first | rw [lg_cmp_eq] at c_66 | rw [ne_eq, lg_cmp_eq] at c_66 | simp only [ne_eq, lg_cmp_eq, not_not, Decidable.not_not] at c_66
        refine lv_aload_n hx hb d_Md_keep_70 rfl (lv_at hl 2 rfl) ?_
        refine hw_get (own := "QuantifierOutModel") (v := .ref be) hx hb hts i_Md hown hW w_md rfl 16 (by decide) (hts _ tw_619) (fun _ h9 => h9) rfl d_Md_keep_71 ?_
        refine lv_iload_n hx hb d_Md_keep_74 rfl (lv_at hl 0 rfl) ?_
        refine hw_lld hx hb hW 1 w_be rfl (64 * lv + k) rfl (by omega) (by decide) d_Md_keep_75 ?_
        refine lv_aload_n hx hb d_Md_keep_76 rfl (lv_at hl 2 rfl) ?_
        refine hw_get (own := "QuantifierOutModel") (v := .long dn) hx hb hts i_Md hown hW w_md rfl 18 (by decide) (hts _ tw_621) (fun _ h9 => h9) rfl d_Md_keep_77 ?_
        refine W.lcmp hx hb d_Md_keep_80 ?_
        refine lv_if_ne (tgt := 85) hx hb d_Md_keep_81 (by decide) (fun c_80 => ?_) (fun c_80 => ?_)
        · skip
          first | rw [lg_cmp_eq] at c_80 | rw [ne_eq, lg_cmp_eq] at c_80 | simp only [ne_eq, lg_cmp_eq, not_not, Decidable.not_not] at c_80
          exact insert k hk hlo (strict (fun z9 => c_80 (Int64.toInt_inj.mp (by rw [hd, ← z9]; exact g5)))) ls hl
        · skip
          first | rw [lg_cmp_eq] at c_80 | rw [ne_eq, lg_cmp_eq] at c_80 | simp only [ne_eq, lg_cmp_eq, not_not, Decidable.not_not] at c_80
          rw [hQ9]
          refine hw_retv hx hb hr hlocks hW hS ⟨n0, AB, BE, kp_same hr9 hkn ?_, ?_, fun x9 z0 z1 z2 z3 z4 z5 z6 => rfl⟩ d_Md_keep_84
          · rw [← hvv]; unfold mk_v kf; rw [c_66, c_80]
          · rw [← hma, upd_id]; exact hK
  have search : ∀ (z k : Nat), k + z = n0 → (∀ i, i < k → mk_v (kf (64 * lv) AB) (kf (64 * lv) BE) i < v) → ∀ (ls : Array Slot), lv_has ls 5 [(2, .int (nI (64 * lv + k))), (3, .int (nI (64 * lv + n0))), (0, .ref md), (1, .int (nI lv))] → W p l e ({ frames := 0, cells := 0, slots := 0, locals := 0 }) s m [.ref md, .int (nI lv)].toArray below meth c s.heap [] 0 0 Q9 (F0 m 14 ls []) := by
    intro z
    induction z with
    | zero =>
      intro k hz hlo ls hl
      refine lv_iload_n hx hb d_Md_keep_14 rfl (lv_at hl 0 rfl) ?_
      refine lv_iload_n hx hb d_Md_keep_15 rfl (lv_at hl 1 rfl) ?_
      refine lv_icmp_ge (tgt := 51) hx hb d_Md_keep_16 (by decide) (fun c_16 => ?_) (fun c_16 => ?_)
      · skip
        exact found k (by omega) hlo (fun h => absurd h (by omega)) ls hl
      · skip
        exact absurd (nI_le (by omega) (by omega)) c_16
    | succ z ihz =>
      intro k hz hlo ls hl
      refine lv_iload_n hx hb d_Md_keep_14 rfl (lv_at hl 0 rfl) ?_
      refine lv_iload_n hx hb d_Md_keep_15 rfl (lv_at hl 1 rfl) ?_
      refine lv_icmp_ge (tgt := 51) hx hb d_Md_keep_16 (by decide) (fun c_16 => ?_) (fun c_16 => ?_)
      · skip
        exact absurd c_16 (nI_ge (by omega) (by omega))
      · skip
        obtain ⟨g1, g2, g3, g4, g5⟩ := hr9.1 k (by omega)
        have hcmp := kp_cmp (a := AB (64 * lv + k)) (b := BE (64 * lv + k)) hB g1 g2 g3 hd0 hdB huB
        rw [hvv] at hcmp
        refine lv_aload_n hx hb d_Md_keep_19 rfl (lv_at hl 2 rfl) ?_
        refine hw_get (own := "QuantifierOutModel") (v := .ref ab) hx hb hts i_Md hown hW w_md rfl 15 (by decide) (hts _ tw_618) (fun _ h9 => h9) rfl d_Md_keep_20 ?_
        refine lv_iload_n hx hb d_Md_keep_23 rfl (lv_at hl 0 rfl) ?_
        refine hw_lld hx hb hW 1 w_ab rfl (64 * lv + k) rfl (by omega) (by decide) d_Md_keep_24 ?_
        refine lv_aload_n hx hb d_Md_keep_25 rfl (lv_at hl 2 rfl) ?_
        refine hw_get (own := "QuantifierOutModel") (v := .long dn) hx hb hts i_Md hown hW w_md rfl 18 (by decide) (hts _ tw_621) (fun _ h9 => h9) rfl d_Md_keep_26 ?_
        refine lv_lmul hx hb d_Md_keep_29 ?_
        refine lv_topl (fun x11 ex11 => ?_)
        refine lv_aload_n hx hb d_Md_keep_30 rfl (lv_at hl 2 rfl) ?_
        refine hw_get (own := "QuantifierOutModel") (v := .long up) hx hb hts i_Md hown hW w_md rfl 17 (by decide) (hts _ tw_620) (fun _ h9 => h9) rfl d_Md_keep_31 ?_
        refine lv_aload_n hx hb d_Md_keep_34 rfl (lv_at hl 2 rfl) ?_
        refine hw_get (own := "QuantifierOutModel") (v := .ref be) hx hb hts i_Md hown hW w_md rfl 16 (by decide) (hts _ tw_619) (fun _ h9 => h9) rfl d_Md_keep_35 ?_
        refine lv_iload_n hx hb d_Md_keep_38 rfl (lv_at hl 0 rfl) ?_
        refine hw_lld hx hb hW 1 w_be rfl (64 * lv + k) rfl (by omega) (by decide) d_Md_keep_39 ?_
        refine lv_lmul hx hb d_Md_keep_40 ?_
        refine lv_topl (fun x12 ex12 => ?_)
        refine W.lcmp hx hb d_Md_keep_41 ?_
        refine lv_if_ge (tgt := 51) hx hb d_Md_keep_42 (by decide) (fun c_41 => ?_) (fun c_41 => ?_)
        · skip
          rw [lg_cmp_ge] at c_41
          exact found k (by omega) hlo (fun _ z9 => by have z8 := hcmp.mpr z9; rw [ex11, ex12, nm_lle] at c_41; rw [nm_llt] at z8; omega) ls hl
        · skip
          rw [lg_cmp_ge] at c_41
          obtain ⟨k9, ek9⟩ : ∃ y9 : Int32, y9 = (nI (64 * lv + k)) + Int32.ofInt (1) := ⟨_, rfl⟩
          refine lv_iinc (v := k9) (lv' := [(2, .int k9), (3, .int (nI (64 * lv + n0))), (0, .ref md), (1, .int (nI lv))]) hx hb d_Md_keep_45 hl (k := 0) rfl ek9.symm (by decide) rfl (fun ls hl => ?_)
          have ek9b : k9 = nI (64 * lv + (k + 1)) := by rw [ek9]; exact nI_add (64 * lv + k) 1
          subst ek9b
          refine lv_goto (tgt := 14) hx hb d_Md_keep_48 (by decide) ?_
          have hlt : mk_v (kf (64 * lv) AB) (kf (64 * lv) BE) k < v := hcmp.mp (by rw [ex11, ex12, nm_lle] at c_41; rw [nm_llt]; omega)
          exact ihz (k + 1) (by omega) (fun i hi => by rcases Nat.lt_or_ge i k with z9 | z9; exact hlo i z9; rw [show i = k by omega]; exact hlt) ls (lv_sub hl [0, 1, 2, 3] rfl)
  have hl9 : lv_has ls 5 [(2, .int x1), (3, .int x2), (0, .ref md), (1, .int (nI lv))] := lv_sub hl [1, 0, 2, 3] rfl
  exact search n0 0 (by omega) (fun i hi => absurd hi (Nat.not_lt_zero i)) ls (lv_eq2 hl9 (congrArg Value.int ek) (congrArg Value.int ee))
end G37

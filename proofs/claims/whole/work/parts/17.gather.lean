/-! Marks.gather: the marks cover every place where a line, or the order of two, can change -/
def mk_has (f g : Nat → Int64) (n : Nat) (q : Rat) : Prop := ∃ i, i < n ∧ mk_v f g i = q
theorem mk_has_ins {n n2 B : Nat} {f g f2 g2 : Nat → Int64} {u d : Int} {q : Rat} (h : mk_ins n f g u d B n2 f2 g2) (k : mk_has f g n q) : mk_has f2 g2 n2 q := by
  obtain ⟨i, hi, e⟩ := k
  obtain ⟨j, hj, e2⟩ := h.2.2.2.2.1 i hi
  exact ⟨j, hj, e2.trans e⟩
theorem mk_has_new {n n2 B : Nat} {f g f2 g2 : Nat → Int64} {u d : Int} (h : mk_ins n f g u d B n2 f2 g2) (hd : d ≠ 0) (hn : n < 21) : mk_has f2 g2 n2 (qm_fr u d) := h.2.2.2.2.2 hd hn
/-- line t meets the other letter's value x / y in place of letter j -/
def ga_v (F : Nat → Int32) (j o : Nat) (x y : Int) (n : Nat) (f g : Nat → Int64) (t : Nat) : Prop := (F (3 * t + j)).toInt * y ≠ 0 → mk_has f g n (qm_fr (-((F (3 * t + o)).toInt * x + (F (3 * t + 2)).toInt * y)) ((F (3 * t + j)).toInt * y))
/-- lines t and r meet -/
def ga_c (F : Nat → Int32) (j o : Nat) (n : Nat) (f g : Nat → Int64) (t r : Nat) : Prop := (F (3 * t + j)).toInt * (F (3 * r + o)).toInt - (F (3 * r + j)).toInt * (F (3 * t + o)).toInt ≠ 0 → mk_has f g n (qm_fr (-((F (3 * t + 2)).toInt * (F (3 * r + o)).toInt - (F (3 * r + 2)).toInt * (F (3 * t + o)).toInt)) ((F (3 * t + j)).toInt * (F (3 * r + o)).toInt - (F (3 * r + j)).toInt * (F (3 * t + o)).toInt))
def ga_O (F : Nat → Int32) (j o : Nat) (x y : Int) (dp B n : Nat) (f g : Nat → Int64) (t : Nat) : Prop := mk_row f g n B ∧ 2 * n ≤ t * (t + 1) ∧ (∀ t', t' < t → ga_v F j o x y n f g t') ∧ (0 < dp → ∀ t' r, t' < t → r < t' → ga_c F j o n f g t' r)
def ga_N (F : Nat → Int32) (j o : Nat) (x y : Int) (dp B n : Nat) (f g : Nat → Int64) (t r : Nat) : Prop := mk_row f g n B ∧ 2 * n ≤ t * (t + 1) + 2 + 2 * r ∧ (∀ t', t' ≤ t → ga_v F j o x y n f g t') ∧ (0 < dp → (∀ t' r', t' < t → r' < t' → ga_c F j o n f g t' r') ∧ ∀ r', r' < r → ga_c F j o n f g t r')
theorem ga_t {t n z : Nat} (ht : t < 6) (h : 2 * n ≤ t * (t + 1) + z) : 2 * n ≤ 30 + z ∧ t * (t + 1) ≤ 30 := by
  rcases (show t = 0 ∨ t = 1 ∨ t = 2 ∨ t = 3 ∨ t = 4 ∨ t = 5 by omega) with rfl | rfl | rfl | rfl | rfl | rfl <;> omega
theorem ga_ON {F : Nat → Int32} {j o : Nat} {x y : Int} {dp B n n2 : Nat} {f g f2 g2 : Nat → Int64} {t : Nat} (ht : t < 6) (h : ga_O F j o x y dp B n f g t) (k : mk_ins n f g (-((F (3 * t + o)).toInt * x + (F (3 * t + 2)).toInt * y)) ((F (3 * t + j)).toInt * y) B n2 f2 g2) : ga_N F j o x y dp B n2 f2 g2 t 0 := by
  obtain ⟨h1, h2, h3, h4⟩ := h
  have h5 := ga_t ht (z := 0) h2
  refine ⟨k.2.2.2.1, by have := k.2.2.1; omega, fun t' ht' hd => ?_, fun hdp => ⟨fun t' r' a b hd => mk_has_ins k (h4 hdp t' r' a b hd), fun r' hr' => absurd hr' (Nat.not_lt_zero r')⟩⟩
  rcases Nat.lt_or_ge t' t with c | c
  · exact mk_has_ins k (h3 t' c hd)
  · have e : t' = t := by omega
    subst e
    exact mk_has_new k hd (by omega)
theorem ga_NN {F : Nat → Int32} {j o : Nat} {x y : Int} {dp B n n2 : Nat} {f g f2 g2 : Nat → Int64} {t r : Nat} (ht : t < 6) (hr : r < t) (h : ga_N F j o x y dp B n f g t r) (k : mk_ins n f g (-((F (3 * t + 2)).toInt * (F (3 * r + o)).toInt - (F (3 * r + 2)).toInt * (F (3 * t + o)).toInt)) ((F (3 * t + j)).toInt * (F (3 * r + o)).toInt - (F (3 * r + j)).toInt * (F (3 * t + o)).toInt) B n2 f2 g2) : ga_N F j o x y dp B n2 f2 g2 t (r + 1) := by
  obtain ⟨h1, h2, h3, h4⟩ := h
  have h5 := ga_t ht (z := 2 + 2 * r) (by omega) (n := n)
  refine ⟨k.2.2.2.1, by have := k.2.2.1; omega, fun t' ht' hd => mk_has_ins k (h3 t' ht' hd), fun hdp => ⟨fun t' r' a b hd => mk_has_ins k ((h4 hdp).1 t' r' a b hd), fun r' hr' hd => ?_⟩⟩
  rcases Nat.lt_or_ge r' r with c | c
  · exact mk_has_ins k ((h4 hdp).2 r' c hd)
  · have e : r' = r := by omega
    subst e
    exact mk_has_new k hd (by omega)
theorem ga_NO {F : Nat → Int32} {j o : Nat} {x y : Int} {dp B n : Nat} {f g : Nat → Int64} {t r : Nat} (h : ga_N F j o x y dp B n f g t r) (hr : r ≤ t) (hx : t ≤ r ∨ dp = 0) : ga_O F j o x y dp B n f g (t + 1) := by
  obtain ⟨h1, h2, h3, h4⟩ := h
  refine ⟨h1, ?_, fun t' ht' => h3 t' (by omega), fun hdp t' r' a b => ?_⟩
  · have e : (t + 1) * (t + 1 + 1) = t * (t + 1) + 2 + 2 * t := by
      rw [Nat.add_mul, Nat.mul_add t (t + 1) 1]; omega
    omega
  · rcases Nat.lt_or_ge t' t with c | c
    · exact (h4 hdp).1 t' r' c b
    · have e : t' = t := by omega
      subst e
      exact (h4 hdp).2 r' (by omega)
theorem ga_n {F : Nat → Int32} {j o : Nat} {x y : Int} {dp B n : Nat} {f g : Nat → Int64} {t nl : Nat} (h : ga_O F j o x y dp B n f g t) (ht : t ≤ nl) (hnl : nl ≤ 6) : n ≤ 21 := by
  have h2 := h.2.1
  rcases (show t = 0 ∨ t = 1 ∨ t = 2 ∨ t = 3 ∨ t = 4 ∨ t = 5 ∨ t = 6 by omega) with rfl | rfl | rfl | rfl | rfl | rfl | rfl <;> omega
theorem ga_n2 {F : Nat → Int32} {j o : Nat} {x y : Int} {dp B n : Nat} {f g : Nat → Int64} {t r : Nat} (h : ga_N F j o x y dp B n f g t r) (ht : t < 6) (hr : r ≤ t) : n ≤ 21 := by
  have h2 := ga_t ht (z := 2 + 2 * r) (by have := h.2.1; omega) (n := n)
  omega
section G17
variable (l : Launch) (D : va_G) (cI cJ cZ cN : ClassId)
set_option maxHeartbeats 4000000 in
set_option maxRecDepth 100000 in
theorem c_Mk_gather (h0 ma mb n B Bv sz la nl dp j o v va vb om im nd ci : Nat) (fx fy : Bool) (gr : Int32) (ex : List Value) (f g fv gv : Nat → Int64) (F : Nat → Int32) (M : Nat → Option va_E) (hM : mk_S cJ M h0 ma mb n f g) (hne : ma ≠ mb) (hB : B ≤ 1000000) (hB5 : 50 ≤ B) (hnd : nd_c M nd ci (nd_fr fx fy) (nI dp) la gr ex) (hdp : dp < 1000) (hla : M la = some (.inl (cI, 3 * nl, .inl F))) (hnl : nl ≤ 6) (hjo : j + o = 1) (hF : ∀ i, i < 3 * nl → (F i).toInt.natAbs ≤ 5) (hV : vs_S cJ M v va vb om im fv gv) (hfv : (fv o).toInt.natAbs ≤ Bv) (hgv : (gv o).toInt.natAbs ≤ Bv) (hBv : 10 * Bv ≤ B) (na1 : va ≠ ma) (na2 : va ≠ mb) (nb1 : vb ≠ ma) (nb2 : vb ≠ mb) : Met l y_Mk_gather (.code y_Mk_gather b_Mk_gather 7 none :: ww) ({ frames := 3, cells := 0, slots := 0, locals := 140 }) (hw_Pc D qcl (qty cI cJ cZ cN) [.ref h0, .ref nd, .int (nI j), .ref v] M sz) (va_Qv (fun M1 => ∃ (n2 : Nat) (f2 g2 : Nat → Int64), mk_S cJ M1 h0 ma mb n2 f2 g2 ∧ (∀ q, q ≠ h0 → q ≠ ma → q ≠ mb → M1 q = M q) ∧ n2 ≤ 21 ∧ mk_row f2 g2 n2 B ∧ ((if j = 0 then fx else fy) = false → n2 = 0) ∧ ((if j = 0 then fx else fy) = true → (∀ t, t < nl → ga_v F j o (fv o).toInt (gv o).toInt n2 f2 g2 t) ∧ (0 < dp → ∀ t r, t < nl → r < t → ga_c F j o n2 f2 g2 t r))) (hw_B D qcl (qty cI cJ cZ cN) M sz) (hw_A M sz)) 0 0 (hw_A M sz) := by
  obtain ⟨hk, hfa, hgb⟩ := hM
  have nd0 : nd ≠ h0 := by rcases hnd with ⟨rfl | rfl | rfl | rfl, hnd⟩ <;> exact hw_ne hnd hk (by simp)
  have nd1 : nd ≠ ma := hw_ne hnd.2 hfa (by simp)
  have nd2 : nd ≠ mb := hw_ne hnd.2 hgb (by simp)
  have la0 : la ≠ h0 := hw_ne hla hk (by simp)
  have la1 : la ≠ ma := hw_ne hla hfa (by simp)
  have la2 : la ≠ mb := hw_ne hla hgb (by simp)
  have v0 : v ≠ h0 := hw_ne hV.1 hk (by simp)
  have v1 : v ≠ ma := hw_ne hV.1 hfa (by simp)
  have v2 : v ≠ mb := hw_ne hV.1 hgb (by simp)
  have va0 : va ≠ h0 := hw_ne hV.2.1 hk (by simp)
  have vb0 : vb ≠ h0 := hw_ne hV.2.2 hk (by simp)
  refine hw_met (by decide) (Nat.le_of_ble_eq_true rfl) ?_
  intro p e s m below meth c hx hb hr hml hown hlocks hnm hts hsz hX hW ls hl
  subst hsz
  have hA : ∀ q, s.heap.size ≤ q → hw_A M s.heap.size q := fun q h => Or.inr h
  have hS : va_S (hw_A M s.heap.size) s.heap s.heap [] := va_S.rf
  have hl : lv_has ls 7 [(0, .ref h0), (1, .ref nd), (2, .int (nI j)), (3, .ref v)] := hl
  have hown : s.vm.findClass "QuantifierOut$Marks" = some m.cls := hown
  obtain ⟨Q9, hQ9⟩ : ∃ X : State → Prop, X = MQ below (va_Qv (fun M1 => ∃ (n2 : Nat) (f2 g2 : Nat → Int64), mk_S cJ M1 h0 ma mb n2 f2 g2 ∧ (∀ q, q ≠ h0 → q ≠ ma → q ≠ mb → M1 q = M q) ∧ n2 ≤ 21 ∧ mk_row f2 g2 n2 B ∧ ((if j = 0 then fx else fy) = false → n2 = 0) ∧ ((if j = 0 then fx else fy) = true → (∀ t, t < nl → ga_v F j o (fv o).toInt (gv o).toInt n2 f2 g2 t) ∧ (0 < dp → ∀ t r, t < nl → r < t → ga_c F j o n2 f2 g2 t r))) (hw_B D qcl (qty cI cJ cZ cN) M s.heap.size) (hw_A M s.heap.size)) [.ref h0, .ref nd, .int (nI j), .ref v].toArray s 0 0 (hw_A M s.heap.size) := ⟨_, rfl⟩
  rw [← hQ9]
  have kp : ∀ M2 : Nat → Option va_E, (∀ q, q ≠ h0 → q ≠ ma → q ≠ mb → M2 q = M q) → nd_c M2 nd ci (nd_fr fx fy) (nI dp) la gr ex ∧ M2 la = some (.inl (cI, 3 * nl, .inl F)) ∧ vs_S cJ M2 v va vb om im fv gv := fun M2 hf => ⟨⟨hnd.1, (hf nd nd0 nd1 nd2).trans hnd.2⟩, (hf la la0 la1 la2).trans hla, (hf v v0 v1 v2).trans hV.1, (hf va va0 na1 na2).trans hV.2.1, (hf vb vb0 nb1 nb2).trans hV.2.2⟩
  refine lv_aload_n hx hb d_Mk_gather_0 rfl (lv_at hl 0 rfl) ?_
  refine lv_iconst (v := 0) hx hb d_Mk_gather_1 (by decide) ?_
  refine hw_put (own := "QuantifierOut$Marks") (v := .int 0) (ty := .int) hx hb hts i_Mk ft_Mk tk_Mk n_Mk hown hW hS hk rfl 2 (by decide) (hts _ tw_43) (fun _ h9 => h9) rfl (tk_Mk 2 (by decide)) rfl rfl (Nat.le_of_ble_eq_true rfl) d_Mk_gather_2 (fun H locs hW hS => ?_)
  have hW : hw_W D qcl (qty cI cJ cZ cN) _ (va_up M h0 (some (.inr (2, [.ref ma, .ref mb, .int 0])))) s H := hW
  generalize hM1 : va_up M h0 (some (.inr (2, [.ref ma, .ref mb, .int 0]))) = M1 at hW
  have n_ma_h0 : ma ≠ h0 := (hw_ne hfa hk (by simp))
  have n_mb_h0 : mb ≠ h0 := (hw_ne hgb hk (by simp))
  have hfa : M1 ma = some (.inl (cJ, 21, .inr (.inl f))) := by rw [← hM1, va_up_ne _ _ n_ma_h0]; exact hfa
  have hgb : M1 mb = some (.inl (cJ, 21, .inr (.inl g))) := by rw [← hM1, va_up_ne _ _ n_mb_h0]; exact hgb
  have hk : M1 h0 = some (.inr (2, [.ref ma, .ref mb, .int 0])) := by rw [← hM1]; exact va_up_self _ _ _
  refine lv_aload_n hx hb d_Mk_gather_5 rfl (lv_at hl 1 rfl) ?_
  refine lv_iload_n hx hb d_Mk_gather_6 rfl (lv_at hl 2 rfl) ?_
  have fr1 : ∀ q, q ≠ h0 → q ≠ ma → q ≠ mb → M1 q = M q := fun q q1 _ _ => by rw [← hM1]; exact va_up_ne _ _ q1
  obtain ⟨hnd1, hla1, hV1⟩ := kp M1 fr1
  refine hw_calli (nd_runF (n := 1) (own := "QuantifierOut$Marks") (As := [.int (nI j)]) (rest := []) hx hb hml hown hts hX hW hl.1 (c_Nd_isFree l D cI cJ cZ cN nd ci la j _ fx fy (nI dp) gr ex M1 hnd1 (by omega)) hnd1 tw_474 tw_425 tw_426 tw_427 tw_428 tw_429 tw_424 tw_11 tw_430 (by decide +kernel) rfl rfl ⟨by decide, by decide⟩ rfl rfl (Nat.le_of_ble_eq_true rfl) d_Mk_gather_7 ⟨by decide, by decide⟩) hW hS hA (fun r1 Mf H locs hp hz hW hS => ?_)
  obtain ⟨er1, eMf⟩ := hp
  rw [eMf] at hW
  refine lv_if_ne (tgt := 14) hx hb d_Mk_gather_10 (by decide) (fun c_10 => ?_) (fun c_10 => ?_)
  · skip
    have hft : (if j = 0 then fx else fy) = true := by
      cases hq : (if j = 0 then fx else fy)
      · rw [hq] at er1; exact absurd (show r1 = 0 by rw [er1]; rfl) c_10
      · rfl
    have loop : ∀ (z t : Nat), t ≤ nl → nl + 1 ≤ t + z → ∀ (H : Heap) (locs : List Loc) (M2 : Nat → Option va_E) (n2 : Nat) (f2 g2 : Nat → Int64) (ls : Array Slot), hw_W D qcl (qty cI cJ cZ cN) (hw_A M s.heap.size) M2 s H → va_S (hw_A M s.heap.size) s.heap H locs → mk_S cJ M2 h0 ma mb n2 f2 g2 → (∀ q, q ≠ h0 → q ≠ ma → q ≠ mb → M2 q = M q) → ga_O F j o (fv o).toInt (gv o).toInt dp B n2 f2 g2 t → lv_has ls 7 [(5, .int (nI (3 * t))), (4, .ref la), (0, .ref h0), (1, .ref nd), (2, .int (nI j)), (3, .ref v)] → W p l e ({ frames := 3, cells := 0, slots := 0, locals := 140 }) s m [.ref h0, .ref nd, .int (nI j), .ref v].toArray below meth c H locs 0 0 Q9 (F0 m 23 ls []) := by
      intro z
      induction z with
      | zero => intro t h1 h2; exact absurd h2 (by omega)
      | succ z ih =>
        intro t htn hz9 H locs M2 n2 f2 g2 ls hW hS hmk hf hI hl
        obtain ⟨hnd2, hla2, hV2⟩ := kp M2 hf
        refine lv_iload hx hb d_Mk_gather_23 (lv_at hl 0 rfl) ?_
        refine lv_iconst (v := 3) hx hb d_Mk_gather_25 (by decide) ?_
        refine lv_iadd hx hb d_Mk_gather_26 ?_
        refine lv_topi (fun x2 ex2 => ?_)
        refine lv_aload hx hb d_Mk_gather_27 (lv_at hl 1 rfl) ?_
        refine hw_alen (v := (nI (3 * nl))) hx hb hW 0 hla2 rfl (by rfl) d_Mk_gather_29 ?_
        have e3 : x2 = nI (3 * t + 3) := by rw [ex2]; exact nI_add (3 * t) 3
        refine lv_icmp_gt (tgt := 83) hx hb d_Mk_gather_30 (by decide) (fun c_30 => ?_) (fun c_30 => ?_)
        · skip
          have hge : nl < t + 1 := by rw [e3] at c_30; have := (nI_ltI (by omega) (by omega)).mp c_30; omega
          have et : t = nl := by omega
          subst et
          rw [hQ9]
          exact hw_retv hx hb hr hlocks hW hS ⟨n2, f2, g2, hmk, hf, ga_n hI (Nat.le_refl _) hnl, hI.1, fun h => (by rw [hft] at h; cases h), fun _ => ⟨hI.2.2.1, hI.2.2.2⟩⟩ d_Mk_gather_83
        · skip
          have hlt : t < nl := by
            rcases Nat.lt_or_ge t nl with q | q
            · exact q
            · exact absurd (by rw [e3]; exact (nI_ltI (by omega) (by omega)).mpr (by omega)) c_30
          refine lv_aload_n hx hb d_Mk_gather_33 rfl (lv_at hl 2 rfl) ?_
          refine lv_aload hx hb d_Mk_gather_34 (lv_at hl 1 rfl) ?_
          refine lv_iload hx hb d_Mk_gather_36 (lv_at hl 0 rfl) ?_
          refine lv_iload_n hx hb d_Mk_gather_38 rfl (lv_at hl 4 rfl) ?_
          refine lv_aload_n hx hb d_Mk_gather_39 rfl (lv_at hl 5 rfl) ?_
          refine hw_callv (hw_runV (n := 4) (own := "QuantifierOut$Marks") (As := [.ref la, .int (nI (3 * t)), .int (nI j), .ref v]) (rest := []) hx hb hml hown hts hX hW hl.1 (c_Mk_markValue l D cI cJ cZ cN h0 ma mb n2 B Bv _ la nl t j o v va vb om im f2 g2 fv gv F M2 hmk hne (ga_n hI htn hnl) hI.1 hB hla2 hnl hlt hjo hF hV2 hfv hgv hBv) hmk.1 rfl tw_475 tw_477 ts_6 tw_3 tw_478 (by decide +kernel) rfl rfl ⟨by decide, by decide⟩ rfl rfl (Nat.le_of_ble_eq_true rfl) d_Mk_gather_40 ⟨by decide, by decide⟩) hW hS hA (fun M3 H locs hp hz hW hS => ?_)
          obtain ⟨n3, f3, g3, hmk3, hf3, hin3⟩ := hp
          have hf3 : ∀ q, q ≠ h0 → q ≠ ma → q ≠ mb → M3 q = M q := fun q q1 q2 q3 => (hf3 q q1 q2 q3).trans (hf q q1 q2 q3)
          have hN3 := ga_ON (dp := dp) (by omega) hI hin3
          have out : ∀ (r : Nat) (H : Heap) (locs : List Loc) (M2 : Nat → Option va_E) (n2 : Nat) (f2 g2 : Nat → Int64) (ls : Array Slot), hw_W D qcl (qty cI cJ cZ cN) (hw_A M s.heap.size) M2 s H → va_S (hw_A M s.heap.size) s.heap H locs → mk_S cJ M2 h0 ma mb n2 f2 g2 → (∀ q, q ≠ h0 → q ≠ ma → q ≠ mb → M2 q = M q) → ga_O F j o (fv o).toInt (gv o).toInt dp B n2 f2 g2 (t + 1) → lv_has ls 7 [(6, .int (nI (3 * r))), (5, .int (nI (3 * t))), (4, .ref la), (0, .ref h0), (1, .ref nd), (2, .int (nI j)), (3, .ref v)] → W p l e ({ frames := 3, cells := 0, slots := 0, locals := 140 }) s m [.ref h0, .ref nd, .int (nI j), .ref v].toArray below meth c H locs 0 0 Q9 (F0 m 77 ls []) := by
            intro r H locs M2 n2 f2 g2 ls hW hS hmk hf hI hl
            obtain ⟨i5, ei5⟩ : ∃ y9 : Int32, y9 = (nI (3 * t)) + Int32.ofInt (3) := ⟨_, rfl⟩
            refine lv_iinc (v := i5) (lv' := [(5, .int i5), (6, .int (nI (3 * r))), (4, .ref la), (0, .ref h0), (1, .ref nd), (2, .int (nI j)), (3, .ref v)]) hx hb d_Mk_gather_77 hl (k := 1) rfl ei5.symm (by decide) rfl (fun ls hl => ?_)
            have ei : i5 = nI (3 * (t + 1)) := by rw [ei5]; exact nI_add (3 * t) 3
            subst ei
            refine lv_goto (tgt := 23) hx hb d_Mk_gather_80 (by decide) ?_
            exact ih (t + 1) (by omega) (by omega) H locs M2 n2 f2 g2 ls hW hS hmk hf hI (lv_sub hl [0, 2, 3, 4, 5, 6] rfl)
          have inner : ∀ (y r : Nat), r ≤ t → t + 1 ≤ r + y → ∀ (H : Heap) (locs : List Loc) (M2 : Nat → Option va_E) (n2 : Nat) (f2 g2 : Nat → Int64) (ls : Array Slot), hw_W D qcl (qty cI cJ cZ cN) (hw_A M s.heap.size) M2 s H → va_S (hw_A M s.heap.size) s.heap H locs → mk_S cJ M2 h0 ma mb n2 f2 g2 → (∀ q, q ≠ h0 → q ≠ ma → q ≠ mb → M2 q = M q) → ga_N F j o (fv o).toInt (gv o).toInt dp B n2 f2 g2 t r → lv_has ls 7 [(6, .int (nI (3 * r))), (5, .int (nI (3 * t))), (4, .ref la), (0, .ref h0), (1, .ref nd), (2, .int (nI j)), (3, .ref v)] → W p l e ({ frames := 3, cells := 0, slots := 0, locals := 140 }) s m [.ref h0, .ref nd, .int (nI j), .ref v].toArray below meth c H locs 0 0 Q9 (F0 m 46 ls []) := by
            intro y
            induction y with
            | zero => intro r h1 h2; exact absurd h2 (by omega)
            | succ y ih2 =>
              intro r hrt hy9 H locs M2 n2 f2 g2 ls hW hS hmk hf hI hl
              obtain ⟨hnd2, hla2, hV2⟩ := kp M2 hf
              refine lv_iload hx hb d_Mk_gather_46 (lv_at hl 0 rfl) ?_
              refine lv_iload hx hb d_Mk_gather_48 (lv_at hl 1 rfl) ?_
              refine lv_icmp_ge (tgt := 77) hx hb d_Mk_gather_50 (by decide) (fun c_50 => ?_) (fun c_50 => ?_)
              · skip
                have : t ≤ r := by have := (nI_leI (by omega) (by omega)).mp c_50; omega
                exact out r H locs M2 n2 f2 g2 ls hW hS hmk hf (ga_NO hI hrt (Or.inl this)) hl
              · skip
                have hrlt : r < t := by
                  rcases Nat.lt_or_ge r t with q | q
                  · exact q
                  · exact absurd ((nI_leI (by omega) (by omega)).mpr (by omega)) c_50
                refine lv_aload_n hx hb d_Mk_gather_53 rfl (lv_at hl 4 rfl) ?_
                refine nd_get1 (own := "QuantifierOut$Marks") hx hb hts hown hW hnd2 tw_239 d_Mk_gather_54 ?_
                refine lv_if_le (tgt := 77) hx hb d_Mk_gather_57 (by decide) (fun c_57 => ?_) (fun c_57 => ?_)
                · skip
                  have hd0 : dp = 0 := by
                    rcases Nat.eq_zero_or_pos dp with q | q
                    · exact q
                    · exact absurd c_57 (nI_nle q (by omega))
                  exact out r H locs M2 n2 f2 g2 ls hW hS hmk hf (ga_NO hI hrt (Or.inr hd0)) hl
                · skip
                  refine lv_aload_n hx hb d_Mk_gather_60 rfl (lv_at hl 3 rfl) ?_
                  refine lv_aload hx hb d_Mk_gather_61 (lv_at hl 2 rfl) ?_
                  refine lv_iload hx hb d_Mk_gather_63 (lv_at hl 1 rfl) ?_
                  refine lv_iload hx hb d_Mk_gather_65 (lv_at hl 0 rfl) ?_
                  refine lv_iload_n hx hb d_Mk_gather_67 rfl (lv_at hl 5 rfl) ?_
                  refine hw_callv (hw_runV (n := 4) (own := "QuantifierOut$Marks") (As := [.ref la, .int (nI (3 * t)), .int (nI (3 * r)), .int (nI j)]) (rest := []) hx hb hml hown hts hX hW hl.1 (c_Mk_markCrossing l D cI cJ cZ cN h0 ma mb n2 B _ la nl t r j o f2 g2 F M2 hmk hne (ga_n2 hI (by omega) hrt) hI.1 hB hB5 hla2 hnl hlt (by omega) hjo hF) hmk.1 rfl tw_484 tw_486 ts_8 tw_3 tw_487 (by decide +kernel) rfl rfl ⟨by decide, by decide⟩ rfl rfl (Nat.le_of_ble_eq_true rfl) d_Mk_gather_68 ⟨by decide, by decide⟩) hW hS hA (fun M4 H locs hp hz hW hS => ?_)
                  obtain ⟨n4, f4, g4, hmk4, hf4, hin4⟩ := hp
                  have hf4 : ∀ q, q ≠ h0 → q ≠ ma → q ≠ mb → M4 q = M q := fun q q1 q2 q3 => (hf4 q q1 q2 q3).trans (hf q q1 q2 q3)
                  obtain ⟨i6, ei6⟩ : ∃ y9 : Int32, y9 = (nI (3 * r)) + Int32.ofInt (3) := ⟨_, rfl⟩
                  refine lv_iinc (v := i6) (lv' := [(6, .int i6), (5, .int (nI (3 * t))), (4, .ref la), (0, .ref h0), (1, .ref nd), (2, .int (nI j)), (3, .ref v)]) hx hb d_Mk_gather_71 hl (k := 0) rfl ei6.symm (by decide) rfl (fun ls hl => ?_)
                  have ei : i6 = nI (3 * (r + 1)) := by rw [ei6]; exact nI_add (3 * r) 3
                  subst ei
                  refine lv_goto (tgt := 46) hx hb d_Mk_gather_74 (by decide) ?_
                  exact ih2 (r + 1) (by omega) (by omega) H locs M4 n4 f4 g4 ls hW hS hmk4 hf4 (ga_NN (by omega) hrlt hI hin4) (lv_sub hl [0, 1, 2, 3, 4, 5, 6] rfl)
          refine lv_iconst (v := 0) hx hb d_Mk_gather_43 (by decide) ?_
          refine lv_istore (lv' := [(6, .int 0), (5, .int (nI (3 * t))), (4, .ref la), (0, .ref h0), (1, .ref nd), (2, .int (nI j)), (3, .ref v)]) hx hb d_Mk_gather_44 hl (by decide) rfl (fun ls hl => ?_)
          exact inner (t + 1) 0 (by omega) (by omega) H locs M3 n3 f3 g3 ls hW hS hmk3 hf3 hN3 (lv_sub hl [0, 1, 2, 3, 4, 5, 6] rfl)
    refine lv_aload_n hx hb d_Mk_gather_14 rfl (lv_at hl 1 rfl) ?_
    refine nd_get2 (own := "QuantifierOut$Marks") hx hb hts hown hW hnd1 tw_245 d_Mk_gather_15 ?_
    refine lv_astore (lv' := [(4, .ref la), (0, .ref h0), (1, .ref nd), (2, .int (nI j)), (3, .ref v)]) hx hb d_Mk_gather_18 hl (by decide) rfl (fun ls hl => ?_)
    refine lv_iconst (v := 0) hx hb d_Mk_gather_20 (by decide) ?_
    refine lv_istore (lv' := [(5, .int 0), (4, .ref la), (0, .ref h0), (1, .ref nd), (2, .int (nI j)), (3, .ref v)]) hx hb d_Mk_gather_21 hl (by decide) rfl (fun ls hl => ?_)
    exact loop (nl + 1) 0 (by omega) (by omega) H locs M1 0 f g ls hW hS ⟨hk, hfa, hgb⟩ fr1 ⟨⟨fun i hi => absurd hi (Nat.not_lt_zero i), fun i j2 _ hj2 => absurd hj2 (Nat.not_lt_zero j2)⟩, by omega, fun t ht => absurd ht (Nat.not_lt_zero t), fun _ t r ht => absurd ht (Nat.not_lt_zero t)⟩ (lv_sub hl [0, 1, 2, 3, 4, 5] rfl)
  · skip
    have hff : (if j = 0 then fx else fy) = false := by
      cases hq : (if j = 0 then fx else fy)
      · rfl
      · rw [hq] at er1; exact absurd c_10 (by rw [er1]; decide)
    rw [hQ9]
    refine hw_retv hx hb hr hlocks hW hS ⟨0, f, g, ⟨hk, hfa, hgb⟩, fr1, by omega, ⟨fun i hi => absurd hi (Nat.not_lt_zero i), fun i j2 _ hj2 => absurd hj2 (Nat.not_lt_zero j2)⟩, fun _ => rfl, fun h => ?_⟩ d_Mk_gather_13
    rw [hff] at h; cases h
end G17

/-! THE CLAIM OUT OF ONE WALK OF THE LAW'S BODY. Your part is whole_start (and what it stands on); all else here is the same for every law, but numbers. -/
def R_law : String := "QuantifierOutLaw"
def lw_P (b : Addr) (xs : List Int32) (args : Array Value) (s : State) : Prop := args = #[.ref b] ∧ s.IntsAt b xs ∧ xs.length ≤ 2560 ∧ (Jvm.Cond.and given_1 narrow_1).before args s = true
def lw_Q (_ : Array Value) (s : State) (o : Outcome) (t : State) : Prop := o = .returned (some (.int 1)) ∧ Framed s o t [] 601024 7293033
def lw_Z (below : List Frame) (a : Array Value) (s : State) : State → Prop := fun t => ∃ o, t.status = .running ∧ Ended t below o ∧ lw_Q a s o t
/-- the law's own end, with 1 on the stack, nothing written that was there before, its room as the claim has it -/
theorem lw_ret {p : Program} {l : Launch} {e : Env} {s : State} {m : MethodId} {below : List Frame} {meth : Method} {c : Code} {b : Nat} (hx : p.tables.exec = Jvm.exec) (hb : c.code = code) (hr : meth.sig.returnType = ret) (hlocks : meth.locks = false) {pc : Nat} {H : Heap} {ls : Array Slot} (hdg : decode code pc = .ok (.ireturn, 1)) : W p l e room_1 s m #[Value.ref b] below meth c H [] 601024 7293033 (lw_Z below #[Value.ref b] s) (F0 m pc ls [.int 1]) := by
  intro T hT X
  obtain ⟨fs, hret, hrun, hended, hW, hframe⟩ := X.leave (v := some (.int 1)) (hlocks := hlocks) (fun h => by rw [hr] at h; cases h)
  have hmeth' : T.vm.method? m = some meth := X.method'
  refine ⟨T.setFrames fs, ?_, .returned (some (.int 1)), hrun, hended, rfl, ⟨_, rfl⟩, hW, hframe⟩
  jvm_step X.here [X.here.top, hx, hb, hdg, hmeth', hr, ret, narrow_b1]
  (try refine ⟨rfl, ?_⟩); (try refine ⟨rfl, ?_⟩)
  first | (intro acts; rw [hret _ acts rfl rfl rfl]) | rw [hret _ _ rfl rfl rfl]
  exact Steps.refl _
/-- what holds at the law's entry: the machine, the code, the tables' words (any of lw_tbl by 'hts w (by decide +kernel)'), the script of L ints xs at the cell b, what the Statement gives of the start (any of its parts by flat_of_before) -/
def lw_At (p : Program) (s : State) (m : MethodId) (meth : Method) (c : Code) (b L : Nat) (xs : Nat → Int32) : Prop :=
  p.tables.exec = Jvm.exec ∧ c.code = code ∧ meth.sig.returnType = ret ∧ c.maxLocals = 8 ∧ s.vm.findClass R_law = some m.cls ∧ (∀ w ∈ lw_tbl, w.before #[Value.ref b] s = true) ∧ va_X b L xs s s.heap ∧ b < s.heap.size ∧ meth.locks = false ∧ (Jvm.Cond.and given_1 narrow_1).before #[Value.ref b] s = true
/-! The law: one call of the script -/
abbrev lw_Aq (s : State) : Nat → Prop := fun q => s.heap.size ≤ q
def lw_Zc (md kd on tw nu le fx fy si de ne it po ma ab be li fr to : Nat) (ou : Nat) (x : Nat) : Prop := (∃ i, i < 19 ∧ x = md_a md kd on tw nu le fx fy si de ne it po ma ab be li fr to i) ∨ x = ou
theorem md_J.keep {cI cJ cZ : ClassId} {md kd on tw nu le fx fy si de ne it po ma ab be li fr to : Nat} {M M1 : Nat → Option va_E} {cd : Int32} {n : Nat} {g : Nat → abn} (h : md_J cI cJ cZ md kd on tw nu le fx fy si de ne it po ma ab be li fr to M cd n g) (hf : ∀ i, i < 19 → M1 (md_a md kd on tw nu le fx fy si de ne it po ma ab be li fr to i) = M (md_a md kd on tw nu le fx fy si de ne it po ma ab be li fr to i)) : md_J cI cJ cZ md kd on tw nu le fx fy si de ne it po ma ab be li fr to M1 cd n g := by
  obtain ⟨up, dn, pz, NE, IT, PO, MA, AB, BE, st, mt, ⟨k1, k2, k3, k4, k5, k6, k7⟩, ⟨t1, t2, t3, t4, t5, t6, t7, t8, t9⟩, hM, ⟨a, b, c, l1, l2, l3⟩, hg⟩ := h
  exact ⟨up, dn, pz, NE, IT, PO, MA, AB, BE, st, mt, ⟨(hf 0 (by decide)).trans k1, (hf 10 (by decide)).trans k2, (hf 11 (by decide)).trans k3, (hf 12 (by decide)).trans k4, (hf 13 (by decide)).trans k5, (hf 14 (by decide)).trans k6, (hf 15 (by decide)).trans k7⟩, ⟨(hf 1 (by decide)).trans t1, (hf 2 (by decide)).trans t2, (hf 3 (by decide)).trans t3, (hf 4 (by decide)).trans t4, (hf 5 (by decide)).trans t5, (hf 6 (by decide)).trans t6, (hf 7 (by decide)).trans t7, (hf 8 (by decide)).trans t8, (hf 9 (by decide)).trans t9⟩, hM, ⟨a, b, c, (hf 16 (by decide)).trans l1, (hf 17 (by decide)).trans l2, (hf 18 (by decide)).trans l3⟩, hg⟩
theorem md_J.ex {cI cJ cZ : ClassId} {md kd on tw nu le fx fy si de ne it po ma ab be li fr to : Nat} {M : Nat → Option va_E} {cd : Int32} {n : Nat} {g : Nat → abn} (h : md_J cI cJ cZ md kd on tw nu le fx fy si de ne it po ma ab be li fr to M cd n g) : ∀ i, i < 19 → M (md_a md kd on tw nu le fx fy si de ne it po ma ab be li fr to i) ≠ none := by
  obtain ⟨up, dn, pz, NE, IT, PO, MA, AB, BE, st, mt, ⟨k1, k2, k3, k4, k5, k6, k7⟩, ⟨t1, t2, t3, t4, t5, t6, t7, t8, t9⟩, hM, ⟨a, b, c, l1, l2, l3⟩, hg⟩ := h
  intro i hi
  have g : ∀ x e, M x = some e → M x ≠ none := fun x e h9 => by rw [h9]; exact Option.some_ne_none _
  rcases (show i = 0 ∨ i = 1 ∨ i = 2 ∨ i = 3 ∨ i = 4 ∨ i = 5 ∨ i = 6 ∨ i = 7 ∨ i = 8 ∨ i = 9 ∨ i = 10 ∨ i = 11 ∨ i = 12 ∨ i = 13 ∨ i = 14 ∨ i = 15 ∨ i = 16 ∨ i = 17 ∨ i = 18 by omega) with rfl | rfl | rfl | rfl | rfl | rfl | rfl | rfl | rfl | rfl | rfl | rfl | rfl | rfl | rfl | rfl | rfl | rfl | rfl
  · exact g _ _ k1
  · exact g _ _ t1
  · exact g _ _ t2
  · exact g _ _ t3
  · exact g _ _ t4
  · exact g _ _ t5
  · exact g _ _ t6
  · exact g _ _ t7
  · exact g _ _ t8
  · exact g _ _ t9
  · exact g _ _ k2
  · exact g _ _ k3
  · exact g _ _ k4
  · exact g _ _ k5
  · exact g _ _ k6
  · exact g _ _ k7
  · exact g _ _ l1
  · exact g _ _ l2
  · exact g _ _ l3
theorem mkn.un {n : Nat} {g : Nat → abn} {C : Nat} {new : abn} {n2 n3 : Nat} {g2 g3 : Nat → abn} (h : mkn n g C new n2 g2) (k : mkn n g C new n3 g3) : n2 = n3 ∧ g2 = g3 := by
  rcases h with ⟨a1, -, a2, a3⟩ | ⟨a1, a2, a3⟩ <;> rcases k with ⟨b1, -, b2, b3⟩ | ⟨b1, b2, b3⟩
  · exact ⟨a2.trans b2.symm, a3.trans b3.symm⟩
  · exact absurd a1 b1
  · exact absurd b1 a1
  · exact ⟨a2.trans b2.symm, a3.trans b3.symm⟩
theorem qo_J.oth {cI cJ cN : ClassId} {h0 na v va vb om oa ob im ia ib ro mk ka kb fa la : Nat} {Z : Nat → Prop} {M M1 : Nat → Option va_E} {n : Nat} {qs : Nat → nq} (h : qo_J cI cJ cN h0 na v va vb om oa ob im ia ib ro mk ka kb fa la Z M n qs) (hf : ∀ x, ¬ Z x → M1 x = M x) (hz : ∀ z, Z z → M1 z ≠ none) : qo_J cI cJ cN h0 na v va vb om oa ob im ia ib ro mk ka kb fa la Z M1 n qs := by
  obtain ⟨tb, ad, hI⟩ := h
  exact ⟨tb, ad, qo_other hI (fun x hx _ => hf x hx) hz⟩
theorem c0_of {C : Nat} (h : C ≤ 3) (e : nI C = 0) : C = 0 := (nI_eq (b := 0) (by omega) (by omega)).mp e
theorem cAtom_le {n : Nat} {a b c o : Int32} : cAtom n a b c o ≤ 3 := by unfold cAtom; split; decide; split <;> decide
theorem cPair_le {n : Nat} {g : Nat → abn} {a b : Int32} : cPair n g a b ≤ 3 := by unfold cPair; split; decide; split; decide; split <;> decide
theorem cNot_le {n : Nat} {a : Int32} : cNot n a ≤ 3 := by unfold cNot; split; decide; split <;> decide
theorem cQuant_le {n : Nat} {g : Nat → abn} {a b : Int32} : cQuant n g a b ≤ 3 := by unfold cQuant; split; decide; split; decide; split <;> decide
theorem cKnown_le {n : Nat} {a b : Int32} : cKnown n a b ≤ 3 := by unfold cKnown; split; decide; split <;> decide
theorem cHolds_le {n : Nat} {a b c : Int32} : cHolds n a b c ≤ 3 := by unfold cHolds; split; decide; split <;> decide
theorem cDecide_le {n : Nat} {g : Nat → abn} {a : Int32} : cDecide n g a ≤ 3 := by unfold cDecide; split; decide; split <;> decide
theorem cSet_le {n : Nat} {g : Nat → abn} {a : Int32} : cSet n g a ≤ 3 := by unfold cSet; split; decide; split <;> decide
theorem cEnd_le {n : Nat} {a b c : Int32} : cEnd n a b c ≤ 3 := by unfold cEnd; split; decide; split <;> decide
theorem cAlike_le {n : Nat} {a b : Int32} : cAlike n a b ≤ 3 := by unfold cAlike; split <;> decide
theorem lb_un {x : Int64} {r : Int32} {P : Prop} (h : lb x P) (k : it_b r P) : (r = 0 → x = 0) ∧ (¬ r = 0 → x = 1) := by
  rcases h with ⟨a1, a2⟩ | ⟨a1, a2⟩ <;> rcases k with ⟨b1, b2⟩ | ⟨b1, b2⟩
  · exact ⟨(fun z => by rw [b1] at z; cases z), fun _ => a1⟩
  · exact absurd a2 b2
  · exact absurd b2 a2
  · exact ⟨fun _ => a1, fun z => absurd b1 z⟩
theorem end_un {n : Nat} {g : Nat → abn} {x1 k1 s1 t1 r cd : Int32} {v f : Int64}
    (h : (cSet n g x1 ≠ 0 ∧ r = nI (cSet n g x1)) ∨ (cSet n g x1 = 0 ∧ ∃ (mm : Nat) (Lf Rt : Nat → Option (Rat × Bool)), qp_sys (aSet (g (ix x1))) mm Lf Rt ∧ r = nI (cEnd mm k1 s1 t1) ∧ (cEnd mm k1 s1 t1 = 0 → f.toInt = pe_v (if ix s1 = 0 then Lf (ix k1) else Rt (ix k1)) (ix t1))))
    (k : (cSet n g x1 ≠ 0 ∧ cd = nI (cSet n g x1)) ∨ (cSet n g x1 = 0 ∧ ∃ (mm : Nat) (Lf Rt : Nat → Option (Rat × Bool)), qp_sys (aSet (g (ix x1))) mm Lf Rt ∧ cd = nI (cEnd mm k1 s1 t1) ∧ (cEnd mm k1 s1 t1 = 0 → v.toInt = pe_v (if ix s1 = 0 then Lf (ix k1) else Rt (ix k1)) (ix t1)))) : cd = r ∧ (r = 0 → f = v) := by
  rcases h with ⟨a1, a2⟩ | ⟨a1, mm, Lf, Rt, a2, a3, a4⟩ <;> rcases k with ⟨b1, b2⟩ | ⟨b1, mm2, Lf2, Rt2, b2, b3, b4⟩
  · exact ⟨b2.trans a2.symm, fun z => absurd (c0_of cSet_le (a2.symm.trans z)) a1⟩
  · exact absurd b1 a1
  · exact absurd a1 b1
  · obtain ⟨e1, e2⟩ := qp_one a2 b2
    subst e1
    refine ⟨b3.trans a3.symm, fun z => ?_⟩
    have hc : cEnd mm k1 s1 t1 = 0 := c0_of cEnd_le (a3.symm.trans z)
    have hk : ix k1 < mm := by
      by_cases h9 : 0 ≤ k1.toInt ∧ k1.toInt < (mm : Int)
      · unfold ix; omega
      · unfold cEnd at hc; rw [if_pos h9] at hc; cases hc
    have h5 := a4 hc
    have h6 := b4 hc
    rw [(e2 (ix k1) hk).1, (e2 (ix k1) hk).2] at h5
    exact Int64.toInt_inj.mp (h5.trans h6.symm)
/-- the law's frame -/
def lw_C (p : Program) (l : Launch) (s : State) (m : MethodId) (meth : Method) (c : Code) (b L : Nat) (xs : Nat → Int32) : Prop := p.tables.exec = Jvm.exec ∧ c.code = code ∧ meth.sig.returnType = ret ∧ c.maxLocals = 8 ∧ s.vm.findClass "QuantifierOutLaw" = some m.cls ∧ (∀ w ∈ ww, w.before #[Value.ref b] s = true) ∧ va_X b L xs s s.heap ∧ b < s.heap.size ∧ meth.locks = false ∧ hw_X s ∧ hz (lw_Aq s) s s.heap ∧ nc3 s ∧ l.stackTraces = false ∧ L ≤ 2560
/-- what stands between two calls -/
def lw_S (cI cJ cZ cN : ClassId) (D : va_G) (h0 na v va vb om oa ob im ia ib ro mk ka kb fa la : Nat) (md kd on tw nu le fx fy si de ne it po ma ab be li fr to : Nat) (ou : Nat) (s : State) (M : Nat → Option va_E) (H : Heap) (locs : List Loc) : Prop := hw_W D qcl (qty cI cJ cZ cN) (lw_Aq s) M s H ∧ va_S (lw_Aq s) s.heap H locs ∧ ∃ (n : Nat) (g : Nat → abn) (qs : Nat → nq) (cd : Int32) (f0 : Nat → Int64), qo_J cI cJ cN h0 na v va vb om oa ob im ia ib ro mk ka kb fa la (lw_Zc md kd on tw nu le fx fy si de ne it po ma ab be li fr to ou) M n qs ∧ (∀ i, i < n → abq (qs i) = g i) ∧ md_J cI cJ cZ md kd on tw nu le fx fy si de ne it po ma ab be li fr to M cd n g ∧ M ou = some (.inl (cJ, 1, .inr (.inl f0)))
section G58a
variable {p : Program} {l : Launch} {e : Env} {R : Room} {s : State} {m : MethodId} {args : Array Value} {below : List Frame} {meth : Method} {c : Code} {H : Heap} {locs : List Loc} {cells slots : Nat} {Q : State → Prop}
variable {cc : ByteArray} {pc : Nat} {ls : Array Slot} {rest : List Value} {A : Nat → Prop} {H0 : Heap}
theorem hw_sld (hexec : p.tables.exec = Jvm.exec) (hb : c.code = cc) {b L : Nat} {xs : Nat → Int32} (hX : va_X b L xs s H0) (hbl : b < H0.size) (hbA : ¬ A b) (hS : va_S A H0 H locs) {i : Int32} (j : Nat) (hi : i = nI j) (hj : j < L) (hn : L < 1000000) (hdg : decode cc pc = .ok (.iaload, 1))
    (kk : W p l e R s m args below meth c H locs cells slots Q (F0 m (pc + 1) ls (.int (xs j) :: rest))) : W p l e R s m args below meth c H locs cells slots Q (F0 m pc ls (.int i :: .ref b :: rest)) :=
  va_sld hexec hb hX hbl hbA hS (hw_ix hi hj hn).1 hdg (by rw [(hw_ix hi hj hn).2]; exact kk)
theorem lw_fin {b : Nat} (hx : p.tables.exec = Jvm.exec) (hb : c.code = code) (hr : meth.sig.returnType = ret) (hlocks : meth.locks = false) (hS : va_S (lw_Aq s) s.heap H locs) (hc : cells ≤ 601024) (hs : slots ≤ 7293033) (hdg : decode code pc = .ok (.ireturn, 1)) : W p l e room_1 s m #[Value.ref b] below meth c H locs cells slots (lw_Z below #[Value.ref b] s) (F0 m pc ls [.int 1]) := by
  intro T hT X
  exact lw_ret hx hb hr hlocks hdg T hT (Stand.forget (locs := []) (extra := locs) (stand_widen X hc hs) (fun y hy => hS.2.2 y hy))
end G58a
section G58
variable {p : Program} {l : Launch} {e : Env} {s : State} {m : MethodId} {below : List Frame} {meth : Method} {c : Code} {b L : Nat} {xs : Nat → Int32} {D : va_G} {cI cJ cZ cN : ClassId} {h0 na v va vb om oa ob im ia ib ro mk ka kb fa la : Nat} {md kd on tw nu le fx fy si de ne it po ma ab be li fr to : Nat} {ou : Nat}
set_option maxHeartbeats 4000000 in
set_option maxRecDepth 100000 in
theorem lw_c_atom (hC : lw_C p l s m meth c b L xs) (hD : md_D md kd on tw nu le fx fy si de ne it po ma ab be li fr to) (ho : ∀ i, i < 19 → ou ≠ md_a md kd on tw nu le fx fy si de ne it po ma ab be li fr to i) (t : Nat) (ht : 5 * t + 5 ≤ L) (M : Nat → Option va_E) (H : Heap) (locs : List Loc) (cells slots : Nat) (hs : lw_S cI cJ cZ cN D h0 na v va vb om oa ob im ia ib ro mk ka kb fa la md kd on tw nu le fx fy si de ne it po ma ab be li fr to ou s M H locs) (hc : cells + 5 ≤ 601024) (hsl : slots + 43 ≤ 7293033) (ls : Array Slot) (hl : lv_has ls 8 [(4, .int (nI (5 * t))), (3, .ref ou), (2, .ref md), (1, .ref h0), (0, .ref b)]) (K : ∀ (M1 : Nat → Option va_E) (H : Heap) (locs : List Loc) (ls : Array Slot), lw_S cI cJ cZ cN D h0 na v va vb om oa ob im ia ib ro mk ka kb fa la md kd on tw nu le fx fy si de ne it po ma ab be li fr to ou s M1 H locs → lv_has ls 8 [(4, .int (nI (5 * t))), (3, .ref ou), (2, .ref md), (1, .ref h0), (0, .ref b)] → W p l e room_1 s m #[Value.ref b] below meth c H locs (cells + 5) (slots + 43) (lw_Z below #[Value.ref b] s) (F0 m 977 ls [])) : W p l e room_1 s m #[Value.ref b] below meth c H locs cells slots (lw_Z below #[Value.ref b] s) (F0 m 104 ls []) := by
  obtain ⟨hx, hb, hr, hml, hown, hts, hXs, hbl, hlocks, hX, hZ, hN, hl0, hL9⟩ := hC
  obtain ⟨hW, hS, n, g, qs, cd, f0, hJq, hqs, hmd, hou⟩ := hs
  have hA : ∀ q, s.heap.size ≤ q → lw_Aq s q := fun q h => h
  have hbA : ¬ lw_Aq s b := fun h => absurd hbl (Nat.not_lt.mpr h)
  have rc : room_1.cells = 601024 := rfl
  have rs : room_1.slots = 7293033 := rfl
  have hZou : (lw_Zc md kd on tw nu le fx fy si de ne it po ma ab be li fr to ou) ou := Or.inr rfl
  have hn60 : n ≤ 60 := by obtain ⟨_, _, h9⟩ := hJq; exact h9.1.2.2
  refine lv_aload_n hx hb d_Lw_law_104 rfl (lv_at hl 3 rfl) ?_
  refine lv_aload_n hx hb d_Lw_law_105 rfl (lv_at hl 4 rfl) ?_
  refine lv_iload hx hb d_Lw_law_106 (lv_at hl 0 rfl) ?_
  refine lv_iconst (v := 1) hx hb d_Lw_law_108 (by decide) ?_
  refine lv_iadd hx hb d_Lw_law_109 ?_
  refine lv_topi (fun x1 ex1 => ?_)
  refine hw_sld hx hb hXs hbl hbA hS (5 * t + 1) (by rw [ex1]; exact nI_add _ 1) (by omega) (by omega) d_Lw_law_110 ?_
  refine lv_aload_n hx hb d_Lw_law_111 rfl (lv_at hl 4 rfl) ?_
  refine lv_iload hx hb d_Lw_law_112 (lv_at hl 0 rfl) ?_
  refine lv_iconst (v := 2) hx hb d_Lw_law_114 (by decide) ?_
  refine lv_iadd hx hb d_Lw_law_115 ?_
  refine lv_topi (fun x2 ex2 => ?_)
  refine hw_sld hx hb hXs hbl hbA hS (5 * t + 2) (by rw [ex2]; exact nI_add _ 2) (by omega) (by omega) d_Lw_law_116 ?_
  refine lv_aload_n hx hb d_Lw_law_117 rfl (lv_at hl 4 rfl) ?_
  refine lv_iload hx hb d_Lw_law_118 (lv_at hl 0 rfl) ?_
  refine lv_iconst (v := 3) hx hb d_Lw_law_120 (by decide) ?_
  refine lv_iadd hx hb d_Lw_law_121 ?_
  refine lv_topi (fun x3 ex3 => ?_)
  refine hw_sld hx hb hXs hbl hbA hS (5 * t + 3) (by rw [ex3]; exact nI_add _ 3) (by omega) (by omega) d_Lw_law_122 ?_
  refine lv_aload_n hx hb d_Lw_law_123 rfl (lv_at hl 4 rfl) ?_
  refine lv_iload hx hb d_Lw_law_124 (lv_at hl 0 rfl) ?_
  refine lv_iconst (v := 4) hx hb d_Lw_law_126 (by decide) ?_
  refine lv_iadd hx hb d_Lw_law_127 ?_
  refine lv_topi (fun x4 ex4 => ?_)
  refine hw_sld hx hb hXs hbl hbA hS (5 * t + 4) (by rw [ex4]; exact nI_add _ 4) (by omega) (by omega) d_Lw_law_128 ?_
  refine lv_aload_n hx hb d_Lw_law_129 rfl (lv_at hl 1 rfl) ?_
  refine hw_calli (lx_runS (n := 6) (own := "QuantifierOutLaw") (As := [.ref h0, .int (xs (5 * t + 1)), .int (xs (5 * t + 2)), .int (xs (5 * t + 3)), .int (xs (5 * t + 4)), .ref ou]) (rest := []) hx hb hml hown hts hX hW hl.1 hZ hS hA hN (c_Lw_atom l D cI cJ cZ cN h0 na v va vb om oa ob im ia ib ro mk ka kb fa la (lw_Zc md kd on tw nu le fx fy si de ne it po ma ab be li fr to ou) ou hl0 M _ n g qs f0 hJq hqs hou hZou (xs (5 * t + 1)) (xs (5 * t + 2)) (xs (5 * t + 3)) (xs (5 * t + 4))) tw_114 tw_115 tw_0 tc_atom (by decide +kernel) rfl rfl ⟨by decide, by decide⟩ rfl rfl (Nat.le_of_ble_eq_true rfl) d_Lw_law_130 ⟨by rw [rc]; omega, by rw [rs]; omega⟩) hW hS hA (fun r1 M1 H locs hp hz hW hS => ?_)
  obtain ⟨er1, hf1, n2, g2, qs2, f, hmk, hJ1, hqs1, hou1, hfv⟩ := hp
  have hmd1 := md_J.keep (M1 := M1) hmd (fun i hi => hf1 _ (Or.inl ⟨i, hi, rfl⟩) (Ne.symm (ho i hi)))
  obtain ⟨up, dn, pz, _, _, _, _, _, _, _, _, hKm, _⟩ := id hmd1
  refine lv_istore (lv' := [(5, .int r1), (4, .int (nI (5 * t))), (3, .ref ou), (2, .ref md), (1, .ref h0), (0, .ref b)]) hx hb d_Lw_law_133 hl (by decide) rfl (fun ls hl => ?_)
  refine lv_aload_n hx hb d_Lw_law_135 rfl (lv_at hl 3 rfl) ?_
  refine lv_aload_n hx hb d_Lw_law_136 rfl (lv_at hl 5 rfl) ?_
  refine lv_iload hx hb d_Lw_law_137 (lv_at hl 1 rfl) ?_
  refine lv_iconst (v := 1) hx hb d_Lw_law_139 (by decide) ?_
  refine lv_iadd hx hb d_Lw_law_140 ?_
  refine lv_topi (fun x5 ex5 => ?_)
  refine hw_sld hx hb hXs hbl hbA hS (5 * t + 1) (by rw [ex5]; exact nI_add _ 1) (by omega) (by omega) d_Lw_law_141 ?_
  refine lv_aload_n hx hb d_Lw_law_142 rfl (lv_at hl 5 rfl) ?_
  refine lv_iload hx hb d_Lw_law_143 (lv_at hl 1 rfl) ?_
  refine lv_iconst (v := 2) hx hb d_Lw_law_145 (by decide) ?_
  refine lv_iadd hx hb d_Lw_law_146 ?_
  refine lv_topi (fun x6 ex6 => ?_)
  refine hw_sld hx hb hXs hbl hbA hS (5 * t + 2) (by rw [ex6]; exact nI_add _ 2) (by omega) (by omega) d_Lw_law_147 ?_
  refine lv_aload_n hx hb d_Lw_law_148 rfl (lv_at hl 5 rfl) ?_
  refine lv_iload hx hb d_Lw_law_149 (lv_at hl 1 rfl) ?_
  refine lv_iconst (v := 3) hx hb d_Lw_law_151 (by decide) ?_
  refine lv_iadd hx hb d_Lw_law_152 ?_
  refine lv_topi (fun x7 ex7 => ?_)
  refine hw_sld hx hb hXs hbl hbA hS (5 * t + 3) (by rw [ex7]; exact nI_add _ 3) (by omega) (by omega) d_Lw_law_153 ?_
  refine lv_aload_n hx hb d_Lw_law_154 rfl (lv_at hl 5 rfl) ?_
  refine lv_iload hx hb d_Lw_law_155 (lv_at hl 1 rfl) ?_
  refine lv_iconst (v := 4) hx hb d_Lw_law_157 (by decide) ?_
  refine lv_iadd hx hb d_Lw_law_158 ?_
  refine lv_topi (fun x8 ex8 => ?_)
  refine hw_sld hx hb hXs hbl hbA hS (5 * t + 4) (by rw [ex8]; exact nI_add _ 4) (by omega) (by omega) d_Lw_law_159 ?_
  refine hw_calli (hw_runV (n := 4) (own := "QuantifierOutLaw") (As := [.int (xs (5 * t + 1)), .int (xs (5 * t + 2)), .int (xs (5 * t + 3)), .int (xs (5 * t + 4))]) (rest := []) hx hb hml hown hts hX hW hl.1 (c_Md_atom l D cI cJ cZ cN md kd on tw nu le fx fy si de ne it po ma ab be li fr to cd n g _ M1 hD hmd1 (xs (5 * t + 1)) (xs (5 * t + 2)) (xs (5 * t + 3)) (xs (5 * t + 4))) hKm.1 rfl tw_678 tw_679 tw_680 tw_5 tw_681 (by decide +kernel) rfl rfl ⟨by decide, by decide⟩ rfl rfl (Nat.le_of_ble_eq_true rfl) d_Lw_law_160 ⟨by rw [rc]; omega, by rw [rs]; omega⟩) hW hS hA (fun r2 M2 H locs hp2 hz hW hS => ?_)
  obtain ⟨hr2, n3, g3, hmk3, hmd2, hF2⟩ := hp2
  obtain ⟨en, eg⟩ := mkn.un hmk hmk3
  rw [← en, ← eg] at hmd2
  obtain ⟨up2, dn2, pz2, _, _, _, _, _, _, _, _, hK2, _⟩ := id hmd2
  have hou2 : M2 ou = some (.inl (cJ, 1, .inr (.inl f))) := (hF2 ou ho).trans hou1
  have hJ2 : qo_J cI cJ cN h0 na v va vb om oa ob im ia ib ro mk ka kb fa la (lw_Zc md kd on tw nu le fx fy si de ne it po ma ab be li fr to ou) M2 n2 qs2 := qo_J.oth hJ1 (fun x hx => hF2 x (fun i hi e => hx (Or.inl ⟨i, hi, e⟩))) (fun z hz9 => by rcases hz9 with ⟨i, hi, e⟩ | e; rw [e]; exact md_J.ex hmd2 i hi; rw [e, hou2]; exact Option.some_ne_none _)
  refine lv_istore (lv' := [(6, .int r2), (5, .int r1), (4, .int (nI (5 * t))), (3, .ref ou), (2, .ref md), (1, .ref h0), (0, .ref b)]) hx hb d_Lw_law_163 hl (by decide) rfl (fun ls hl => ?_)
  refine lv_aload_n hx hb d_Lw_law_165 rfl (lv_at hl 4 rfl) ?_
  refine hw_calli (hw_runV (n := 0) (own := "QuantifierOutLaw") (As := []) (rest := []) hx hb hml hown hts hX hW hl.1 (c_Md_thrown l D cI cJ cZ cN md kd on tw nu le fx fy si de ne it po ma ab be li fr to (nI (cAtom n (xs (5 * t + 1)) (xs (5 * t + 2)) (xs (5 * t + 3)) (xs (5 * t + 4)))) n2 up2 dn2 pz2 _ M2 hK2.1) hK2.1 rfl tw_674 tw_675 tw_676 tw_5 tw_677 (by decide +kernel) rfl rfl ⟨by decide, by decide⟩ rfl rfl (Nat.le_of_ble_eq_true rfl) d_Lw_law_166 ⟨by rw [rc]; omega, by rw [rs]; omega⟩) hW hS hA (fun r3 M3 H locs hp3 hz hW hS => ?_)
  obtain ⟨er3, eM3⟩ := hp3
  rw [eM3] at hW
  refine lv_iload hx hb d_Lw_law_169 (lv_at hl 1 rfl) ?_
  refine lv_icmp_eq (tgt := 176) hx hb d_Lw_law_171 (by decide) (fun c_171 => ?_) (fun c_171 => ?_)
  · skip
    refine lv_iload hx hb d_Lw_law_176 (lv_at hl 1 rfl) ?_
    refine lv_if_ne (tgt := 193) hx hb d_Lw_law_178 (by decide) (fun c_178 => ?_) (fun c_178 => ?_)
    · skip
      refine lv_goto (tgt := 977) hx hb d_Lw_law_193 (by decide) ?_
      refine W.widen (k := cells + 5) (n := slots + 43) (by omega) (by omega) ?_
      exact K M2 H locs ls ⟨hW, hS, n2, g2, qs2, (nI (cAtom n (xs (5 * t + 1)) (xs (5 * t + 2)) (xs (5 * t + 3)) (xs (5 * t + 4)))), f, hJ2, hqs1, hmd2, hou2⟩ (lv_sub hl [2, 3, 4, 5, 6] rfl)
    · skip
      have hC0 : cAtom n (xs (5 * t + 1)) (xs (5 * t + 2)) (xs (5 * t + 3)) (xs (5 * t + 4)) = 0 := c0_of cAtom_le (er1.symm.trans c_178)
      refine lv_aload_n hx hb d_Lw_law_181 rfl (lv_at hl 3 rfl) ?_
      refine lv_iconst (v := 0) hx hb d_Lw_law_182 (by decide) ?_
      refine hw_lld hx hb hW 1 hou2 rfl 0 rfl (by decide) (by decide) d_Lw_law_183 ?_
      refine lv_iload hx hb d_Lw_law_184 (lv_at hl 0 rfl) ?_
      obtain ⟨x9, ex9⟩ : ∃ y9 : Int64, y9 = (r2 : Int32).toInt64 := ⟨_, rfl⟩
      refine lv_i2l (v := x9) hx hb d_Lw_law_186 ex9.symm ?_
      refine W.lcmp hx hb d_Lw_law_187 ?_
      refine lv_if_eq (tgt := 193) hx hb d_Lw_law_188 (by decide) (fun c_188 => ?_) (fun c_188 => ?_)
      · skip
        rw [lg_cmp_eq] at c_188
        refine lv_goto (tgt := 977) hx hb d_Lw_law_193 (by decide) ?_
        refine W.widen (k := cells + 5) (n := slots + 43) (by omega) (by omega) ?_
        exact K M2 H locs ls ⟨hW, hS, n2, g2, qs2, (nI (cAtom n (xs (5 * t + 1)) (xs (5 * t + 2)) (xs (5 * t + 3)) (xs (5 * t + 4)))), f, hJ2, hqs1, hmd2, hou2⟩ (lv_sub hl [2, 3, 4, 5, 6] rfl)
      · skip
        rw [lg_cmp_eq] at c_188
        exact absurd (by rw [hfv hC0, ex9, hr2 hC0]) c_188
  · skip
    exact absurd (er3.trans er1.symm) c_171
set_option maxHeartbeats 4000000 in
set_option maxRecDepth 100000 in
theorem lw_c_both (hC : lw_C p l s m meth c b L xs) (hD : md_D md kd on tw nu le fx fy si de ne it po ma ab be li fr to) (ho : ∀ i, i < 19 → ou ≠ md_a md kd on tw nu le fx fy si de ne it po ma ab be li fr to i) (t : Nat) (ht : 5 * t + 5 ≤ L) (M : Nat → Option va_E) (H : Heap) (locs : List Loc) (cells slots : Nat) (hs : lw_S cI cJ cZ cN D h0 na v va vb om oa ob im ia ib ro mk ka kb fa la md kd on tw nu le fx fy si de ne it po ma ab be li fr to ou s M H locs) (hc : cells + 5 ≤ 601024) (hsl : slots + 43 ≤ 7293033) (ls : Array Slot) (hl : lv_has ls 8 [(4, .int (nI (5 * t))), (3, .ref ou), (2, .ref md), (1, .ref h0), (0, .ref b)]) (K : ∀ (M1 : Nat → Option va_E) (H : Heap) (locs : List Loc) (ls : Array Slot), lw_S cI cJ cZ cN D h0 na v va vb om oa ob im ia ib ro mk ka kb fa la md kd on tw nu le fx fy si de ne it po ma ab be li fr to ou s M1 H locs → lv_has ls 8 [(4, .int (nI (5 * t))), (3, .ref ou), (2, .ref md), (1, .ref h0), (0, .ref b)] → W p l e room_1 s m #[Value.ref b] below meth c H locs (cells + 5) (slots + 43) (lw_Z below #[Value.ref b] s) (F0 m 977 ls [])) : W p l e room_1 s m #[Value.ref b] below meth c H locs cells slots (lw_Z below #[Value.ref b] s) (F0 m 196 ls []) := by
  obtain ⟨hx, hb, hr, hml, hown, hts, hXs, hbl, hlocks, hX, hZ, hN, hl0, hL9⟩ := hC
  obtain ⟨hW, hS, n, g, qs, cd, f0, hJq, hqs, hmd, hou⟩ := hs
  have hA : ∀ q, s.heap.size ≤ q → lw_Aq s q := fun q h => h
  have hbA : ¬ lw_Aq s b := fun h => absurd hbl (Nat.not_lt.mpr h)
  have rc : room_1.cells = 601024 := rfl
  have rs : room_1.slots = 7293033 := rfl
  have hZou : (lw_Zc md kd on tw nu le fx fy si de ne it po ma ab be li fr to ou) ou := Or.inr rfl
  have hn60 : n ≤ 60 := by obtain ⟨_, _, h9⟩ := hJq; exact h9.1.2.2
  refine lv_aload_n hx hb d_Lw_law_196 rfl (lv_at hl 3 rfl) ?_
  refine lv_aload_n hx hb d_Lw_law_197 rfl (lv_at hl 4 rfl) ?_
  refine lv_iload hx hb d_Lw_law_198 (lv_at hl 0 rfl) ?_
  refine lv_iconst (v := 1) hx hb d_Lw_law_200 (by decide) ?_
  refine lv_iadd hx hb d_Lw_law_201 ?_
  refine lv_topi (fun x1 ex1 => ?_)
  refine hw_sld hx hb hXs hbl hbA hS (5 * t + 1) (by rw [ex1]; exact nI_add _ 1) (by omega) (by omega) d_Lw_law_202 ?_
  refine lv_aload_n hx hb d_Lw_law_203 rfl (lv_at hl 4 rfl) ?_
  refine lv_iload hx hb d_Lw_law_204 (lv_at hl 0 rfl) ?_
  refine lv_iconst (v := 2) hx hb d_Lw_law_206 (by decide) ?_
  refine lv_iadd hx hb d_Lw_law_207 ?_
  refine lv_topi (fun x2 ex2 => ?_)
  refine hw_sld hx hb hXs hbl hbA hS (5 * t + 2) (by rw [ex2]; exact nI_add _ 2) (by omega) (by omega) d_Lw_law_208 ?_
  refine lv_aload_n hx hb d_Lw_law_209 rfl (lv_at hl 1 rfl) ?_
  refine hw_calli (lx_runS (n := 4) (own := "QuantifierOutLaw") (As := [.ref h0, .int (xs (5 * t + 1)), .int (xs (5 * t + 2)), .ref ou]) (rest := []) hx hb hml hown hts hX hW hl.1 hZ hS hA hN (c_Lw_both l D cI cJ cZ cN h0 na v va vb om oa ob im ia ib ro mk ka kb fa la (lw_Zc md kd on tw nu le fx fy si de ne it po ma ab be li fr to ou) ou hl0 M _ n g qs f0 hJq hqs hou hZou (xs (5 * t + 1)) (xs (5 * t + 2))) tw_268 tw_269 tw_0 tc_both (by decide +kernel) rfl rfl ⟨by decide, by decide⟩ rfl rfl (Nat.le_of_ble_eq_true rfl) d_Lw_law_210 ⟨by rw [rc]; omega, by rw [rs]; omega⟩) hW hS hA (fun r1 M1 H locs hp hz hW hS => ?_)
  obtain ⟨er1, hf1, n2, g2, qs2, f, hmk, hJ1, hqs1, hou1, hfv⟩ := hp
  have hmd1 := md_J.keep (M1 := M1) hmd (fun i hi => hf1 _ (Or.inl ⟨i, hi, rfl⟩) (Ne.symm (ho i hi)))
  obtain ⟨up, dn, pz, _, _, _, _, _, _, _, _, hKm, _⟩ := id hmd1
  refine lv_istore (lv' := [(5, .int r1), (4, .int (nI (5 * t))), (3, .ref ou), (2, .ref md), (1, .ref h0), (0, .ref b)]) hx hb d_Lw_law_213 hl (by decide) rfl (fun ls hl => ?_)
  refine lv_aload_n hx hb d_Lw_law_215 rfl (lv_at hl 3 rfl) ?_
  refine lv_aload_n hx hb d_Lw_law_216 rfl (lv_at hl 5 rfl) ?_
  refine lv_iload hx hb d_Lw_law_217 (lv_at hl 1 rfl) ?_
  refine lv_iconst (v := 1) hx hb d_Lw_law_219 (by decide) ?_
  refine lv_iadd hx hb d_Lw_law_220 ?_
  refine lv_topi (fun x3 ex3 => ?_)
  refine hw_sld hx hb hXs hbl hbA hS (5 * t + 1) (by rw [ex3]; exact nI_add _ 1) (by omega) (by omega) d_Lw_law_221 ?_
  refine lv_aload_n hx hb d_Lw_law_222 rfl (lv_at hl 5 rfl) ?_
  refine lv_iload hx hb d_Lw_law_223 (lv_at hl 1 rfl) ?_
  refine lv_iconst (v := 2) hx hb d_Lw_law_225 (by decide) ?_
  refine lv_iadd hx hb d_Lw_law_226 ?_
  refine lv_topi (fun x4 ex4 => ?_)
  refine hw_sld hx hb hXs hbl hbA hS (5 * t + 2) (by rw [ex4]; exact nI_add _ 2) (by omega) (by omega) d_Lw_law_227 ?_
  refine hw_calli (hw_runV (n := 2) (own := "QuantifierOutLaw") (As := [.int (xs (5 * t + 1)), .int (xs (5 * t + 2))]) (rest := []) hx hb hml hown hts hX hW hl.1 (c_Md_both l D cI cJ cZ cN md kd on tw nu le fx fy si de ne it po ma ab be li fr to cd n g _ M1 hD hmd1 (xs (5 * t + 1)) (xs (5 * t + 2))) hKm.1 rfl tw_692 tw_693 tw_694 tw_5 tw_695 (by decide +kernel) rfl rfl ⟨by decide, by decide⟩ rfl rfl (Nat.le_of_ble_eq_true rfl) d_Lw_law_228 ⟨by rw [rc]; omega, by rw [rs]; omega⟩) hW hS hA (fun r2 M2 H locs hp2 hz hW hS => ?_)
  obtain ⟨hr2, n3, g3, hmk3, hmd2, hF2⟩ := hp2
  obtain ⟨en, eg⟩ := mkn.un hmk hmk3
  rw [← en, ← eg] at hmd2
  obtain ⟨up2, dn2, pz2, _, _, _, _, _, _, _, _, hK2, _⟩ := id hmd2
  have hou2 : M2 ou = some (.inl (cJ, 1, .inr (.inl f))) := (hF2 ou ho).trans hou1
  have hJ2 : qo_J cI cJ cN h0 na v va vb om oa ob im ia ib ro mk ka kb fa la (lw_Zc md kd on tw nu le fx fy si de ne it po ma ab be li fr to ou) M2 n2 qs2 := qo_J.oth hJ1 (fun x hx => hF2 x (fun i hi e => hx (Or.inl ⟨i, hi, e⟩))) (fun z hz9 => by rcases hz9 with ⟨i, hi, e⟩ | e; rw [e]; exact md_J.ex hmd2 i hi; rw [e, hou2]; exact Option.some_ne_none _)
  refine lv_istore (lv' := [(6, .int r2), (5, .int r1), (4, .int (nI (5 * t))), (3, .ref ou), (2, .ref md), (1, .ref h0), (0, .ref b)]) hx hb d_Lw_law_231 hl (by decide) rfl (fun ls hl => ?_)
  refine lv_aload_n hx hb d_Lw_law_233 rfl (lv_at hl 4 rfl) ?_
  refine hw_calli (hw_runV (n := 0) (own := "QuantifierOutLaw") (As := []) (rest := []) hx hb hml hown hts hX hW hl.1 (c_Md_thrown l D cI cJ cZ cN md kd on tw nu le fx fy si de ne it po ma ab be li fr to (nI (cPair n g (xs (5 * t + 1)) (xs (5 * t + 2)))) n2 up2 dn2 pz2 _ M2 hK2.1) hK2.1 rfl tw_674 tw_675 tw_676 tw_5 tw_677 (by decide +kernel) rfl rfl ⟨by decide, by decide⟩ rfl rfl (Nat.le_of_ble_eq_true rfl) d_Lw_law_234 ⟨by rw [rc]; omega, by rw [rs]; omega⟩) hW hS hA (fun r3 M3 H locs hp3 hz hW hS => ?_)
  obtain ⟨er3, eM3⟩ := hp3
  rw [eM3] at hW
  refine lv_iload hx hb d_Lw_law_237 (lv_at hl 1 rfl) ?_
  refine lv_icmp_eq (tgt := 244) hx hb d_Lw_law_239 (by decide) (fun c_239 => ?_) (fun c_239 => ?_)
  · skip
    refine lv_iload hx hb d_Lw_law_244 (lv_at hl 1 rfl) ?_
    refine lv_if_ne (tgt := 261) hx hb d_Lw_law_246 (by decide) (fun c_246 => ?_) (fun c_246 => ?_)
    · skip
      refine lv_goto (tgt := 977) hx hb d_Lw_law_261 (by decide) ?_
      refine W.widen (k := cells + 5) (n := slots + 43) (by omega) (by omega) ?_
      exact K M2 H locs ls ⟨hW, hS, n2, g2, qs2, (nI (cPair n g (xs (5 * t + 1)) (xs (5 * t + 2)))), f, hJ2, hqs1, hmd2, hou2⟩ (lv_sub hl [2, 3, 4, 5, 6] rfl)
    · skip
      have hC0 : cPair n g (xs (5 * t + 1)) (xs (5 * t + 2)) = 0 := c0_of cPair_le (er1.symm.trans c_246)
      refine lv_aload_n hx hb d_Lw_law_249 rfl (lv_at hl 3 rfl) ?_
      refine lv_iconst (v := 0) hx hb d_Lw_law_250 (by decide) ?_
      refine hw_lld hx hb hW 1 hou2 rfl 0 rfl (by decide) (by decide) d_Lw_law_251 ?_
      refine lv_iload hx hb d_Lw_law_252 (lv_at hl 0 rfl) ?_
      obtain ⟨x5, ex5⟩ : ∃ y9 : Int64, y9 = (r2 : Int32).toInt64 := ⟨_, rfl⟩
      refine lv_i2l (v := x5) hx hb d_Lw_law_254 ex5.symm ?_
      refine W.lcmp hx hb d_Lw_law_255 ?_
      refine lv_if_eq (tgt := 261) hx hb d_Lw_law_256 (by decide) (fun c_256 => ?_) (fun c_256 => ?_)
      · skip
        rw [lg_cmp_eq] at c_256
        refine lv_goto (tgt := 977) hx hb d_Lw_law_261 (by decide) ?_
        refine W.widen (k := cells + 5) (n := slots + 43) (by omega) (by omega) ?_
        exact K M2 H locs ls ⟨hW, hS, n2, g2, qs2, (nI (cPair n g (xs (5 * t + 1)) (xs (5 * t + 2)))), f, hJ2, hqs1, hmd2, hou2⟩ (lv_sub hl [2, 3, 4, 5, 6] rfl)
      · skip
        rw [lg_cmp_eq] at c_256
        exact absurd (by rw [hfv hC0, ex5, hr2 hC0]) c_256
  · skip
    exact absurd (er3.trans er1.symm) c_239
set_option maxHeartbeats 4000000 in
set_option maxRecDepth 100000 in
theorem lw_c_either (hC : lw_C p l s m meth c b L xs) (hD : md_D md kd on tw nu le fx fy si de ne it po ma ab be li fr to) (ho : ∀ i, i < 19 → ou ≠ md_a md kd on tw nu le fx fy si de ne it po ma ab be li fr to i) (t : Nat) (ht : 5 * t + 5 ≤ L) (M : Nat → Option va_E) (H : Heap) (locs : List Loc) (cells slots : Nat) (hs : lw_S cI cJ cZ cN D h0 na v va vb om oa ob im ia ib ro mk ka kb fa la md kd on tw nu le fx fy si de ne it po ma ab be li fr to ou s M H locs) (hc : cells + 5 ≤ 601024) (hsl : slots + 43 ≤ 7293033) (ls : Array Slot) (hl : lv_has ls 8 [(4, .int (nI (5 * t))), (3, .ref ou), (2, .ref md), (1, .ref h0), (0, .ref b)]) (K : ∀ (M1 : Nat → Option va_E) (H : Heap) (locs : List Loc) (ls : Array Slot), lw_S cI cJ cZ cN D h0 na v va vb om oa ob im ia ib ro mk ka kb fa la md kd on tw nu le fx fy si de ne it po ma ab be li fr to ou s M1 H locs → lv_has ls 8 [(4, .int (nI (5 * t))), (3, .ref ou), (2, .ref md), (1, .ref h0), (0, .ref b)] → W p l e room_1 s m #[Value.ref b] below meth c H locs (cells + 5) (slots + 43) (lw_Z below #[Value.ref b] s) (F0 m 977 ls [])) : W p l e room_1 s m #[Value.ref b] below meth c H locs cells slots (lw_Z below #[Value.ref b] s) (F0 m 264 ls []) := by
  obtain ⟨hx, hb, hr, hml, hown, hts, hXs, hbl, hlocks, hX, hZ, hN, hl0, hL9⟩ := hC
  obtain ⟨hW, hS, n, g, qs, cd, f0, hJq, hqs, hmd, hou⟩ := hs
  have hA : ∀ q, s.heap.size ≤ q → lw_Aq s q := fun q h => h
  have hbA : ¬ lw_Aq s b := fun h => absurd hbl (Nat.not_lt.mpr h)
  have rc : room_1.cells = 601024 := rfl
  have rs : room_1.slots = 7293033 := rfl
  have hZou : (lw_Zc md kd on tw nu le fx fy si de ne it po ma ab be li fr to ou) ou := Or.inr rfl
  have hn60 : n ≤ 60 := by obtain ⟨_, _, h9⟩ := hJq; exact h9.1.2.2
  refine lv_aload_n hx hb d_Lw_law_264 rfl (lv_at hl 3 rfl) ?_
  refine lv_aload_n hx hb d_Lw_law_265 rfl (lv_at hl 4 rfl) ?_
  refine lv_iload hx hb d_Lw_law_266 (lv_at hl 0 rfl) ?_
  refine lv_iconst (v := 1) hx hb d_Lw_law_268 (by decide) ?_
  refine lv_iadd hx hb d_Lw_law_269 ?_
  refine lv_topi (fun x1 ex1 => ?_)
  refine hw_sld hx hb hXs hbl hbA hS (5 * t + 1) (by rw [ex1]; exact nI_add _ 1) (by omega) (by omega) d_Lw_law_270 ?_
  refine lv_aload_n hx hb d_Lw_law_271 rfl (lv_at hl 4 rfl) ?_
  refine lv_iload hx hb d_Lw_law_272 (lv_at hl 0 rfl) ?_
  refine lv_iconst (v := 2) hx hb d_Lw_law_274 (by decide) ?_
  refine lv_iadd hx hb d_Lw_law_275 ?_
  refine lv_topi (fun x2 ex2 => ?_)
  refine hw_sld hx hb hXs hbl hbA hS (5 * t + 2) (by rw [ex2]; exact nI_add _ 2) (by omega) (by omega) d_Lw_law_276 ?_
  refine lv_aload_n hx hb d_Lw_law_277 rfl (lv_at hl 1 rfl) ?_
  refine hw_calli (lx_runS (n := 4) (own := "QuantifierOutLaw") (As := [.ref h0, .int (xs (5 * t + 1)), .int (xs (5 * t + 2)), .ref ou]) (rest := []) hx hb hml hown hts hX hW hl.1 hZ hS hA hN (c_Lw_either l D cI cJ cZ cN h0 na v va vb om oa ob im ia ib ro mk ka kb fa la (lw_Zc md kd on tw nu le fx fy si de ne it po ma ab be li fr to ou) ou hl0 M _ n g qs f0 hJq hqs hou hZou (xs (5 * t + 1)) (xs (5 * t + 2))) tw_338 tw_339 tw_0 tc_either (by decide +kernel) rfl rfl ⟨by decide, by decide⟩ rfl rfl (Nat.le_of_ble_eq_true rfl) d_Lw_law_278 ⟨by rw [rc]; omega, by rw [rs]; omega⟩) hW hS hA (fun r1 M1 H locs hp hz hW hS => ?_)
  obtain ⟨er1, hf1, n2, g2, qs2, f, hmk, hJ1, hqs1, hou1, hfv⟩ := hp
  have hmd1 := md_J.keep (M1 := M1) hmd (fun i hi => hf1 _ (Or.inl ⟨i, hi, rfl⟩) (Ne.symm (ho i hi)))
  obtain ⟨up, dn, pz, _, _, _, _, _, _, _, _, hKm, _⟩ := id hmd1
  refine lv_istore (lv' := [(5, .int r1), (4, .int (nI (5 * t))), (3, .ref ou), (2, .ref md), (1, .ref h0), (0, .ref b)]) hx hb d_Lw_law_281 hl (by decide) rfl (fun ls hl => ?_)
  refine lv_aload_n hx hb d_Lw_law_283 rfl (lv_at hl 3 rfl) ?_
  refine lv_aload_n hx hb d_Lw_law_284 rfl (lv_at hl 5 rfl) ?_
  refine lv_iload hx hb d_Lw_law_285 (lv_at hl 1 rfl) ?_
  refine lv_iconst (v := 1) hx hb d_Lw_law_287 (by decide) ?_
  refine lv_iadd hx hb d_Lw_law_288 ?_
  refine lv_topi (fun x3 ex3 => ?_)
  refine hw_sld hx hb hXs hbl hbA hS (5 * t + 1) (by rw [ex3]; exact nI_add _ 1) (by omega) (by omega) d_Lw_law_289 ?_
  refine lv_aload_n hx hb d_Lw_law_290 rfl (lv_at hl 5 rfl) ?_
  refine lv_iload hx hb d_Lw_law_291 (lv_at hl 1 rfl) ?_
  refine lv_iconst (v := 2) hx hb d_Lw_law_293 (by decide) ?_
  refine lv_iadd hx hb d_Lw_law_294 ?_
  refine lv_topi (fun x4 ex4 => ?_)
  refine hw_sld hx hb hXs hbl hbA hS (5 * t + 2) (by rw [ex4]; exact nI_add _ 2) (by omega) (by omega) d_Lw_law_295 ?_
  refine hw_calli (hw_runV (n := 2) (own := "QuantifierOutLaw") (As := [.int (xs (5 * t + 1)), .int (xs (5 * t + 2))]) (rest := []) hx hb hml hown hts hX hW hl.1 (c_Md_either l D cI cJ cZ cN md kd on tw nu le fx fy si de ne it po ma ab be li fr to cd n g _ M1 hD hmd1 (xs (5 * t + 1)) (xs (5 * t + 2))) hKm.1 rfl tw_704 tw_705 tw_706 tw_5 tw_707 (by decide +kernel) rfl rfl ⟨by decide, by decide⟩ rfl rfl (Nat.le_of_ble_eq_true rfl) d_Lw_law_296 ⟨by rw [rc]; omega, by rw [rs]; omega⟩) hW hS hA (fun r2 M2 H locs hp2 hz hW hS => ?_)
  obtain ⟨hr2, n3, g3, hmk3, hmd2, hF2⟩ := hp2
  obtain ⟨en, eg⟩ := mkn.un hmk hmk3
  rw [← en, ← eg] at hmd2
  obtain ⟨up2, dn2, pz2, _, _, _, _, _, _, _, _, hK2, _⟩ := id hmd2
  have hou2 : M2 ou = some (.inl (cJ, 1, .inr (.inl f))) := (hF2 ou ho).trans hou1
  have hJ2 : qo_J cI cJ cN h0 na v va vb om oa ob im ia ib ro mk ka kb fa la (lw_Zc md kd on tw nu le fx fy si de ne it po ma ab be li fr to ou) M2 n2 qs2 := qo_J.oth hJ1 (fun x hx => hF2 x (fun i hi e => hx (Or.inl ⟨i, hi, e⟩))) (fun z hz9 => by rcases hz9 with ⟨i, hi, e⟩ | e; rw [e]; exact md_J.ex hmd2 i hi; rw [e, hou2]; exact Option.some_ne_none _)
  refine lv_istore (lv' := [(6, .int r2), (5, .int r1), (4, .int (nI (5 * t))), (3, .ref ou), (2, .ref md), (1, .ref h0), (0, .ref b)]) hx hb d_Lw_law_299 hl (by decide) rfl (fun ls hl => ?_)
  refine lv_aload_n hx hb d_Lw_law_301 rfl (lv_at hl 4 rfl) ?_
  refine hw_calli (hw_runV (n := 0) (own := "QuantifierOutLaw") (As := []) (rest := []) hx hb hml hown hts hX hW hl.1 (c_Md_thrown l D cI cJ cZ cN md kd on tw nu le fx fy si de ne it po ma ab be li fr to (nI (cPair n g (xs (5 * t + 1)) (xs (5 * t + 2)))) n2 up2 dn2 pz2 _ M2 hK2.1) hK2.1 rfl tw_674 tw_675 tw_676 tw_5 tw_677 (by decide +kernel) rfl rfl ⟨by decide, by decide⟩ rfl rfl (Nat.le_of_ble_eq_true rfl) d_Lw_law_302 ⟨by rw [rc]; omega, by rw [rs]; omega⟩) hW hS hA (fun r3 M3 H locs hp3 hz hW hS => ?_)
  obtain ⟨er3, eM3⟩ := hp3
  rw [eM3] at hW
  refine lv_iload hx hb d_Lw_law_305 (lv_at hl 1 rfl) ?_
  refine lv_icmp_eq (tgt := 312) hx hb d_Lw_law_307 (by decide) (fun c_307 => ?_) (fun c_307 => ?_)
  · skip
    refine lv_iload hx hb d_Lw_law_312 (lv_at hl 1 rfl) ?_
    refine lv_if_ne (tgt := 329) hx hb d_Lw_law_314 (by decide) (fun c_314 => ?_) (fun c_314 => ?_)
    · skip
      refine lv_goto (tgt := 977) hx hb d_Lw_law_329 (by decide) ?_
      refine W.widen (k := cells + 5) (n := slots + 43) (by omega) (by omega) ?_
      exact K M2 H locs ls ⟨hW, hS, n2, g2, qs2, (nI (cPair n g (xs (5 * t + 1)) (xs (5 * t + 2)))), f, hJ2, hqs1, hmd2, hou2⟩ (lv_sub hl [2, 3, 4, 5, 6] rfl)
    · skip
      have hC0 : cPair n g (xs (5 * t + 1)) (xs (5 * t + 2)) = 0 := c0_of cPair_le (er1.symm.trans c_314)
      refine lv_aload_n hx hb d_Lw_law_317 rfl (lv_at hl 3 rfl) ?_
      refine lv_iconst (v := 0) hx hb d_Lw_law_318 (by decide) ?_
      refine hw_lld hx hb hW 1 hou2 rfl 0 rfl (by decide) (by decide) d_Lw_law_319 ?_
      refine lv_iload hx hb d_Lw_law_320 (lv_at hl 0 rfl) ?_
      obtain ⟨x5, ex5⟩ : ∃ y9 : Int64, y9 = (r2 : Int32).toInt64 := ⟨_, rfl⟩
      refine lv_i2l (v := x5) hx hb d_Lw_law_322 ex5.symm ?_
      refine W.lcmp hx hb d_Lw_law_323 ?_
      refine lv_if_eq (tgt := 329) hx hb d_Lw_law_324 (by decide) (fun c_324 => ?_) (fun c_324 => ?_)
      · skip
        rw [lg_cmp_eq] at c_324
        refine lv_goto (tgt := 977) hx hb d_Lw_law_329 (by decide) ?_
        refine W.widen (k := cells + 5) (n := slots + 43) (by omega) (by omega) ?_
        exact K M2 H locs ls ⟨hW, hS, n2, g2, qs2, (nI (cPair n g (xs (5 * t + 1)) (xs (5 * t + 2)))), f, hJ2, hqs1, hmd2, hou2⟩ (lv_sub hl [2, 3, 4, 5, 6] rfl)
      · skip
        rw [lg_cmp_eq] at c_324
        exact absurd (by rw [hfv hC0, ex5, hr2 hC0]) c_324
  · skip
    exact absurd (er3.trans er1.symm) c_307
set_option maxHeartbeats 4000000 in
set_option maxRecDepth 100000 in
theorem lw_c_not (hC : lw_C p l s m meth c b L xs) (hD : md_D md kd on tw nu le fx fy si de ne it po ma ab be li fr to) (ho : ∀ i, i < 19 → ou ≠ md_a md kd on tw nu le fx fy si de ne it po ma ab be li fr to i) (t : Nat) (ht : 5 * t + 5 ≤ L) (M : Nat → Option va_E) (H : Heap) (locs : List Loc) (cells slots : Nat) (hs : lw_S cI cJ cZ cN D h0 na v va vb om oa ob im ia ib ro mk ka kb fa la md kd on tw nu le fx fy si de ne it po ma ab be li fr to ou s M H locs) (hc : cells + 5 ≤ 601024) (hsl : slots + 43 ≤ 7293033) (ls : Array Slot) (hl : lv_has ls 8 [(4, .int (nI (5 * t))), (3, .ref ou), (2, .ref md), (1, .ref h0), (0, .ref b)]) (K : ∀ (M1 : Nat → Option va_E) (H : Heap) (locs : List Loc) (ls : Array Slot), lw_S cI cJ cZ cN D h0 na v va vb om oa ob im ia ib ro mk ka kb fa la md kd on tw nu le fx fy si de ne it po ma ab be li fr to ou s M1 H locs → lv_has ls 8 [(4, .int (nI (5 * t))), (3, .ref ou), (2, .ref md), (1, .ref h0), (0, .ref b)] → W p l e room_1 s m #[Value.ref b] below meth c H locs (cells + 5) (slots + 43) (lw_Z below #[Value.ref b] s) (F0 m 977 ls [])) : W p l e room_1 s m #[Value.ref b] below meth c H locs cells slots (lw_Z below #[Value.ref b] s) (F0 m 332 ls []) := by
  obtain ⟨hx, hb, hr, hml, hown, hts, hXs, hbl, hlocks, hX, hZ, hN, hl0, hL9⟩ := hC
  obtain ⟨hW, hS, n, g, qs, cd, f0, hJq, hqs, hmd, hou⟩ := hs
  have hA : ∀ q, s.heap.size ≤ q → lw_Aq s q := fun q h => h
  have hbA : ¬ lw_Aq s b := fun h => absurd hbl (Nat.not_lt.mpr h)
  have rc : room_1.cells = 601024 := rfl
  have rs : room_1.slots = 7293033 := rfl
  have hZou : (lw_Zc md kd on tw nu le fx fy si de ne it po ma ab be li fr to ou) ou := Or.inr rfl
  have hn60 : n ≤ 60 := by obtain ⟨_, _, h9⟩ := hJq; exact h9.1.2.2
  refine lv_aload_n hx hb d_Lw_law_332 rfl (lv_at hl 3 rfl) ?_
  refine lv_aload_n hx hb d_Lw_law_333 rfl (lv_at hl 4 rfl) ?_
  refine lv_iload hx hb d_Lw_law_334 (lv_at hl 0 rfl) ?_
  refine lv_iconst (v := 1) hx hb d_Lw_law_336 (by decide) ?_
  refine lv_iadd hx hb d_Lw_law_337 ?_
  refine lv_topi (fun x1 ex1 => ?_)
  refine hw_sld hx hb hXs hbl hbA hS (5 * t + 1) (by rw [ex1]; exact nI_add _ 1) (by omega) (by omega) d_Lw_law_338 ?_
  refine lv_aload_n hx hb d_Lw_law_339 rfl (lv_at hl 1 rfl) ?_
  refine hw_calli (lx_runS (n := 3) (own := "QuantifierOutLaw") (As := [.ref h0, .int (xs (5 * t + 1)), .ref ou]) (rest := []) hx hb hml hown hts hX hW hl.1 hZ hS hA hN (c_Lw_not l D cI cJ cZ cN h0 na v va vb om oa ob im ia ib ro mk ka kb fa la (lw_Zc md kd on tw nu le fx fy si de ne it po ma ab be li fr to ou) ou hl0 M _ n g qs f0 hJq hqs hou hZou (xs (5 * t + 1))) tw_345 tw_346 tw_0 tc_not (by decide +kernel) rfl rfl ⟨by decide, by decide⟩ rfl rfl (Nat.le_of_ble_eq_true rfl) d_Lw_law_340 ⟨by rw [rc]; omega, by rw [rs]; omega⟩) hW hS hA (fun r1 M1 H locs hp hz hW hS => ?_)
  obtain ⟨er1, hf1, n2, g2, qs2, f, hmk, hJ1, hqs1, hou1, hfv⟩ := hp
  have hmd1 := md_J.keep (M1 := M1) hmd (fun i hi => hf1 _ (Or.inl ⟨i, hi, rfl⟩) (Ne.symm (ho i hi)))
  obtain ⟨up, dn, pz, _, _, _, _, _, _, _, _, hKm, _⟩ := id hmd1
  refine lv_istore (lv' := [(5, .int r1), (4, .int (nI (5 * t))), (3, .ref ou), (2, .ref md), (1, .ref h0), (0, .ref b)]) hx hb d_Lw_law_343 hl (by decide) rfl (fun ls hl => ?_)
  refine lv_aload_n hx hb d_Lw_law_345 rfl (lv_at hl 3 rfl) ?_
  refine lv_aload_n hx hb d_Lw_law_346 rfl (lv_at hl 5 rfl) ?_
  refine lv_iload hx hb d_Lw_law_347 (lv_at hl 1 rfl) ?_
  refine lv_iconst (v := 1) hx hb d_Lw_law_349 (by decide) ?_
  refine lv_iadd hx hb d_Lw_law_350 ?_
  refine lv_topi (fun x2 ex2 => ?_)
  refine hw_sld hx hb hXs hbl hbA hS (5 * t + 1) (by rw [ex2]; exact nI_add _ 1) (by omega) (by omega) d_Lw_law_351 ?_
  refine hw_calli (hw_runV (n := 1) (own := "QuantifierOutLaw") (As := [.int (xs (5 * t + 1))]) (rest := []) hx hb hml hown hts hX hW hl.1 (c_Md_not l D cI cJ cZ cN md kd on tw nu le fx fy si de ne it po ma ab be li fr to cd n g _ M1 hD hmd1 (xs (5 * t + 1))) hKm.1 rfl tw_708 tw_709 tw_710 tw_5 tw_711 (by decide +kernel) rfl rfl ⟨by decide, by decide⟩ rfl rfl (Nat.le_of_ble_eq_true rfl) d_Lw_law_352 ⟨by rw [rc]; omega, by rw [rs]; omega⟩) hW hS hA (fun r2 M2 H locs hp2 hz hW hS => ?_)
  obtain ⟨hr2, n3, g3, hmk3, hmd2, hF2⟩ := hp2
  obtain ⟨en, eg⟩ := mkn.un hmk hmk3
  rw [← en, ← eg] at hmd2
  obtain ⟨up2, dn2, pz2, _, _, _, _, _, _, _, _, hK2, _⟩ := id hmd2
  have hou2 : M2 ou = some (.inl (cJ, 1, .inr (.inl f))) := (hF2 ou ho).trans hou1
  have hJ2 : qo_J cI cJ cN h0 na v va vb om oa ob im ia ib ro mk ka kb fa la (lw_Zc md kd on tw nu le fx fy si de ne it po ma ab be li fr to ou) M2 n2 qs2 := qo_J.oth hJ1 (fun x hx => hF2 x (fun i hi e => hx (Or.inl ⟨i, hi, e⟩))) (fun z hz9 => by rcases hz9 with ⟨i, hi, e⟩ | e; rw [e]; exact md_J.ex hmd2 i hi; rw [e, hou2]; exact Option.some_ne_none _)
  refine lv_istore (lv' := [(6, .int r2), (5, .int r1), (4, .int (nI (5 * t))), (3, .ref ou), (2, .ref md), (1, .ref h0), (0, .ref b)]) hx hb d_Lw_law_355 hl (by decide) rfl (fun ls hl => ?_)
  refine lv_aload_n hx hb d_Lw_law_357 rfl (lv_at hl 4 rfl) ?_
  refine hw_calli (hw_runV (n := 0) (own := "QuantifierOutLaw") (As := []) (rest := []) hx hb hml hown hts hX hW hl.1 (c_Md_thrown l D cI cJ cZ cN md kd on tw nu le fx fy si de ne it po ma ab be li fr to (nI (cNot n (xs (5 * t + 1)))) n2 up2 dn2 pz2 _ M2 hK2.1) hK2.1 rfl tw_674 tw_675 tw_676 tw_5 tw_677 (by decide +kernel) rfl rfl ⟨by decide, by decide⟩ rfl rfl (Nat.le_of_ble_eq_true rfl) d_Lw_law_358 ⟨by rw [rc]; omega, by rw [rs]; omega⟩) hW hS hA (fun r3 M3 H locs hp3 hz hW hS => ?_)
  obtain ⟨er3, eM3⟩ := hp3
  rw [eM3] at hW
  refine lv_iload hx hb d_Lw_law_361 (lv_at hl 1 rfl) ?_
  refine lv_icmp_eq (tgt := 368) hx hb d_Lw_law_363 (by decide) (fun c_363 => ?_) (fun c_363 => ?_)
  · skip
    refine lv_iload hx hb d_Lw_law_368 (lv_at hl 1 rfl) ?_
    refine lv_if_ne (tgt := 385) hx hb d_Lw_law_370 (by decide) (fun c_370 => ?_) (fun c_370 => ?_)
    · skip
      refine lv_goto (tgt := 977) hx hb d_Lw_law_385 (by decide) ?_
      refine W.widen (k := cells + 5) (n := slots + 43) (by omega) (by omega) ?_
      exact K M2 H locs ls ⟨hW, hS, n2, g2, qs2, (nI (cNot n (xs (5 * t + 1)))), f, hJ2, hqs1, hmd2, hou2⟩ (lv_sub hl [2, 3, 4, 5, 6] rfl)
    · skip
      have hC0 : cNot n (xs (5 * t + 1)) = 0 := c0_of cNot_le (er1.symm.trans c_370)
      refine lv_aload_n hx hb d_Lw_law_373 rfl (lv_at hl 3 rfl) ?_
      refine lv_iconst (v := 0) hx hb d_Lw_law_374 (by decide) ?_
      refine hw_lld hx hb hW 1 hou2 rfl 0 rfl (by decide) (by decide) d_Lw_law_375 ?_
      refine lv_iload hx hb d_Lw_law_376 (lv_at hl 0 rfl) ?_
      obtain ⟨x3, ex3⟩ : ∃ y9 : Int64, y9 = (r2 : Int32).toInt64 := ⟨_, rfl⟩
      refine lv_i2l (v := x3) hx hb d_Lw_law_378 ex3.symm ?_
      refine W.lcmp hx hb d_Lw_law_379 ?_
      refine lv_if_eq (tgt := 385) hx hb d_Lw_law_380 (by decide) (fun c_380 => ?_) (fun c_380 => ?_)
      · skip
        rw [lg_cmp_eq] at c_380
        refine lv_goto (tgt := 977) hx hb d_Lw_law_385 (by decide) ?_
        refine W.widen (k := cells + 5) (n := slots + 43) (by omega) (by omega) ?_
        exact K M2 H locs ls ⟨hW, hS, n2, g2, qs2, (nI (cNot n (xs (5 * t + 1)))), f, hJ2, hqs1, hmd2, hou2⟩ (lv_sub hl [2, 3, 4, 5, 6] rfl)
      · skip
        rw [lg_cmp_eq] at c_380
        exact absurd (by rw [hfv hC0, ex3, hr2 hC0]) c_380
  · skip
    exact absurd (er3.trans er1.symm) c_363
set_option maxHeartbeats 4000000 in
set_option maxRecDepth 100000 in
theorem lw_c_some (hC : lw_C p l s m meth c b L xs) (hD : md_D md kd on tw nu le fx fy si de ne it po ma ab be li fr to) (ho : ∀ i, i < 19 → ou ≠ md_a md kd on tw nu le fx fy si de ne it po ma ab be li fr to i) (t : Nat) (ht : 5 * t + 5 ≤ L) (M : Nat → Option va_E) (H : Heap) (locs : List Loc) (cells slots : Nat) (hs : lw_S cI cJ cZ cN D h0 na v va vb om oa ob im ia ib ro mk ka kb fa la md kd on tw nu le fx fy si de ne it po ma ab be li fr to ou s M H locs) (hc : cells + 5 ≤ 601024) (hsl : slots + 43 ≤ 7293033) (ls : Array Slot) (hl : lv_has ls 8 [(4, .int (nI (5 * t))), (3, .ref ou), (2, .ref md), (1, .ref h0), (0, .ref b)]) (K : ∀ (M1 : Nat → Option va_E) (H : Heap) (locs : List Loc) (ls : Array Slot), lw_S cI cJ cZ cN D h0 na v va vb om oa ob im ia ib ro mk ka kb fa la md kd on tw nu le fx fy si de ne it po ma ab be li fr to ou s M1 H locs → lv_has ls 8 [(4, .int (nI (5 * t))), (3, .ref ou), (2, .ref md), (1, .ref h0), (0, .ref b)] → W p l e room_1 s m #[Value.ref b] below meth c H locs (cells + 5) (slots + 43) (lw_Z below #[Value.ref b] s) (F0 m 977 ls [])) : W p l e room_1 s m #[Value.ref b] below meth c H locs cells slots (lw_Z below #[Value.ref b] s) (F0 m 388 ls []) := by
  obtain ⟨hx, hb, hr, hml, hown, hts, hXs, hbl, hlocks, hX, hZ, hN, hl0, hL9⟩ := hC
  obtain ⟨hW, hS, n, g, qs, cd, f0, hJq, hqs, hmd, hou⟩ := hs
  have hA : ∀ q, s.heap.size ≤ q → lw_Aq s q := fun q h => h
  have hbA : ¬ lw_Aq s b := fun h => absurd hbl (Nat.not_lt.mpr h)
  have rc : room_1.cells = 601024 := rfl
  have rs : room_1.slots = 7293033 := rfl
  have hZou : (lw_Zc md kd on tw nu le fx fy si de ne it po ma ab be li fr to ou) ou := Or.inr rfl
  have hn60 : n ≤ 60 := by obtain ⟨_, _, h9⟩ := hJq; exact h9.1.2.2
  refine lv_aload_n hx hb d_Lw_law_388 rfl (lv_at hl 3 rfl) ?_
  refine lv_aload_n hx hb d_Lw_law_389 rfl (lv_at hl 4 rfl) ?_
  refine lv_iload hx hb d_Lw_law_390 (lv_at hl 0 rfl) ?_
  refine lv_iconst (v := 1) hx hb d_Lw_law_392 (by decide) ?_
  refine lv_iadd hx hb d_Lw_law_393 ?_
  refine lv_topi (fun x1 ex1 => ?_)
  refine hw_sld hx hb hXs hbl hbA hS (5 * t + 1) (by rw [ex1]; exact nI_add _ 1) (by omega) (by omega) d_Lw_law_394 ?_
  refine lv_aload_n hx hb d_Lw_law_395 rfl (lv_at hl 4 rfl) ?_
  refine lv_iload hx hb d_Lw_law_396 (lv_at hl 0 rfl) ?_
  refine lv_iconst (v := 2) hx hb d_Lw_law_398 (by decide) ?_
  refine lv_iadd hx hb d_Lw_law_399 ?_
  refine lv_topi (fun x2 ex2 => ?_)
  refine hw_sld hx hb hXs hbl hbA hS (5 * t + 2) (by rw [ex2]; exact nI_add _ 2) (by omega) (by omega) d_Lw_law_400 ?_
  refine lv_aload_n hx hb d_Lw_law_401 rfl (lv_at hl 1 rfl) ?_
  refine hw_calli (lx_runS (n := 4) (own := "QuantifierOutLaw") (As := [.ref h0, .int (xs (5 * t + 1)), .int (xs (5 * t + 2)), .ref ou]) (rest := []) hx hb hml hown hts hX hW hl.1 hZ hS hA hN (c_Lw_some l D cI cJ cZ cN h0 na v va vb om oa ob im ia ib ro mk ka kb fa la (lw_Zc md kd on tw nu le fx fy si de ne it po ma ab be li fr to ou) ou hl0 M _ n g qs f0 hJq hqs hou hZou (xs (5 * t + 1)) (xs (5 * t + 2))) tw_376 tw_377 tw_0 tc_some (by decide +kernel) rfl rfl ⟨by decide, by decide⟩ rfl rfl (Nat.le_of_ble_eq_true rfl) d_Lw_law_402 ⟨by rw [rc]; omega, by rw [rs]; omega⟩) hW hS hA (fun r1 M1 H locs hp hz hW hS => ?_)
  obtain ⟨er1, hf1, n2, g2, qs2, f, hmk, hJ1, hqs1, hou1, hfv⟩ := hp
  have hmd1 := md_J.keep (M1 := M1) hmd (fun i hi => hf1 _ (Or.inl ⟨i, hi, rfl⟩) (Ne.symm (ho i hi)))
  obtain ⟨up, dn, pz, _, _, _, _, _, _, _, _, hKm, _⟩ := id hmd1
  refine lv_istore (lv' := [(5, .int r1), (4, .int (nI (5 * t))), (3, .ref ou), (2, .ref md), (1, .ref h0), (0, .ref b)]) hx hb d_Lw_law_405 hl (by decide) rfl (fun ls hl => ?_)
  refine lv_aload_n hx hb d_Lw_law_407 rfl (lv_at hl 3 rfl) ?_
  refine lv_aload_n hx hb d_Lw_law_408 rfl (lv_at hl 5 rfl) ?_
  refine lv_iload hx hb d_Lw_law_409 (lv_at hl 1 rfl) ?_
  refine lv_iconst (v := 1) hx hb d_Lw_law_411 (by decide) ?_
  refine lv_iadd hx hb d_Lw_law_412 ?_
  refine lv_topi (fun x3 ex3 => ?_)
  refine hw_sld hx hb hXs hbl hbA hS (5 * t + 1) (by rw [ex3]; exact nI_add _ 1) (by omega) (by omega) d_Lw_law_413 ?_
  refine lv_aload_n hx hb d_Lw_law_414 rfl (lv_at hl 5 rfl) ?_
  refine lv_iload hx hb d_Lw_law_415 (lv_at hl 1 rfl) ?_
  refine lv_iconst (v := 2) hx hb d_Lw_law_417 (by decide) ?_
  refine lv_iadd hx hb d_Lw_law_418 ?_
  refine lv_topi (fun x4 ex4 => ?_)
  refine hw_sld hx hb hXs hbl hbA hS (5 * t + 2) (by rw [ex4]; exact nI_add _ 2) (by omega) (by omega) d_Lw_law_419 ?_
  refine hw_calli (hw_runV (n := 2) (own := "QuantifierOutLaw") (As := [.int (xs (5 * t + 1)), .int (xs (5 * t + 2))]) (rest := []) hx hb hml hown hts hX hW hl.1 (c_Md_some l D cI cJ cZ cN md kd on tw nu le fx fy si de ne it po ma ab be li fr to cd n g _ M1 hD hmd1 (xs (5 * t + 1)) (xs (5 * t + 2))) hKm.1 rfl tw_712 tw_713 tw_714 tw_5 tw_715 (by decide +kernel) rfl rfl ⟨by decide, by decide⟩ rfl rfl (Nat.le_of_ble_eq_true rfl) d_Lw_law_420 ⟨by rw [rc]; omega, by rw [rs]; omega⟩) hW hS hA (fun r2 M2 H locs hp2 hz hW hS => ?_)
  obtain ⟨hr2, n3, g3, hmk3, hmd2, hF2⟩ := hp2
  obtain ⟨en, eg⟩ := mkn.un hmk hmk3
  rw [← en, ← eg] at hmd2
  obtain ⟨up2, dn2, pz2, _, _, _, _, _, _, _, _, hK2, _⟩ := id hmd2
  have hou2 : M2 ou = some (.inl (cJ, 1, .inr (.inl f))) := (hF2 ou ho).trans hou1
  have hJ2 : qo_J cI cJ cN h0 na v va vb om oa ob im ia ib ro mk ka kb fa la (lw_Zc md kd on tw nu le fx fy si de ne it po ma ab be li fr to ou) M2 n2 qs2 := qo_J.oth hJ1 (fun x hx => hF2 x (fun i hi e => hx (Or.inl ⟨i, hi, e⟩))) (fun z hz9 => by rcases hz9 with ⟨i, hi, e⟩ | e; rw [e]; exact md_J.ex hmd2 i hi; rw [e, hou2]; exact Option.some_ne_none _)
  refine lv_istore (lv' := [(6, .int r2), (5, .int r1), (4, .int (nI (5 * t))), (3, .ref ou), (2, .ref md), (1, .ref h0), (0, .ref b)]) hx hb d_Lw_law_423 hl (by decide) rfl (fun ls hl => ?_)
  refine lv_aload_n hx hb d_Lw_law_425 rfl (lv_at hl 4 rfl) ?_
  refine hw_calli (hw_runV (n := 0) (own := "QuantifierOutLaw") (As := []) (rest := []) hx hb hml hown hts hX hW hl.1 (c_Md_thrown l D cI cJ cZ cN md kd on tw nu le fx fy si de ne it po ma ab be li fr to (nI (cQuant n g (xs (5 * t + 1)) (xs (5 * t + 2)))) n2 up2 dn2 pz2 _ M2 hK2.1) hK2.1 rfl tw_674 tw_675 tw_676 tw_5 tw_677 (by decide +kernel) rfl rfl ⟨by decide, by decide⟩ rfl rfl (Nat.le_of_ble_eq_true rfl) d_Lw_law_426 ⟨by rw [rc]; omega, by rw [rs]; omega⟩) hW hS hA (fun r3 M3 H locs hp3 hz hW hS => ?_)
  obtain ⟨er3, eM3⟩ := hp3
  rw [eM3] at hW
  refine lv_iload hx hb d_Lw_law_429 (lv_at hl 1 rfl) ?_
  refine lv_icmp_eq (tgt := 436) hx hb d_Lw_law_431 (by decide) (fun c_431 => ?_) (fun c_431 => ?_)
  · skip
    refine lv_iload hx hb d_Lw_law_436 (lv_at hl 1 rfl) ?_
    refine lv_if_ne (tgt := 453) hx hb d_Lw_law_438 (by decide) (fun c_438 => ?_) (fun c_438 => ?_)
    · skip
      refine lv_goto (tgt := 977) hx hb d_Lw_law_453 (by decide) ?_
      refine W.widen (k := cells + 5) (n := slots + 43) (by omega) (by omega) ?_
      exact K M2 H locs ls ⟨hW, hS, n2, g2, qs2, (nI (cQuant n g (xs (5 * t + 1)) (xs (5 * t + 2)))), f, hJ2, hqs1, hmd2, hou2⟩ (lv_sub hl [2, 3, 4, 5, 6] rfl)
    · skip
      have hC0 : cQuant n g (xs (5 * t + 1)) (xs (5 * t + 2)) = 0 := c0_of cQuant_le (er1.symm.trans c_438)
      refine lv_aload_n hx hb d_Lw_law_441 rfl (lv_at hl 3 rfl) ?_
      refine lv_iconst (v := 0) hx hb d_Lw_law_442 (by decide) ?_
      refine hw_lld hx hb hW 1 hou2 rfl 0 rfl (by decide) (by decide) d_Lw_law_443 ?_
      refine lv_iload hx hb d_Lw_law_444 (lv_at hl 0 rfl) ?_
      obtain ⟨x5, ex5⟩ : ∃ y9 : Int64, y9 = (r2 : Int32).toInt64 := ⟨_, rfl⟩
      refine lv_i2l (v := x5) hx hb d_Lw_law_446 ex5.symm ?_
      refine W.lcmp hx hb d_Lw_law_447 ?_
      refine lv_if_eq (tgt := 453) hx hb d_Lw_law_448 (by decide) (fun c_448 => ?_) (fun c_448 => ?_)
      · skip
        rw [lg_cmp_eq] at c_448
        refine lv_goto (tgt := 977) hx hb d_Lw_law_453 (by decide) ?_
        refine W.widen (k := cells + 5) (n := slots + 43) (by omega) (by omega) ?_
        exact K M2 H locs ls ⟨hW, hS, n2, g2, qs2, (nI (cQuant n g (xs (5 * t + 1)) (xs (5 * t + 2)))), f, hJ2, hqs1, hmd2, hou2⟩ (lv_sub hl [2, 3, 4, 5, 6] rfl)
      · skip
        rw [lg_cmp_eq] at c_448
        exact absurd (by rw [hfv hC0, ex5, hr2 hC0]) c_448
  · skip
    exact absurd (er3.trans er1.symm) c_431
set_option maxHeartbeats 4000000 in
set_option maxRecDepth 100000 in
theorem lw_c_every (hC : lw_C p l s m meth c b L xs) (hD : md_D md kd on tw nu le fx fy si de ne it po ma ab be li fr to) (ho : ∀ i, i < 19 → ou ≠ md_a md kd on tw nu le fx fy si de ne it po ma ab be li fr to i) (t : Nat) (ht : 5 * t + 5 ≤ L) (M : Nat → Option va_E) (H : Heap) (locs : List Loc) (cells slots : Nat) (hs : lw_S cI cJ cZ cN D h0 na v va vb om oa ob im ia ib ro mk ka kb fa la md kd on tw nu le fx fy si de ne it po ma ab be li fr to ou s M H locs) (hc : cells + 5 ≤ 601024) (hsl : slots + 43 ≤ 7293033) (ls : Array Slot) (hl : lv_has ls 8 [(4, .int (nI (5 * t))), (3, .ref ou), (2, .ref md), (1, .ref h0), (0, .ref b)]) (K : ∀ (M1 : Nat → Option va_E) (H : Heap) (locs : List Loc) (ls : Array Slot), lw_S cI cJ cZ cN D h0 na v va vb om oa ob im ia ib ro mk ka kb fa la md kd on tw nu le fx fy si de ne it po ma ab be li fr to ou s M1 H locs → lv_has ls 8 [(4, .int (nI (5 * t))), (3, .ref ou), (2, .ref md), (1, .ref h0), (0, .ref b)] → W p l e room_1 s m #[Value.ref b] below meth c H locs (cells + 5) (slots + 43) (lw_Z below #[Value.ref b] s) (F0 m 977 ls [])) : W p l e room_1 s m #[Value.ref b] below meth c H locs cells slots (lw_Z below #[Value.ref b] s) (F0 m 456 ls []) := by
  obtain ⟨hx, hb, hr, hml, hown, hts, hXs, hbl, hlocks, hX, hZ, hN, hl0, hL9⟩ := hC
  obtain ⟨hW, hS, n, g, qs, cd, f0, hJq, hqs, hmd, hou⟩ := hs
  have hA : ∀ q, s.heap.size ≤ q → lw_Aq s q := fun q h => h
  have hbA : ¬ lw_Aq s b := fun h => absurd hbl (Nat.not_lt.mpr h)
  have rc : room_1.cells = 601024 := rfl
  have rs : room_1.slots = 7293033 := rfl
  have hZou : (lw_Zc md kd on tw nu le fx fy si de ne it po ma ab be li fr to ou) ou := Or.inr rfl
  have hn60 : n ≤ 60 := by obtain ⟨_, _, h9⟩ := hJq; exact h9.1.2.2
  refine lv_aload_n hx hb d_Lw_law_456 rfl (lv_at hl 3 rfl) ?_
  refine lv_aload_n hx hb d_Lw_law_457 rfl (lv_at hl 4 rfl) ?_
  refine lv_iload hx hb d_Lw_law_458 (lv_at hl 0 rfl) ?_
  refine lv_iconst (v := 1) hx hb d_Lw_law_460 (by decide) ?_
  refine lv_iadd hx hb d_Lw_law_461 ?_
  refine lv_topi (fun x1 ex1 => ?_)
  refine hw_sld hx hb hXs hbl hbA hS (5 * t + 1) (by rw [ex1]; exact nI_add _ 1) (by omega) (by omega) d_Lw_law_462 ?_
  refine lv_aload_n hx hb d_Lw_law_463 rfl (lv_at hl 4 rfl) ?_
  refine lv_iload hx hb d_Lw_law_464 (lv_at hl 0 rfl) ?_
  refine lv_iconst (v := 2) hx hb d_Lw_law_466 (by decide) ?_
  refine lv_iadd hx hb d_Lw_law_467 ?_
  refine lv_topi (fun x2 ex2 => ?_)
  refine hw_sld hx hb hXs hbl hbA hS (5 * t + 2) (by rw [ex2]; exact nI_add _ 2) (by omega) (by omega) d_Lw_law_468 ?_
  refine lv_aload_n hx hb d_Lw_law_469 rfl (lv_at hl 1 rfl) ?_
  refine hw_calli (lx_runS (n := 4) (own := "QuantifierOutLaw") (As := [.ref h0, .int (xs (5 * t + 1)), .int (xs (5 * t + 2)), .ref ou]) (rest := []) hx hb hml hown hts hX hW hl.1 hZ hS hA hN (c_Lw_every l D cI cJ cZ cN h0 na v va vb om oa ob im ia ib ro mk ka kb fa la (lw_Zc md kd on tw nu le fx fy si de ne it po ma ab be li fr to ou) ou hl0 M _ n g qs f0 hJq hqs hou hZou (xs (5 * t + 1)) (xs (5 * t + 2))) tw_409 tw_410 tw_0 tc_every (by decide +kernel) rfl rfl ⟨by decide, by decide⟩ rfl rfl (Nat.le_of_ble_eq_true rfl) d_Lw_law_470 ⟨by rw [rc]; omega, by rw [rs]; omega⟩) hW hS hA (fun r1 M1 H locs hp hz hW hS => ?_)
  obtain ⟨er1, hf1, n2, g2, qs2, f, hmk, hJ1, hqs1, hou1, hfv⟩ := hp
  have hmd1 := md_J.keep (M1 := M1) hmd (fun i hi => hf1 _ (Or.inl ⟨i, hi, rfl⟩) (Ne.symm (ho i hi)))
  obtain ⟨up, dn, pz, _, _, _, _, _, _, _, _, hKm, _⟩ := id hmd1
  refine lv_istore (lv' := [(5, .int r1), (4, .int (nI (5 * t))), (3, .ref ou), (2, .ref md), (1, .ref h0), (0, .ref b)]) hx hb d_Lw_law_473 hl (by decide) rfl (fun ls hl => ?_)
  refine lv_aload_n hx hb d_Lw_law_475 rfl (lv_at hl 3 rfl) ?_
  refine lv_aload_n hx hb d_Lw_law_476 rfl (lv_at hl 5 rfl) ?_
  refine lv_iload hx hb d_Lw_law_477 (lv_at hl 1 rfl) ?_
  refine lv_iconst (v := 1) hx hb d_Lw_law_479 (by decide) ?_
  refine lv_iadd hx hb d_Lw_law_480 ?_
  refine lv_topi (fun x3 ex3 => ?_)
  refine hw_sld hx hb hXs hbl hbA hS (5 * t + 1) (by rw [ex3]; exact nI_add _ 1) (by omega) (by omega) d_Lw_law_481 ?_
  refine lv_aload_n hx hb d_Lw_law_482 rfl (lv_at hl 5 rfl) ?_
  refine lv_iload hx hb d_Lw_law_483 (lv_at hl 1 rfl) ?_
  refine lv_iconst (v := 2) hx hb d_Lw_law_485 (by decide) ?_
  refine lv_iadd hx hb d_Lw_law_486 ?_
  refine lv_topi (fun x4 ex4 => ?_)
  refine hw_sld hx hb hXs hbl hbA hS (5 * t + 2) (by rw [ex4]; exact nI_add _ 2) (by omega) (by omega) d_Lw_law_487 ?_
  refine hw_calli (hw_runV (n := 2) (own := "QuantifierOutLaw") (As := [.int (xs (5 * t + 1)), .int (xs (5 * t + 2))]) (rest := []) hx hb hml hown hts hX hW hl.1 (c_Md_every l D cI cJ cZ cN md kd on tw nu le fx fy si de ne it po ma ab be li fr to cd n g _ M1 hD hmd1 (xs (5 * t + 1)) (xs (5 * t + 2))) hKm.1 rfl tw_720 tw_721 tw_722 tw_5 tw_723 (by decide +kernel) rfl rfl ⟨by decide, by decide⟩ rfl rfl (Nat.le_of_ble_eq_true rfl) d_Lw_law_488 ⟨by rw [rc]; omega, by rw [rs]; omega⟩) hW hS hA (fun r2 M2 H locs hp2 hz hW hS => ?_)
  obtain ⟨hr2, n3, g3, hmk3, hmd2, hF2⟩ := hp2
  obtain ⟨en, eg⟩ := mkn.un hmk hmk3
  rw [← en, ← eg] at hmd2
  obtain ⟨up2, dn2, pz2, _, _, _, _, _, _, _, _, hK2, _⟩ := id hmd2
  have hou2 : M2 ou = some (.inl (cJ, 1, .inr (.inl f))) := (hF2 ou ho).trans hou1
  have hJ2 : qo_J cI cJ cN h0 na v va vb om oa ob im ia ib ro mk ka kb fa la (lw_Zc md kd on tw nu le fx fy si de ne it po ma ab be li fr to ou) M2 n2 qs2 := qo_J.oth hJ1 (fun x hx => hF2 x (fun i hi e => hx (Or.inl ⟨i, hi, e⟩))) (fun z hz9 => by rcases hz9 with ⟨i, hi, e⟩ | e; rw [e]; exact md_J.ex hmd2 i hi; rw [e, hou2]; exact Option.some_ne_none _)
  refine lv_istore (lv' := [(6, .int r2), (5, .int r1), (4, .int (nI (5 * t))), (3, .ref ou), (2, .ref md), (1, .ref h0), (0, .ref b)]) hx hb d_Lw_law_491 hl (by decide) rfl (fun ls hl => ?_)
  refine lv_aload_n hx hb d_Lw_law_493 rfl (lv_at hl 4 rfl) ?_
  refine hw_calli (hw_runV (n := 0) (own := "QuantifierOutLaw") (As := []) (rest := []) hx hb hml hown hts hX hW hl.1 (c_Md_thrown l D cI cJ cZ cN md kd on tw nu le fx fy si de ne it po ma ab be li fr to (nI (cQuant n g (xs (5 * t + 1)) (xs (5 * t + 2)))) n2 up2 dn2 pz2 _ M2 hK2.1) hK2.1 rfl tw_674 tw_675 tw_676 tw_5 tw_677 (by decide +kernel) rfl rfl ⟨by decide, by decide⟩ rfl rfl (Nat.le_of_ble_eq_true rfl) d_Lw_law_494 ⟨by rw [rc]; omega, by rw [rs]; omega⟩) hW hS hA (fun r3 M3 H locs hp3 hz hW hS => ?_)
  obtain ⟨er3, eM3⟩ := hp3
  rw [eM3] at hW
  refine lv_iload hx hb d_Lw_law_497 (lv_at hl 1 rfl) ?_
  refine lv_icmp_eq (tgt := 504) hx hb d_Lw_law_499 (by decide) (fun c_499 => ?_) (fun c_499 => ?_)
  · skip
    refine lv_iload hx hb d_Lw_law_504 (lv_at hl 1 rfl) ?_
    refine lv_if_ne (tgt := 521) hx hb d_Lw_law_506 (by decide) (fun c_506 => ?_) (fun c_506 => ?_)
    · skip
      refine lv_goto (tgt := 977) hx hb d_Lw_law_521 (by decide) ?_
      refine W.widen (k := cells + 5) (n := slots + 43) (by omega) (by omega) ?_
      exact K M2 H locs ls ⟨hW, hS, n2, g2, qs2, (nI (cQuant n g (xs (5 * t + 1)) (xs (5 * t + 2)))), f, hJ2, hqs1, hmd2, hou2⟩ (lv_sub hl [2, 3, 4, 5, 6] rfl)
    · skip
      have hC0 : cQuant n g (xs (5 * t + 1)) (xs (5 * t + 2)) = 0 := c0_of cQuant_le (er1.symm.trans c_506)
      refine lv_aload_n hx hb d_Lw_law_509 rfl (lv_at hl 3 rfl) ?_
      refine lv_iconst (v := 0) hx hb d_Lw_law_510 (by decide) ?_
      refine hw_lld hx hb hW 1 hou2 rfl 0 rfl (by decide) (by decide) d_Lw_law_511 ?_
      refine lv_iload hx hb d_Lw_law_512 (lv_at hl 0 rfl) ?_
      obtain ⟨x5, ex5⟩ : ∃ y9 : Int64, y9 = (r2 : Int32).toInt64 := ⟨_, rfl⟩
      refine lv_i2l (v := x5) hx hb d_Lw_law_514 ex5.symm ?_
      refine W.lcmp hx hb d_Lw_law_515 ?_
      refine lv_if_eq (tgt := 521) hx hb d_Lw_law_516 (by decide) (fun c_516 => ?_) (fun c_516 => ?_)
      · skip
        rw [lg_cmp_eq] at c_516
        refine lv_goto (tgt := 977) hx hb d_Lw_law_521 (by decide) ?_
        refine W.widen (k := cells + 5) (n := slots + 43) (by omega) (by omega) ?_
        exact K M2 H locs ls ⟨hW, hS, n2, g2, qs2, (nI (cQuant n g (xs (5 * t + 1)) (xs (5 * t + 2)))), f, hJ2, hqs1, hmd2, hou2⟩ (lv_sub hl [2, 3, 4, 5, 6] rfl)
      · skip
        rw [lg_cmp_eq] at c_516
        exact absurd (by rw [hfv hC0, ex5, hr2 hC0]) c_516
  · skip
    exact absurd (er3.trans er1.symm) c_499
set_option maxHeartbeats 4000000 in
set_option maxRecDepth 100000 in
theorem lw_c_known (hC : lw_C p l s m meth c b L xs) (hD : md_D md kd on tw nu le fx fy si de ne it po ma ab be li fr to) (ho : ∀ i, i < 19 → ou ≠ md_a md kd on tw nu le fx fy si de ne it po ma ab be li fr to i) (t : Nat) (ht : 5 * t + 5 ≤ L) (M : Nat → Option va_E) (H : Heap) (locs : List Loc) (cells slots : Nat) (hs : lw_S cI cJ cZ cN D h0 na v va vb om oa ob im ia ib ro mk ka kb fa la md kd on tw nu le fx fy si de ne it po ma ab be li fr to ou s M H locs) (hc : cells + 5 ≤ 601024) (hsl : slots + 43 ≤ 7293033) (ls : Array Slot) (hl : lv_has ls 8 [(4, .int (nI (5 * t))), (3, .ref ou), (2, .ref md), (1, .ref h0), (0, .ref b)]) (K : ∀ (M1 : Nat → Option va_E) (H : Heap) (locs : List Loc) (ls : Array Slot), lw_S cI cJ cZ cN D h0 na v va vb om oa ob im ia ib ro mk ka kb fa la md kd on tw nu le fx fy si de ne it po ma ab be li fr to ou s M1 H locs → lv_has ls 8 [(4, .int (nI (5 * t))), (3, .ref ou), (2, .ref md), (1, .ref h0), (0, .ref b)] → W p l e room_1 s m #[Value.ref b] below meth c H locs (cells + 5) (slots + 43) (lw_Z below #[Value.ref b] s) (F0 m 977 ls [])) : W p l e room_1 s m #[Value.ref b] below meth c H locs cells slots (lw_Z below #[Value.ref b] s) (F0 m 524 ls []) := by
  obtain ⟨hx, hb, hr, hml, hown, hts, hXs, hbl, hlocks, hX, hZ, hN, hl0, hL9⟩ := hC
  obtain ⟨hW, hS, n, g, qs, cd, f0, hJq, hqs, hmd, hou⟩ := hs
  have hA : ∀ q, s.heap.size ≤ q → lw_Aq s q := fun q h => h
  have hbA : ¬ lw_Aq s b := fun h => absurd hbl (Nat.not_lt.mpr h)
  have rc : room_1.cells = 601024 := rfl
  have rs : room_1.slots = 7293033 := rfl
  have hZou : (lw_Zc md kd on tw nu le fx fy si de ne it po ma ab be li fr to ou) ou := Or.inr rfl
  have hn60 : n ≤ 60 := by obtain ⟨_, _, h9⟩ := hJq; exact h9.1.2.2
  refine lv_aload_n hx hb d_Lw_law_524 rfl (lv_at hl 3 rfl) ?_
  refine lv_aload_n hx hb d_Lw_law_525 rfl (lv_at hl 4 rfl) ?_
  refine lv_iload hx hb d_Lw_law_526 (lv_at hl 0 rfl) ?_
  refine lv_iconst (v := 1) hx hb d_Lw_law_528 (by decide) ?_
  refine lv_iadd hx hb d_Lw_law_529 ?_
  refine lv_topi (fun x1 ex1 => ?_)
  refine hw_sld hx hb hXs hbl hbA hS (5 * t + 1) (by rw [ex1]; exact nI_add _ 1) (by omega) (by omega) d_Lw_law_530 ?_
  refine lv_aload_n hx hb d_Lw_law_531 rfl (lv_at hl 4 rfl) ?_
  refine lv_iload hx hb d_Lw_law_532 (lv_at hl 0 rfl) ?_
  refine lv_iconst (v := 2) hx hb d_Lw_law_534 (by decide) ?_
  refine lv_iadd hx hb d_Lw_law_535 ?_
  refine lv_topi (fun x2 ex2 => ?_)
  refine hw_sld hx hb hXs hbl hbA hS (5 * t + 2) (by rw [ex2]; exact nI_add _ 2) (by omega) (by omega) d_Lw_law_536 ?_
  refine lv_aload_n hx hb d_Lw_law_537 rfl (lv_at hl 1 rfl) ?_
  refine hw_calli (lx_runS (n := 4) (own := "QuantifierOutLaw") (As := [.ref h0, .int (xs (5 * t + 1)), .int (xs (5 * t + 2)), .ref ou]) (rest := []) hx hb hml hown hts hX hW hl.1 hZ hS hA hN (c_Lw_known l D cI cJ cZ cN h0 na v va vb om oa ob im ia ib ro mk ka kb fa la (lw_Zc md kd on tw nu le fx fy si de ne it po ma ab be li fr to ou) ou hl0 M _ n g qs f0 hJq hqs hou hZou (xs (5 * t + 1)) (xs (5 * t + 2))) tw_416 tw_417 tw_0 tc_known (by decide +kernel) rfl rfl ⟨by decide, by decide⟩ rfl rfl (Nat.le_of_ble_eq_true rfl) d_Lw_law_538 ⟨by rw [rc]; omega, by rw [rs]; omega⟩) hW hS hA (fun r1 M1 H locs hp hz hW hS => ?_)
  obtain ⟨er1, hf1, f, hJ1, hou1, hfv⟩ := hp
  have hmd1 := md_J.keep (M1 := M1) hmd (fun i hi => hf1 _ (Or.inl ⟨i, hi, rfl⟩) (Ne.symm (ho i hi)))
  obtain ⟨up, dn, pz, _, _, _, _, _, _, _, _, hKm, _⟩ := id hmd1
  refine lv_istore (lv' := [(5, .int r1), (4, .int (nI (5 * t))), (3, .ref ou), (2, .ref md), (1, .ref h0), (0, .ref b)]) hx hb d_Lw_law_541 hl (by decide) rfl (fun ls hl => ?_)
  refine lv_aload_n hx hb d_Lw_law_543 rfl (lv_at hl 3 rfl) ?_
  refine lv_aload_n hx hb d_Lw_law_544 rfl (lv_at hl 5 rfl) ?_
  refine lv_iload hx hb d_Lw_law_545 (lv_at hl 1 rfl) ?_
  refine lv_iconst (v := 1) hx hb d_Lw_law_547 (by decide) ?_
  refine lv_iadd hx hb d_Lw_law_548 ?_
  refine lv_topi (fun x3 ex3 => ?_)
  refine hw_sld hx hb hXs hbl hbA hS (5 * t + 1) (by rw [ex3]; exact nI_add _ 1) (by omega) (by omega) d_Lw_law_549 ?_
  refine lv_aload_n hx hb d_Lw_law_550 rfl (lv_at hl 5 rfl) ?_
  refine lv_iload hx hb d_Lw_law_551 (lv_at hl 1 rfl) ?_
  refine lv_iconst (v := 2) hx hb d_Lw_law_553 (by decide) ?_
  refine lv_iadd hx hb d_Lw_law_554 ?_
  refine lv_topi (fun x4 ex4 => ?_)
  refine hw_sld hx hb hXs hbl hbA hS (5 * t + 2) (by rw [ex4]; exact nI_add _ 2) (by omega) (by omega) d_Lw_law_555 ?_
  refine hw_calli (hw_runV (n := 2) (own := "QuantifierOutLaw") (As := [.int (xs (5 * t + 1)), .int (xs (5 * t + 2))]) (rest := []) hx hb hml hown hts hX hW hl.1 (c_Md_known l D cI cJ cZ cN md kd on tw nu le fx fy si de ne it po ma ab be li fr to cd n g _ M1 hD hmd1 (xs (5 * t + 1)) (xs (5 * t + 2))) hKm.1 rfl tw_724 tw_725 tw_726 tw_5 tw_727 (by decide +kernel) rfl rfl ⟨by decide, by decide⟩ rfl rfl (Nat.le_of_ble_eq_true rfl) d_Lw_law_556 ⟨by rw [rc]; omega, by rw [rs]; omega⟩) hW hS hA (fun r2 M2 H locs hp2 hz hW hS => ?_)
  obtain ⟨hR2, hmd2, hF2⟩ := hp2
  obtain ⟨up2, dn2, pz2, _, _, _, _, _, _, _, _, hK2, _⟩ := id hmd2
  have hou2 : M2 ou = some (.inl (cJ, 1, .inr (.inl f))) := (hF2 ou ho).trans hou1
  have hJ2 : qo_J cI cJ cN h0 na v va vb om oa ob im ia ib ro mk ka kb fa la (lw_Zc md kd on tw nu le fx fy si de ne it po ma ab be li fr to ou) M2 n qs := qo_J.oth hJ1 (fun x hx => hF2 x (fun i hi e => hx (Or.inl ⟨i, hi, e⟩))) (fun z hz9 => by rcases hz9 with ⟨i, hi, e⟩ | e; rw [e]; exact md_J.ex hmd2 i hi; rw [e, hou2]; exact Option.some_ne_none _)
  refine lv_istore (lv' := [(6, .int r2), (5, .int r1), (4, .int (nI (5 * t))), (3, .ref ou), (2, .ref md), (1, .ref h0), (0, .ref b)]) hx hb d_Lw_law_559 hl (by decide) rfl (fun ls hl => ?_)
  refine lv_aload_n hx hb d_Lw_law_561 rfl (lv_at hl 4 rfl) ?_
  refine hw_calli (hw_runV (n := 0) (own := "QuantifierOutLaw") (As := []) (rest := []) hx hb hml hown hts hX hW hl.1 (c_Md_thrown l D cI cJ cZ cN md kd on tw nu le fx fy si de ne it po ma ab be li fr to (nI (cKnown n (xs (5 * t + 1)) (xs (5 * t + 2)))) n up2 dn2 pz2 _ M2 hK2.1) hK2.1 rfl tw_674 tw_675 tw_676 tw_5 tw_677 (by decide +kernel) rfl rfl ⟨by decide, by decide⟩ rfl rfl (Nat.le_of_ble_eq_true rfl) d_Lw_law_562 ⟨by rw [rc]; omega, by rw [rs]; omega⟩) hW hS hA (fun r3 M3 H locs hp3 hz hW hS => ?_)
  obtain ⟨er3, eM3⟩ := hp3
  rw [eM3] at hW
  refine lv_iload hx hb d_Lw_law_565 (lv_at hl 1 rfl) ?_
  refine lv_icmp_eq (tgt := 572) hx hb d_Lw_law_567 (by decide) (fun c_567 => ?_) (fun c_567 => ?_)
  · skip
    refine lv_iload hx hb d_Lw_law_572 (lv_at hl 1 rfl) ?_
    refine lv_if_ne (tgt := 589) hx hb d_Lw_law_574 (by decide) (fun c_574 => ?_) (fun c_574 => ?_)
    · skip
      refine lv_goto (tgt := 977) hx hb d_Lw_law_589 (by decide) ?_
      refine W.widen (k := cells + 5) (n := slots + 43) (by omega) (by omega) ?_
      exact K M2 H locs ls ⟨hW, hS, n, g, qs, (nI (cKnown n (xs (5 * t + 1)) (xs (5 * t + 2)))), f, hJ2, hqs, hmd2, hou2⟩ (lv_sub hl [2, 3, 4, 5, 6] rfl)
    · skip
      have hC0 : cKnown n (xs (5 * t + 1)) (xs (5 * t + 2)) = 0 := c0_of cKnown_le (er1.symm.trans c_574)
      refine lv_aload_n hx hb d_Lw_law_577 rfl (lv_at hl 3 rfl) ?_
      refine lv_iconst (v := 0) hx hb d_Lw_law_578 (by decide) ?_
      refine hw_lld hx hb hW 1 hou2 rfl 0 rfl (by decide) (by decide) d_Lw_law_579 ?_
      refine lv_iload hx hb d_Lw_law_580 (lv_at hl 0 rfl) ?_
      obtain ⟨x5, ex5⟩ : ∃ y9 : Int64, y9 = (r2 : Int32).toInt64 := ⟨_, rfl⟩
      refine lv_i2l (v := x5) hx hb d_Lw_law_582 ex5.symm ?_
      refine W.lcmp hx hb d_Lw_law_583 ?_
      refine lv_if_eq (tgt := 589) hx hb d_Lw_law_584 (by decide) (fun c_584 => ?_) (fun c_584 => ?_)
      · skip
        rw [lg_cmp_eq] at c_584
        refine lv_goto (tgt := 977) hx hb d_Lw_law_589 (by decide) ?_
        refine W.widen (k := cells + 5) (n := slots + 43) (by omega) (by omega) ?_
        exact K M2 H locs ls ⟨hW, hS, n, g, qs, (nI (cKnown n (xs (5 * t + 1)) (xs (5 * t + 2)))), f, hJ2, hqs, hmd2, hou2⟩ (lv_sub hl [2, 3, 4, 5, 6] rfl)
      · skip
        rw [lg_cmp_eq] at c_584
        exact absurd (by rw [hfv hC0, ex5, hR2 hC0]) c_584
  · skip
    exact absurd (er3.trans er1.symm) c_567
set_option maxHeartbeats 4000000 in
set_option maxRecDepth 100000 in
theorem lw_c_holds (hC : lw_C p l s m meth c b L xs) (hD : md_D md kd on tw nu le fx fy si de ne it po ma ab be li fr to) (ho : ∀ i, i < 19 → ou ≠ md_a md kd on tw nu le fx fy si de ne it po ma ab be li fr to i) (t : Nat) (ht : 5 * t + 5 ≤ L) (M : Nat → Option va_E) (H : Heap) (locs : List Loc) (cells slots : Nat) (hs : lw_S cI cJ cZ cN D h0 na v va vb om oa ob im ia ib ro mk ka kb fa la md kd on tw nu le fx fy si de ne it po ma ab be li fr to ou s M H locs) (hc : cells + 5 ≤ 601024) (hsl : slots + 43 ≤ 7293033) (ls : Array Slot) (hl : lv_has ls 8 [(4, .int (nI (5 * t))), (3, .ref ou), (2, .ref md), (1, .ref h0), (0, .ref b)]) (K : ∀ (M1 : Nat → Option va_E) (H : Heap) (locs : List Loc) (ls : Array Slot), lw_S cI cJ cZ cN D h0 na v va vb om oa ob im ia ib ro mk ka kb fa la md kd on tw nu le fx fy si de ne it po ma ab be li fr to ou s M1 H locs → lv_has ls 8 [(4, .int (nI (5 * t))), (3, .ref ou), (2, .ref md), (1, .ref h0), (0, .ref b)] → W p l e room_1 s m #[Value.ref b] below meth c H locs (cells + 5) (slots + 43) (lw_Z below #[Value.ref b] s) (F0 m 977 ls [])) : W p l e room_1 s m #[Value.ref b] below meth c H locs cells slots (lw_Z below #[Value.ref b] s) (F0 m 592 ls []) := by
  obtain ⟨hx, hb, hr, hml, hown, hts, hXs, hbl, hlocks, hX, hZ, hN, hl0, hL9⟩ := hC
  obtain ⟨hW, hS, n, g, qs, cd, f0, hJq, hqs, hmd, hou⟩ := hs
  have hA : ∀ q, s.heap.size ≤ q → lw_Aq s q := fun q h => h
  have hbA : ¬ lw_Aq s b := fun h => absurd hbl (Nat.not_lt.mpr h)
  have rc : room_1.cells = 601024 := rfl
  have rs : room_1.slots = 7293033 := rfl
  have hZou : (lw_Zc md kd on tw nu le fx fy si de ne it po ma ab be li fr to ou) ou := Or.inr rfl
  have hn60 : n ≤ 60 := by obtain ⟨_, _, h9⟩ := hJq; exact h9.1.2.2
  refine lv_aload_n hx hb d_Lw_law_592 rfl (lv_at hl 3 rfl) ?_
  refine lv_aload_n hx hb d_Lw_law_593 rfl (lv_at hl 4 rfl) ?_
  refine lv_iload hx hb d_Lw_law_594 (lv_at hl 0 rfl) ?_
  refine lv_iconst (v := 1) hx hb d_Lw_law_596 (by decide) ?_
  refine lv_iadd hx hb d_Lw_law_597 ?_
  refine lv_topi (fun x1 ex1 => ?_)
  refine hw_sld hx hb hXs hbl hbA hS (5 * t + 1) (by rw [ex1]; exact nI_add _ 1) (by omega) (by omega) d_Lw_law_598 ?_
  refine lv_aload_n hx hb d_Lw_law_599 rfl (lv_at hl 4 rfl) ?_
  refine lv_iload hx hb d_Lw_law_600 (lv_at hl 0 rfl) ?_
  refine lv_iconst (v := 2) hx hb d_Lw_law_602 (by decide) ?_
  refine lv_iadd hx hb d_Lw_law_603 ?_
  refine lv_topi (fun x2 ex2 => ?_)
  refine hw_sld hx hb hXs hbl hbA hS (5 * t + 2) (by rw [ex2]; exact nI_add _ 2) (by omega) (by omega) d_Lw_law_604 ?_
  refine lv_aload_n hx hb d_Lw_law_605 rfl (lv_at hl 4 rfl) ?_
  refine lv_iload hx hb d_Lw_law_606 (lv_at hl 0 rfl) ?_
  refine lv_iconst (v := 3) hx hb d_Lw_law_608 (by decide) ?_
  refine lv_iadd hx hb d_Lw_law_609 ?_
  refine lv_topi (fun x3 ex3 => ?_)
  refine hw_sld hx hb hXs hbl hbA hS (5 * t + 3) (by rw [ex3]; exact nI_add _ 3) (by omega) (by omega) d_Lw_law_610 ?_
  refine lv_aload_n hx hb d_Lw_law_611 rfl (lv_at hl 1 rfl) ?_
  refine hw_calli (lx_runS (n := 5) (own := "QuantifierOutLaw") (As := [.ref h0, .int (xs (5 * t + 1)), .int (xs (5 * t + 2)), .int (xs (5 * t + 3)), .ref ou]) (rest := []) hx hb hml hown hts hX hW hl.1 hZ hS hA hN (c_Lw_holds l D cI cJ cZ cN h0 na v va vb om oa ob im ia ib ro mk ka kb fa la (lw_Zc md kd on tw nu le fx fy si de ne it po ma ab be li fr to ou) ou hl0 M _ n g qs f0 hJq hqs hou hZou (xs (5 * t + 1)) (xs (5 * t + 2)) (xs (5 * t + 3))) tw_432 tw_433 tw_0 tc_holds (by decide +kernel) rfl rfl ⟨by decide, by decide⟩ rfl rfl (Nat.le_of_ble_eq_true rfl) d_Lw_law_612 ⟨by rw [rc]; omega, by rw [rs]; omega⟩) hW hS hA (fun r1 M1 H locs hp hz hW hS => ?_)
  obtain ⟨er1, hf1, f, hJ1, hou1, hfv⟩ := hp
  have hmd1 := md_J.keep (M1 := M1) hmd (fun i hi => hf1 _ (Or.inl ⟨i, hi, rfl⟩) (Ne.symm (ho i hi)))
  obtain ⟨up, dn, pz, _, _, _, _, _, _, _, _, hKm, _⟩ := id hmd1
  refine lv_istore (lv' := [(5, .int r1), (4, .int (nI (5 * t))), (3, .ref ou), (2, .ref md), (1, .ref h0), (0, .ref b)]) hx hb d_Lw_law_615 hl (by decide) rfl (fun ls hl => ?_)
  refine lv_aload_n hx hb d_Lw_law_617 rfl (lv_at hl 3 rfl) ?_
  refine lv_aload_n hx hb d_Lw_law_618 rfl (lv_at hl 5 rfl) ?_
  refine lv_iload hx hb d_Lw_law_619 (lv_at hl 1 rfl) ?_
  refine lv_iconst (v := 1) hx hb d_Lw_law_621 (by decide) ?_
  refine lv_iadd hx hb d_Lw_law_622 ?_
  refine lv_topi (fun x4 ex4 => ?_)
  refine hw_sld hx hb hXs hbl hbA hS (5 * t + 1) (by rw [ex4]; exact nI_add _ 1) (by omega) (by omega) d_Lw_law_623 ?_
  refine lv_aload_n hx hb d_Lw_law_624 rfl (lv_at hl 5 rfl) ?_
  refine lv_iload hx hb d_Lw_law_625 (lv_at hl 1 rfl) ?_
  refine lv_iconst (v := 2) hx hb d_Lw_law_627 (by decide) ?_
  refine lv_iadd hx hb d_Lw_law_628 ?_
  refine lv_topi (fun x5 ex5 => ?_)
  refine hw_sld hx hb hXs hbl hbA hS (5 * t + 2) (by rw [ex5]; exact nI_add _ 2) (by omega) (by omega) d_Lw_law_629 ?_
  refine lv_aload_n hx hb d_Lw_law_630 rfl (lv_at hl 5 rfl) ?_
  refine lv_iload hx hb d_Lw_law_631 (lv_at hl 1 rfl) ?_
  refine lv_iconst (v := 3) hx hb d_Lw_law_633 (by decide) ?_
  refine lv_iadd hx hb d_Lw_law_634 ?_
  refine lv_topi (fun x6 ex6 => ?_)
  refine hw_sld hx hb hXs hbl hbA hS (5 * t + 3) (by rw [ex6]; exact nI_add _ 3) (by omega) (by omega) d_Lw_law_635 ?_
  refine hw_calli (hw_runV (n := 3) (own := "QuantifierOutLaw") (As := [.int (xs (5 * t + 1)), .int (xs (5 * t + 2)), .int (xs (5 * t + 3))]) (rest := []) hx hb hml hown hts hX hW hl.1 (c_Md_holds l D cI cJ cZ cN md kd on tw nu le fx fy si de ne it po ma ab be li fr to cd n g _ M1 hD hmd1 (xs (5 * t + 1)) (xs (5 * t + 2)) (xs (5 * t + 3))) hKm.1 rfl tw_733 tw_734 tw_735 tw_5 tw_736 (by decide +kernel) rfl rfl ⟨by decide, by decide⟩ rfl rfl (Nat.le_of_ble_eq_true rfl) d_Lw_law_636 ⟨by rw [rc]; omega, by rw [rs]; omega⟩) hW hS hA (fun r2 M2 H locs hp2 hz hW hS => ?_)
  obtain ⟨hR2, hmd2, hF2⟩ := hp2
  obtain ⟨up2, dn2, pz2, _, _, _, _, _, _, _, _, hK2, _⟩ := id hmd2
  have hou2 : M2 ou = some (.inl (cJ, 1, .inr (.inl f))) := (hF2 ou ho).trans hou1
  have hJ2 : qo_J cI cJ cN h0 na v va vb om oa ob im ia ib ro mk ka kb fa la (lw_Zc md kd on tw nu le fx fy si de ne it po ma ab be li fr to ou) M2 n qs := qo_J.oth hJ1 (fun x hx => hF2 x (fun i hi e => hx (Or.inl ⟨i, hi, e⟩))) (fun z hz9 => by rcases hz9 with ⟨i, hi, e⟩ | e; rw [e]; exact md_J.ex hmd2 i hi; rw [e, hou2]; exact Option.some_ne_none _)
  refine lv_istore (lv' := [(6, .int r2), (5, .int r1), (4, .int (nI (5 * t))), (3, .ref ou), (2, .ref md), (1, .ref h0), (0, .ref b)]) hx hb d_Lw_law_639 hl (by decide) rfl (fun ls hl => ?_)
  refine lv_aload_n hx hb d_Lw_law_641 rfl (lv_at hl 4 rfl) ?_
  refine hw_calli (hw_runV (n := 0) (own := "QuantifierOutLaw") (As := []) (rest := []) hx hb hml hown hts hX hW hl.1 (c_Md_thrown l D cI cJ cZ cN md kd on tw nu le fx fy si de ne it po ma ab be li fr to (nI (cHolds n (xs (5 * t + 1)) (xs (5 * t + 2)) (xs (5 * t + 3)))) n up2 dn2 pz2 _ M2 hK2.1) hK2.1 rfl tw_674 tw_675 tw_676 tw_5 tw_677 (by decide +kernel) rfl rfl ⟨by decide, by decide⟩ rfl rfl (Nat.le_of_ble_eq_true rfl) d_Lw_law_642 ⟨by rw [rc]; omega, by rw [rs]; omega⟩) hW hS hA (fun r3 M3 H locs hp3 hz hW hS => ?_)
  obtain ⟨er3, eM3⟩ := hp3
  rw [eM3] at hW
  refine lv_iload hx hb d_Lw_law_645 (lv_at hl 1 rfl) ?_
  refine lv_icmp_eq (tgt := 652) hx hb d_Lw_law_647 (by decide) (fun c_647 => ?_) (fun c_647 => ?_)
  · skip
    refine lv_iload hx hb d_Lw_law_652 (lv_at hl 1 rfl) ?_
    refine lv_if_ne (tgt := 676) hx hb d_Lw_law_654 (by decide) (fun c_654 => ?_) (fun c_654 => ?_)
    · skip
      refine lv_goto (tgt := 977) hx hb d_Lw_law_676 (by decide) ?_
      refine W.widen (k := cells + 5) (n := slots + 43) (by omega) (by omega) ?_
      exact K M2 H locs ls ⟨hW, hS, n, g, qs, (nI (cHolds n (xs (5 * t + 1)) (xs (5 * t + 2)) (xs (5 * t + 3)))), f, hJ2, hqs, hmd2, hou2⟩ (lv_sub hl [2, 3, 4, 5, 6] rfl)
    · skip
      have hC0 : cHolds n (xs (5 * t + 1)) (xs (5 * t + 2)) (xs (5 * t + 3)) = 0 := c0_of cHolds_le (er1.symm.trans c_654)
      refine lv_aload_n hx hb d_Lw_law_657 rfl (lv_at hl 3 rfl) ?_
      refine lv_iconst (v := 0) hx hb d_Lw_law_658 (by decide) ?_
      refine hw_lld hx hb hW 1 hou2 rfl 0 rfl (by decide) (by decide) d_Lw_law_659 ?_
      refine lv_iload hx hb d_Lw_law_660 (lv_at hl 0 rfl) ?_
      have hun := lb_un (hfv hC0) (hR2 hC0)
      refine lv_if_eq (tgt := 669) hx hb d_Lw_law_662 (by decide) (fun c_662 => ?_) (fun c_662 => ?_)
      · skip
        refine lv_lconst (v := 0) hx hb d_Lw_law_669 (by decide) ?_
        refine W.lcmp hx hb d_Lw_law_670 ?_
        refine lv_if_eq (tgt := 676) hx hb d_Lw_law_671 (by decide) (fun c_671 => ?_) (fun c_671 => ?_)
        · skip
          rw [lg_cmp_eq] at c_671
          refine lv_goto (tgt := 977) hx hb d_Lw_law_676 (by decide) ?_
          refine W.widen (k := cells + 5) (n := slots + 43) (by omega) (by omega) ?_
          exact K M2 H locs ls ⟨hW, hS, n, g, qs, (nI (cHolds n (xs (5 * t + 1)) (xs (5 * t + 2)) (xs (5 * t + 3)))), f, hJ2, hqs, hmd2, hou2⟩ (lv_sub hl [2, 3, 4, 5, 6] rfl)
        · skip
          rw [lg_cmp_eq] at c_671
          exact absurd (hun.1 c_662) c_671
      · skip
        refine lv_lconst (v := 1) hx hb d_Lw_law_665 (by decide) ?_
        refine lv_goto (tgt := 670) hx hb d_Lw_law_666 (by decide) ?_
        refine W.lcmp hx hb d_Lw_law_670 ?_
        refine lv_if_eq (tgt := 676) hx hb d_Lw_law_671 (by decide) (fun c_671 => ?_) (fun c_671 => ?_)
        · skip
          rw [lg_cmp_eq] at c_671
          refine lv_goto (tgt := 977) hx hb d_Lw_law_676 (by decide) ?_
          refine W.widen (k := cells + 5) (n := slots + 43) (by omega) (by omega) ?_
          exact K M2 H locs ls ⟨hW, hS, n, g, qs, (nI (cHolds n (xs (5 * t + 1)) (xs (5 * t + 2)) (xs (5 * t + 3)))), f, hJ2, hqs, hmd2, hou2⟩ (lv_sub hl [2, 3, 4, 5, 6] rfl)
        · skip
          rw [lg_cmp_eq] at c_671
          exact absurd (hun.2 c_662) c_671
  · skip
    exact absurd (er3.trans er1.symm) c_647
set_option maxHeartbeats 4000000 in
set_option maxRecDepth 100000 in
theorem lw_c_decide (hC : lw_C p l s m meth c b L xs) (hD : md_D md kd on tw nu le fx fy si de ne it po ma ab be li fr to) (ho : ∀ i, i < 19 → ou ≠ md_a md kd on tw nu le fx fy si de ne it po ma ab be li fr to i) (t : Nat) (ht : 5 * t + 5 ≤ L) (M : Nat → Option va_E) (H : Heap) (locs : List Loc) (cells slots : Nat) (hs : lw_S cI cJ cZ cN D h0 na v va vb om oa ob im ia ib ro mk ka kb fa la md kd on tw nu le fx fy si de ne it po ma ab be li fr to ou s M H locs) (hc : cells + 5 ≤ 601024) (hsl : slots + 43 ≤ 7293033) (ls : Array Slot) (hl : lv_has ls 8 [(4, .int (nI (5 * t))), (3, .ref ou), (2, .ref md), (1, .ref h0), (0, .ref b)]) (K : ∀ (M1 : Nat → Option va_E) (H : Heap) (locs : List Loc) (ls : Array Slot), lw_S cI cJ cZ cN D h0 na v va vb om oa ob im ia ib ro mk ka kb fa la md kd on tw nu le fx fy si de ne it po ma ab be li fr to ou s M1 H locs → lv_has ls 8 [(4, .int (nI (5 * t))), (3, .ref ou), (2, .ref md), (1, .ref h0), (0, .ref b)] → W p l e room_1 s m #[Value.ref b] below meth c H locs (cells + 5) (slots + 43) (lw_Z below #[Value.ref b] s) (F0 m 977 ls [])) : W p l e room_1 s m #[Value.ref b] below meth c H locs cells slots (lw_Z below #[Value.ref b] s) (F0 m 679 ls []) := by
  obtain ⟨hx, hb, hr, hml, hown, hts, hXs, hbl, hlocks, hX, hZ, hN, hl0, hL9⟩ := hC
  obtain ⟨hW, hS, n, g, qs, cd, f0, hJq, hqs, hmd, hou⟩ := hs
  have hA : ∀ q, s.heap.size ≤ q → lw_Aq s q := fun q h => h
  have hbA : ¬ lw_Aq s b := fun h => absurd hbl (Nat.not_lt.mpr h)
  have rc : room_1.cells = 601024 := rfl
  have rs : room_1.slots = 7293033 := rfl
  have hZou : (lw_Zc md kd on tw nu le fx fy si de ne it po ma ab be li fr to ou) ou := Or.inr rfl
  have hn60 : n ≤ 60 := by obtain ⟨_, _, h9⟩ := hJq; exact h9.1.2.2
  refine lv_aload_n hx hb d_Lw_law_679 rfl (lv_at hl 3 rfl) ?_
  refine lv_aload_n hx hb d_Lw_law_680 rfl (lv_at hl 4 rfl) ?_
  refine lv_iload hx hb d_Lw_law_681 (lv_at hl 0 rfl) ?_
  refine lv_iconst (v := 1) hx hb d_Lw_law_683 (by decide) ?_
  refine lv_iadd hx hb d_Lw_law_684 ?_
  refine lv_topi (fun x1 ex1 => ?_)
  refine hw_sld hx hb hXs hbl hbA hS (5 * t + 1) (by rw [ex1]; exact nI_add _ 1) (by omega) (by omega) d_Lw_law_685 ?_
  refine lv_aload_n hx hb d_Lw_law_686 rfl (lv_at hl 1 rfl) ?_
  refine hw_calli (lx_runS (n := 3) (own := "QuantifierOutLaw") (As := [.ref h0, .int (xs (5 * t + 1)), .ref ou]) (rest := []) hx hb hml hown hts hX hW hl.1 hZ hS hA hN (c_Lw_decide l D cI cJ cZ cN h0 na v va vb om oa ob im ia ib ro mk ka kb fa la (lw_Zc md kd on tw nu le fx fy si de ne it po ma ab be li fr to ou) ou hl0 M _ n g qs f0 hJq hqs hou hZou (xs (5 * t + 1))) tw_501 tw_502 tw_0 tc_decide (by decide +kernel) rfl rfl ⟨by decide, by decide⟩ rfl rfl (Nat.le_of_ble_eq_true rfl) d_Lw_law_687 ⟨by rw [rc]; omega, by rw [rs]; omega⟩) hW hS hA (fun r1 M1 H locs hp hz hW hS => ?_)
  obtain ⟨er1, hf1, f, hJ1, hou1, hfv⟩ := hp
  have hmd1 := md_J.keep (M1 := M1) hmd (fun i hi => hf1 _ (Or.inl ⟨i, hi, rfl⟩) (Ne.symm (ho i hi)))
  obtain ⟨up, dn, pz, _, _, _, _, _, _, _, _, hKm, _⟩ := id hmd1
  refine lv_istore (lv' := [(5, .int r1), (4, .int (nI (5 * t))), (3, .ref ou), (2, .ref md), (1, .ref h0), (0, .ref b)]) hx hb d_Lw_law_690 hl (by decide) rfl (fun ls hl => ?_)
  refine lv_aload_n hx hb d_Lw_law_692 rfl (lv_at hl 3 rfl) ?_
  refine lv_aload_n hx hb d_Lw_law_693 rfl (lv_at hl 5 rfl) ?_
  refine lv_iload hx hb d_Lw_law_694 (lv_at hl 1 rfl) ?_
  refine lv_iconst (v := 1) hx hb d_Lw_law_696 (by decide) ?_
  refine lv_iadd hx hb d_Lw_law_697 ?_
  refine lv_topi (fun x2 ex2 => ?_)
  refine hw_sld hx hb hXs hbl hbA hS (5 * t + 1) (by rw [ex2]; exact nI_add _ 1) (by omega) (by omega) d_Lw_law_698 ?_
  refine hw_calli (hw_runV (n := 1) (own := "QuantifierOutLaw") (As := [.int (xs (5 * t + 1))]) (rest := []) hx hb hml hown hts hX hW hl.1 (c_Md_decide l D cI cJ cZ cN md kd on tw nu le fx fy si de ne it po ma ab be li fr to cd n g _ M1 hD hmd1 (xs (5 * t + 1))) hKm.1 rfl tw_803 tw_804 tw_805 tw_5 tw_806 (by decide +kernel) rfl rfl ⟨by decide, by decide⟩ rfl rfl (Nat.le_of_ble_eq_true rfl) d_Lw_law_699 ⟨by rw [rc]; omega, by rw [rs]; omega⟩) hW hS hA (fun r2 M2 H locs hp2 hz hW hS => ?_)
  obtain ⟨hR2, hmd2, hF2⟩ := hp2
  obtain ⟨up2, dn2, pz2, _, _, _, _, _, _, _, _, hK2, _⟩ := id hmd2
  have hou2 : M2 ou = some (.inl (cJ, 1, .inr (.inl f))) := (hF2 ou ho).trans hou1
  have hJ2 : qo_J cI cJ cN h0 na v va vb om oa ob im ia ib ro mk ka kb fa la (lw_Zc md kd on tw nu le fx fy si de ne it po ma ab be li fr to ou) M2 n qs := qo_J.oth hJ1 (fun x hx => hF2 x (fun i hi e => hx (Or.inl ⟨i, hi, e⟩))) (fun z hz9 => by rcases hz9 with ⟨i, hi, e⟩ | e; rw [e]; exact md_J.ex hmd2 i hi; rw [e, hou2]; exact Option.some_ne_none _)
  refine lv_istore (lv' := [(6, .int r2), (5, .int r1), (4, .int (nI (5 * t))), (3, .ref ou), (2, .ref md), (1, .ref h0), (0, .ref b)]) hx hb d_Lw_law_702 hl (by decide) rfl (fun ls hl => ?_)
  refine lv_aload_n hx hb d_Lw_law_704 rfl (lv_at hl 4 rfl) ?_
  refine hw_calli (hw_runV (n := 0) (own := "QuantifierOutLaw") (As := []) (rest := []) hx hb hml hown hts hX hW hl.1 (c_Md_thrown l D cI cJ cZ cN md kd on tw nu le fx fy si de ne it po ma ab be li fr to (nI (cDecide n g (xs (5 * t + 1)))) n up2 dn2 pz2 _ M2 hK2.1) hK2.1 rfl tw_674 tw_675 tw_676 tw_5 tw_677 (by decide +kernel) rfl rfl ⟨by decide, by decide⟩ rfl rfl (Nat.le_of_ble_eq_true rfl) d_Lw_law_705 ⟨by rw [rc]; omega, by rw [rs]; omega⟩) hW hS hA (fun r3 M3 H locs hp3 hz hW hS => ?_)
  obtain ⟨er3, eM3⟩ := hp3
  rw [eM3] at hW
  refine lv_iload hx hb d_Lw_law_708 (lv_at hl 1 rfl) ?_
  refine lv_icmp_eq (tgt := 715) hx hb d_Lw_law_710 (by decide) (fun c_710 => ?_) (fun c_710 => ?_)
  · skip
    refine lv_iload hx hb d_Lw_law_715 (lv_at hl 1 rfl) ?_
    refine lv_if_ne (tgt := 739) hx hb d_Lw_law_717 (by decide) (fun c_717 => ?_) (fun c_717 => ?_)
    · skip
      refine lv_goto (tgt := 977) hx hb d_Lw_law_739 (by decide) ?_
      refine W.widen (k := cells + 5) (n := slots + 43) (by omega) (by omega) ?_
      exact K M2 H locs ls ⟨hW, hS, n, g, qs, (nI (cDecide n g (xs (5 * t + 1)))), f, hJ2, hqs, hmd2, hou2⟩ (lv_sub hl [2, 3, 4, 5, 6] rfl)
    · skip
      have hC0 : cDecide n g (xs (5 * t + 1)) = 0 := c0_of cDecide_le (er1.symm.trans c_717)
      refine lv_aload_n hx hb d_Lw_law_720 rfl (lv_at hl 3 rfl) ?_
      refine lv_iconst (v := 0) hx hb d_Lw_law_721 (by decide) ?_
      refine hw_lld hx hb hW 1 hou2 rfl 0 rfl (by decide) (by decide) d_Lw_law_722 ?_
      refine lv_iload hx hb d_Lw_law_723 (lv_at hl 0 rfl) ?_
      have hun := lb_un (hfv hC0) (hR2 hC0)
      refine lv_if_eq (tgt := 732) hx hb d_Lw_law_725 (by decide) (fun c_725 => ?_) (fun c_725 => ?_)
      · skip
        refine lv_lconst (v := 0) hx hb d_Lw_law_732 (by decide) ?_
        refine W.lcmp hx hb d_Lw_law_733 ?_
        refine lv_if_eq (tgt := 739) hx hb d_Lw_law_734 (by decide) (fun c_734 => ?_) (fun c_734 => ?_)
        · skip
          rw [lg_cmp_eq] at c_734
          refine lv_goto (tgt := 977) hx hb d_Lw_law_739 (by decide) ?_
          refine W.widen (k := cells + 5) (n := slots + 43) (by omega) (by omega) ?_
          exact K M2 H locs ls ⟨hW, hS, n, g, qs, (nI (cDecide n g (xs (5 * t + 1)))), f, hJ2, hqs, hmd2, hou2⟩ (lv_sub hl [2, 3, 4, 5, 6] rfl)
        · skip
          rw [lg_cmp_eq] at c_734
          exact absurd (hun.1 c_725) c_734
      · skip
        refine lv_lconst (v := 1) hx hb d_Lw_law_728 (by decide) ?_
        refine lv_goto (tgt := 733) hx hb d_Lw_law_729 (by decide) ?_
        refine W.lcmp hx hb d_Lw_law_733 ?_
        refine lv_if_eq (tgt := 739) hx hb d_Lw_law_734 (by decide) (fun c_734 => ?_) (fun c_734 => ?_)
        · skip
          rw [lg_cmp_eq] at c_734
          refine lv_goto (tgt := 977) hx hb d_Lw_law_739 (by decide) ?_
          refine W.widen (k := cells + 5) (n := slots + 43) (by omega) (by omega) ?_
          exact K M2 H locs ls ⟨hW, hS, n, g, qs, (nI (cDecide n g (xs (5 * t + 1)))), f, hJ2, hqs, hmd2, hou2⟩ (lv_sub hl [2, 3, 4, 5, 6] rfl)
        · skip
          rw [lg_cmp_eq] at c_734
          exact absurd (hun.2 c_725) c_734
  · skip
    exact absurd (er3.trans er1.symm) c_710
set_option maxHeartbeats 4000000 in
set_option maxRecDepth 100000 in
theorem lw_c_pieces (hC : lw_C p l s m meth c b L xs) (hD : md_D md kd on tw nu le fx fy si de ne it po ma ab be li fr to) (ho : ∀ i, i < 19 → ou ≠ md_a md kd on tw nu le fx fy si de ne it po ma ab be li fr to i) (t : Nat) (ht : 5 * t + 5 ≤ L) (M : Nat → Option va_E) (H : Heap) (locs : List Loc) (cells slots : Nat) (hs : lw_S cI cJ cZ cN D h0 na v va vb om oa ob im ia ib ro mk ka kb fa la md kd on tw nu le fx fy si de ne it po ma ab be li fr to ou s M H locs) (hc : cells + 5 ≤ 601024) (hsl : slots + 43 ≤ 7293033) (ls : Array Slot) (hl : lv_has ls 8 [(4, .int (nI (5 * t))), (3, .ref ou), (2, .ref md), (1, .ref h0), (0, .ref b)]) (K : ∀ (M1 : Nat → Option va_E) (H : Heap) (locs : List Loc) (ls : Array Slot), lw_S cI cJ cZ cN D h0 na v va vb om oa ob im ia ib ro mk ka kb fa la md kd on tw nu le fx fy si de ne it po ma ab be li fr to ou s M1 H locs → lv_has ls 8 [(4, .int (nI (5 * t))), (3, .ref ou), (2, .ref md), (1, .ref h0), (0, .ref b)] → W p l e room_1 s m #[Value.ref b] below meth c H locs (cells + 5) (slots + 43) (lw_Z below #[Value.ref b] s) (F0 m 977 ls [])) : W p l e room_1 s m #[Value.ref b] below meth c H locs cells slots (lw_Z below #[Value.ref b] s) (F0 m 742 ls []) := by
  obtain ⟨hx, hb, hr, hml, hown, hts, hXs, hbl, hlocks, hX, hZ, hN, hl0, hL9⟩ := hC
  obtain ⟨hW, hS, n, g, qs, cd, f0, hJq, hqs, hmd, hou⟩ := hs
  have hA : ∀ q, s.heap.size ≤ q → lw_Aq s q := fun q h => h
  have hbA : ¬ lw_Aq s b := fun h => absurd hbl (Nat.not_lt.mpr h)
  have rc : room_1.cells = 601024 := rfl
  have rs : room_1.slots = 7293033 := rfl
  have hZou : (lw_Zc md kd on tw nu le fx fy si de ne it po ma ab be li fr to ou) ou := Or.inr rfl
  have hn60 : n ≤ 60 := by obtain ⟨_, _, h9⟩ := hJq; exact h9.1.2.2
  refine lv_aload_n hx hb d_Lw_law_742 rfl (lv_at hl 3 rfl) ?_
  refine lv_aload_n hx hb d_Lw_law_743 rfl (lv_at hl 4 rfl) ?_
  refine lv_iload hx hb d_Lw_law_744 (lv_at hl 0 rfl) ?_
  refine lv_iconst (v := 1) hx hb d_Lw_law_746 (by decide) ?_
  refine lv_iadd hx hb d_Lw_law_747 ?_
  refine lv_topi (fun x1 ex1 => ?_)
  refine hw_sld hx hb hXs hbl hbA hS (5 * t + 1) (by rw [ex1]; exact nI_add _ 1) (by omega) (by omega) d_Lw_law_748 ?_
  refine lv_aload_n hx hb d_Lw_law_749 rfl (lv_at hl 1 rfl) ?_
  refine hw_calli (lx_runS (n := 3) (own := "QuantifierOutLaw") (As := [.ref h0, .int (xs (5 * t + 1)), .ref ou]) (rest := []) hx hb hml hown hts hX hW hl.1 hZ hS hA hN (c_Lw_pieces l D cI cJ cZ cN h0 na v va vb om oa ob im ia ib ro mk ka kb fa la (lw_Zc md kd on tw nu le fx fy si de ne it po ma ab be li fr to ou) ou hl0 M _ n g qs f0 hJq hqs hou hZou (xs (5 * t + 1))) tw_509 tw_510 tw_0 tc_pieces (by decide +kernel) rfl rfl ⟨by decide, by decide⟩ rfl rfl (Nat.le_of_ble_eq_true rfl) d_Lw_law_750 ⟨by rw [rc]; omega, by rw [rs]; omega⟩) hW hS hA (fun r1 M1 H locs hp hz hW hS => ?_)
  obtain ⟨er1, hf1, f, hJ1, hou1, hfv⟩ := hp
  have hmd1 := md_J.keep (M1 := M1) hmd (fun i hi => hf1 _ (Or.inl ⟨i, hi, rfl⟩) (Ne.symm (ho i hi)))
  obtain ⟨up, dn, pz, _, _, _, _, _, _, _, _, hKm, _⟩ := id hmd1
  refine lv_istore (lv' := [(5, .int r1), (4, .int (nI (5 * t))), (3, .ref ou), (2, .ref md), (1, .ref h0), (0, .ref b)]) hx hb d_Lw_law_753 hl (by decide) rfl (fun ls hl => ?_)
  refine lv_aload_n hx hb d_Lw_law_755 rfl (lv_at hl 3 rfl) ?_
  refine lv_aload_n hx hb d_Lw_law_756 rfl (lv_at hl 5 rfl) ?_
  refine lv_iload hx hb d_Lw_law_757 (lv_at hl 1 rfl) ?_
  refine lv_iconst (v := 1) hx hb d_Lw_law_759 (by decide) ?_
  refine lv_iadd hx hb d_Lw_law_760 ?_
  refine lv_topi (fun x2 ex2 => ?_)
  refine hw_sld hx hb hXs hbl hbA hS (5 * t + 1) (by rw [ex2]; exact nI_add _ 1) (by omega) (by omega) d_Lw_law_761 ?_
  refine hw_calli (hw_runV (n := 1) (own := "QuantifierOutLaw") (As := [.int (xs (5 * t + 1))]) (rest := []) hx hb hml hown hts hX hW hl.1 (c_Md_pieces l D cI cJ cZ cN md kd on tw nu le fx fy si de ne it po ma ab be li fr to cd n g _ M1 hD hmd1 (xs (5 * t + 1))) hKm.1 rfl tw_811 tw_812 tw_813 tw_5 tw_814 (by decide +kernel) rfl rfl ⟨by decide, by decide⟩ rfl rfl (Nat.le_of_ble_eq_true rfl) d_Lw_law_762 ⟨by rw [rc]; omega, by rw [rs]; omega⟩) hW hS hA (fun r2 M2 H locs hp2 hz hW hS => ?_)
  obtain ⟨hR2, hmd2, hF2⟩ := hp2
  obtain ⟨up2, dn2, pz2, _, _, _, _, _, _, _, _, hK2, _⟩ := id hmd2
  have hou2 : M2 ou = some (.inl (cJ, 1, .inr (.inl f))) := (hF2 ou ho).trans hou1
  have hJ2 : qo_J cI cJ cN h0 na v va vb om oa ob im ia ib ro mk ka kb fa la (lw_Zc md kd on tw nu le fx fy si de ne it po ma ab be li fr to ou) M2 n qs := qo_J.oth hJ1 (fun x hx => hF2 x (fun i hi e => hx (Or.inl ⟨i, hi, e⟩))) (fun z hz9 => by rcases hz9 with ⟨i, hi, e⟩ | e; rw [e]; exact md_J.ex hmd2 i hi; rw [e, hou2]; exact Option.some_ne_none _)
  refine lv_istore (lv' := [(6, .int r2), (5, .int r1), (4, .int (nI (5 * t))), (3, .ref ou), (2, .ref md), (1, .ref h0), (0, .ref b)]) hx hb d_Lw_law_765 hl (by decide) rfl (fun ls hl => ?_)
  refine lv_aload_n hx hb d_Lw_law_767 rfl (lv_at hl 4 rfl) ?_
  refine hw_calli (hw_runV (n := 0) (own := "QuantifierOutLaw") (As := []) (rest := []) hx hb hml hown hts hX hW hl.1 (c_Md_thrown l D cI cJ cZ cN md kd on tw nu le fx fy si de ne it po ma ab be li fr to (nI (cSet n g (xs (5 * t + 1)))) n up2 dn2 pz2 _ M2 hK2.1) hK2.1 rfl tw_674 tw_675 tw_676 tw_5 tw_677 (by decide +kernel) rfl rfl ⟨by decide, by decide⟩ rfl rfl (Nat.le_of_ble_eq_true rfl) d_Lw_law_768 ⟨by rw [rc]; omega, by rw [rs]; omega⟩) hW hS hA (fun r3 M3 H locs hp3 hz hW hS => ?_)
  obtain ⟨er3, eM3⟩ := hp3
  rw [eM3] at hW
  refine lv_iload hx hb d_Lw_law_771 (lv_at hl 1 rfl) ?_
  refine lv_icmp_eq (tgt := 778) hx hb d_Lw_law_773 (by decide) (fun c_773 => ?_) (fun c_773 => ?_)
  · skip
    refine lv_iload hx hb d_Lw_law_778 (lv_at hl 1 rfl) ?_
    refine lv_if_ne (tgt := 795) hx hb d_Lw_law_780 (by decide) (fun c_780 => ?_) (fun c_780 => ?_)
    · skip
      refine lv_goto (tgt := 977) hx hb d_Lw_law_795 (by decide) ?_
      refine W.widen (k := cells + 5) (n := slots + 43) (by omega) (by omega) ?_
      exact K M2 H locs ls ⟨hW, hS, n, g, qs, (nI (cSet n g (xs (5 * t + 1)))), f, hJ2, hqs, hmd2, hou2⟩ (lv_sub hl [2, 3, 4, 5, 6] rfl)
    · skip
      have hC0 : cSet n g (xs (5 * t + 1)) = 0 := c0_of cSet_le (er1.symm.trans c_780)
      refine lv_aload_n hx hb d_Lw_law_783 rfl (lv_at hl 3 rfl) ?_
      refine lv_iconst (v := 0) hx hb d_Lw_law_784 (by decide) ?_
      refine hw_lld hx hb hW 1 hou2 rfl 0 rfl (by decide) (by decide) d_Lw_law_785 ?_
      refine lv_iload hx hb d_Lw_law_786 (lv_at hl 0 rfl) ?_
      obtain ⟨x3, ex3⟩ : ∃ y9 : Int64, y9 = (r2 : Int32).toInt64 := ⟨_, rfl⟩
      refine lv_i2l (v := x3) hx hb d_Lw_law_788 ex3.symm ?_
      refine W.lcmp hx hb d_Lw_law_789 ?_
      refine lv_if_eq (tgt := 795) hx hb d_Lw_law_790 (by decide) (fun c_790 => ?_) (fun c_790 => ?_)
      · skip
        rw [lg_cmp_eq] at c_790
        refine lv_goto (tgt := 977) hx hb d_Lw_law_795 (by decide) ?_
        refine W.widen (k := cells + 5) (n := slots + 43) (by omega) (by omega) ?_
        exact K M2 H locs ls ⟨hW, hS, n, g, qs, (nI (cSet n g (xs (5 * t + 1)))), f, hJ2, hqs, hmd2, hou2⟩ (lv_sub hl [2, 3, 4, 5, 6] rfl)
      · skip
        rw [lg_cmp_eq] at c_790
        exact absurd (by obtain ⟨m1, L1, R1, h1, h2⟩ := hfv hC0; obtain ⟨m2, L2, R2, h3, h4⟩ := hR2 hC0; rw [h1, ex3, h3, (qp_one h2 h4).1]) c_790
  · skip
    exact absurd (er3.trans er1.symm) c_773
set_option maxHeartbeats 4000000 in
set_option maxRecDepth 100000 in
theorem lw_c_end (hC : lw_C p l s m meth c b L xs) (hD : md_D md kd on tw nu le fx fy si de ne it po ma ab be li fr to) (ho : ∀ i, i < 19 → ou ≠ md_a md kd on tw nu le fx fy si de ne it po ma ab be li fr to i) (t : Nat) (ht : 5 * t + 5 ≤ L) (M : Nat → Option va_E) (H : Heap) (locs : List Loc) (cells slots : Nat) (hs : lw_S cI cJ cZ cN D h0 na v va vb om oa ob im ia ib ro mk ka kb fa la md kd on tw nu le fx fy si de ne it po ma ab be li fr to ou s M H locs) (hc : cells + 5 ≤ 601024) (hsl : slots + 43 ≤ 7293033) (ls : Array Slot) (hl : lv_has ls 8 [(4, .int (nI (5 * t))), (3, .ref ou), (2, .ref md), (1, .ref h0), (0, .ref b)]) (K : ∀ (M1 : Nat → Option va_E) (H : Heap) (locs : List Loc) (ls : Array Slot), lw_S cI cJ cZ cN D h0 na v va vb om oa ob im ia ib ro mk ka kb fa la md kd on tw nu le fx fy si de ne it po ma ab be li fr to ou s M1 H locs → lv_has ls 8 [(4, .int (nI (5 * t))), (3, .ref ou), (2, .ref md), (1, .ref h0), (0, .ref b)] → W p l e room_1 s m #[Value.ref b] below meth c H locs (cells + 5) (slots + 43) (lw_Z below #[Value.ref b] s) (F0 m 977 ls [])) : W p l e room_1 s m #[Value.ref b] below meth c H locs cells slots (lw_Z below #[Value.ref b] s) (F0 m 798 ls []) := by
  obtain ⟨hx, hb, hr, hml, hown, hts, hXs, hbl, hlocks, hX, hZ, hN, hl0, hL9⟩ := hC
  obtain ⟨hW, hS, n, g, qs, cd, f0, hJq, hqs, hmd, hou⟩ := hs
  have hA : ∀ q, s.heap.size ≤ q → lw_Aq s q := fun q h => h
  have hbA : ¬ lw_Aq s b := fun h => absurd hbl (Nat.not_lt.mpr h)
  have rc : room_1.cells = 601024 := rfl
  have rs : room_1.slots = 7293033 := rfl
  have hZou : (lw_Zc md kd on tw nu le fx fy si de ne it po ma ab be li fr to ou) ou := Or.inr rfl
  have hn60 : n ≤ 60 := by obtain ⟨_, _, h9⟩ := hJq; exact h9.1.2.2
  refine lv_aload_n hx hb d_Lw_law_798 rfl (lv_at hl 3 rfl) ?_
  refine lv_aload_n hx hb d_Lw_law_799 rfl (lv_at hl 4 rfl) ?_
  refine lv_iload hx hb d_Lw_law_800 (lv_at hl 0 rfl) ?_
  refine lv_iconst (v := 1) hx hb d_Lw_law_802 (by decide) ?_
  refine lv_iadd hx hb d_Lw_law_803 ?_
  refine lv_topi (fun x1 ex1 => ?_)
  refine hw_sld hx hb hXs hbl hbA hS (5 * t + 1) (by rw [ex1]; exact nI_add _ 1) (by omega) (by omega) d_Lw_law_804 ?_
  refine lv_aload_n hx hb d_Lw_law_805 rfl (lv_at hl 4 rfl) ?_
  refine lv_iload hx hb d_Lw_law_806 (lv_at hl 0 rfl) ?_
  refine lv_iconst (v := 2) hx hb d_Lw_law_808 (by decide) ?_
  refine lv_iadd hx hb d_Lw_law_809 ?_
  refine lv_topi (fun x2 ex2 => ?_)
  refine hw_sld hx hb hXs hbl hbA hS (5 * t + 2) (by rw [ex2]; exact nI_add _ 2) (by omega) (by omega) d_Lw_law_810 ?_
  refine lv_aload_n hx hb d_Lw_law_811 rfl (lv_at hl 4 rfl) ?_
  refine lv_iload hx hb d_Lw_law_812 (lv_at hl 0 rfl) ?_
  refine lv_iconst (v := 3) hx hb d_Lw_law_814 (by decide) ?_
  refine lv_iadd hx hb d_Lw_law_815 ?_
  refine lv_topi (fun x3 ex3 => ?_)
  refine hw_sld hx hb hXs hbl hbA hS (5 * t + 3) (by rw [ex3]; exact nI_add _ 3) (by omega) (by omega) d_Lw_law_816 ?_
  refine lv_aload_n hx hb d_Lw_law_817 rfl (lv_at hl 4 rfl) ?_
  refine lv_iload hx hb d_Lw_law_818 (lv_at hl 0 rfl) ?_
  refine lv_iconst (v := 4) hx hb d_Lw_law_820 (by decide) ?_
  refine lv_iadd hx hb d_Lw_law_821 ?_
  refine lv_topi (fun x4 ex4 => ?_)
  refine hw_sld hx hb hXs hbl hbA hS (5 * t + 4) (by rw [ex4]; exact nI_add _ 4) (by omega) (by omega) d_Lw_law_822 ?_
  refine lv_aload_n hx hb d_Lw_law_823 rfl (lv_at hl 1 rfl) ?_
  refine hw_calli (lx_runS (n := 6) (own := "QuantifierOutLaw") (As := [.ref h0, .int (xs (5 * t + 1)), .int (xs (5 * t + 2)), .int (xs (5 * t + 3)), .int (xs (5 * t + 4)), .ref ou]) (rest := []) hx hb hml hown hts hX hW hl.1 hZ hS hA hN (c_Lw_end l D cI cJ cZ cN h0 na v va vb om oa ob im ia ib ro mk ka kb fa la (lw_Zc md kd on tw nu le fx fy si de ne it po ma ab be li fr to ou) ou hl0 M _ n g qs f0 hJq hqs hou hZou (xs (5 * t + 1)) (xs (5 * t + 2)) (xs (5 * t + 3)) (xs (5 * t + 4))) tw_531 tw_532 tw_0 tc_end (by decide +kernel) rfl rfl ⟨by decide, by decide⟩ rfl rfl (Nat.le_of_ble_eq_true rfl) d_Lw_law_824 ⟨by rw [rc]; omega, by rw [rs]; omega⟩) hW hS hA (fun r1 M1 H locs hp hz hW hS => ?_)
  obtain ⟨hf1, f, hJ1, hou1, hfv⟩ := hp
  have hmd1 := md_J.keep (M1 := M1) hmd (fun i hi => hf1 _ (Or.inl ⟨i, hi, rfl⟩) (Ne.symm (ho i hi)))
  obtain ⟨up, dn, pz, _, _, _, _, _, _, _, _, hKm, _⟩ := id hmd1
  refine lv_istore (lv' := [(5, .int r1), (4, .int (nI (5 * t))), (3, .ref ou), (2, .ref md), (1, .ref h0), (0, .ref b)]) hx hb d_Lw_law_827 hl (by decide) rfl (fun ls hl => ?_)
  refine lv_aload_n hx hb d_Lw_law_829 rfl (lv_at hl 3 rfl) ?_
  refine lv_aload_n hx hb d_Lw_law_830 rfl (lv_at hl 5 rfl) ?_
  refine lv_iload hx hb d_Lw_law_831 (lv_at hl 1 rfl) ?_
  refine lv_iconst (v := 1) hx hb d_Lw_law_833 (by decide) ?_
  refine lv_iadd hx hb d_Lw_law_834 ?_
  refine lv_topi (fun x5 ex5 => ?_)
  refine hw_sld hx hb hXs hbl hbA hS (5 * t + 1) (by rw [ex5]; exact nI_add _ 1) (by omega) (by omega) d_Lw_law_835 ?_
  refine lv_aload_n hx hb d_Lw_law_836 rfl (lv_at hl 5 rfl) ?_
  refine lv_iload hx hb d_Lw_law_837 (lv_at hl 1 rfl) ?_
  refine lv_iconst (v := 2) hx hb d_Lw_law_839 (by decide) ?_
  refine lv_iadd hx hb d_Lw_law_840 ?_
  refine lv_topi (fun x6 ex6 => ?_)
  refine hw_sld hx hb hXs hbl hbA hS (5 * t + 2) (by rw [ex6]; exact nI_add _ 2) (by omega) (by omega) d_Lw_law_841 ?_
  refine lv_aload_n hx hb d_Lw_law_842 rfl (lv_at hl 5 rfl) ?_
  refine lv_iload hx hb d_Lw_law_843 (lv_at hl 1 rfl) ?_
  refine lv_iconst (v := 3) hx hb d_Lw_law_845 (by decide) ?_
  refine lv_iadd hx hb d_Lw_law_846 ?_
  refine lv_topi (fun x7 ex7 => ?_)
  refine hw_sld hx hb hXs hbl hbA hS (5 * t + 3) (by rw [ex7]; exact nI_add _ 3) (by omega) (by omega) d_Lw_law_847 ?_
  refine lv_aload_n hx hb d_Lw_law_848 rfl (lv_at hl 5 rfl) ?_
  refine lv_iload hx hb d_Lw_law_849 (lv_at hl 1 rfl) ?_
  refine lv_iconst (v := 4) hx hb d_Lw_law_851 (by decide) ?_
  refine lv_iadd hx hb d_Lw_law_852 ?_
  refine lv_topi (fun x8 ex8 => ?_)
  refine hw_sld hx hb hXs hbl hbA hS (5 * t + 4) (by rw [ex8]; exact nI_add _ 4) (by omega) (by omega) d_Lw_law_853 ?_
  refine hw_calll (hw_runV (n := 4) (own := "QuantifierOutLaw") (As := [.int (xs (5 * t + 1)), .int (xs (5 * t + 2)), .int (xs (5 * t + 3)), .int (xs (5 * t + 4))]) (rest := []) hx hb hml hown hts hX hW hl.1 (c_Md_end l D cI cJ cZ cN md kd on tw nu le fx fy si de ne it po ma ab be li fr to cd n g _ M1 hD hmd1 (xs (5 * t + 1)) (xs (5 * t + 2)) (xs (5 * t + 3)) (xs (5 * t + 4))) hKm.1 rfl tw_819 tw_820 tw_821 tw_5 tw_822 (by decide +kernel) rfl rfl ⟨by decide, by decide⟩ rfl rfl (Nat.le_of_ble_eq_true rfl) d_Lw_law_854 ⟨by rw [rc]; omega, by rw [rs]; omega⟩) hW hS hA (fun r2 M2 H locs hp2 hz hW hS => ?_)
  obtain ⟨hcs, hF2⟩ := hp2
  obtain ⟨cd2, hmd2, hcd2⟩ : ∃ cd2, md_J cI cJ cZ md kd on tw nu le fx fy si de ne it po ma ab be li fr to M2 cd2 n g ∧ ((cSet n g (xs (5 * t + 1)) ≠ 0 ∧ cd2 = nI (cSet n g (xs (5 * t + 1)))) ∨ (cSet n g (xs (5 * t + 1)) = 0 ∧ ∃ (mm : Nat) (Lf Rt : Nat → Option (Rat × Bool)), qp_sys (aSet (g (ix (xs (5 * t + 1))))) mm Lf Rt ∧ cd2 = nI (cEnd mm (xs (5 * t + 2)) (xs (5 * t + 3)) (xs (5 * t + 4))) ∧ (cEnd mm (xs (5 * t + 2)) (xs (5 * t + 3)) (xs (5 * t + 4)) = 0 → r2.toInt = pe_v (if ix (xs (5 * t + 3)) = 0 then Lf (ix (xs (5 * t + 2))) else Rt (ix (xs (5 * t + 2)))) (ix (xs (5 * t + 4)))))) := by
    rcases hcs with ⟨h1, h2⟩ | ⟨h1, mm, Lf, Rt, h2, h3, h4⟩
    · exact ⟨_, h2, Or.inl ⟨h1, rfl⟩⟩
    · exact ⟨_, h3, Or.inr ⟨h1, mm, Lf, Rt, h2, rfl, h4⟩⟩
  obtain ⟨hcr, hfe⟩ := end_un hfv hcd2
  obtain ⟨up2, dn2, pz2, _, _, _, _, _, _, _, _, hK2, _⟩ := id hmd2
  have hou2 : M2 ou = some (.inl (cJ, 1, .inr (.inl f))) := (hF2 ou ho).trans hou1
  have hJ2 : qo_J cI cJ cN h0 na v va vb om oa ob im ia ib ro mk ka kb fa la (lw_Zc md kd on tw nu le fx fy si de ne it po ma ab be li fr to ou) M2 n qs := qo_J.oth hJ1 (fun x hx => hF2 x (fun i hi e => hx (Or.inl ⟨i, hi, e⟩))) (fun z hz9 => by rcases hz9 with ⟨i, hi, e⟩ | e; rw [e]; exact md_J.ex hmd2 i hi; rw [e, hou2]; exact Option.some_ne_none _)
  refine lv_lstore (lv' := [(6, .long r2), (5, .int r1), (4, .int (nI (5 * t))), (3, .ref ou), (2, .ref md), (1, .ref h0), (0, .ref b)]) hx hb d_Lw_law_857 hl (by decide) rfl (fun ls hl => ?_)
  refine lv_aload_n hx hb d_Lw_law_859 rfl (lv_at hl 4 rfl) ?_
  refine hw_calli (hw_runV (n := 0) (own := "QuantifierOutLaw") (As := []) (rest := []) hx hb hml hown hts hX hW hl.1 (c_Md_thrown l D cI cJ cZ cN md kd on tw nu le fx fy si de ne it po ma ab be li fr to cd2 n up2 dn2 pz2 _ M2 hK2.1) hK2.1 rfl tw_674 tw_675 tw_676 tw_5 tw_677 (by decide +kernel) rfl rfl ⟨by decide, by decide⟩ rfl rfl (Nat.le_of_ble_eq_true rfl) d_Lw_law_860 ⟨by rw [rc]; omega, by rw [rs]; omega⟩) hW hS hA (fun r3 M3 H locs hp3 hz hW hS => ?_)
  obtain ⟨er3, eM3⟩ := hp3
  rw [eM3] at hW
  refine lv_iload hx hb d_Lw_law_863 (lv_at hl 1 rfl) ?_
  refine lv_icmp_eq (tgt := 870) hx hb d_Lw_law_865 (by decide) (fun c_865 => ?_) (fun c_865 => ?_)
  · skip
    refine lv_iload hx hb d_Lw_law_870 (lv_at hl 1 rfl) ?_
    refine lv_if_ne (tgt := 886) hx hb d_Lw_law_872 (by decide) (fun c_872 => ?_) (fun c_872 => ?_)
    · skip
      refine lv_goto (tgt := 977) hx hb d_Lw_law_886 (by decide) ?_
      refine W.widen (k := cells + 5) (n := slots + 43) (by omega) (by omega) ?_
      exact K M2 H locs ls ⟨hW, hS, n, g, qs, cd2, f, hJ2, hqs, hmd2, hou2⟩ (lv_sub hl [2, 3, 4, 5, 6] rfl)
    · skip
      refine lv_aload_n hx hb d_Lw_law_875 rfl (lv_at hl 3 rfl) ?_
      refine lv_iconst (v := 0) hx hb d_Lw_law_876 (by decide) ?_
      refine hw_lld hx hb hW 1 hou2 rfl 0 rfl (by decide) (by decide) d_Lw_law_877 ?_
      refine lv_lload hx hb d_Lw_law_878 (lv_at hl 0 rfl) ?_
      refine W.lcmp hx hb d_Lw_law_880 ?_
      refine lv_if_eq (tgt := 886) hx hb d_Lw_law_881 (by decide) (fun c_881 => ?_) (fun c_881 => ?_)
      · skip
        rw [lg_cmp_eq] at c_881
        refine lv_goto (tgt := 977) hx hb d_Lw_law_886 (by decide) ?_
        refine W.widen (k := cells + 5) (n := slots + 43) (by omega) (by omega) ?_
        exact K M2 H locs ls ⟨hW, hS, n, g, qs, cd2, f, hJ2, hqs, hmd2, hou2⟩ (lv_sub hl [2, 3, 4, 5, 6] rfl)
      · skip
        rw [lg_cmp_eq] at c_881
        exact absurd (hfe c_872) c_881
  · skip
    exact absurd (er3.trans hcr) c_865
set_option maxHeartbeats 4000000 in
set_option maxRecDepth 100000 in
theorem lw_c_alike (hC : lw_C p l s m meth c b L xs) (hD : md_D md kd on tw nu le fx fy si de ne it po ma ab be li fr to) (ho : ∀ i, i < 19 → ou ≠ md_a md kd on tw nu le fx fy si de ne it po ma ab be li fr to i) (t : Nat) (ht : 5 * t + 5 ≤ L) (M : Nat → Option va_E) (H : Heap) (locs : List Loc) (cells slots : Nat) (hs : lw_S cI cJ cZ cN D h0 na v va vb om oa ob im ia ib ro mk ka kb fa la md kd on tw nu le fx fy si de ne it po ma ab be li fr to ou s M H locs) (hc : cells + 5 ≤ 601024) (hsl : slots + 43 ≤ 7293033) (ls : Array Slot) (hl : lv_has ls 8 [(4, .int (nI (5 * t))), (3, .ref ou), (2, .ref md), (1, .ref h0), (0, .ref b)]) (K : ∀ (M1 : Nat → Option va_E) (H : Heap) (locs : List Loc) (ls : Array Slot), lw_S cI cJ cZ cN D h0 na v va vb om oa ob im ia ib ro mk ka kb fa la md kd on tw nu le fx fy si de ne it po ma ab be li fr to ou s M1 H locs → lv_has ls 8 [(4, .int (nI (5 * t))), (3, .ref ou), (2, .ref md), (1, .ref h0), (0, .ref b)] → W p l e room_1 s m #[Value.ref b] below meth c H locs (cells + 5) (slots + 43) (lw_Z below #[Value.ref b] s) (F0 m 977 ls [])) : W p l e room_1 s m #[Value.ref b] below meth c H locs cells slots (lw_Z below #[Value.ref b] s) (F0 m 889 ls []) := by
  obtain ⟨hx, hb, hr, hml, hown, hts, hXs, hbl, hlocks, hX, hZ, hN, hl0, hL9⟩ := hC
  obtain ⟨hW, hS, n, g, qs, cd, f0, hJq, hqs, hmd, hou⟩ := hs
  have hA : ∀ q, s.heap.size ≤ q → lw_Aq s q := fun q h => h
  have hbA : ¬ lw_Aq s b := fun h => absurd hbl (Nat.not_lt.mpr h)
  have rc : room_1.cells = 601024 := rfl
  have rs : room_1.slots = 7293033 := rfl
  have hZou : (lw_Zc md kd on tw nu le fx fy si de ne it po ma ab be li fr to ou) ou := Or.inr rfl
  have hn60 : n ≤ 60 := by obtain ⟨_, _, h9⟩ := hJq; exact h9.1.2.2
  refine lv_aload_n hx hb d_Lw_law_889 rfl (lv_at hl 3 rfl) ?_
  refine lv_aload_n hx hb d_Lw_law_890 rfl (lv_at hl 4 rfl) ?_
  refine lv_iload hx hb d_Lw_law_891 (lv_at hl 0 rfl) ?_
  refine lv_iconst (v := 1) hx hb d_Lw_law_893 (by decide) ?_
  refine lv_iadd hx hb d_Lw_law_894 ?_
  refine lv_topi (fun x1 ex1 => ?_)
  refine hw_sld hx hb hXs hbl hbA hS (5 * t + 1) (by rw [ex1]; exact nI_add _ 1) (by omega) (by omega) d_Lw_law_895 ?_
  refine lv_aload_n hx hb d_Lw_law_896 rfl (lv_at hl 4 rfl) ?_
  refine lv_iload hx hb d_Lw_law_897 (lv_at hl 0 rfl) ?_
  refine lv_iconst (v := 2) hx hb d_Lw_law_899 (by decide) ?_
  refine lv_iadd hx hb d_Lw_law_900 ?_
  refine lv_topi (fun x2 ex2 => ?_)
  refine hw_sld hx hb hXs hbl hbA hS (5 * t + 2) (by rw [ex2]; exact nI_add _ 2) (by omega) (by omega) d_Lw_law_901 ?_
  refine lv_aload_n hx hb d_Lw_law_902 rfl (lv_at hl 1 rfl) ?_
  refine hw_calli (lx_runS (n := 4) (own := "QuantifierOutLaw") (As := [.ref h0, .int (xs (5 * t + 1)), .int (xs (5 * t + 2)), .ref ou]) (rest := []) hx hb hml hown hts hX hW hl.1 hZ hS hA hN (c_Lw_alike l D cI cJ cZ cN h0 na v va vb om oa ob im ia ib ro mk ka kb fa la (lw_Zc md kd on tw nu le fx fy si de ne it po ma ab be li fr to ou) ou hl0 M _ n g qs f0 hJq hqs hou hZou (xs (5 * t + 1)) (xs (5 * t + 2))) tw_564 tw_565 tw_0 tc_alike (by decide +kernel) rfl rfl ⟨by decide, by decide⟩ rfl rfl (Nat.le_of_ble_eq_true rfl) d_Lw_law_903 ⟨by rw [rc]; omega, by rw [rs]; omega⟩) hW hS hA (fun r1 M1 H locs hp hz hW hS => ?_)
  obtain ⟨er1, hf1, f, hJ1, hou1, hfv⟩ := hp
  have hmd1 := md_J.keep (M1 := M1) hmd (fun i hi => hf1 _ (Or.inl ⟨i, hi, rfl⟩) (Ne.symm (ho i hi)))
  obtain ⟨up, dn, pz, _, _, _, _, _, _, _, _, hKm, _⟩ := id hmd1
  refine lv_istore (lv' := [(5, .int r1), (4, .int (nI (5 * t))), (3, .ref ou), (2, .ref md), (1, .ref h0), (0, .ref b)]) hx hb d_Lw_law_906 hl (by decide) rfl (fun ls hl => ?_)
  refine lv_aload_n hx hb d_Lw_law_908 rfl (lv_at hl 3 rfl) ?_
  refine lv_aload_n hx hb d_Lw_law_909 rfl (lv_at hl 5 rfl) ?_
  refine lv_iload hx hb d_Lw_law_910 (lv_at hl 1 rfl) ?_
  refine lv_iconst (v := 1) hx hb d_Lw_law_912 (by decide) ?_
  refine lv_iadd hx hb d_Lw_law_913 ?_
  refine lv_topi (fun x3 ex3 => ?_)
  refine hw_sld hx hb hXs hbl hbA hS (5 * t + 1) (by rw [ex3]; exact nI_add _ 1) (by omega) (by omega) d_Lw_law_914 ?_
  refine lv_aload_n hx hb d_Lw_law_915 rfl (lv_at hl 5 rfl) ?_
  refine lv_iload hx hb d_Lw_law_916 (lv_at hl 1 rfl) ?_
  refine lv_iconst (v := 2) hx hb d_Lw_law_918 (by decide) ?_
  refine lv_iadd hx hb d_Lw_law_919 ?_
  refine lv_topi (fun x4 ex4 => ?_)
  refine hw_sld hx hb hXs hbl hbA hS (5 * t + 2) (by rw [ex4]; exact nI_add _ 2) (by omega) (by omega) d_Lw_law_920 ?_
  refine hw_calli (hw_runV (n := 2) (own := "QuantifierOutLaw") (As := [.int (xs (5 * t + 1)), .int (xs (5 * t + 2))]) (rest := []) hx hb hml hown hts hX hW hl.1 (c_Md_alike l D cI cJ cZ cN md kd on tw nu le fx fy si de ne it po ma ab be li fr to cd n g _ M1 hD hmd1 (xs (5 * t + 1)) (xs (5 * t + 2))) hKm.1 rfl tw_807 tw_808 tw_809 tw_5 tw_810 (by decide +kernel) rfl rfl ⟨by decide, by decide⟩ rfl rfl (Nat.le_of_ble_eq_true rfl) d_Lw_law_921 ⟨by rw [rc]; omega, by rw [rs]; omega⟩) hW hS hA (fun r2 M2 H locs hp2 hz hW hS => ?_)
  obtain ⟨hR2, hmd2, hF2⟩ := hp2
  obtain ⟨up2, dn2, pz2, _, _, _, _, _, _, _, _, hK2, _⟩ := id hmd2
  have hou2 : M2 ou = some (.inl (cJ, 1, .inr (.inl f))) := (hF2 ou ho).trans hou1
  have hJ2 : qo_J cI cJ cN h0 na v va vb om oa ob im ia ib ro mk ka kb fa la (lw_Zc md kd on tw nu le fx fy si de ne it po ma ab be li fr to ou) M2 n qs := qo_J.oth hJ1 (fun x hx => hF2 x (fun i hi e => hx (Or.inl ⟨i, hi, e⟩))) (fun z hz9 => by rcases hz9 with ⟨i, hi, e⟩ | e; rw [e]; exact md_J.ex hmd2 i hi; rw [e, hou2]; exact Option.some_ne_none _)
  refine lv_istore (lv' := [(6, .int r2), (5, .int r1), (4, .int (nI (5 * t))), (3, .ref ou), (2, .ref md), (1, .ref h0), (0, .ref b)]) hx hb d_Lw_law_924 hl (by decide) rfl (fun ls hl => ?_)
  refine lv_aload_n hx hb d_Lw_law_926 rfl (lv_at hl 4 rfl) ?_
  refine hw_calli (hw_runV (n := 0) (own := "QuantifierOutLaw") (As := []) (rest := []) hx hb hml hown hts hX hW hl.1 (c_Md_thrown l D cI cJ cZ cN md kd on tw nu le fx fy si de ne it po ma ab be li fr to (nI (cAlike n (xs (5 * t + 1)) (xs (5 * t + 2)))) n up2 dn2 pz2 _ M2 hK2.1) hK2.1 rfl tw_674 tw_675 tw_676 tw_5 tw_677 (by decide +kernel) rfl rfl ⟨by decide, by decide⟩ rfl rfl (Nat.le_of_ble_eq_true rfl) d_Lw_law_927 ⟨by rw [rc]; omega, by rw [rs]; omega⟩) hW hS hA (fun r3 M3 H locs hp3 hz hW hS => ?_)
  obtain ⟨er3, eM3⟩ := hp3
  rw [eM3] at hW
  refine lv_iload hx hb d_Lw_law_930 (lv_at hl 1 rfl) ?_
  refine lv_icmp_eq (tgt := 937) hx hb d_Lw_law_932 (by decide) (fun c_932 => ?_) (fun c_932 => ?_)
  · skip
    refine lv_iload hx hb d_Lw_law_937 (lv_at hl 1 rfl) ?_
    refine lv_if_ne (tgt := 961) hx hb d_Lw_law_939 (by decide) (fun c_939 => ?_) (fun c_939 => ?_)
    · skip
      refine lv_goto (tgt := 977) hx hb d_Lw_law_961 (by decide) ?_
      refine W.widen (k := cells + 5) (n := slots + 43) (by omega) (by omega) ?_
      exact K M2 H locs ls ⟨hW, hS, n, g, qs, (nI (cAlike n (xs (5 * t + 1)) (xs (5 * t + 2)))), f, hJ2, hqs, hmd2, hou2⟩ (lv_sub hl [2, 3, 4, 5, 6] rfl)
    · skip
      have hC0 : cAlike n (xs (5 * t + 1)) (xs (5 * t + 2)) = 0 := c0_of cAlike_le (er1.symm.trans c_939)
      refine lv_aload_n hx hb d_Lw_law_942 rfl (lv_at hl 3 rfl) ?_
      refine lv_iconst (v := 0) hx hb d_Lw_law_943 (by decide) ?_
      refine hw_lld hx hb hW 1 hou2 rfl 0 rfl (by decide) (by decide) d_Lw_law_944 ?_
      refine lv_iload hx hb d_Lw_law_945 (lv_at hl 0 rfl) ?_
      have hun := lb_un (hfv hC0) (hR2 hC0)
      refine lv_if_eq (tgt := 954) hx hb d_Lw_law_947 (by decide) (fun c_947 => ?_) (fun c_947 => ?_)
      · skip
        refine lv_lconst (v := 0) hx hb d_Lw_law_954 (by decide) ?_
        refine W.lcmp hx hb d_Lw_law_955 ?_
        refine lv_if_eq (tgt := 961) hx hb d_Lw_law_956 (by decide) (fun c_956 => ?_) (fun c_956 => ?_)
        · skip
          rw [lg_cmp_eq] at c_956
          refine lv_goto (tgt := 977) hx hb d_Lw_law_961 (by decide) ?_
          refine W.widen (k := cells + 5) (n := slots + 43) (by omega) (by omega) ?_
          exact K M2 H locs ls ⟨hW, hS, n, g, qs, (nI (cAlike n (xs (5 * t + 1)) (xs (5 * t + 2)))), f, hJ2, hqs, hmd2, hou2⟩ (lv_sub hl [2, 3, 4, 5, 6] rfl)
        · skip
          rw [lg_cmp_eq] at c_956
          exact absurd (hun.1 c_947) c_956
      · skip
        refine lv_lconst (v := 1) hx hb d_Lw_law_950 (by decide) ?_
        refine lv_goto (tgt := 955) hx hb d_Lw_law_951 (by decide) ?_
        refine W.lcmp hx hb d_Lw_law_955 ?_
        refine lv_if_eq (tgt := 961) hx hb d_Lw_law_956 (by decide) (fun c_956 => ?_) (fun c_956 => ?_)
        · skip
          rw [lg_cmp_eq] at c_956
          refine lv_goto (tgt := 977) hx hb d_Lw_law_961 (by decide) ?_
          refine W.widen (k := cells + 5) (n := slots + 43) (by omega) (by omega) ?_
          exact K M2 H locs ls ⟨hW, hS, n, g, qs, (nI (cAlike n (xs (5 * t + 1)) (xs (5 * t + 2)))), f, hJ2, hqs, hmd2, hou2⟩ (lv_sub hl [2, 3, 4, 5, 6] rfl)
        · skip
          rw [lg_cmp_eq] at c_956
          exact absurd (hun.2 c_947) c_956
  · skip
    exact absurd (er3.trans er1.symm) c_932
set_option maxHeartbeats 4000000 in
set_option maxRecDepth 100000 in
theorem lw_c_count (hC : lw_C p l s m meth c b L xs) (hD : md_D md kd on tw nu le fx fy si de ne it po ma ab be li fr to) (ho : ∀ i, i < 19 → ou ≠ md_a md kd on tw nu le fx fy si de ne it po ma ab be li fr to i) (t : Nat) (ht : 5 * t + 5 ≤ L) (M : Nat → Option va_E) (H : Heap) (locs : List Loc) (cells slots : Nat) (hs : lw_S cI cJ cZ cN D h0 na v va vb om oa ob im ia ib ro mk ka kb fa la md kd on tw nu le fx fy si de ne it po ma ab be li fr to ou s M H locs) (hc : cells + 5 ≤ 601024) (hsl : slots + 43 ≤ 7293033) (ls : Array Slot) (hl : lv_has ls 8 [(4, .int (nI (5 * t))), (3, .ref ou), (2, .ref md), (1, .ref h0), (0, .ref b)]) (K : ∀ (M1 : Nat → Option va_E) (H : Heap) (locs : List Loc) (ls : Array Slot), lw_S cI cJ cZ cN D h0 na v va vb om oa ob im ia ib ro mk ka kb fa la md kd on tw nu le fx fy si de ne it po ma ab be li fr to ou s M1 H locs → lv_has ls 8 [(4, .int (nI (5 * t))), (3, .ref ou), (2, .ref md), (1, .ref h0), (0, .ref b)] → W p l e room_1 s m #[Value.ref b] below meth c H locs (cells + 5) (slots + 43) (lw_Z below #[Value.ref b] s) (F0 m 977 ls [])) : W p l e room_1 s m #[Value.ref b] below meth c H locs cells slots (lw_Z below #[Value.ref b] s) (F0 m 964 ls []) := by
  obtain ⟨hx, hb, hr, hml, hown, hts, hXs, hbl, hlocks, hX, hZ, hN, hl0, hL9⟩ := hC
  obtain ⟨hW, hS, n, g, qs, cd, f0, hJq, hqs, hmd, hou⟩ := hs
  have hA : ∀ q, s.heap.size ≤ q → lw_Aq s q := fun q h => h
  have hbA : ¬ lw_Aq s b := fun h => absurd hbl (Nat.not_lt.mpr h)
  have rc : room_1.cells = 601024 := rfl
  have rs : room_1.slots = 7293033 := rfl
  have hZou : (lw_Zc md kd on tw nu le fx fy si de ne it po ma ab be li fr to ou) ou := Or.inr rfl
  have hn60 : n ≤ 60 := by obtain ⟨_, _, h9⟩ := hJq; exact h9.1.2.2
  obtain ⟨tb, ad, hI⟩ := id hJq
  obtain ⟨up, dn, pz, _, _, _, _, _, _, _, _, hKm, _⟩ := id hmd
  refine lv_aload_n hx hb d_Lw_law_964 rfl (lv_at hl 3 rfl) ?_
  refine hw_calli (hw_runV (n := 0) (own := "QuantifierOutLaw") (As := []) (rest := []) hx hb hml hown hts hX hW hl.1 (c_Qo_count l D cI cJ cZ cN h0 na v ro n _ ad M hI.1) hI.1.1 rfl tw_110 tw_111 tw_112 tw_1 tw_113 (by decide +kernel) rfl rfl ⟨by decide, by decide⟩ rfl rfl (Nat.le_of_ble_eq_true rfl) d_Lw_law_965 ⟨by rw [rc]; omega, by rw [rs]; omega⟩) hW hS hA (fun r1 M1 H locs hp1 hz hW hS => ?_)
  obtain ⟨er1, eM1⟩ := hp1
  rw [eM1] at hW
  refine lv_aload_n hx hb d_Lw_law_968 rfl (lv_at hl 2 rfl) ?_
  refine hw_calli (hw_runV (n := 0) (own := "QuantifierOutLaw") (As := []) (rest := [.int r1]) hx hb hml hown hts hX hW hl.1 (c_Md_count l D cI cJ cZ cN md kd on tw nu le fx fy si de ne it po ma ab be li fr to cd n up dn pz _ M hKm.1) hKm.1 rfl tw_729 tw_730 tw_731 tw_5 tw_732 (by decide +kernel) rfl rfl ⟨by decide, by decide⟩ rfl rfl (Nat.le_of_ble_eq_true rfl) d_Lw_law_969 ⟨by rw [rc]; omega, by rw [rs]; omega⟩) hW hS hA (fun r2 M2 H locs hp2 hz hW hS => ?_)
  obtain ⟨er2, eM2⟩ := hp2
  obtain ⟨hmd2, hF2⟩ := md_J.cd hD hmd hKm.1 eM2
  have hou2 : M2 ou = some (.inl (cJ, 1, .inr (.inl f0))) := (hF2 ou ho).trans hou
  have hJ2 : qo_J cI cJ cN h0 na v va vb om oa ob im ia ib ro mk ka kb fa la (lw_Zc md kd on tw nu le fx fy si de ne it po ma ab be li fr to ou) M2 n qs := qo_J.oth hJq (fun x hx => hF2 x (fun i hi e => hx (Or.inl ⟨i, hi, e⟩))) (fun z hz9 => by rcases hz9 with ⟨i, hi, e⟩ | e; rw [e]; exact md_J.ex hmd2 i hi; rw [e, hou2]; exact Option.some_ne_none _)
  refine lv_icmp_eq (tgt := 977) hx hb d_Lw_law_972 (by decide) (fun c_972 => ?_) (fun c_972 => ?_)
  · skip
    refine W.widen (k := cells + 5) (n := slots + 43) (by omega) (by omega) ?_
    exact K M2 H locs ls ⟨hW, hS, n, g, qs, 0, f0, hJ2, hqs, hmd2, hou2⟩ (lv_sub hl [0, 1, 2, 3, 4] rfl)
  · skip
    exact absurd (er1.trans er2.symm) c_972
end G58

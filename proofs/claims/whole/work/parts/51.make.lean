/-! The reference: the calls that make nodes -/
theorem md_W.cd {cI cJ cZ : ClassId} {md kd on tw nu le fx fy si de ne it po ma ab be li fr to : Nat} {M M1 : Nat → Option va_E} {cd cd2 : Int32} {n n2 : Nat} {up dn : Int64} {pz : Int32} {NE IT : Nat → Int32} {PO : Nat → Int64} {MA : Nat → Int32} {AB BE : Nat → Int64} (hD : md_D md kd on tw nu le fx fy si de ne it po ma ab be li fr to) (h : md_W cI cJ cZ md kd on tw nu le fx fy si de ne it po ma ab be li fr to M cd n up dn pz NE IT PO MA AB BE) (h1 : M1 md = some (.inr (8, [.int cd2, .int (nI n2), .ref kd, .ref on, .ref tw, .ref nu, .ref le, .ref fx, .ref fy, .ref si, .ref de, .ref ne, .ref it, .ref po, .ref ma, .ref ab, .ref be, .long up, .long dn, .ref li, .int pz, .ref fr, .ref to]))) (hf : ∀ x9, x9 ≠ md → M1 x9 = M x9) : md_W cI cJ cZ md kd on tw nu le fx fy si de ne it po ma ab be li fr to M1 cd2 n2 up dn pz NE IT PO MA AB BE := by
  have g : ∀ i, 0 < i → i < 19 → M1 (md_a md kd on tw nu le fx fy si de ne it po ma ab be li fr to i) = M (md_a md kd on tw nu le fx fy si de ne it po ma ab be li fr to i) := fun i h0 h2 => hf _ (Ne.symm (hD 0 i h0 h2))
  exact ⟨h1, (g 10 (by decide) (by decide)).trans h.2.1, (g 11 (by decide) (by decide)).trans h.2.2.1, (g 12 (by decide) (by decide)).trans h.2.2.2.1, (g 13 (by decide) (by decide)).trans h.2.2.2.2.1, (g 14 (by decide) (by decide)).trans h.2.2.2.2.2.1, (g 15 (by decide) (by decide)).trans h.2.2.2.2.2.2⟩
theorem md_L.k3 {cI cZ : ClassId} {li fr to : Nat} {M M1 : Nat → Option va_E} (h : md_L cI cZ li fr to M) (e1 : M1 li = M li) (e2 : M1 fr = M fr) (e3 : M1 to = M to) : md_L cI cZ li fr to M1 := by
  obtain ⟨a, b, c, h1, h2, h3⟩ := h
  exact ⟨a, b, c, e1.trans h1, e2.trans h2, e3.trans h3⟩
def md_N (cI cJ cZ : ClassId) (md kd on tw nu le fx fy si de ne it po ma ab be li fr to : Nat) (n : Nat) (g : Nat → abn) (C : Nat) (new : abn) (M : Nat → Option va_E) (r : Int32) (M1 : Nat → Option va_E) : Prop := (C = 0 → r = nI n) ∧ ∃ n2 g2, mkn n g C new n2 g2 ∧ md_J cI cJ cZ md kd on tw nu le fx fy si de ne it po ma ab be li fr to M1 (nI C) n2 g2 ∧ md_F md kd on tw nu le fx fy si de ne it po ma ab be li fr to M M1
theorem md_N.no {cI cJ cZ : ClassId} {md kd on tw nu le fx fy si de ne it po ma ab be li fr to : Nat} {n : Nat} {g : Nat → abn} {C c0 : Nat} {new : abn} {M : Nat → Option va_E} {r : Int32} {M1 : Nat → Option va_E} (hc : C = c0) (h0 : c0 ≠ 0) (hJ : md_J cI cJ cZ md kd on tw nu le fx fy si de ne it po ma ab be li fr to M1 (nI c0) n g) (hF : md_F md kd on tw nu le fx fy si de ne it po ma ab be li fr to M M1) : md_N cI cJ cZ md kd on tw nu le fx fy si de ne it po ma ab be li fr to n g C new M r M1 := by
  subst hc
  exact ⟨fun z => absurd z h0, n, g, Or.inr ⟨h0, rfl, rfl⟩, hJ, hF⟩
theorem md_N.yes {cI cJ cZ : ClassId} {md kd on tw nu le fx fy si de ne it po ma ab be li fr to : Nat} {n : Nat} {g : Nat → abn} {C : Nat} {new : abn} {M : Nat → Option va_E} {r : Int32} {M1 : Nat → Option va_E} (hc : C = 0) (hn : n < 60) (hr : r = nI n) (hJ : md_J cI cJ cZ md kd on tw nu le fx fy si de ne it po ma ab be li fr to M1 (nI 0) (n + 1) (va_up g n new)) (hF : md_F md kd on tw nu le fx fy si de ne it po ma ab be li fr to M M1) : md_N cI cJ cZ md kd on tw nu le fx fy si de ne it po ma ab be li fr to n g C new M r M1 := by
  subst hc
  exact ⟨fun _ => hr, n + 1, _, Or.inl ⟨rfl, hn, rfl, rfl⟩, hJ, hF⟩
theorem md_J.add {cI cJ cZ : ClassId} {md kd on tw nu le fx fy si de ne it po ma ab be li fr to : Nat} {n : Nat} {g : Nat → abn} {new : abn} {M1 : Nat → Option va_E} {cd : Int32} {up dn : Int64} {pz : Int32} {NE IT : Nat → Int32} {PO : Nat → Int64} {MA : Nat → Int32} {AB BE : Nat → Int64} {st2 : Nat → Nat → Int32} {mt : Nat → Option nq} {q : nq} (hK : md_W cI cJ cZ md kd on tw nu le fx fy si de ne it po ma ab be li fr to M1 cd (n + 1) up dn pz NE IT PO MA AB BE) (hT : md_T cI cZ kd on tw nu le fx fy si de M1 st2) (hM : mt_ok (n + 1) (va_up mt n (some q)) st2) (hL : md_L cI cZ li fr to M1) (hg : ∀ i, i < n → ∃ q, mt i = some q ∧ abq q = g i) (hq : abq q = new) : md_J cI cJ cZ md kd on tw nu le fx fy si de ne it po ma ab be li fr to M1 cd (n + 1) (va_up g n new) := by
  refine ⟨up, dn, pz, NE, IT, PO, MA, AB, BE, st2, _, hK, hT, hM, hL, fun i hi => ?_⟩
  by_cases e : i = n
  · subst e
    exact ⟨q, va_up_self _ _ _, by rw [va_up_self]; exact hq⟩
  · obtain ⟨q1, h1, h2⟩ := hg i (by omega)
    exact ⟨q1, by rw [va_up_ne _ _ e]; exact h1, by rw [va_up_ne _ _ e]; exact h2⟩
theorem it_c {r : Int32} {p q : Prop} (h : it_b r p) (e : p ↔ q) : it_b r q := by
  rcases h with ⟨a, b⟩ | ⟨a, b⟩
  · exact Or.inl ⟨a, e.mp b⟩
  · exact Or.inr ⟨a, fun z => b (e.mpr z)⟩
def nu_st (st : Nat → Nat → Int32) (f : Nat → Int32) : Nat → Nat → Int32
  | 3 => f
  | a => st a
theorem nu_ne {st : Nat → Nat → Int32} {f : Nat → Int32} {a : Nat} (h : a ≠ 3) : nu_st st f a = st a := by
  rcases a with _ | _ | _ | _ | a
  · rfl
  · rfl
  · rfl
  · exact absurd rfl h
  · rfl
def nu4 (f : Nat → Int32) (n : Nat) (a b c o : Int32) : Nat → Int32 := upd (upd (upd (upd f (4 * n) a) (4 * n + 1) b) (4 * n + 2) c) (4 * n + 3) o
def qAtom (n : Nat) (a b c o : Int32) : nq := (qm_atom (a.toInt, b.toInt, c.toInt) (ix o), [(a.toInt, b.toInt, c.toInt)], true, true, 0, n, .inl (ix o))
theorem mc_atom {st : Nat → Nat → Int32} {n : Nat} {a b c o : Int32} (ho : o = nI (ix o)) : mt_c (ad_st (nu_st st (nu4 (st 3) n a b c o)) n 0 (-1) (-1) 1 1 1 0) n (qAtom n a b c o) := by
  refine ⟨?_, ?_, ?_, ?_, ?_⟩
  · show upd (st 5) n 1 n = 1
    exact pk_us
  · show upd (st 6) n 1 n = 1
    exact pk_us
  · show upd (st 7) n 1 n = nI 1
    exact pk_us
  · show upd (st 8) n 0 n = nI 0
    exact pk_us
  · show upd (st 0) n 0 n = 0 ∧ (∀ l, [(a.toInt, b.toInt, c.toInt)] = [l] → (nu4 (st 3) n a b c o (4 * n)).toInt = l.1 ∧ (nu4 (st 3) n a b c o (4 * n + 1)).toInt = l.2.1 ∧ (nu4 (st 3) n a b c o (4 * n + 2)).toInt = l.2.2) ∧ nu4 (st 3) n a b c o (4 * n + 3) = nI (ix o)
    unfold nu4
    refine ⟨pk_us, fun l hl => ?_, ?_⟩
    · rw [pk_un (by omega), pk_un (by omega), pk_un (by omega), pk_us, pk_un (by omega), pk_un (by omega), pk_us, pk_un (by omega), pk_us]
      have e := List.singleton_inj.mp hl
      rw [← e]
      exact ⟨rfl, rfl, rfl⟩
    · rw [pk_us]; exact ho
theorem mc_pair {st : Nat → Nat → Int32} {n a b : Nat} {k : Int32} {kk : Bool} {q1 q2 : nq} (hk : k = if kk = true then 1 else 2) (h1 : mt_c st a q1) (h2 : mt_c st b q2) (d1 : nd q1 ≤ 2) (d2 : nd q2 ≤ 2) : mt_c (ad_st st n k (nI a) (nI b) (orI (st 5 a) (st 5 b)) (orI (st 6 a) (st 6 b)) (st 7 a + st 7 b) (mxI (st 8 a) (st 8 b))) n (mp_q n a b kk q1 q2) := by
  obtain ⟨a1, a2, a3, a4, _⟩ := h1
  obtain ⟨b1, b2, b3, b4, _⟩ := h2
  refine ⟨?_, ?_, ?_, ?_, ?_⟩
  · show upd (st 5) n (orI (st 5 a) (st 5 b)) n = if (nx q1 || nx q2) = true then 1 else 0
    rw [pk_us, a1, b1]; exact orI_b
  · show upd (st 6) n (orI (st 6 a) (st 6 b)) n = if (ny q1 || ny q2) = true then 1 else 0
    rw [pk_us, a2, b2]; exact orI_b
  · show upd (st 7) n (st 7 a + st 7 b) n = nI (nL q1 ++ nL q2).length
    rw [pk_us, a3, b3, List.length_append]; exact nI_add _ _
  · show upd (st 8) n (mxI (st 8 a) (st 8 b)) n = nI (max (nd q1) (nd q2))
    rw [pk_us, a4, b4]; exact mxI_n (by omega) (by omega)
  · show upd (st 0) n k n = (if kk = true then 1 else 2) ∧ upd (st 1) n (nI a) n = nI a ∧ upd (st 2) n (nI b) n = nI b
    exact ⟨by rw [pk_us]; exact hk, pk_us, pk_us⟩
theorem mc_not {st : Nat → Nat → Int32} {n a : Nat} {q1 : nq} (h1 : mt_c st a q1) : mt_c (ad_st st n 3 (nI a) (-1) (st 5 a) (st 6 a) (st 7 a) (st 8 a)) n (mn_q n a q1) := by
  obtain ⟨a1, a2, a3, a4, _⟩ := h1
  refine ⟨?_, ?_, ?_, ?_, ?_⟩
  · show upd (st 5) n (st 5 a) n = _
    rw [pk_us, a1]; rfl
  · show upd (st 6) n (st 6 a) n = _
    rw [pk_us, a2]; rfl
  · show upd (st 7) n (st 7 a) n = _
    rw [pk_us, a3]; rfl
  · show upd (st 8) n (st 8 a) n = _
    rw [pk_us, a4]; rfl
  · show upd (st 0) n 3 n = 3 ∧ upd (st 1) n (nI a) n = nI a ∧ upd (st 2) n (-1) n = -1
    exact ⟨pk_us, pk_us, pk_us⟩
def qu0 (st : Nat → Nat → Int32) (n : Nat) : Nat → Nat → Int32
  | 4 => upd (st 4) n 0
  | 5 => upd (st 5) n 0
  | 8 => upd (st 8) n (st 8 n + 1)
  | a => st a
def qu1 (st : Nat → Nat → Int32) (n : Nat) : Nat → Nat → Int32
  | 4 => upd (st 4) n 1
  | 6 => upd (st 6) n 0
  | 8 => upd (st 8) n (st 8 n + 1)
  | a => st a
theorem qu0_old {st : Nat → Nat → Int32} {n a i : Nat} (hi : i ≠ n) : qu0 st n a i = st a i := by
  rcases a with _ | _ | _ | _ | _ | _ | _ | _ | _ | a <;> first | rfl | exact pk_un hi
theorem qu1_old {st : Nat → Nat → Int32} {n a i : Nat} (hi : i ≠ n) : qu1 st n a i = st a i := by
  rcases a with _ | _ | _ | _ | _ | _ | _ | _ | _ | a <;> first | rfl | exact pk_un hi
theorem mc_quant {st st2 : Nat → Nat → Int32} {n a j : Nat} {k : Int32} {kk : Bool} {q1 : nq} (hk : k = if kk = true then 5 else 4) (h1 : mt_c st a q1) (e2 : st2 = ad_st st n k (nI a) (-1) (st 5 a) (st 6 a) (st 7 a) (st 8 a)) : (j = 0 → mt_c (qu0 st2 n) n (mu_q n a j kk q1)) ∧ (j = 1 → mt_c (qu1 st2 n) n (mu_q n a j kk q1)) := by
  obtain ⟨a1, a2, a3, a4, _⟩ := h1
  have s0 : st2 0 n = k := by rw [e2]; exact pk_us
  have s1 : st2 1 n = nI a := by rw [e2]; exact pk_us
  have s2 : st2 2 n = -1 := by rw [e2]; exact pk_us
  have s5 : st2 5 n = st 5 a := by rw [e2]; exact pk_us
  have s6 : st2 6 n = st 6 a := by rw [e2]; exact pk_us
  have s7 : st2 7 n = st 7 a := by rw [e2]; exact pk_us
  have s8 : st2 8 n = st 8 a := by rw [e2]; exact pk_us
  constructor
  · rintro rfl
    refine ⟨?_, ?_, ?_, ?_, ?_⟩
    · show upd (st2 5) n 0 n = 0
      exact pk_us
    · show st2 6 n = if ny q1 = true then 1 else 0
      rw [s6, a2]
    · show st2 7 n = nI (nL q1).length
      rw [s7, a3]
    · show upd (st2 8) n (st2 8 n + 1) n = nI (nd q1 + 1)
      rw [pk_us, s8, a4]; exact nI_1 _
    · show st2 0 n = (if kk = true then 5 else 4) ∧ st2 1 n = nI a ∧ st2 2 n = -1 ∧ upd (st2 4) n 0 n = nI 0
      exact ⟨s0.trans hk, s1, s2, pk_us⟩
  · rintro rfl
    refine ⟨?_, ?_, ?_, ?_, ?_⟩
    · show st2 5 n = if nx q1 = true then 1 else 0
      rw [s5, a1]
    · show upd (st2 6) n 0 n = 0
      exact pk_us
    · show st2 7 n = nI (nL q1).length
      rw [s7, a3]
    · show upd (st2 8) n (st2 8 n + 1) n = nI (nd q1 + 1)
      rw [pk_us, s8, a4]; exact nI_1 _
    · show st2 0 n = (if kk = true then 5 else 4) ∧ st2 1 n = nI a ∧ st2 2 n = -1 ∧ upd (st2 4) n 1 n = nI 1
      exact ⟨s0.trans hk, s1, s2, pk_us⟩
theorem ab_pair {n a b : Nat} {kk : Bool} {q1 q2 : nq} : abq (mp_q n a b kk q1 q2) = gPair kk (abq q1) (abq q2) := by
  show (np_P kk (nP q1) (nP q2), (nx q1 || nx q2), (ny q1 || ny q2), (nL q1 ++ nL q2).length, max (nd q1) (nd q2)) = (np_P kk (nP q1) (nP q2), (nx q1 || nx q2), (ny q1 || ny q2), (nL q1).length + (nL q2).length, max (nd q1) (nd q2))
  rw [List.length_append]
theorem b01 {b : Bool} {x : Int32} (h : x = if b = true then 1 else 0) : x = 0 ∨ x = 1 := by
  cases b
  · exact Or.inl h
  · exact Or.inr h
section G51
variable (l : Launch) (D : va_G) (cI cJ cZ cN : ClassId) (md kd on tw nu le fx fy si de ne it po ma ab be li fr to : Nat)
set_option maxHeartbeats 4000000 in
set_option maxRecDepth 100000 in
theorem c_Md_atom (cd : Int32) (n : Nat) (g : Nat → abn) (sz : Nat) (M : Nat → Option va_E) (hD : md_D md kd on tw nu le fx fy si de ne it po ma ab be li fr to) (hJ : md_J cI cJ cZ md kd on tw nu le fx fy si de ne it po ma ab be li fr to M cd n g) (a1 b1 c1 o1 : Int32)  : Met l y_Md_atom (.code y_Md_atom b_Md_atom 6 (some .int) :: ww) ({ frames := 1, cells := 0, slots := 0, locals := 40 }) (hw_Pc D qcl (qty cI cJ cZ cN) [.ref md, .int a1, .int b1, .int c1, .int o1] M sz) (va_Qi (fun r M1 => md_N cI cJ cZ md kd on tw nu le fx fy si de ne it po ma ab be li fr to n g (cAtom n a1 b1 c1 o1) (gAtom a1 b1 c1 o1) M r M1) (hw_B D qcl (qty cI cJ cZ cN) M sz) (hw_A M sz)) 0 0 (hw_A M sz) := by
  obtain ⟨up, dn, pz, NE, IT, PO, MA, AB, BE, st, mt, hK, hT, hM, hL, hg⟩ := hJ
  have hn := hM.1
  refine hw_met (by decide) (Nat.le_of_ble_eq_true rfl) ?_
  intro p e s m below meth c hx hb hr hml hown hlocks hnm hts hsz hX hW ls hl
  subst hsz
  have hA : ∀ q, s.heap.size ≤ q → hw_A M s.heap.size q := fun q h => Or.inr h
  have hS : va_S (hw_A M s.heap.size) s.heap s.heap [] := va_S.rf
  have hl : lv_has ls 6 [(0, .ref md), (1, .int a1), (2, .int b1), (3, .int c1), (4, .int o1)] := hl
  have hown : s.vm.findClass "QuantifierOutModel" = some m.cls := hown
  obtain ⟨Q9, hQ9⟩ : ∃ X : State → Prop, X = MQ below (va_Qi (fun r M1 => md_N cI cJ cZ md kd on tw nu le fx fy si de ne it po ma ab be li fr to n g (cAtom n a1 b1 c1 o1) (gAtom a1 b1 c1 o1) M r M1) (hw_B D qcl (qty cI cJ cZ cN) M s.heap.size) (hw_A M s.heap.size)) [.ref md, .int a1, .int b1, .int c1, .int o1].toArray s 0 0 (hw_A M s.heap.size) := ⟨_, rfl⟩
  rw [← hQ9]
  have w_md := hK.1
  have w_md : M md = some (.inr (8, [.int cd, .int (nI n), .ref kd, .ref on, .ref tw, .ref nu, .ref le, .ref fx, .ref fy, .ref si, .ref de, .ref ne, .ref it, .ref po, .ref ma, .ref ab, .ref be, .long up, .long dn, .ref li, .int pz, .ref fr, .ref to])) := w_md
  have T62 : ∀ (G9 : Int32), it_b G9 ((a1.toInt.natAbs ≤ 5 ∧ b1.toInt.natAbs ≤ 5 ∧ c1.toInt.natAbs ≤ 5) ∧ 0 ≤ o1.toInt ∧ o1.toInt ≤ 2) → ∀ (H : Heap) (locs : List Loc) (ls : Array Slot), hw_W D qcl (qty cI cJ cZ cN) (hw_A M s.heap.size) M s H → va_S (hw_A M s.heap.size) s.heap H locs → lv_has ls 6 [(5, .int G9), (0, .ref md), (1, .int a1), (2, .int b1), (3, .int c1), (4, .int o1)] → W p l e ({ frames := 1, cells := 0, slots := 0, locals := 40 }) s m [.ref md, .int a1, .int b1, .int c1, .int o1].toArray below meth c H locs 0 0 Q9 (F0 m 62 ls []) := by
    intro G9 hG H locs ls hW hS hl
    refine lv_aload_n hx hb d_Md_atom_62 rfl (lv_at hl 1 rfl) ?_
    refine lv_aload_n hx hb d_Md_atom_63 rfl (lv_at hl 1 rfl) ?_
    refine hw_get (own := "QuantifierOutModel") (v := .int (nI n)) hx hb hts i_Md hown hW w_md rfl 1 (by decide) (hts _ tw_604) (fun _ h9 => h9) rfl d_Md_atom_64 ?_
    refine lv_bipush (v := 60) hx hb d_Md_atom_67 (by decide) ?_
    refine lv_icmp_ne (tgt := 76) hx hb d_Md_atom_69 (by decide) (fun c_69 => ?_) (fun c_69 => ?_)
    · skip
      have hn60 : n < 60 := Nat.lt_of_le_of_ne hn (fun z => c_69 (by rw [z]; rfl))
      refine lv_iload hx hb d_Md_atom_76 (lv_at hl 0 rfl) ?_
      refine lv_if_eq (tgt := 85) hx hb d_Md_atom_78 (by decide) (fun c_78 => ?_) (fun c_78 => ?_)
      · skip
        refine lv_iconst (v := 2) hx hb d_Md_atom_85 (by decide) ?_
        refine hw_put (own := "QuantifierOutModel") (v := .int 2) (ty := .int) hx hb hts i_Md ft_Md tk_Md n_Md hown hW hS w_md rfl 0 (by decide) (hts _ tw_603) (fun _ h9 => h9) rfl (tk_Md 0 (by decide)) rfl rfl (Nat.le_of_ble_eq_true rfl) d_Md_atom_86 (fun H locs hW hS => ?_)
        have hW : hw_W D qcl (qty cI cJ cZ cN) _ (va_up M md (some (.inr (8, [.int 2, .int (nI n), .ref kd, .ref on, .ref tw, .ref nu, .ref le, .ref fx, .ref fy, .ref si, .ref de, .ref ne, .ref it, .ref po, .ref ma, .ref ab, .ref be, .long up, .long dn, .ref li, .int pz, .ref fr, .ref to])))) s H := hW
        generalize hMw1 : va_up M md (some (.inr (8, [.int 2, .int (nI n), .ref kd, .ref on, .ref tw, .ref nu, .ref le, .ref fx, .ref fy, .ref si, .ref de, .ref ne, .ref it, .ref po, .ref ma, .ref ab, .ref be, .long up, .long dn, .ref li, .int pz, .ref fr, .ref to]))) = Mw1 at hW
        have w_md : Mw1 md = some (.inr (8, [.int 2, .int (nI n), .ref kd, .ref on, .ref tw, .ref nu, .ref le, .ref fx, .ref fy, .ref si, .ref de, .ref ne, .ref it, .ref po, .ref ma, .ref ab, .ref be, .long up, .long dn, .ref li, .int pz, .ref fr, .ref to])) := by rw [← hMw1]; exact va_up_self _ _ _
        have hfr_Mw1 : ∀ x9, x9 ≠ md → Mw1 x9 = M x9 := fun x9 z9 => by rw [← hMw1, va_up_ne _ _ z9]
        refine lv_aload_n hx hb d_Md_atom_89 rfl (lv_at hl 1 rfl) ?_
        refine hw_get (own := "QuantifierOutModel") (v := .int 2) hx hb hts i_Md hown hW w_md rfl 0 (by decide) (hts _ tw_603) (fun _ h9 => h9) rfl d_Md_atom_90 ?_
        have hK1 : md_W cI cJ cZ md kd on tw nu le fx fy si de ne it po ma ab be li fr to Mw1 (nI 2) n up dn pz NE IT PO MA AB BE := md_W.cd hD hK w_md hfr_Mw1
        have hf1 : ∀ x9, x9 ≠ md → x9 ≠ ne → x9 ≠ it → x9 ≠ po → x9 ≠ ma → x9 ≠ ab → x9 ≠ be → Mw1 x9 = M x9 := fun x9 z0 z1 z2 z3 z4 z5 z6 => hfr_Mw1 x9 z0
        have hT1 := md_T.kept hD hT hf1
        have hL1 := md_L.kept hD hL hf1
        refine lv_if_le (tgt := 98) hx hb d_Md_atom_93 (by decide) (fun c_93 => ?_) (fun c_93 => ?_)
        · skip
          exact absurd c_93 (by decide)
        · skip
          refine lv_iconst (v := 0) hx hb d_Md_atom_96 (by decide) ?_
          rw [hQ9]
          exact hw_reti hx hb hr hlocks hW hS (md_N.no (by unfold cAtom; rw [if_neg (by omega), if_neg (it_b0 hG c_78)]) (by decide) ⟨up, dn, pz, NE, IT, PO, MA, AB, BE, st, mt, hK1, hT1, hM, hL1, hg⟩ (md_F.of hf1)) d_Md_atom_97
      · skip
        have hgd := it_b1 hG c_78
        refine lv_iconst (v := 0) hx hb d_Md_atom_81 (by decide) ?_
        refine lv_goto (tgt := 86) hx hb d_Md_atom_82 (by decide) ?_
        refine hw_put (own := "QuantifierOutModel") (v := .int 0) (ty := .int) hx hb hts i_Md ft_Md tk_Md n_Md hown hW hS w_md rfl 0 (by decide) (hts _ tw_603) (fun _ h9 => h9) rfl (tk_Md 0 (by decide)) rfl rfl (Nat.le_of_ble_eq_true rfl) d_Md_atom_86 (fun H locs hW hS => ?_)
        have hW : hw_W D qcl (qty cI cJ cZ cN) _ (va_up M md (some (.inr (8, [.int 0, .int (nI n), .ref kd, .ref on, .ref tw, .ref nu, .ref le, .ref fx, .ref fy, .ref si, .ref de, .ref ne, .ref it, .ref po, .ref ma, .ref ab, .ref be, .long up, .long dn, .ref li, .int pz, .ref fr, .ref to])))) s H := hW
        generalize hMw2 : va_up M md (some (.inr (8, [.int 0, .int (nI n), .ref kd, .ref on, .ref tw, .ref nu, .ref le, .ref fx, .ref fy, .ref si, .ref de, .ref ne, .ref it, .ref po, .ref ma, .ref ab, .ref be, .long up, .long dn, .ref li, .int pz, .ref fr, .ref to]))) = Mw2 at hW
        have w_md : Mw2 md = some (.inr (8, [.int 0, .int (nI n), .ref kd, .ref on, .ref tw, .ref nu, .ref le, .ref fx, .ref fy, .ref si, .ref de, .ref ne, .ref it, .ref po, .ref ma, .ref ab, .ref be, .long up, .long dn, .ref li, .int pz, .ref fr, .ref to])) := by rw [← hMw2]; exact va_up_self _ _ _
        have hfr_Mw2 : ∀ x9, x9 ≠ md → Mw2 x9 = M x9 := fun x9 z9 => by rw [← hMw2, va_up_ne _ _ z9]
        refine lv_aload_n hx hb d_Md_atom_89 rfl (lv_at hl 1 rfl) ?_
        refine hw_get (own := "QuantifierOutModel") (v := .int 0) hx hb hts i_Md hown hW w_md rfl 0 (by decide) (hts _ tw_603) (fun _ h9 => h9) rfl d_Md_atom_90 ?_
        have hK1 : md_W cI cJ cZ md kd on tw nu le fx fy si de ne it po ma ab be li fr to Mw2 (nI 0) n up dn pz NE IT PO MA AB BE := md_W.cd hD hK w_md hfr_Mw2
        have hf1 : ∀ x9, x9 ≠ md → x9 ≠ ne → x9 ≠ it → x9 ≠ po → x9 ≠ ma → x9 ≠ ab → x9 ≠ be → Mw2 x9 = M x9 := fun x9 z0 z1 z2 z3 z4 z5 z6 => hfr_Mw2 x9 z0
        have hT1 := md_T.kept hD hT hf1
        have hL1 := md_L.kept hD hL hf1
        refine lv_if_le (tgt := 98) hx hb d_Md_atom_93 (by decide) (fun c_93 => ?_) (fun c_93 => ?_)
        · skip
          have t1_nu : Mw2 nu = some (.inl (cI, 240, .inl (st 3))) := hT1.2.2.2.1
          refine lv_aload_n hx hb d_Md_atom_98 rfl (lv_at hl 1 rfl) ?_
          refine hw_get (own := "QuantifierOutModel") (v := .ref nu) hx hb hts i_Md hown hW w_md rfl 5 (by decide) (hts _ tw_608) (fun _ h9 => h9) rfl d_Md_atom_99 ?_
          refine lv_iconst (v := 4) hx hb d_Md_atom_102 (by decide) ?_
          refine lv_aload_n hx hb d_Md_atom_103 rfl (lv_at hl 1 rfl) ?_
          refine hw_get (own := "QuantifierOutModel") (v := .int (nI n)) hx hb hts i_Md hown hW w_md rfl 1 (by decide) (hts _ tw_604) (fun _ h9 => h9) rfl d_Md_atom_104 ?_
          refine lv_imul hx hb d_Md_atom_107 ?_
          refine lv_topi (fun x3 ex3 => ?_)
          refine lv_iload_n hx hb d_Md_atom_108 rfl (lv_at hl 2 rfl) ?_
          refine hw_ist hx hb hW hS 0 t1_nu rfl (4 * n) (by rw [ex3]; exact pk_mul 4 n) (by omega) (by decide) d_Md_atom_109 (fun H locs hW hS => ?_)
          have hW : hw_W D qcl (qty cI cJ cZ cN) _ (va_up Mw2 nu (some (.inl (cI, 240, .inl (upd (st 3) (4 * n) a1))))) s H := hW
          generalize hMw4 : va_up Mw2 nu (some (.inl (cI, 240, .inl (upd (st 3) (4 * n) a1)))) = Mw4 at hW
          have w_md : Mw4 md = some (.inr (8, [.int 0, .int (nI n), .ref kd, .ref on, .ref tw, .ref nu, .ref le, .ref fx, .ref fy, .ref si, .ref de, .ref ne, .ref it, .ref po, .ref ma, .ref ab, .ref be, .long up, .long dn, .ref li, .int pz, .ref fr, .ref to])) := by rw [← hMw4, va_up_ne _ _ (show md ≠ nu from hD 0 4 (by decide) (by decide))]; exact w_md
          have t1_nu : Mw4 nu = some (.inl (cI, 240, .inl (upd (st 3) (4 * n) a1))) := by rw [← hMw4]; exact va_up_self _ _ _
          have hfr_Mw4 : ∀ x9, x9 ≠ nu → Mw4 x9 = Mw2 x9 := fun x9 z9 => by rw [← hMw4, va_up_ne _ _ z9]
          refine lv_aload_n hx hb d_Md_atom_110 rfl (lv_at hl 1 rfl) ?_
          refine hw_get (own := "QuantifierOutModel") (v := .ref nu) hx hb hts i_Md hown hW w_md rfl 5 (by decide) (hts _ tw_608) (fun _ h9 => h9) rfl d_Md_atom_111 ?_
          refine lv_iconst (v := 4) hx hb d_Md_atom_114 (by decide) ?_
          refine lv_aload_n hx hb d_Md_atom_115 rfl (lv_at hl 1 rfl) ?_
          refine hw_get (own := "QuantifierOutModel") (v := .int (nI n)) hx hb hts i_Md hown hW w_md rfl 1 (by decide) (hts _ tw_604) (fun _ h9 => h9) rfl d_Md_atom_116 ?_
          refine lv_imul hx hb d_Md_atom_119 ?_
          refine lv_topi (fun x5 ex5 => ?_)
          refine lv_iconst (v := 1) hx hb d_Md_atom_120 (by decide) ?_
          refine lv_iadd hx hb d_Md_atom_121 ?_
          refine lv_topi (fun x6 ex6 => ?_)
          refine lv_iload_n hx hb d_Md_atom_122 rfl (lv_at hl 3 rfl) ?_
          refine hw_ist hx hb hW hS 0 t1_nu rfl (4 * n + 1) (by rw [ex6, ex5, show (4 : Int32) = nI 4 from rfl, pk_mul]; exact nI_add _ 1) (by omega) (by decide) d_Md_atom_123 (fun H locs hW hS => ?_)
          have hW : hw_W D qcl (qty cI cJ cZ cN) _ (va_up Mw4 nu (some (.inl (cI, 240, .inl (upd (upd (st 3) (4 * n) a1) (4 * n + 1) b1))))) s H := hW
          generalize hMw7 : va_up Mw4 nu (some (.inl (cI, 240, .inl (upd (upd (st 3) (4 * n) a1) (4 * n + 1) b1)))) = Mw7 at hW
          have w_md : Mw7 md = some (.inr (8, [.int 0, .int (nI n), .ref kd, .ref on, .ref tw, .ref nu, .ref le, .ref fx, .ref fy, .ref si, .ref de, .ref ne, .ref it, .ref po, .ref ma, .ref ab, .ref be, .long up, .long dn, .ref li, .int pz, .ref fr, .ref to])) := by rw [← hMw7, va_up_ne _ _ (show md ≠ nu from hD 0 4 (by decide) (by decide))]; exact w_md
          have t1_nu : Mw7 nu = some (.inl (cI, 240, .inl (upd (upd (st 3) (4 * n) a1) (4 * n + 1) b1))) := by rw [← hMw7]; exact va_up_self _ _ _
          have hfr_Mw7 : ∀ x9, x9 ≠ nu → Mw7 x9 = Mw4 x9 := fun x9 z9 => by rw [← hMw7, va_up_ne _ _ z9]
          refine lv_aload_n hx hb d_Md_atom_124 rfl (lv_at hl 1 rfl) ?_
          refine hw_get (own := "QuantifierOutModel") (v := .ref nu) hx hb hts i_Md hown hW w_md rfl 5 (by decide) (hts _ tw_608) (fun _ h9 => h9) rfl d_Md_atom_125 ?_
          refine lv_iconst (v := 4) hx hb d_Md_atom_128 (by decide) ?_
          refine lv_aload_n hx hb d_Md_atom_129 rfl (lv_at hl 1 rfl) ?_
          refine hw_get (own := "QuantifierOutModel") (v := .int (nI n)) hx hb hts i_Md hown hW w_md rfl 1 (by decide) (hts _ tw_604) (fun _ h9 => h9) rfl d_Md_atom_130 ?_
          refine lv_imul hx hb d_Md_atom_133 ?_
          refine lv_topi (fun x8 ex8 => ?_)
          refine lv_iconst (v := 2) hx hb d_Md_atom_134 (by decide) ?_
          refine lv_iadd hx hb d_Md_atom_135 ?_
          refine lv_topi (fun x9 ex9 => ?_)
          refine lv_iload_n hx hb d_Md_atom_136 rfl (lv_at hl 4 rfl) ?_
          refine hw_ist hx hb hW hS 0 t1_nu rfl (4 * n + 2) (by rw [ex9, ex8, show (4 : Int32) = nI 4 from rfl, pk_mul]; exact nI_add _ 2) (by omega) (by decide) d_Md_atom_137 (fun H locs hW hS => ?_)
          have hW : hw_W D qcl (qty cI cJ cZ cN) _ (va_up Mw7 nu (some (.inl (cI, 240, .inl (upd (upd (upd (st 3) (4 * n) a1) (4 * n + 1) b1) (4 * n + 2) c1))))) s H := hW
          generalize hMw10 : va_up Mw7 nu (some (.inl (cI, 240, .inl (upd (upd (upd (st 3) (4 * n) a1) (4 * n + 1) b1) (4 * n + 2) c1)))) = Mw10 at hW
          have w_md : Mw10 md = some (.inr (8, [.int 0, .int (nI n), .ref kd, .ref on, .ref tw, .ref nu, .ref le, .ref fx, .ref fy, .ref si, .ref de, .ref ne, .ref it, .ref po, .ref ma, .ref ab, .ref be, .long up, .long dn, .ref li, .int pz, .ref fr, .ref to])) := by rw [← hMw10, va_up_ne _ _ (show md ≠ nu from hD 0 4 (by decide) (by decide))]; exact w_md
          have t1_nu : Mw10 nu = some (.inl (cI, 240, .inl (upd (upd (upd (st 3) (4 * n) a1) (4 * n + 1) b1) (4 * n + 2) c1))) := by rw [← hMw10]; exact va_up_self _ _ _
          have hfr_Mw10 : ∀ x9, x9 ≠ nu → Mw10 x9 = Mw7 x9 := fun x9 z9 => by rw [← hMw10, va_up_ne _ _ z9]
          refine lv_aload_n hx hb d_Md_atom_138 rfl (lv_at hl 1 rfl) ?_
          refine hw_get (own := "QuantifierOutModel") (v := .ref nu) hx hb hts i_Md hown hW w_md rfl 5 (by decide) (hts _ tw_608) (fun _ h9 => h9) rfl d_Md_atom_139 ?_
          refine lv_iconst (v := 4) hx hb d_Md_atom_142 (by decide) ?_
          refine lv_aload_n hx hb d_Md_atom_143 rfl (lv_at hl 1 rfl) ?_
          refine hw_get (own := "QuantifierOutModel") (v := .int (nI n)) hx hb hts i_Md hown hW w_md rfl 1 (by decide) (hts _ tw_604) (fun _ h9 => h9) rfl d_Md_atom_144 ?_
          refine lv_imul hx hb d_Md_atom_147 ?_
          refine lv_topi (fun x11 ex11 => ?_)
          refine lv_iconst (v := 3) hx hb d_Md_atom_148 (by decide) ?_
          refine lv_iadd hx hb d_Md_atom_149 ?_
          refine lv_topi (fun x12 ex12 => ?_)
          refine lv_iload hx hb d_Md_atom_150 (lv_at hl 5 rfl) ?_
          refine hw_ist hx hb hW hS 0 t1_nu rfl (4 * n + 3) (by rw [ex12, ex11, show (4 : Int32) = nI 4 from rfl, pk_mul]; exact nI_add _ 3) (by omega) (by decide) d_Md_atom_152 (fun H locs hW hS => ?_)
          have hW : hw_W D qcl (qty cI cJ cZ cN) _ (va_up Mw10 nu (some (.inl (cI, 240, .inl (upd (upd (upd (upd (st 3) (4 * n) a1) (4 * n + 1) b1) (4 * n + 2) c1) (4 * n + 3) o1))))) s H := hW
          generalize hMw13 : va_up Mw10 nu (some (.inl (cI, 240, .inl (upd (upd (upd (upd (st 3) (4 * n) a1) (4 * n + 1) b1) (4 * n + 2) c1) (4 * n + 3) o1)))) = Mw13 at hW
          have w_md : Mw13 md = some (.inr (8, [.int 0, .int (nI n), .ref kd, .ref on, .ref tw, .ref nu, .ref le, .ref fx, .ref fy, .ref si, .ref de, .ref ne, .ref it, .ref po, .ref ma, .ref ab, .ref be, .long up, .long dn, .ref li, .int pz, .ref fr, .ref to])) := by rw [← hMw13, va_up_ne _ _ (show md ≠ nu from hD 0 4 (by decide) (by decide))]; exact w_md
          have t1_nu : Mw13 nu = some (.inl (cI, 240, .inl (upd (upd (upd (upd (st 3) (4 * n) a1) (4 * n + 1) b1) (4 * n + 2) c1) (4 * n + 3) o1))) := by rw [← hMw13]; exact va_up_self _ _ _
          have hfr_Mw13 : ∀ x9, x9 ≠ nu → Mw13 x9 = Mw10 x9 := fun x9 z9 => by rw [← hMw13, va_up_ne _ _ z9]
          have hK2 : md_W cI cJ cZ md kd on tw nu le fx fy si de ne it po ma ab be li fr to Mw13 (nI 0) n up dn pz NE IT PO MA AB BE := ⟨(((((hfr_Mw13 md (show md ≠ nu from hD 0 4 (by decide) (by decide)))).trans (hfr_Mw10 md (show md ≠ nu from hD 0 4 (by decide) (by decide)))).trans (hfr_Mw7 md (show md ≠ nu from hD 0 4 (by decide) (by decide)))).trans (hfr_Mw4 md (show md ≠ nu from hD 0 4 (by decide) (by decide)))).trans hK1.1, (((((hfr_Mw13 ne (Ne.symm (show nu ≠ ne from hD 4 10 (by decide) (by decide))))).trans (hfr_Mw10 ne (Ne.symm (show nu ≠ ne from hD 4 10 (by decide) (by decide))))).trans (hfr_Mw7 ne (Ne.symm (show nu ≠ ne from hD 4 10 (by decide) (by decide))))).trans (hfr_Mw4 ne (Ne.symm (show nu ≠ ne from hD 4 10 (by decide) (by decide))))).trans hK1.2.1, (((((hfr_Mw13 it (Ne.symm (show nu ≠ it from hD 4 11 (by decide) (by decide))))).trans (hfr_Mw10 it (Ne.symm (show nu ≠ it from hD 4 11 (by decide) (by decide))))).trans (hfr_Mw7 it (Ne.symm (show nu ≠ it from hD 4 11 (by decide) (by decide))))).trans (hfr_Mw4 it (Ne.symm (show nu ≠ it from hD 4 11 (by decide) (by decide))))).trans hK1.2.2.1, (((((hfr_Mw13 po (Ne.symm (show nu ≠ po from hD 4 12 (by decide) (by decide))))).trans (hfr_Mw10 po (Ne.symm (show nu ≠ po from hD 4 12 (by decide) (by decide))))).trans (hfr_Mw7 po (Ne.symm (show nu ≠ po from hD 4 12 (by decide) (by decide))))).trans (hfr_Mw4 po (Ne.symm (show nu ≠ po from hD 4 12 (by decide) (by decide))))).trans hK1.2.2.2.1, (((((hfr_Mw13 ma (Ne.symm (show nu ≠ ma from hD 4 13 (by decide) (by decide))))).trans (hfr_Mw10 ma (Ne.symm (show nu ≠ ma from hD 4 13 (by decide) (by decide))))).trans (hfr_Mw7 ma (Ne.symm (show nu ≠ ma from hD 4 13 (by decide) (by decide))))).trans (hfr_Mw4 ma (Ne.symm (show nu ≠ ma from hD 4 13 (by decide) (by decide))))).trans hK1.2.2.2.2.1, (((((hfr_Mw13 ab (Ne.symm (show nu ≠ ab from hD 4 14 (by decide) (by decide))))).trans (hfr_Mw10 ab (Ne.symm (show nu ≠ ab from hD 4 14 (by decide) (by decide))))).trans (hfr_Mw7 ab (Ne.symm (show nu ≠ ab from hD 4 14 (by decide) (by decide))))).trans (hfr_Mw4 ab (Ne.symm (show nu ≠ ab from hD 4 14 (by decide) (by decide))))).trans hK1.2.2.2.2.2.1, (((((hfr_Mw13 be (Ne.symm (show nu ≠ be from hD 4 15 (by decide) (by decide))))).trans (hfr_Mw10 be (Ne.symm (show nu ≠ be from hD 4 15 (by decide) (by decide))))).trans (hfr_Mw7 be (Ne.symm (show nu ≠ be from hD 4 15 (by decide) (by decide))))).trans (hfr_Mw4 be (Ne.symm (show nu ≠ be from hD 4 15 (by decide) (by decide))))).trans hK1.2.2.2.2.2.2⟩
          have hT2 : md_T cI cZ kd on tw nu le fx fy si de Mw13 (nu_st st (nu4 (st 3) n a1 b1 c1 o1)) := ⟨(((((hfr_Mw13 kd (show kd ≠ nu from hD 1 4 (by decide) (by decide)))).trans (hfr_Mw10 kd (show kd ≠ nu from hD 1 4 (by decide) (by decide)))).trans (hfr_Mw7 kd (show kd ≠ nu from hD 1 4 (by decide) (by decide)))).trans (hfr_Mw4 kd (show kd ≠ nu from hD 1 4 (by decide) (by decide)))).trans hT1.1, (((((hfr_Mw13 on (show on ≠ nu from hD 2 4 (by decide) (by decide)))).trans (hfr_Mw10 on (show on ≠ nu from hD 2 4 (by decide) (by decide)))).trans (hfr_Mw7 on (show on ≠ nu from hD 2 4 (by decide) (by decide)))).trans (hfr_Mw4 on (show on ≠ nu from hD 2 4 (by decide) (by decide)))).trans hT1.2.1, (((((hfr_Mw13 tw (show tw ≠ nu from hD 3 4 (by decide) (by decide)))).trans (hfr_Mw10 tw (show tw ≠ nu from hD 3 4 (by decide) (by decide)))).trans (hfr_Mw7 tw (show tw ≠ nu from hD 3 4 (by decide) (by decide)))).trans (hfr_Mw4 tw (show tw ≠ nu from hD 3 4 (by decide) (by decide)))).trans hT1.2.2.1, t1_nu, (((((hfr_Mw13 le (Ne.symm (show nu ≠ le from hD 4 5 (by decide) (by decide))))).trans (hfr_Mw10 le (Ne.symm (show nu ≠ le from hD 4 5 (by decide) (by decide))))).trans (hfr_Mw7 le (Ne.symm (show nu ≠ le from hD 4 5 (by decide) (by decide))))).trans (hfr_Mw4 le (Ne.symm (show nu ≠ le from hD 4 5 (by decide) (by decide))))).trans hT1.2.2.2.2.1, (((((hfr_Mw13 fx (Ne.symm (show nu ≠ fx from hD 4 6 (by decide) (by decide))))).trans (hfr_Mw10 fx (Ne.symm (show nu ≠ fx from hD 4 6 (by decide) (by decide))))).trans (hfr_Mw7 fx (Ne.symm (show nu ≠ fx from hD 4 6 (by decide) (by decide))))).trans (hfr_Mw4 fx (Ne.symm (show nu ≠ fx from hD 4 6 (by decide) (by decide))))).trans hT1.2.2.2.2.2.1, (((((hfr_Mw13 fy (Ne.symm (show nu ≠ fy from hD 4 7 (by decide) (by decide))))).trans (hfr_Mw10 fy (Ne.symm (show nu ≠ fy from hD 4 7 (by decide) (by decide))))).trans (hfr_Mw7 fy (Ne.symm (show nu ≠ fy from hD 4 7 (by decide) (by decide))))).trans (hfr_Mw4 fy (Ne.symm (show nu ≠ fy from hD 4 7 (by decide) (by decide))))).trans hT1.2.2.2.2.2.2.1, (((((hfr_Mw13 si (Ne.symm (show nu ≠ si from hD 4 8 (by decide) (by decide))))).trans (hfr_Mw10 si (Ne.symm (show nu ≠ si from hD 4 8 (by decide) (by decide))))).trans (hfr_Mw7 si (Ne.symm (show nu ≠ si from hD 4 8 (by decide) (by decide))))).trans (hfr_Mw4 si (Ne.symm (show nu ≠ si from hD 4 8 (by decide) (by decide))))).trans hT1.2.2.2.2.2.2.2.1, (((((hfr_Mw13 de (Ne.symm (show nu ≠ de from hD 4 9 (by decide) (by decide))))).trans (hfr_Mw10 de (Ne.symm (show nu ≠ de from hD 4 9 (by decide) (by decide))))).trans (hfr_Mw7 de (Ne.symm (show nu ≠ de from hD 4 9 (by decide) (by decide))))).trans (hfr_Mw4 de (Ne.symm (show nu ≠ de from hD 4 9 (by decide) (by decide))))).trans hT1.2.2.2.2.2.2.2.2⟩
          have hL2 := md_L.k3 hL1 (((((hfr_Mw13 li (Ne.symm (show nu ≠ li from hD 4 16 (by decide) (by decide))))).trans (hfr_Mw10 li (Ne.symm (show nu ≠ li from hD 4 16 (by decide) (by decide))))).trans (hfr_Mw7 li (Ne.symm (show nu ≠ li from hD 4 16 (by decide) (by decide))))).trans (hfr_Mw4 li (Ne.symm (show nu ≠ li from hD 4 16 (by decide) (by decide))))) (((((hfr_Mw13 fr (Ne.symm (show nu ≠ fr from hD 4 17 (by decide) (by decide))))).trans (hfr_Mw10 fr (Ne.symm (show nu ≠ fr from hD 4 17 (by decide) (by decide))))).trans (hfr_Mw7 fr (Ne.symm (show nu ≠ fr from hD 4 17 (by decide) (by decide))))).trans (hfr_Mw4 fr (Ne.symm (show nu ≠ fr from hD 4 17 (by decide) (by decide))))) (((((hfr_Mw13 to (Ne.symm (show nu ≠ to from hD 4 18 (by decide) (by decide))))).trans (hfr_Mw10 to (Ne.symm (show nu ≠ to from hD 4 18 (by decide) (by decide))))).trans (hfr_Mw7 to (Ne.symm (show nu ≠ to from hD 4 18 (by decide) (by decide))))).trans (hfr_Mw4 to (Ne.symm (show nu ≠ to from hD 4 18 (by decide) (by decide)))))
          have hF2 : md_F md kd on tw nu le fx fy si de ne it po ma ab be li fr to M Mw13 := md_F.tr (md_F.of hf1) (fun x9 hx9 => ((((hfr_Mw13 x9 (hx9 4 (by decide)))).trans (hfr_Mw10 x9 (hx9 4 (by decide)))).trans (hfr_Mw7 x9 (hx9 4 (by decide)))).trans (hfr_Mw4 x9 (hx9 4 (by decide))))
          refine lv_aload_n hx hb d_Md_atom_153 rfl (lv_at hl 1 rfl) ?_
          refine lv_iconst (v := 0) hx hb d_Md_atom_154 (by decide) ?_
          refine lv_iconst (v := (-1)) hx hb d_Md_atom_155 (by decide) ?_
          refine lv_iconst (v := (-1)) hx hb d_Md_atom_156 (by decide) ?_
          refine hw_calli (hw_runV (n := 3) (own := "QuantifierOutModel") (As := [.int 0, .int (-1), .int (-1)]) (rest := []) hx hb hml hown hts hX hW hl.1 (c_Md_addA l D cI cJ cZ cN md kd on tw nu le fx fy si de ne it po ma ab be li fr to (nI 0) n up dn pz NE IT PO MA AB BE _ _ Mw13 hD hK2 hT2 hn60) hK2.1 rfl tw_688 tw_690 ts_11 tw_5 tw_691 (by decide +kernel) rfl rfl ⟨by decide, by decide⟩ rfl rfl (Nat.le_of_ble_eq_true rfl) d_Md_atom_157 ⟨by decide, by decide⟩) hW hS hA (fun ra Ma H locs hpa hz hW hS => ?_)
          obtain ⟨hra, hK3, hT3, hfa⟩ := hpa
          have hL3 := md_L.k3 hL2 (hfa li (Ne.symm (show md ≠ li from hD 0 16 (by decide) (by decide))) (Ne.symm (show kd ≠ li from hD 1 16 (by decide) (by decide))) (Ne.symm (show on ≠ li from hD 2 16 (by decide) (by decide))) (Ne.symm (show tw ≠ li from hD 3 16 (by decide) (by decide))) (Ne.symm (show fx ≠ li from hD 6 16 (by decide) (by decide))) (Ne.symm (show fy ≠ li from hD 7 16 (by decide) (by decide))) (Ne.symm (show si ≠ li from hD 8 16 (by decide) (by decide))) (Ne.symm (show de ≠ li from hD 9 16 (by decide) (by decide)))) (hfa fr (Ne.symm (show md ≠ fr from hD 0 17 (by decide) (by decide))) (Ne.symm (show kd ≠ fr from hD 1 17 (by decide) (by decide))) (Ne.symm (show on ≠ fr from hD 2 17 (by decide) (by decide))) (Ne.symm (show tw ≠ fr from hD 3 17 (by decide) (by decide))) (Ne.symm (show fx ≠ fr from hD 6 17 (by decide) (by decide))) (Ne.symm (show fy ≠ fr from hD 7 17 (by decide) (by decide))) (Ne.symm (show si ≠ fr from hD 8 17 (by decide) (by decide))) (Ne.symm (show de ≠ fr from hD 9 17 (by decide) (by decide)))) (hfa to (Ne.symm (show md ≠ to from hD 0 18 (by decide) (by decide))) (Ne.symm (show kd ≠ to from hD 1 18 (by decide) (by decide))) (Ne.symm (show on ≠ to from hD 2 18 (by decide) (by decide))) (Ne.symm (show tw ≠ to from hD 3 18 (by decide) (by decide))) (Ne.symm (show fx ≠ to from hD 6 18 (by decide) (by decide))) (Ne.symm (show fy ≠ to from hD 7 18 (by decide) (by decide))) (Ne.symm (show si ≠ to from hD 8 18 (by decide) (by decide))) (Ne.symm (show de ≠ to from hD 9 18 (by decide) (by decide))))
          have hF3 : md_F md kd on tw nu le fx fy si de ne it po ma ab be li fr to Mw13 Ma := fun x9 hx9 => hfa x9 (hx9 0 (by decide)) (hx9 1 (by decide)) (hx9 2 (by decide)) (hx9 3 (by decide)) (hx9 6 (by decide)) (hx9 7 (by decide)) (hx9 8 (by decide)) (hx9 9 (by decide))
          have ho := ix_of (n := 3) (by decide) (p := o1) ⟨hgd.2.1, by omega⟩
          have hM3 := mt_add (q := qAtom n a1 b1 c1 o1) hM hn60 rfl (mo_atom ho.1 hgd.1) (mc_atom ho.2) (fun a i h3 hi => (ad_old (by omega)).trans (by rw [nu_ne h3])) (fun i hi => by show nu4 (st 3) n a1 b1 c1 o1 i = st 3 i; unfold nu4; rw [pk_un (by omega), pk_un (by omega), pk_un (by omega), pk_un (by omega)])
          rw [hQ9]
          exact hw_reti hx hb hr hlocks hW hS (md_N.yes (by unfold cAtom; rw [if_neg (by omega), if_pos hgd]) hn60 hra (md_J.add hK3 hT3 hM3 hL3 hg rfl) (md_F.tr hF2 hF3)) d_Md_atom_160
        · skip
          exact absurd (by decide) c_93
    · skip
      have hn60 : n = 60 := (nI_eq (b := 60) (by omega) (by omega)).mp c_69
      refine lv_iconst (v := 1) hx hb d_Md_atom_72 (by decide) ?_
      refine lv_goto (tgt := 86) hx hb d_Md_atom_73 (by decide) ?_
      refine hw_put (own := "QuantifierOutModel") (v := .int 1) (ty := .int) hx hb hts i_Md ft_Md tk_Md n_Md hown hW hS w_md rfl 0 (by decide) (hts _ tw_603) (fun _ h9 => h9) rfl (tk_Md 0 (by decide)) rfl rfl (Nat.le_of_ble_eq_true rfl) d_Md_atom_86 (fun H locs hW hS => ?_)
      have hW : hw_W D qcl (qty cI cJ cZ cN) _ (va_up M md (some (.inr (8, [.int 1, .int (nI n), .ref kd, .ref on, .ref tw, .ref nu, .ref le, .ref fx, .ref fy, .ref si, .ref de, .ref ne, .ref it, .ref po, .ref ma, .ref ab, .ref be, .long up, .long dn, .ref li, .int pz, .ref fr, .ref to])))) s H := hW
      generalize hMw14 : va_up M md (some (.inr (8, [.int 1, .int (nI n), .ref kd, .ref on, .ref tw, .ref nu, .ref le, .ref fx, .ref fy, .ref si, .ref de, .ref ne, .ref it, .ref po, .ref ma, .ref ab, .ref be, .long up, .long dn, .ref li, .int pz, .ref fr, .ref to]))) = Mw14 at hW
      have w_md : Mw14 md = some (.inr (8, [.int 1, .int (nI n), .ref kd, .ref on, .ref tw, .ref nu, .ref le, .ref fx, .ref fy, .ref si, .ref de, .ref ne, .ref it, .ref po, .ref ma, .ref ab, .ref be, .long up, .long dn, .ref li, .int pz, .ref fr, .ref to])) := by rw [← hMw14]; exact va_up_self _ _ _
      have hfr_Mw14 : ∀ x9, x9 ≠ md → Mw14 x9 = M x9 := fun x9 z9 => by rw [← hMw14, va_up_ne _ _ z9]
      refine lv_aload_n hx hb d_Md_atom_89 rfl (lv_at hl 1 rfl) ?_
      refine hw_get (own := "QuantifierOutModel") (v := .int 1) hx hb hts i_Md hown hW w_md rfl 0 (by decide) (hts _ tw_603) (fun _ h9 => h9) rfl d_Md_atom_90 ?_
      have hK1 : md_W cI cJ cZ md kd on tw nu le fx fy si de ne it po ma ab be li fr to Mw14 (nI 1) n up dn pz NE IT PO MA AB BE := md_W.cd hD hK w_md hfr_Mw14
      have hf1 : ∀ x9, x9 ≠ md → x9 ≠ ne → x9 ≠ it → x9 ≠ po → x9 ≠ ma → x9 ≠ ab → x9 ≠ be → Mw14 x9 = M x9 := fun x9 z0 z1 z2 z3 z4 z5 z6 => hfr_Mw14 x9 z0
      have hT1 := md_T.kept hD hT hf1
      have hL1 := md_L.kept hD hL hf1
      refine lv_if_le (tgt := 98) hx hb d_Md_atom_93 (by decide) (fun c_93 => ?_) (fun c_93 => ?_)
      · skip
        exact absurd c_93 (by decide)
      · skip
        refine lv_iconst (v := 0) hx hb d_Md_atom_96 (by decide) ?_
        rw [hQ9]
        exact hw_reti hx hb hr hlocks hW hS (md_N.no (by unfold cAtom; rw [if_pos hn60]) (by decide) ⟨up, dn, pz, NE, IT, PO, MA, AB, BE, st, mt, hK1, hT1, hM, hL1, hg⟩ (md_F.of hf1)) d_Md_atom_97
  refine lv_iload_n hx hb d_Md_atom_0 rfl (lv_at hl 1 rfl) ?_
  obtain ⟨x15, ex15⟩ : ∃ y9 : Int64, y9 = (a1 : Int32).toInt64 := ⟨_, rfl⟩
  refine lv_i2l (v := x15) hx hb d_Md_atom_1 ex15.symm ?_
  refine lv_ldc2 (own := "QuantifierOutModel") (v := (-5)) hx hb hown (hts _ tw_682) d_Md_atom_2 ?_
  refine lv_ldc2 (own := "QuantifierOutModel") (v := 5) hx hb hown (hts _ tw_683) d_Md_atom_5 ?_
  refine hw_calli (hw_runS (n := 3) (own := "QuantifierOutModel") (As := [.long x15, .long (-5), .long 5]) (rest := []) hx hb hml hown hts hX hW hl.1 (c_Md_in l D cI cJ cZ cN x15 (-5) 5 _ M) tw_684 tw_685 tw_5 tw_686 (by decide +kernel) rfl rfl ⟨by decide, by decide⟩ rfl rfl (Nat.le_of_ble_eq_true rfl) d_Md_atom_8 ⟨by decide, by decide⟩) hW hS hA (fun r09 Mi9 H locs hpi hz hW hS => ?_)
  obtain ⟨hb_r09, eMi9⟩ := hpi
  rw [eMi9] at hW
  have g09 : it_b r09 (a1.toInt.natAbs ≤ 5) := it_c hb_r09 (by rw [ex15, nm_i2l, show ((-5) : Int64).toInt = (-5) from rfl, show (5 : Int64).toInt = 5 from rfl] <;> omega)
  refine lv_if_eq (tgt := 59) hx hb d_Md_atom_11 (by decide) (fun c_11 => ?_) (fun c_11 => ?_)
  · skip
    refine lv_iconst (v := 0) hx hb d_Md_atom_59 (by decide) ?_
    refine lv_istore (lv' := [(5, .int 0), (0, .ref md), (1, .int a1), (2, .int b1), (3, .int c1), (4, .int o1)]) hx hb d_Md_atom_60 hl (by decide) rfl (fun ls hl => ?_)
    exact T62 0 (Or.inr ⟨rfl, fun z => it_b0 g09 c_11 z.1.1⟩) H locs ls hW hS (lv_sub hl [0, 1, 2, 3, 4, 5] rfl)
  · skip
    have k09 := it_b1 g09 c_11
    refine lv_iload_n hx hb d_Md_atom_14 rfl (lv_at hl 2 rfl) ?_
    obtain ⟨x16, ex16⟩ : ∃ y9 : Int64, y9 = (b1 : Int32).toInt64 := ⟨_, rfl⟩
    refine lv_i2l (v := x16) hx hb d_Md_atom_15 ex16.symm ?_
    refine lv_ldc2 (own := "QuantifierOutModel") (v := (-5)) hx hb hown (hts _ tw_682) d_Md_atom_16 ?_
    refine lv_ldc2 (own := "QuantifierOutModel") (v := 5) hx hb hown (hts _ tw_683) d_Md_atom_19 ?_
    refine hw_calli (hw_runS (n := 3) (own := "QuantifierOutModel") (As := [.long x16, .long (-5), .long 5]) (rest := []) hx hb hml hown hts hX hW hl.1 (c_Md_in l D cI cJ cZ cN x16 (-5) 5 _ M) tw_684 tw_685 tw_5 tw_686 (by decide +kernel) rfl rfl ⟨by decide, by decide⟩ rfl rfl (Nat.le_of_ble_eq_true rfl) d_Md_atom_22 ⟨by decide, by decide⟩) hW hS hA (fun r19 Mi9 H locs hpi hz hW hS => ?_)
    obtain ⟨hb_r19, eMi9⟩ := hpi
    rw [eMi9] at hW
    have g19 : it_b r19 (b1.toInt.natAbs ≤ 5) := it_c hb_r19 (by rw [ex16, nm_i2l, show ((-5) : Int64).toInt = (-5) from rfl, show (5 : Int64).toInt = 5 from rfl] <;> omega)
    refine lv_if_eq (tgt := 59) hx hb d_Md_atom_25 (by decide) (fun c_25 => ?_) (fun c_25 => ?_)
    · skip
      refine lv_iconst (v := 0) hx hb d_Md_atom_59 (by decide) ?_
      refine lv_istore (lv' := [(5, .int 0), (0, .ref md), (1, .int a1), (2, .int b1), (3, .int c1), (4, .int o1)]) hx hb d_Md_atom_60 hl (by decide) rfl (fun ls hl => ?_)
      exact T62 0 (Or.inr ⟨rfl, fun z => it_b0 g19 c_25 z.1.2.1⟩) H locs ls hW hS (lv_sub hl [0, 1, 2, 3, 4, 5] rfl)
    · skip
      have k19 := it_b1 g19 c_25
      refine lv_iload_n hx hb d_Md_atom_28 rfl (lv_at hl 3 rfl) ?_
      obtain ⟨x17, ex17⟩ : ∃ y9 : Int64, y9 = (c1 : Int32).toInt64 := ⟨_, rfl⟩
      refine lv_i2l (v := x17) hx hb d_Md_atom_29 ex17.symm ?_
      refine lv_ldc2 (own := "QuantifierOutModel") (v := (-5)) hx hb hown (hts _ tw_682) d_Md_atom_30 ?_
      refine lv_ldc2 (own := "QuantifierOutModel") (v := 5) hx hb hown (hts _ tw_683) d_Md_atom_33 ?_
      refine hw_calli (hw_runS (n := 3) (own := "QuantifierOutModel") (As := [.long x17, .long (-5), .long 5]) (rest := []) hx hb hml hown hts hX hW hl.1 (c_Md_in l D cI cJ cZ cN x17 (-5) 5 _ M) tw_684 tw_685 tw_5 tw_686 (by decide +kernel) rfl rfl ⟨by decide, by decide⟩ rfl rfl (Nat.le_of_ble_eq_true rfl) d_Md_atom_36 ⟨by decide, by decide⟩) hW hS hA (fun r29 Mi9 H locs hpi hz hW hS => ?_)
      obtain ⟨hb_r29, eMi9⟩ := hpi
      rw [eMi9] at hW
      have g29 : it_b r29 (c1.toInt.natAbs ≤ 5) := it_c hb_r29 (by rw [ex17, nm_i2l, show ((-5) : Int64).toInt = (-5) from rfl, show (5 : Int64).toInt = 5 from rfl] <;> omega)
      refine lv_if_eq (tgt := 59) hx hb d_Md_atom_39 (by decide) (fun c_39 => ?_) (fun c_39 => ?_)
      · skip
        refine lv_iconst (v := 0) hx hb d_Md_atom_59 (by decide) ?_
        refine lv_istore (lv' := [(5, .int 0), (0, .ref md), (1, .int a1), (2, .int b1), (3, .int c1), (4, .int o1)]) hx hb d_Md_atom_60 hl (by decide) rfl (fun ls hl => ?_)
        exact T62 0 (Or.inr ⟨rfl, fun z => it_b0 g29 c_39 z.1.2.2⟩) H locs ls hW hS (lv_sub hl [0, 1, 2, 3, 4, 5] rfl)
      · skip
        have k29 := it_b1 g29 c_39
        refine lv_iload hx hb d_Md_atom_42 (lv_at hl 4 rfl) ?_
        obtain ⟨x18, ex18⟩ : ∃ y9 : Int64, y9 = (o1 : Int32).toInt64 := ⟨_, rfl⟩
        refine lv_i2l (v := x18) hx hb d_Md_atom_44 ex18.symm ?_
        refine lv_lconst (v := 0) hx hb d_Md_atom_45 (by decide) ?_
        refine lv_ldc2 (own := "QuantifierOutModel") (v := 2) hx hb hown (hts _ tw_687) d_Md_atom_46 ?_
        refine hw_calli (hw_runS (n := 3) (own := "QuantifierOutModel") (As := [.long x18, .long 0, .long 2]) (rest := []) hx hb hml hown hts hX hW hl.1 (c_Md_in l D cI cJ cZ cN x18 0 2 _ M) tw_684 tw_685 tw_5 tw_686 (by decide +kernel) rfl rfl ⟨by decide, by decide⟩ rfl rfl (Nat.le_of_ble_eq_true rfl) d_Md_atom_49 ⟨by decide, by decide⟩) hW hS hA (fun r39 Mi9 H locs hpi hz hW hS => ?_)
        obtain ⟨hb_r39, eMi9⟩ := hpi
        rw [eMi9] at hW
        have g39 : it_b r39 (0 ≤ o1.toInt ∧ o1.toInt ≤ 2) := it_c hb_r39 (by rw [ex18, nm_i2l, show (0 : Int64).toInt = 0 from rfl, show (2 : Int64).toInt = 2 from rfl] <;> omega)
        refine lv_if_eq (tgt := 59) hx hb d_Md_atom_52 (by decide) (fun c_52 => ?_) (fun c_52 => ?_)
        · skip
          refine lv_iconst (v := 0) hx hb d_Md_atom_59 (by decide) ?_
          refine lv_istore (lv' := [(5, .int 0), (0, .ref md), (1, .int a1), (2, .int b1), (3, .int c1), (4, .int o1)]) hx hb d_Md_atom_60 hl (by decide) rfl (fun ls hl => ?_)
          exact T62 0 (Or.inr ⟨rfl, fun z => it_b0 g39 c_52 z.2⟩) H locs ls hW hS (lv_sub hl [0, 1, 2, 3, 4, 5] rfl)
        · skip
          have k39 := it_b1 g39 c_52
          refine lv_iconst (v := 1) hx hb d_Md_atom_55 (by decide) ?_
          refine lv_goto (tgt := 60) hx hb d_Md_atom_56 (by decide) ?_
          refine lv_istore (lv' := [(5, .int 1), (0, .ref md), (1, .int a1), (2, .int b1), (3, .int c1), (4, .int o1)]) hx hb d_Md_atom_60 hl (by decide) rfl (fun ls hl => ?_)
          exact T62 1 (Or.inl ⟨rfl, ⟨k09, k19, k29⟩, k39⟩) H locs ls hW hS (lv_sub hl [0, 1, 2, 3, 4, 5] rfl)
set_option maxHeartbeats 4000000 in
set_option maxRecDepth 100000 in
theorem c_Md_pair (cd : Int32) (n : Nat) (g : Nat → abn) (sz : Nat) (M : Nat → Option va_E) (hD : md_D md kd on tw nu le fx fy si de ne it po ma ab be li fr to) (hJ : md_J cI cJ cZ md kd on tw nu le fx fy si de ne it po ma ab be li fr to M cd n g) (kI x1 y1 : Int32) (kk : Bool) (hkI : kI = if kk = true then 1 else 2) : Met l y_Md_pair (.code y_Md_pair b_Md_pair 4 (some .int) :: ww) ({ frames := 2, cells := 0, slots := 0, locals := 60 }) (hw_Pc D qcl (qty cI cJ cZ cN) [.ref md, .int kI, .int x1, .int y1] M sz) (va_Qi (fun r M1 => md_N cI cJ cZ md kd on tw nu le fx fy si de ne it po ma ab be li fr to n g (cPair n g x1 y1) (gPair kk (g (ix x1)) (g (ix y1))) M r M1) (hw_B D qcl (qty cI cJ cZ cN) M sz) (hw_A M sz)) 0 0 (hw_A M sz) := by
  obtain ⟨up, dn, pz, NE, IT, PO, MA, AB, BE, st, mt, hK, hT, hM, hL, hg⟩ := hJ
  have hn := hM.1
  refine hw_met (by decide) (Nat.le_of_ble_eq_true rfl) ?_
  intro p e s m below meth c hx hb hr hml hown hlocks hnm hts hsz hX hW ls hl
  subst hsz
  have hA : ∀ q, s.heap.size ≤ q → hw_A M s.heap.size q := fun q h => Or.inr h
  have hS : va_S (hw_A M s.heap.size) s.heap s.heap [] := va_S.rf
  have hl : lv_has ls 4 [(0, .ref md), (1, .int kI), (2, .int x1), (3, .int y1)] := hl
  have hown : s.vm.findClass "QuantifierOutModel" = some m.cls := hown
  obtain ⟨Q9, hQ9⟩ : ∃ X : State → Prop, X = MQ below (va_Qi (fun r M1 => md_N cI cJ cZ md kd on tw nu le fx fy si de ne it po ma ab be li fr to n g (cPair n g x1 y1) (gPair kk (g (ix x1)) (g (ix y1))) M r M1) (hw_B D qcl (qty cI cJ cZ cN) M s.heap.size) (hw_A M s.heap.size)) [.ref md, .int kI, .int x1, .int y1].toArray s 0 0 (hw_A M s.heap.size) := ⟨_, rfl⟩
  rw [← hQ9]
  have w_md := hK.1
  have w_md : M md = some (.inr (8, [.int cd, .int (nI n), .ref kd, .ref on, .ref tw, .ref nu, .ref le, .ref fx, .ref fy, .ref si, .ref de, .ref ne, .ref it, .ref po, .ref ma, .ref ab, .ref be, .long up, .long dn, .ref li, .int pz, .ref fr, .ref to])) := w_md
  refine lv_aload_n hx hb d_Md_pair_0 rfl (lv_at hl 0 rfl) ?_
  refine lv_aload_n hx hb d_Md_pair_1 rfl (lv_at hl 0 rfl) ?_
  refine lv_iload_n hx hb d_Md_pair_2 rfl (lv_at hl 2 rfl) ?_
  refine hw_calli (hw_runV (n := 1) (own := "QuantifierOutModel") (As := [.int x1]) (rest := [.ref md]) hx hb hml hown hts hX hW hl.1 (c_Md_isNode l D cI cJ cZ cN md kd on tw nu le fx fy si de ne it po ma ab be li fr to cd n up dn pz _ M w_md hn x1) w_md rfl tw_700 tw_702 ts_13 tw_5 tw_703 (by decide +kernel) rfl rfl ⟨by decide, by decide⟩ rfl rfl (Nat.le_of_ble_eq_true rfl) d_Md_pair_3 ⟨by decide, by decide⟩) hW hS hA (fun rx Mi9 H locs hpi hz hW hS => ?_)
  obtain ⟨hb_rx, eMi9⟩ := hpi
  rw [eMi9] at hW
  refine lv_if_eq (tgt := 17) hx hb d_Md_pair_6 (by decide) (fun c_6 => ?_) (fun c_6 => ?_)
  · skip
    refine lv_iconst (v := 1) hx hb d_Md_pair_17 (by decide) ?_
    refine lv_goto (tgt := 57) hx hb d_Md_pair_18 (by decide) ?_
    refine hw_put (own := "QuantifierOutModel") (v := .int 1) (ty := .int) hx hb hts i_Md ft_Md tk_Md n_Md hown hW hS w_md rfl 0 (by decide) (hts _ tw_603) (fun _ h9 => h9) rfl (tk_Md 0 (by decide)) rfl rfl (Nat.le_of_ble_eq_true rfl) d_Md_pair_57 (fun H locs hW hS => ?_)
    have hW : hw_W D qcl (qty cI cJ cZ cN) _ (va_up M md (some (.inr (8, [.int 1, .int (nI n), .ref kd, .ref on, .ref tw, .ref nu, .ref le, .ref fx, .ref fy, .ref si, .ref de, .ref ne, .ref it, .ref po, .ref ma, .ref ab, .ref be, .long up, .long dn, .ref li, .int pz, .ref fr, .ref to])))) s H := hW
    generalize hMw1 : va_up M md (some (.inr (8, [.int 1, .int (nI n), .ref kd, .ref on, .ref tw, .ref nu, .ref le, .ref fx, .ref fy, .ref si, .ref de, .ref ne, .ref it, .ref po, .ref ma, .ref ab, .ref be, .long up, .long dn, .ref li, .int pz, .ref fr, .ref to]))) = Mw1 at hW
    have w_md : Mw1 md = some (.inr (8, [.int 1, .int (nI n), .ref kd, .ref on, .ref tw, .ref nu, .ref le, .ref fx, .ref fy, .ref si, .ref de, .ref ne, .ref it, .ref po, .ref ma, .ref ab, .ref be, .long up, .long dn, .ref li, .int pz, .ref fr, .ref to])) := by rw [← hMw1]; exact va_up_self _ _ _
    have hfr_Mw1 : ∀ x9, x9 ≠ md → Mw1 x9 = M x9 := fun x9 z9 => by rw [← hMw1, va_up_ne _ _ z9]
    refine lv_aload_n hx hb d_Md_pair_60 rfl (lv_at hl 0 rfl) ?_
    refine hw_get (own := "QuantifierOutModel") (v := .int 1) hx hb hts i_Md hown hW w_md rfl 0 (by decide) (hts _ tw_603) (fun _ h9 => h9) rfl d_Md_pair_61 ?_
    have hK1 : md_W cI cJ cZ md kd on tw nu le fx fy si de ne it po ma ab be li fr to Mw1 (nI 1) n up dn pz NE IT PO MA AB BE := md_W.cd hD hK w_md hfr_Mw1
    have hf1 : ∀ x9, x9 ≠ md → x9 ≠ ne → x9 ≠ it → x9 ≠ po → x9 ≠ ma → x9 ≠ ab → x9 ≠ be → Mw1 x9 = M x9 := fun x9 z0 z1 z2 z3 z4 z5 z6 => hfr_Mw1 x9 z0
    have hT1 := md_T.kept hD hT hf1
    have hL1 := md_L.kept hD hL hf1
    refine lv_if_le (tgt := 71) hx hb d_Md_pair_64 (by decide) (fun c_64 => ?_) (fun c_64 => ?_)
    · skip
      exact absurd c_64 (by decide)
    · skip
      refine lv_iconst (v := 0) hx hb d_Md_pair_67 (by decide) ?_
      refine lv_goto (tgt := 78) hx hb d_Md_pair_68 (by decide) ?_
      rw [hQ9]
      exact hw_reti hx hb hr hlocks hW hS (md_N.no (by unfold cPair; rw [if_pos (fun h => it_b0 hb_rx c_6 ((isn_iff hn).mpr h.1))]) (by decide) ⟨up, dn, pz, NE, IT, PO, MA, AB, BE, st, mt, hK1, hT1, hM, hL1, hg⟩ (md_F.of hf1)) d_Md_pair_78
  · skip
    obtain ⟨a, ha, rfl⟩ := it_b1 hb_rx c_6
    obtain ⟨q1, hq1, eq1⟩ := hg a ha
    obtain ⟨-, hr1, hmo1, hc1⟩ := hM.2.2 a q1 hq1
    have hga1 : g (ix (nI a)) = abq q1 := by rw [ix_nI (by omega)]; exact eq1.symm
    have his1 : isn n (nI a) := (isn_iff hn).mp ⟨a, ha, rfl⟩
    refine lv_aload_n hx hb d_Md_pair_9 rfl (lv_at hl 0 rfl) ?_
    refine lv_iload_n hx hb d_Md_pair_10 rfl (lv_at hl 3 rfl) ?_
    refine hw_calli (hw_runV (n := 1) (own := "QuantifierOutModel") (As := [.int y1]) (rest := [.ref md]) hx hb hml hown hts hX hW hl.1 (c_Md_isNode l D cI cJ cZ cN md kd on tw nu le fx fy si de ne it po ma ab be li fr to cd n up dn pz _ M w_md hn y1) w_md rfl tw_700 tw_702 ts_13 tw_5 tw_703 (by decide +kernel) rfl rfl ⟨by decide, by decide⟩ rfl rfl (Nat.le_of_ble_eq_true rfl) d_Md_pair_11 ⟨by decide, by decide⟩) hW hS hA (fun ry Mi9 H locs hpi hz hW hS => ?_)
    obtain ⟨hb_ry, eMi9⟩ := hpi
    rw [eMi9] at hW
    refine lv_if_ne (tgt := 21) hx hb d_Md_pair_14 (by decide) (fun c_14 => ?_) (fun c_14 => ?_)
    · skip
      obtain ⟨b, hb9, rfl⟩ := it_b1 hb_ry c_14
      obtain ⟨q2, hq2, eq2⟩ := hg b hb9
      obtain ⟨-, hr2, hmo2, hc2⟩ := hM.2.2 b q2 hq2
      have hga2 : g (ix (nI b)) = abq q2 := by rw [ix_nI (by omega)]; exact eq2.symm
      have his2 : isn n (nI b) := (isn_iff hn).mp ⟨b, hb9, rfl⟩
      have hbo : ¬ ¬ (isn n (nI a) ∧ isn n (nI b)) := fun z => z ⟨his1, his2⟩
      refine lv_aload_n hx hb d_Md_pair_21 rfl (lv_at hl 0 rfl) ?_
      refine hw_get (own := "QuantifierOutModel") (v := .int (nI n)) hx hb hts i_Md hown hW w_md rfl 1 (by decide) (hts _ tw_604) (fun _ h9 => h9) rfl d_Md_pair_22 ?_
      refine lv_bipush (v := 60) hx hb d_Md_pair_25 (by decide) ?_
      refine lv_icmp_ne (tgt := 34) hx hb d_Md_pair_27 (by decide) (fun c_27 => ?_) (fun c_27 => ?_)
      · skip
        have hn60 : n < 60 := Nat.lt_of_le_of_ne hn (fun z => c_27 (by rw [z]; rfl))
        have t_si : M si = some (.inl (cI, 60, .inl (st 7))) := hT.2.2.2.2.2.2.2.1
        refine lv_aload_n hx hb d_Md_pair_34 rfl (lv_at hl 0 rfl) ?_
        refine hw_get (own := "QuantifierOutModel") (v := .ref si) hx hb hts i_Md hown hW w_md rfl 9 (by decide) (hts _ tw_612) (fun _ h9 => h9) rfl d_Md_pair_35 ?_
        refine lv_iload_n hx hb d_Md_pair_38 rfl (lv_at hl 2 rfl) ?_
        refine hw_ild hx hb hW 0 t_si rfl a rfl (by omega) (by decide) d_Md_pair_39 ?_
        refine lv_aload_n hx hb d_Md_pair_40 rfl (lv_at hl 0 rfl) ?_
        refine hw_get (own := "QuantifierOutModel") (v := .ref si) hx hb hts i_Md hown hW w_md rfl 9 (by decide) (hts _ tw_612) (fun _ h9 => h9) rfl d_Md_pair_41 ?_
        refine lv_iload_n hx hb d_Md_pair_44 rfl (lv_at hl 3 rfl) ?_
        refine hw_ild hx hb hW 0 t_si rfl b rfl (by omega) (by decide) d_Md_pair_45 ?_
        refine lv_iadd hx hb d_Md_pair_46 ?_
        refine lv_topi (fun x2 ex2 => ?_)
        have len1 := hmo1.2.2.1
        have len2 := hmo2.2.2.1
        have es : x2 = nI ((nL q1).length + (nL q2).length) := by rw [ex2, hc1.2.2.1, hc2.2.2.1]; exact nI_add _ _
        rw [es]
        refine lv_bipush (v := 6) hx hb d_Md_pair_47 (by decide) ?_
        have hsum : aS (g (ix (nI a))) + aS (g (ix (nI b))) = (nL q1).length + (nL q2).length := by rw [hga1, hga2]; rfl
        refine lv_icmp_le (tgt := 56) hx hb d_Md_pair_49 (by decide) (fun c_49 => ?_) (fun c_49 => ?_)
        · skip
          have hsm : (nL q1).length + (nL q2).length ≤ 6 := (nI_leI (b := 6) (by omega) (by omega)).mp c_49
          refine lv_iconst (v := 0) hx hb d_Md_pair_56 (by decide) ?_
          refine hw_put (own := "QuantifierOutModel") (v := .int 0) (ty := .int) hx hb hts i_Md ft_Md tk_Md n_Md hown hW hS w_md rfl 0 (by decide) (hts _ tw_603) (fun _ h9 => h9) rfl (tk_Md 0 (by decide)) rfl rfl (Nat.le_of_ble_eq_true rfl) d_Md_pair_57 (fun H locs hW hS => ?_)
          have hW : hw_W D qcl (qty cI cJ cZ cN) _ (va_up M md (some (.inr (8, [.int 0, .int (nI n), .ref kd, .ref on, .ref tw, .ref nu, .ref le, .ref fx, .ref fy, .ref si, .ref de, .ref ne, .ref it, .ref po, .ref ma, .ref ab, .ref be, .long up, .long dn, .ref li, .int pz, .ref fr, .ref to])))) s H := hW
          generalize hMw3 : va_up M md (some (.inr (8, [.int 0, .int (nI n), .ref kd, .ref on, .ref tw, .ref nu, .ref le, .ref fx, .ref fy, .ref si, .ref de, .ref ne, .ref it, .ref po, .ref ma, .ref ab, .ref be, .long up, .long dn, .ref li, .int pz, .ref fr, .ref to]))) = Mw3 at hW
          have t_si : Mw3 si = some (.inl (cI, 60, .inl (st 7))) := by rw [← hMw3, va_up_ne _ _ (Ne.symm (show md ≠ si from hD 0 8 (by decide) (by decide)))]; exact t_si
          have w_md : Mw3 md = some (.inr (8, [.int 0, .int (nI n), .ref kd, .ref on, .ref tw, .ref nu, .ref le, .ref fx, .ref fy, .ref si, .ref de, .ref ne, .ref it, .ref po, .ref ma, .ref ab, .ref be, .long up, .long dn, .ref li, .int pz, .ref fr, .ref to])) := by rw [← hMw3]; exact va_up_self _ _ _
          have hfr_Mw3 : ∀ x9, x9 ≠ md → Mw3 x9 = M x9 := fun x9 z9 => by rw [← hMw3, va_up_ne _ _ z9]
          refine lv_aload_n hx hb d_Md_pair_60 rfl (lv_at hl 0 rfl) ?_
          refine hw_get (own := "QuantifierOutModel") (v := .int 0) hx hb hts i_Md hown hW w_md rfl 0 (by decide) (hts _ tw_603) (fun _ h9 => h9) rfl d_Md_pair_61 ?_
          have hK1 : md_W cI cJ cZ md kd on tw nu le fx fy si de ne it po ma ab be li fr to Mw3 (nI 0) n up dn pz NE IT PO MA AB BE := md_W.cd hD hK w_md hfr_Mw3
          have hf1 : ∀ x9, x9 ≠ md → x9 ≠ ne → x9 ≠ it → x9 ≠ po → x9 ≠ ma → x9 ≠ ab → x9 ≠ be → Mw3 x9 = M x9 := fun x9 z0 z1 z2 z3 z4 z5 z6 => hfr_Mw3 x9 z0
          have hT1 := md_T.kept hD hT hf1
          have hL1 := md_L.kept hD hL hf1
          refine lv_if_le (tgt := 71) hx hb d_Md_pair_64 (by decide) (fun c_64 => ?_) (fun c_64 => ?_)
          · skip
            refine lv_aload_n hx hb d_Md_pair_71 rfl (lv_at hl 0 rfl) ?_
            refine lv_iload_n hx hb d_Md_pair_72 rfl (lv_at hl 1 rfl) ?_
            refine lv_iload_n hx hb d_Md_pair_73 rfl (lv_at hl 2 rfl) ?_
            refine lv_iload_n hx hb d_Md_pair_74 rfl (lv_at hl 3 rfl) ?_
            refine hw_calli (hw_runV (n := 3) (own := "QuantifierOutModel") (As := [.int kI, .int (nI a), .int (nI b)]) (rest := []) hx hb hml hown hts hX hW hl.1 (c_Md_addP l D cI cJ cZ cN md kd on tw nu le fx fy si de ne it po ma ab be li fr to (nI 0) n up dn pz NE IT PO MA AB BE _ st Mw3 hD hK1 hT1 hn60 kI a b (by rw [hkI]; cases kk <;> decide) ha hb9 (b01 hc1.1) (b01 hc1.2.1) (b01 hc2.1) (b01 hc2.2.1)) hK1.1 rfl tw_688 tw_690 ts_11 tw_5 tw_691 (by decide +kernel) rfl rfl ⟨by decide, by decide⟩ rfl rfl (Nat.le_of_ble_eq_true rfl) d_Md_pair_75 ⟨by decide, by decide⟩) hW hS hA (fun ra Ma H locs hpa hz hW hS => ?_)
            obtain ⟨hra, hK3, hT3, hfa⟩ := hpa
            have hL3 := md_L.k3 hL1 (hfa li (Ne.symm (show md ≠ li from hD 0 16 (by decide) (by decide))) (Ne.symm (show kd ≠ li from hD 1 16 (by decide) (by decide))) (Ne.symm (show on ≠ li from hD 2 16 (by decide) (by decide))) (Ne.symm (show tw ≠ li from hD 3 16 (by decide) (by decide))) (Ne.symm (show fx ≠ li from hD 6 16 (by decide) (by decide))) (Ne.symm (show fy ≠ li from hD 7 16 (by decide) (by decide))) (Ne.symm (show si ≠ li from hD 8 16 (by decide) (by decide))) (Ne.symm (show de ≠ li from hD 9 16 (by decide) (by decide)))) (hfa fr (Ne.symm (show md ≠ fr from hD 0 17 (by decide) (by decide))) (Ne.symm (show kd ≠ fr from hD 1 17 (by decide) (by decide))) (Ne.symm (show on ≠ fr from hD 2 17 (by decide) (by decide))) (Ne.symm (show tw ≠ fr from hD 3 17 (by decide) (by decide))) (Ne.symm (show fx ≠ fr from hD 6 17 (by decide) (by decide))) (Ne.symm (show fy ≠ fr from hD 7 17 (by decide) (by decide))) (Ne.symm (show si ≠ fr from hD 8 17 (by decide) (by decide))) (Ne.symm (show de ≠ fr from hD 9 17 (by decide) (by decide)))) (hfa to (Ne.symm (show md ≠ to from hD 0 18 (by decide) (by decide))) (Ne.symm (show kd ≠ to from hD 1 18 (by decide) (by decide))) (Ne.symm (show on ≠ to from hD 2 18 (by decide) (by decide))) (Ne.symm (show tw ≠ to from hD 3 18 (by decide) (by decide))) (Ne.symm (show fx ≠ to from hD 6 18 (by decide) (by decide))) (Ne.symm (show fy ≠ to from hD 7 18 (by decide) (by decide))) (Ne.symm (show si ≠ to from hD 8 18 (by decide) (by decide))) (Ne.symm (show de ≠ to from hD 9 18 (by decide) (by decide))))
            have hF3 : md_F md kd on tw nu le fx fy si de ne it po ma ab be li fr to Mw3 Ma := fun x9 hx9 => hfa x9 (hx9 0 (by decide)) (hx9 1 (by decide)) (hx9 2 (by decide)) (hx9 3 (by decide)) (hx9 6 (by decide)) (hx9 7 (by decide)) (hx9 8 (by decide)) (hx9 9 (by decide))
            have hup : ∀ q9, va_up mt n (some q9) a = some q1 ∧ va_up mt n (some q9) b = some q2 := fun q9 => ⟨by rw [va_up_ne _ _ (by omega)]; exact hq1, by rw [va_up_ne _ _ (by omega)]; exact hq2⟩
            have hM3 := mt_add (q := mp_q n a b kk q1 q2) hM hn60 rfl (mo_pair (hup _).1 (hup _).2 (by omega) (by omega) (mo_upt (mt_none hM) hmo1) (mo_upt (mt_none hM) hmo2) hsm) (mc_pair hkI hc1 hc2 hmo1.2.2.2.1 hmo2.2.2.2.1) (fun a i h3 hi => ad_old (by omega)) (fun i hi => rfl)
            rw [hQ9]
            exact hw_reti hx hb hr hlocks hW hS (md_N.yes (by unfold cPair; rw [if_neg hbo, if_neg (by omega), if_neg (by rw [hsum]; omega)]) hn60 hra (md_J.add hK3 hT3 hM3 hL3 hg (by rw [hga1, hga2]; exact ab_pair)) (md_F.tr (md_F.of hf1) hF3)) d_Md_pair_78
          · skip
            exact absurd (by decide) c_64
        · skip
          have hbg : 6 < (nL q1).length + (nL q2).length := by rcases Nat.lt_or_ge 6 ((nL q1).length + (nL q2).length) with z | z; exact z; exact absurd ((nI_leI (b := 6) (by omega) (by omega)).mpr z) c_49
          refine lv_iconst (v := 3) hx hb d_Md_pair_52 (by decide) ?_
          refine lv_goto (tgt := 57) hx hb d_Md_pair_53 (by decide) ?_
          refine hw_put (own := "QuantifierOutModel") (v := .int 3) (ty := .int) hx hb hts i_Md ft_Md tk_Md n_Md hown hW hS w_md rfl 0 (by decide) (hts _ tw_603) (fun _ h9 => h9) rfl (tk_Md 0 (by decide)) rfl rfl (Nat.le_of_ble_eq_true rfl) d_Md_pair_57 (fun H locs hW hS => ?_)
          have hW : hw_W D qcl (qty cI cJ cZ cN) _ (va_up M md (some (.inr (8, [.int 3, .int (nI n), .ref kd, .ref on, .ref tw, .ref nu, .ref le, .ref fx, .ref fy, .ref si, .ref de, .ref ne, .ref it, .ref po, .ref ma, .ref ab, .ref be, .long up, .long dn, .ref li, .int pz, .ref fr, .ref to])))) s H := hW
          generalize hMw4 : va_up M md (some (.inr (8, [.int 3, .int (nI n), .ref kd, .ref on, .ref tw, .ref nu, .ref le, .ref fx, .ref fy, .ref si, .ref de, .ref ne, .ref it, .ref po, .ref ma, .ref ab, .ref be, .long up, .long dn, .ref li, .int pz, .ref fr, .ref to]))) = Mw4 at hW
          have t_si : Mw4 si = some (.inl (cI, 60, .inl (st 7))) := by rw [← hMw4, va_up_ne _ _ (Ne.symm (show md ≠ si from hD 0 8 (by decide) (by decide)))]; exact t_si
          have w_md : Mw4 md = some (.inr (8, [.int 3, .int (nI n), .ref kd, .ref on, .ref tw, .ref nu, .ref le, .ref fx, .ref fy, .ref si, .ref de, .ref ne, .ref it, .ref po, .ref ma, .ref ab, .ref be, .long up, .long dn, .ref li, .int pz, .ref fr, .ref to])) := by rw [← hMw4]; exact va_up_self _ _ _
          have hfr_Mw4 : ∀ x9, x9 ≠ md → Mw4 x9 = M x9 := fun x9 z9 => by rw [← hMw4, va_up_ne _ _ z9]
          refine lv_aload_n hx hb d_Md_pair_60 rfl (lv_at hl 0 rfl) ?_
          refine hw_get (own := "QuantifierOutModel") (v := .int 3) hx hb hts i_Md hown hW w_md rfl 0 (by decide) (hts _ tw_603) (fun _ h9 => h9) rfl d_Md_pair_61 ?_
          have hK1 : md_W cI cJ cZ md kd on tw nu le fx fy si de ne it po ma ab be li fr to Mw4 (nI 3) n up dn pz NE IT PO MA AB BE := md_W.cd hD hK w_md hfr_Mw4
          have hf1 : ∀ x9, x9 ≠ md → x9 ≠ ne → x9 ≠ it → x9 ≠ po → x9 ≠ ma → x9 ≠ ab → x9 ≠ be → Mw4 x9 = M x9 := fun x9 z0 z1 z2 z3 z4 z5 z6 => hfr_Mw4 x9 z0
          have hT1 := md_T.kept hD hT hf1
          have hL1 := md_L.kept hD hL hf1
          refine lv_if_le (tgt := 71) hx hb d_Md_pair_64 (by decide) (fun c_64 => ?_) (fun c_64 => ?_)
          · skip
            exact absurd c_64 (by decide)
          · skip
            refine lv_iconst (v := 0) hx hb d_Md_pair_67 (by decide) ?_
            refine lv_goto (tgt := 78) hx hb d_Md_pair_68 (by decide) ?_
            rw [hQ9]
            exact hw_reti hx hb hr hlocks hW hS (md_N.no (by unfold cPair; rw [if_neg hbo, if_neg (by omega), if_pos (by rw [hsum]; exact hbg)]) (by decide) ⟨up, dn, pz, NE, IT, PO, MA, AB, BE, st, mt, hK1, hT1, hM, hL1, hg⟩ (md_F.of hf1)) d_Md_pair_78
      · skip
        have hn60 : n = 60 := (nI_eq (b := 60) (by omega) (by omega)).mp c_27
        refine lv_iconst (v := 2) hx hb d_Md_pair_30 (by decide) ?_
        refine lv_goto (tgt := 57) hx hb d_Md_pair_31 (by decide) ?_
        refine hw_put (own := "QuantifierOutModel") (v := .int 2) (ty := .int) hx hb hts i_Md ft_Md tk_Md n_Md hown hW hS w_md rfl 0 (by decide) (hts _ tw_603) (fun _ h9 => h9) rfl (tk_Md 0 (by decide)) rfl rfl (Nat.le_of_ble_eq_true rfl) d_Md_pair_57 (fun H locs hW hS => ?_)
        have hW : hw_W D qcl (qty cI cJ cZ cN) _ (va_up M md (some (.inr (8, [.int 2, .int (nI n), .ref kd, .ref on, .ref tw, .ref nu, .ref le, .ref fx, .ref fy, .ref si, .ref de, .ref ne, .ref it, .ref po, .ref ma, .ref ab, .ref be, .long up, .long dn, .ref li, .int pz, .ref fr, .ref to])))) s H := hW
        generalize hMw5 : va_up M md (some (.inr (8, [.int 2, .int (nI n), .ref kd, .ref on, .ref tw, .ref nu, .ref le, .ref fx, .ref fy, .ref si, .ref de, .ref ne, .ref it, .ref po, .ref ma, .ref ab, .ref be, .long up, .long dn, .ref li, .int pz, .ref fr, .ref to]))) = Mw5 at hW
        have w_md : Mw5 md = some (.inr (8, [.int 2, .int (nI n), .ref kd, .ref on, .ref tw, .ref nu, .ref le, .ref fx, .ref fy, .ref si, .ref de, .ref ne, .ref it, .ref po, .ref ma, .ref ab, .ref be, .long up, .long dn, .ref li, .int pz, .ref fr, .ref to])) := by rw [← hMw5]; exact va_up_self _ _ _
        have hfr_Mw5 : ∀ x9, x9 ≠ md → Mw5 x9 = M x9 := fun x9 z9 => by rw [← hMw5, va_up_ne _ _ z9]
        refine lv_aload_n hx hb d_Md_pair_60 rfl (lv_at hl 0 rfl) ?_
        refine hw_get (own := "QuantifierOutModel") (v := .int 2) hx hb hts i_Md hown hW w_md rfl 0 (by decide) (hts _ tw_603) (fun _ h9 => h9) rfl d_Md_pair_61 ?_
        have hK1 : md_W cI cJ cZ md kd on tw nu le fx fy si de ne it po ma ab be li fr to Mw5 (nI 2) n up dn pz NE IT PO MA AB BE := md_W.cd hD hK w_md hfr_Mw5
        have hf1 : ∀ x9, x9 ≠ md → x9 ≠ ne → x9 ≠ it → x9 ≠ po → x9 ≠ ma → x9 ≠ ab → x9 ≠ be → Mw5 x9 = M x9 := fun x9 z0 z1 z2 z3 z4 z5 z6 => hfr_Mw5 x9 z0
        have hT1 := md_T.kept hD hT hf1
        have hL1 := md_L.kept hD hL hf1
        refine lv_if_le (tgt := 71) hx hb d_Md_pair_64 (by decide) (fun c_64 => ?_) (fun c_64 => ?_)
        · skip
          exact absurd c_64 (by decide)
        · skip
          refine lv_iconst (v := 0) hx hb d_Md_pair_67 (by decide) ?_
          refine lv_goto (tgt := 78) hx hb d_Md_pair_68 (by decide) ?_
          rw [hQ9]
          exact hw_reti hx hb hr hlocks hW hS (md_N.no (by unfold cPair; rw [if_neg hbo, if_pos hn60]) (by decide) ⟨up, dn, pz, NE, IT, PO, MA, AB, BE, st, mt, hK1, hT1, hM, hL1, hg⟩ (md_F.of hf1)) d_Md_pair_78
    · skip
      refine lv_iconst (v := 1) hx hb d_Md_pair_17 (by decide) ?_
      refine lv_goto (tgt := 57) hx hb d_Md_pair_18 (by decide) ?_
      refine hw_put (own := "QuantifierOutModel") (v := .int 1) (ty := .int) hx hb hts i_Md ft_Md tk_Md n_Md hown hW hS w_md rfl 0 (by decide) (hts _ tw_603) (fun _ h9 => h9) rfl (tk_Md 0 (by decide)) rfl rfl (Nat.le_of_ble_eq_true rfl) d_Md_pair_57 (fun H locs hW hS => ?_)
      have hW : hw_W D qcl (qty cI cJ cZ cN) _ (va_up M md (some (.inr (8, [.int 1, .int (nI n), .ref kd, .ref on, .ref tw, .ref nu, .ref le, .ref fx, .ref fy, .ref si, .ref de, .ref ne, .ref it, .ref po, .ref ma, .ref ab, .ref be, .long up, .long dn, .ref li, .int pz, .ref fr, .ref to])))) s H := hW
      generalize hMw6 : va_up M md (some (.inr (8, [.int 1, .int (nI n), .ref kd, .ref on, .ref tw, .ref nu, .ref le, .ref fx, .ref fy, .ref si, .ref de, .ref ne, .ref it, .ref po, .ref ma, .ref ab, .ref be, .long up, .long dn, .ref li, .int pz, .ref fr, .ref to]))) = Mw6 at hW
      have w_md : Mw6 md = some (.inr (8, [.int 1, .int (nI n), .ref kd, .ref on, .ref tw, .ref nu, .ref le, .ref fx, .ref fy, .ref si, .ref de, .ref ne, .ref it, .ref po, .ref ma, .ref ab, .ref be, .long up, .long dn, .ref li, .int pz, .ref fr, .ref to])) := by rw [← hMw6]; exact va_up_self _ _ _
      have hfr_Mw6 : ∀ x9, x9 ≠ md → Mw6 x9 = M x9 := fun x9 z9 => by rw [← hMw6, va_up_ne _ _ z9]
      refine lv_aload_n hx hb d_Md_pair_60 rfl (lv_at hl 0 rfl) ?_
      refine hw_get (own := "QuantifierOutModel") (v := .int 1) hx hb hts i_Md hown hW w_md rfl 0 (by decide) (hts _ tw_603) (fun _ h9 => h9) rfl d_Md_pair_61 ?_
      have hK1 : md_W cI cJ cZ md kd on tw nu le fx fy si de ne it po ma ab be li fr to Mw6 (nI 1) n up dn pz NE IT PO MA AB BE := md_W.cd hD hK w_md hfr_Mw6
      have hf1 : ∀ x9, x9 ≠ md → x9 ≠ ne → x9 ≠ it → x9 ≠ po → x9 ≠ ma → x9 ≠ ab → x9 ≠ be → Mw6 x9 = M x9 := fun x9 z0 z1 z2 z3 z4 z5 z6 => hfr_Mw6 x9 z0
      have hT1 := md_T.kept hD hT hf1
      have hL1 := md_L.kept hD hL hf1
      refine lv_if_le (tgt := 71) hx hb d_Md_pair_64 (by decide) (fun c_64 => ?_) (fun c_64 => ?_)
      · skip
        exact absurd c_64 (by decide)
      · skip
        refine lv_iconst (v := 0) hx hb d_Md_pair_67 (by decide) ?_
        refine lv_goto (tgt := 78) hx hb d_Md_pair_68 (by decide) ?_
        rw [hQ9]
        exact hw_reti hx hb hr hlocks hW hS (md_N.no (by unfold cPair; rw [if_pos (fun h => it_b0 hb_ry c_14 ((isn_iff hn).mpr h.2))]) (by decide) ⟨up, dn, pz, NE, IT, PO, MA, AB, BE, st, mt, hK1, hT1, hM, hL1, hg⟩ (md_F.of hf1)) d_Md_pair_78
set_option maxHeartbeats 4000000 in
set_option maxRecDepth 100000 in
theorem c_Md_both (cd : Int32) (n : Nat) (g : Nat → abn) (sz : Nat) (M : Nat → Option va_E) (hD : md_D md kd on tw nu le fx fy si de ne it po ma ab be li fr to) (hJ : md_J cI cJ cZ md kd on tw nu le fx fy si de ne it po ma ab be li fr to M cd n g) (x1 y1 : Int32)  : Met l y_Md_both (.code y_Md_both b_Md_both 3 (some .int) :: ww) ({ frames := 3, cells := 0, slots := 0, locals := 110 }) (hw_Pc D qcl (qty cI cJ cZ cN) [.ref md, .int x1, .int y1] M sz) (va_Qi (fun r M1 => md_N cI cJ cZ md kd on tw nu le fx fy si de ne it po ma ab be li fr to n g (cPair n g x1 y1) (gPair true (g (ix x1)) (g (ix y1))) M r M1) (hw_B D qcl (qty cI cJ cZ cN) M sz) (hw_A M sz)) 0 0 (hw_A M sz) := by
  obtain ⟨up, dn, pz, NE, IT, PO, MA, AB, BE, st, mt, hK, hT, hM, hL, hg⟩ := hJ
  have hn := hM.1
  refine hw_met (by decide) (Nat.le_of_ble_eq_true rfl) ?_
  intro p e s m below meth c hx hb hr hml hown hlocks hnm hts hsz hX hW ls hl
  subst hsz
  have hA : ∀ q, s.heap.size ≤ q → hw_A M s.heap.size q := fun q h => Or.inr h
  have hS : va_S (hw_A M s.heap.size) s.heap s.heap [] := va_S.rf
  have hl : lv_has ls 3 [(0, .ref md), (1, .int x1), (2, .int y1)] := hl
  have hown : s.vm.findClass "QuantifierOutModel" = some m.cls := hown
  obtain ⟨Q9, hQ9⟩ : ∃ X : State → Prop, X = MQ below (va_Qi (fun r M1 => md_N cI cJ cZ md kd on tw nu le fx fy si de ne it po ma ab be li fr to n g (cPair n g x1 y1) (gPair true (g (ix x1)) (g (ix y1))) M r M1) (hw_B D qcl (qty cI cJ cZ cN) M s.heap.size) (hw_A M s.heap.size)) [.ref md, .int x1, .int y1].toArray s 0 0 (hw_A M s.heap.size) := ⟨_, rfl⟩
  rw [← hQ9]
  have w_md := hK.1
  have w_md : M md = some (.inr (8, [.int cd, .int (nI n), .ref kd, .ref on, .ref tw, .ref nu, .ref le, .ref fx, .ref fy, .ref si, .ref de, .ref ne, .ref it, .ref po, .ref ma, .ref ab, .ref be, .long up, .long dn, .ref li, .int pz, .ref fr, .ref to])) := w_md
  refine lv_aload_n hx hb d_Md_both_0 rfl (lv_at hl 0 rfl) ?_
  refine lv_iconst (v := 1) hx hb d_Md_both_1 (by decide) ?_
  refine lv_iload_n hx hb d_Md_both_2 rfl (lv_at hl 1 rfl) ?_
  refine lv_iload_n hx hb d_Md_both_3 rfl (lv_at hl 2 rfl) ?_
  refine hw_calli (hw_runV (n := 3) (own := "QuantifierOutModel") (As := [.int 1, .int x1, .int y1]) (rest := []) hx hb hml hown hts hX hW hl.1 (c_Md_pair l D cI cJ cZ cN md kd on tw nu le fx fy si de ne it po ma ab be li fr to cd n g _ M hD ⟨up, dn, pz, NE, IT, PO, MA, AB, BE, st, mt, hK, hT, hM, hL, hg⟩ 1 x1 y1 true rfl) hK.1 rfl tw_696 tw_698 ts_12 tw_5 tw_699 (by decide +kernel) rfl rfl ⟨by decide, by decide⟩ rfl rfl (Nat.le_of_ble_eq_true rfl) d_Md_both_4 ⟨by decide, by decide⟩) hW hS hA (fun rp Mp H locs hpp hz hW hS => ?_)
  rw [hQ9]
  exact hw_reti hx hb hr hlocks hW hS hpp d_Md_both_7
set_option maxHeartbeats 4000000 in
set_option maxRecDepth 100000 in
theorem c_Md_either (cd : Int32) (n : Nat) (g : Nat → abn) (sz : Nat) (M : Nat → Option va_E) (hD : md_D md kd on tw nu le fx fy si de ne it po ma ab be li fr to) (hJ : md_J cI cJ cZ md kd on tw nu le fx fy si de ne it po ma ab be li fr to M cd n g) (x1 y1 : Int32)  : Met l y_Md_either (.code y_Md_either b_Md_either 3 (some .int) :: ww) ({ frames := 3, cells := 0, slots := 0, locals := 110 }) (hw_Pc D qcl (qty cI cJ cZ cN) [.ref md, .int x1, .int y1] M sz) (va_Qi (fun r M1 => md_N cI cJ cZ md kd on tw nu le fx fy si de ne it po ma ab be li fr to n g (cPair n g x1 y1) (gPair false (g (ix x1)) (g (ix y1))) M r M1) (hw_B D qcl (qty cI cJ cZ cN) M sz) (hw_A M sz)) 0 0 (hw_A M sz) := by
  obtain ⟨up, dn, pz, NE, IT, PO, MA, AB, BE, st, mt, hK, hT, hM, hL, hg⟩ := hJ
  have hn := hM.1
  refine hw_met (by decide) (Nat.le_of_ble_eq_true rfl) ?_
  intro p e s m below meth c hx hb hr hml hown hlocks hnm hts hsz hX hW ls hl
  subst hsz
  have hA : ∀ q, s.heap.size ≤ q → hw_A M s.heap.size q := fun q h => Or.inr h
  have hS : va_S (hw_A M s.heap.size) s.heap s.heap [] := va_S.rf
  have hl : lv_has ls 3 [(0, .ref md), (1, .int x1), (2, .int y1)] := hl
  have hown : s.vm.findClass "QuantifierOutModel" = some m.cls := hown
  obtain ⟨Q9, hQ9⟩ : ∃ X : State → Prop, X = MQ below (va_Qi (fun r M1 => md_N cI cJ cZ md kd on tw nu le fx fy si de ne it po ma ab be li fr to n g (cPair n g x1 y1) (gPair false (g (ix x1)) (g (ix y1))) M r M1) (hw_B D qcl (qty cI cJ cZ cN) M s.heap.size) (hw_A M s.heap.size)) [.ref md, .int x1, .int y1].toArray s 0 0 (hw_A M s.heap.size) := ⟨_, rfl⟩
  rw [← hQ9]
  have w_md := hK.1
  have w_md : M md = some (.inr (8, [.int cd, .int (nI n), .ref kd, .ref on, .ref tw, .ref nu, .ref le, .ref fx, .ref fy, .ref si, .ref de, .ref ne, .ref it, .ref po, .ref ma, .ref ab, .ref be, .long up, .long dn, .ref li, .int pz, .ref fr, .ref to])) := w_md
  refine lv_aload_n hx hb d_Md_either_0 rfl (lv_at hl 0 rfl) ?_
  refine lv_iconst (v := 2) hx hb d_Md_either_1 (by decide) ?_
  refine lv_iload_n hx hb d_Md_either_2 rfl (lv_at hl 1 rfl) ?_
  refine lv_iload_n hx hb d_Md_either_3 rfl (lv_at hl 2 rfl) ?_
  refine hw_calli (hw_runV (n := 3) (own := "QuantifierOutModel") (As := [.int 2, .int x1, .int y1]) (rest := []) hx hb hml hown hts hX hW hl.1 (c_Md_pair l D cI cJ cZ cN md kd on tw nu le fx fy si de ne it po ma ab be li fr to cd n g _ M hD ⟨up, dn, pz, NE, IT, PO, MA, AB, BE, st, mt, hK, hT, hM, hL, hg⟩ 2 x1 y1 false rfl) hK.1 rfl tw_696 tw_698 ts_12 tw_5 tw_699 (by decide +kernel) rfl rfl ⟨by decide, by decide⟩ rfl rfl (Nat.le_of_ble_eq_true rfl) d_Md_either_4 ⟨by decide, by decide⟩) hW hS hA (fun rp Mp H locs hpp hz hW hS => ?_)
  rw [hQ9]
  exact hw_reti hx hb hr hlocks hW hS hpp d_Md_either_7
set_option maxHeartbeats 4000000 in
set_option maxRecDepth 100000 in
theorem c_Md_not (cd : Int32) (n : Nat) (g : Nat → abn) (sz : Nat) (M : Nat → Option va_E) (hD : md_D md kd on tw nu le fx fy si de ne it po ma ab be li fr to) (hJ : md_J cI cJ cZ md kd on tw nu le fx fy si de ne it po ma ab be li fr to M cd n g) (x1 : Int32)  : Met l y_Md_not (.code y_Md_not b_Md_not 2 (some .int) :: ww) ({ frames := 2, cells := 0, slots := 0, locals := 60 }) (hw_Pc D qcl (qty cI cJ cZ cN) [.ref md, .int x1] M sz) (va_Qi (fun r M1 => md_N cI cJ cZ md kd on tw nu le fx fy si de ne it po ma ab be li fr to n g (cNot n x1) (gNot (g (ix x1))) M r M1) (hw_B D qcl (qty cI cJ cZ cN) M sz) (hw_A M sz)) 0 0 (hw_A M sz) := by
  obtain ⟨up, dn, pz, NE, IT, PO, MA, AB, BE, st, mt, hK, hT, hM, hL, hg⟩ := hJ
  have hn := hM.1
  refine hw_met (by decide) (Nat.le_of_ble_eq_true rfl) ?_
  intro p e s m below meth c hx hb hr hml hown hlocks hnm hts hsz hX hW ls hl
  subst hsz
  have hA : ∀ q, s.heap.size ≤ q → hw_A M s.heap.size q := fun q h => Or.inr h
  have hS : va_S (hw_A M s.heap.size) s.heap s.heap [] := va_S.rf
  have hl : lv_has ls 2 [(0, .ref md), (1, .int x1)] := hl
  have hown : s.vm.findClass "QuantifierOutModel" = some m.cls := hown
  obtain ⟨Q9, hQ9⟩ : ∃ X : State → Prop, X = MQ below (va_Qi (fun r M1 => md_N cI cJ cZ md kd on tw nu le fx fy si de ne it po ma ab be li fr to n g (cNot n x1) (gNot (g (ix x1))) M r M1) (hw_B D qcl (qty cI cJ cZ cN) M s.heap.size) (hw_A M s.heap.size)) [.ref md, .int x1].toArray s 0 0 (hw_A M s.heap.size) := ⟨_, rfl⟩
  rw [← hQ9]
  have w_md := hK.1
  have w_md : M md = some (.inr (8, [.int cd, .int (nI n), .ref kd, .ref on, .ref tw, .ref nu, .ref le, .ref fx, .ref fy, .ref si, .ref de, .ref ne, .ref it, .ref po, .ref ma, .ref ab, .ref be, .long up, .long dn, .ref li, .int pz, .ref fr, .ref to])) := w_md
  refine lv_aload_n hx hb d_Md_not_0 rfl (lv_at hl 0 rfl) ?_
  refine lv_aload_n hx hb d_Md_not_1 rfl (lv_at hl 0 rfl) ?_
  refine lv_iload_n hx hb d_Md_not_2 rfl (lv_at hl 1 rfl) ?_
  refine hw_calli (hw_runV (n := 1) (own := "QuantifierOutModel") (As := [.int x1]) (rest := [.ref md]) hx hb hml hown hts hX hW hl.1 (c_Md_isNode l D cI cJ cZ cN md kd on tw nu le fx fy si de ne it po ma ab be li fr to cd n up dn pz _ M w_md hn x1) w_md rfl tw_700 tw_702 ts_13 tw_5 tw_703 (by decide +kernel) rfl rfl ⟨by decide, by decide⟩ rfl rfl (Nat.le_of_ble_eq_true rfl) d_Md_not_3 ⟨by decide, by decide⟩) hW hS hA (fun rx Mi9 H locs hpi hz hW hS => ?_)
  obtain ⟨hb_rx, eMi9⟩ := hpi
  rw [eMi9] at hW
  refine lv_if_ne (tgt := 13) hx hb d_Md_not_6 (by decide) (fun c_6 => ?_) (fun c_6 => ?_)
  · skip
    obtain ⟨a, ha, rfl⟩ := it_b1 hb_rx c_6
    obtain ⟨q1, hq1, eq1⟩ := hg a ha
    obtain ⟨-, hr1, hmo1, hc1⟩ := hM.2.2 a q1 hq1
    have hga1 : g (ix (nI a)) = abq q1 := by rw [ix_nI (by omega)]; exact eq1.symm
    have his1 : isn n (nI a) := (isn_iff hn).mp ⟨a, ha, rfl⟩
    refine lv_aload_n hx hb d_Md_not_13 rfl (lv_at hl 0 rfl) ?_
    refine hw_get (own := "QuantifierOutModel") (v := .int (nI n)) hx hb hts i_Md hown hW w_md rfl 1 (by decide) (hts _ tw_604) (fun _ h9 => h9) rfl d_Md_not_14 ?_
    refine lv_bipush (v := 60) hx hb d_Md_not_17 (by decide) ?_
    refine lv_icmp_ne (tgt := 26) hx hb d_Md_not_19 (by decide) (fun c_19 => ?_) (fun c_19 => ?_)
    · skip
      have hn60 : n < 60 := Nat.lt_of_le_of_ne hn (fun z => c_19 (by rw [z]; rfl))
      refine lv_iconst (v := 0) hx hb d_Md_not_26 (by decide) ?_
      refine hw_put (own := "QuantifierOutModel") (v := .int 0) (ty := .int) hx hb hts i_Md ft_Md tk_Md n_Md hown hW hS w_md rfl 0 (by decide) (hts _ tw_603) (fun _ h9 => h9) rfl (tk_Md 0 (by decide)) rfl rfl (Nat.le_of_ble_eq_true rfl) d_Md_not_27 (fun H locs hW hS => ?_)
      have hW : hw_W D qcl (qty cI cJ cZ cN) _ (va_up M md (some (.inr (8, [.int 0, .int (nI n), .ref kd, .ref on, .ref tw, .ref nu, .ref le, .ref fx, .ref fy, .ref si, .ref de, .ref ne, .ref it, .ref po, .ref ma, .ref ab, .ref be, .long up, .long dn, .ref li, .int pz, .ref fr, .ref to])))) s H := hW
      generalize hMw1 : va_up M md (some (.inr (8, [.int 0, .int (nI n), .ref kd, .ref on, .ref tw, .ref nu, .ref le, .ref fx, .ref fy, .ref si, .ref de, .ref ne, .ref it, .ref po, .ref ma, .ref ab, .ref be, .long up, .long dn, .ref li, .int pz, .ref fr, .ref to]))) = Mw1 at hW
      have w_md : Mw1 md = some (.inr (8, [.int 0, .int (nI n), .ref kd, .ref on, .ref tw, .ref nu, .ref le, .ref fx, .ref fy, .ref si, .ref de, .ref ne, .ref it, .ref po, .ref ma, .ref ab, .ref be, .long up, .long dn, .ref li, .int pz, .ref fr, .ref to])) := by rw [← hMw1]; exact va_up_self _ _ _
      have hfr_Mw1 : ∀ x9, x9 ≠ md → Mw1 x9 = M x9 := fun x9 z9 => by rw [← hMw1, va_up_ne _ _ z9]
      refine lv_aload_n hx hb d_Md_not_30 rfl (lv_at hl 0 rfl) ?_
      refine hw_get (own := "QuantifierOutModel") (v := .int 0) hx hb hts i_Md hown hW w_md rfl 0 (by decide) (hts _ tw_603) (fun _ h9 => h9) rfl d_Md_not_31 ?_
      have hK1 : md_W cI cJ cZ md kd on tw nu le fx fy si de ne it po ma ab be li fr to Mw1 (nI 0) n up dn pz NE IT PO MA AB BE := md_W.cd hD hK w_md hfr_Mw1
      have hf1 : ∀ x9, x9 ≠ md → x9 ≠ ne → x9 ≠ it → x9 ≠ po → x9 ≠ ma → x9 ≠ ab → x9 ≠ be → Mw1 x9 = M x9 := fun x9 z0 z1 z2 z3 z4 z5 z6 => hfr_Mw1 x9 z0
      have hT1 := md_T.kept hD hT hf1
      have hL1 := md_L.kept hD hL hf1
      refine lv_if_le (tgt := 41) hx hb d_Md_not_34 (by decide) (fun c_34 => ?_) (fun c_34 => ?_)
      · skip
        refine lv_aload_n hx hb d_Md_not_41 rfl (lv_at hl 0 rfl) ?_
        refine lv_iconst (v := 3) hx hb d_Md_not_42 (by decide) ?_
        refine lv_iload_n hx hb d_Md_not_43 rfl (lv_at hl 1 rfl) ?_
        refine lv_iconst (v := (-1)) hx hb d_Md_not_44 (by decide) ?_
        refine hw_calli (hw_runV (n := 3) (own := "QuantifierOutModel") (As := [.int 3, .int (nI a), .int (-1)]) (rest := []) hx hb hml hown hts hX hW hl.1 (c_Md_addS l D cI cJ cZ cN md kd on tw nu le fx fy si de ne it po ma ab be li fr to (nI 0) n up dn pz NE IT PO MA AB BE _ st Mw1 hD hK1 hT1 hn60 3 a (by decide) ha (b01 hc1.1) (b01 hc1.2.1)) hK1.1 rfl tw_688 tw_690 ts_11 tw_5 tw_691 (by decide +kernel) rfl rfl ⟨by decide, by decide⟩ rfl rfl (Nat.le_of_ble_eq_true rfl) d_Md_not_45 ⟨by decide, by decide⟩) hW hS hA (fun ra Ma H locs hpa hz hW hS => ?_)
        obtain ⟨hra, hK3, hT3, hfa⟩ := hpa
        have hL3 := md_L.k3 hL1 (hfa li (Ne.symm (show md ≠ li from hD 0 16 (by decide) (by decide))) (Ne.symm (show kd ≠ li from hD 1 16 (by decide) (by decide))) (Ne.symm (show on ≠ li from hD 2 16 (by decide) (by decide))) (Ne.symm (show tw ≠ li from hD 3 16 (by decide) (by decide))) (Ne.symm (show fx ≠ li from hD 6 16 (by decide) (by decide))) (Ne.symm (show fy ≠ li from hD 7 16 (by decide) (by decide))) (Ne.symm (show si ≠ li from hD 8 16 (by decide) (by decide))) (Ne.symm (show de ≠ li from hD 9 16 (by decide) (by decide)))) (hfa fr (Ne.symm (show md ≠ fr from hD 0 17 (by decide) (by decide))) (Ne.symm (show kd ≠ fr from hD 1 17 (by decide) (by decide))) (Ne.symm (show on ≠ fr from hD 2 17 (by decide) (by decide))) (Ne.symm (show tw ≠ fr from hD 3 17 (by decide) (by decide))) (Ne.symm (show fx ≠ fr from hD 6 17 (by decide) (by decide))) (Ne.symm (show fy ≠ fr from hD 7 17 (by decide) (by decide))) (Ne.symm (show si ≠ fr from hD 8 17 (by decide) (by decide))) (Ne.symm (show de ≠ fr from hD 9 17 (by decide) (by decide)))) (hfa to (Ne.symm (show md ≠ to from hD 0 18 (by decide) (by decide))) (Ne.symm (show kd ≠ to from hD 1 18 (by decide) (by decide))) (Ne.symm (show on ≠ to from hD 2 18 (by decide) (by decide))) (Ne.symm (show tw ≠ to from hD 3 18 (by decide) (by decide))) (Ne.symm (show fx ≠ to from hD 6 18 (by decide) (by decide))) (Ne.symm (show fy ≠ to from hD 7 18 (by decide) (by decide))) (Ne.symm (show si ≠ to from hD 8 18 (by decide) (by decide))) (Ne.symm (show de ≠ to from hD 9 18 (by decide) (by decide))))
        have hF3 : md_F md kd on tw nu le fx fy si de ne it po ma ab be li fr to Mw1 Ma := fun x9 hx9 => hfa x9 (hx9 0 (by decide)) (hx9 1 (by decide)) (hx9 2 (by decide)) (hx9 3 (by decide)) (hx9 6 (by decide)) (hx9 7 (by decide)) (hx9 8 (by decide)) (hx9 9 (by decide))
        have hM3 := mt_add (q := mn_q n a q1) hM hn60 rfl (mo_not (by rw [va_up_ne _ _ (by omega)]; exact hq1) (by omega) (mo_upt (mt_none hM) hmo1)) (mc_not hc1) (fun a i h3 hi => ad_old (by omega)) (fun i hi => rfl)
        rw [hQ9]
        exact hw_reti hx hb hr hlocks hW hS (md_N.yes (by unfold cNot; rw [if_neg (fun z => z his1), if_neg (by omega)]) hn60 hra (md_J.add hK3 hT3 hM3 hL3 hg (by rw [hga1]; rfl)) (md_F.tr (md_F.of hf1) hF3)) d_Md_not_48
      · skip
        exact absurd (by decide) c_34
    · skip
      have hn60 : n = 60 := (nI_eq (b := 60) (by omega) (by omega)).mp c_19
      refine lv_iconst (v := 2) hx hb d_Md_not_22 (by decide) ?_
      refine lv_goto (tgt := 27) hx hb d_Md_not_23 (by decide) ?_
      refine hw_put (own := "QuantifierOutModel") (v := .int 2) (ty := .int) hx hb hts i_Md ft_Md tk_Md n_Md hown hW hS w_md rfl 0 (by decide) (hts _ tw_603) (fun _ h9 => h9) rfl (tk_Md 0 (by decide)) rfl rfl (Nat.le_of_ble_eq_true rfl) d_Md_not_27 (fun H locs hW hS => ?_)
      have hW : hw_W D qcl (qty cI cJ cZ cN) _ (va_up M md (some (.inr (8, [.int 2, .int (nI n), .ref kd, .ref on, .ref tw, .ref nu, .ref le, .ref fx, .ref fy, .ref si, .ref de, .ref ne, .ref it, .ref po, .ref ma, .ref ab, .ref be, .long up, .long dn, .ref li, .int pz, .ref fr, .ref to])))) s H := hW
      generalize hMw2 : va_up M md (some (.inr (8, [.int 2, .int (nI n), .ref kd, .ref on, .ref tw, .ref nu, .ref le, .ref fx, .ref fy, .ref si, .ref de, .ref ne, .ref it, .ref po, .ref ma, .ref ab, .ref be, .long up, .long dn, .ref li, .int pz, .ref fr, .ref to]))) = Mw2 at hW
      have w_md : Mw2 md = some (.inr (8, [.int 2, .int (nI n), .ref kd, .ref on, .ref tw, .ref nu, .ref le, .ref fx, .ref fy, .ref si, .ref de, .ref ne, .ref it, .ref po, .ref ma, .ref ab, .ref be, .long up, .long dn, .ref li, .int pz, .ref fr, .ref to])) := by rw [← hMw2]; exact va_up_self _ _ _
      have hfr_Mw2 : ∀ x9, x9 ≠ md → Mw2 x9 = M x9 := fun x9 z9 => by rw [← hMw2, va_up_ne _ _ z9]
      refine lv_aload_n hx hb d_Md_not_30 rfl (lv_at hl 0 rfl) ?_
      refine hw_get (own := "QuantifierOutModel") (v := .int 2) hx hb hts i_Md hown hW w_md rfl 0 (by decide) (hts _ tw_603) (fun _ h9 => h9) rfl d_Md_not_31 ?_
      have hK1 : md_W cI cJ cZ md kd on tw nu le fx fy si de ne it po ma ab be li fr to Mw2 (nI 2) n up dn pz NE IT PO MA AB BE := md_W.cd hD hK w_md hfr_Mw2
      have hf1 : ∀ x9, x9 ≠ md → x9 ≠ ne → x9 ≠ it → x9 ≠ po → x9 ≠ ma → x9 ≠ ab → x9 ≠ be → Mw2 x9 = M x9 := fun x9 z0 z1 z2 z3 z4 z5 z6 => hfr_Mw2 x9 z0
      have hT1 := md_T.kept hD hT hf1
      have hL1 := md_L.kept hD hL hf1
      refine lv_if_le (tgt := 41) hx hb d_Md_not_34 (by decide) (fun c_34 => ?_) (fun c_34 => ?_)
      · skip
        exact absurd c_34 (by decide)
      · skip
        refine lv_iconst (v := 0) hx hb d_Md_not_37 (by decide) ?_
        refine lv_goto (tgt := 48) hx hb d_Md_not_38 (by decide) ?_
        rw [hQ9]
        exact hw_reti hx hb hr hlocks hW hS (md_N.no (by unfold cNot; rw [if_neg (fun z => z his1), if_pos hn60]) (by decide) ⟨up, dn, pz, NE, IT, PO, MA, AB, BE, st, mt, hK1, hT1, hM, hL1, hg⟩ (md_F.of hf1)) d_Md_not_48
  · skip
    refine lv_iconst (v := 1) hx hb d_Md_not_9 (by decide) ?_
    refine lv_goto (tgt := 27) hx hb d_Md_not_10 (by decide) ?_
    refine hw_put (own := "QuantifierOutModel") (v := .int 1) (ty := .int) hx hb hts i_Md ft_Md tk_Md n_Md hown hW hS w_md rfl 0 (by decide) (hts _ tw_603) (fun _ h9 => h9) rfl (tk_Md 0 (by decide)) rfl rfl (Nat.le_of_ble_eq_true rfl) d_Md_not_27 (fun H locs hW hS => ?_)
    have hW : hw_W D qcl (qty cI cJ cZ cN) _ (va_up M md (some (.inr (8, [.int 1, .int (nI n), .ref kd, .ref on, .ref tw, .ref nu, .ref le, .ref fx, .ref fy, .ref si, .ref de, .ref ne, .ref it, .ref po, .ref ma, .ref ab, .ref be, .long up, .long dn, .ref li, .int pz, .ref fr, .ref to])))) s H := hW
    generalize hMw3 : va_up M md (some (.inr (8, [.int 1, .int (nI n), .ref kd, .ref on, .ref tw, .ref nu, .ref le, .ref fx, .ref fy, .ref si, .ref de, .ref ne, .ref it, .ref po, .ref ma, .ref ab, .ref be, .long up, .long dn, .ref li, .int pz, .ref fr, .ref to]))) = Mw3 at hW
    have w_md : Mw3 md = some (.inr (8, [.int 1, .int (nI n), .ref kd, .ref on, .ref tw, .ref nu, .ref le, .ref fx, .ref fy, .ref si, .ref de, .ref ne, .ref it, .ref po, .ref ma, .ref ab, .ref be, .long up, .long dn, .ref li, .int pz, .ref fr, .ref to])) := by rw [← hMw3]; exact va_up_self _ _ _
    have hfr_Mw3 : ∀ x9, x9 ≠ md → Mw3 x9 = M x9 := fun x9 z9 => by rw [← hMw3, va_up_ne _ _ z9]
    refine lv_aload_n hx hb d_Md_not_30 rfl (lv_at hl 0 rfl) ?_
    refine hw_get (own := "QuantifierOutModel") (v := .int 1) hx hb hts i_Md hown hW w_md rfl 0 (by decide) (hts _ tw_603) (fun _ h9 => h9) rfl d_Md_not_31 ?_
    have hK1 : md_W cI cJ cZ md kd on tw nu le fx fy si de ne it po ma ab be li fr to Mw3 (nI 1) n up dn pz NE IT PO MA AB BE := md_W.cd hD hK w_md hfr_Mw3
    have hf1 : ∀ x9, x9 ≠ md → x9 ≠ ne → x9 ≠ it → x9 ≠ po → x9 ≠ ma → x9 ≠ ab → x9 ≠ be → Mw3 x9 = M x9 := fun x9 z0 z1 z2 z3 z4 z5 z6 => hfr_Mw3 x9 z0
    have hT1 := md_T.kept hD hT hf1
    have hL1 := md_L.kept hD hL hf1
    refine lv_if_le (tgt := 41) hx hb d_Md_not_34 (by decide) (fun c_34 => ?_) (fun c_34 => ?_)
    · skip
      exact absurd c_34 (by decide)
    · skip
      refine lv_iconst (v := 0) hx hb d_Md_not_37 (by decide) ?_
      refine lv_goto (tgt := 48) hx hb d_Md_not_38 (by decide) ?_
      rw [hQ9]
      exact hw_reti hx hb hr hlocks hW hS (md_N.no (by unfold cNot; rw [if_pos (fun h => it_b0 hb_rx c_6 ((isn_iff hn).mpr h))]) (by decide) ⟨up, dn, pz, NE, IT, PO, MA, AB, BE, st, mt, hK1, hT1, hM, hL1, hg⟩ (md_F.of hf1)) d_Md_not_48
set_option maxHeartbeats 4000000 in
set_option maxRecDepth 100000 in
theorem c_Md_quantified (cd : Int32) (n : Nat) (g : Nat → abn) (sz : Nat) (M : Nat → Option va_E) (hD : md_D md kd on tw nu le fx fy si de ne it po ma ab be li fr to) (hJ : md_J cI cJ cZ md kd on tw nu le fx fy si de ne it po ma ab be li fr to M cd n g) (kI l1 x1 : Int32) (kk : Bool) (hkI : kI = if kk = true then 5 else 4) : Met l y_Md_quantified (.code y_Md_quantified b_Md_quantified 5 (some .int) :: ww) ({ frames := 2, cells := 0, slots := 0, locals := 60 }) (hw_Pc D qcl (qty cI cJ cZ cN) [.ref md, .int kI, .int l1, .int x1] M sz) (va_Qi (fun r M1 => md_N cI cJ cZ md kd on tw nu le fx fy si de ne it po ma ab be li fr to n g (cQuant n g l1 x1) (gQuant l1 kk (g (ix x1))) M r M1) (hw_B D qcl (qty cI cJ cZ cN) M sz) (hw_A M sz)) 0 0 (hw_A M sz) := by
  obtain ⟨up, dn, pz, NE, IT, PO, MA, AB, BE, st, mt, hK, hT, hM, hL, hg⟩ := hJ
  have hn := hM.1
  refine hw_met (by decide) (Nat.le_of_ble_eq_true rfl) ?_
  intro p e s m below meth c hx hb hr hml hown hlocks hnm hts hsz hX hW ls hl
  subst hsz
  have hA : ∀ q, s.heap.size ≤ q → hw_A M s.heap.size q := fun q h => Or.inr h
  have hS : va_S (hw_A M s.heap.size) s.heap s.heap [] := va_S.rf
  have hl : lv_has ls 5 [(0, .ref md), (1, .int kI), (2, .int l1), (3, .int x1)] := hl
  have hown : s.vm.findClass "QuantifierOutModel" = some m.cls := hown
  obtain ⟨Q9, hQ9⟩ : ∃ X : State → Prop, X = MQ below (va_Qi (fun r M1 => md_N cI cJ cZ md kd on tw nu le fx fy si de ne it po ma ab be li fr to n g (cQuant n g l1 x1) (gQuant l1 kk (g (ix x1))) M r M1) (hw_B D qcl (qty cI cJ cZ cN) M s.heap.size) (hw_A M s.heap.size)) [.ref md, .int kI, .int l1, .int x1].toArray s 0 0 (hw_A M s.heap.size) := ⟨_, rfl⟩
  rw [← hQ9]
  have w_md := hK.1
  have w_md : M md = some (.inr (8, [.int cd, .int (nI n), .ref kd, .ref on, .ref tw, .ref nu, .ref le, .ref fx, .ref fy, .ref si, .ref de, .ref ne, .ref it, .ref po, .ref ma, .ref ab, .ref be, .long up, .long dn, .ref li, .int pz, .ref fr, .ref to])) := w_md
  refine lv_aload_n hx hb d_Md_quantified_0 rfl (lv_at hl 0 rfl) ?_
  refine lv_aload_n hx hb d_Md_quantified_1 rfl (lv_at hl 0 rfl) ?_
  refine lv_iload_n hx hb d_Md_quantified_2 rfl (lv_at hl 3 rfl) ?_
  refine hw_calli (hw_runV (n := 1) (own := "QuantifierOutModel") (As := [.int x1]) (rest := [.ref md]) hx hb hml hown hts hX hW hl.1 (c_Md_isNode l D cI cJ cZ cN md kd on tw nu le fx fy si de ne it po ma ab be li fr to cd n up dn pz _ M w_md hn x1) w_md rfl tw_700 tw_702 ts_13 tw_5 tw_703 (by decide +kernel) rfl rfl ⟨by decide, by decide⟩ rfl rfl (Nat.le_of_ble_eq_true rfl) d_Md_quantified_3 ⟨by decide, by decide⟩) hW hS hA (fun rx Mi9 H locs hpi hz hW hS => ?_)
  obtain ⟨hb_rx, eMi9⟩ := hpi
  rw [eMi9] at hW
  refine lv_if_ne (tgt := 13) hx hb d_Md_quantified_6 (by decide) (fun c_6 => ?_) (fun c_6 => ?_)
  · skip
    obtain ⟨a, ha, rfl⟩ := it_b1 hb_rx c_6
    obtain ⟨q1, hq1, eq1⟩ := hg a ha
    obtain ⟨-, hr1, hmo1, hc1⟩ := hM.2.2 a q1 hq1
    have hga1 : g (ix (nI a)) = abq q1 := by rw [ix_nI (by omega)]; exact eq1.symm
    have his1 : isn n (nI a) := (isn_iff hn).mp ⟨a, ha, rfl⟩
    refine lv_aload_n hx hb d_Md_quantified_13 rfl (lv_at hl 0 rfl) ?_
    refine hw_get (own := "QuantifierOutModel") (v := .int (nI n)) hx hb hts i_Md hown hW w_md rfl 1 (by decide) (hts _ tw_604) (fun _ h9 => h9) rfl d_Md_quantified_14 ?_
    refine lv_bipush (v := 60) hx hb d_Md_quantified_17 (by decide) ?_
    refine lv_icmp_ne (tgt := 26) hx hb d_Md_quantified_19 (by decide) (fun c_19 => ?_) (fun c_19 => ?_)
    · skip
      have hn60 : n < 60 := Nat.lt_of_le_of_ne hn (fun z => c_19 (by rw [z]; rfl))
      have hdd : aD (g (ix (nI a))) = nd q1 := by rw [hga1]; rfl
      have hd2 := hmo1.2.2.2.1
      refine lv_iload_n hx hb d_Md_quantified_26 rfl (lv_at hl 2 rfl) ?_
      obtain ⟨x1, ex1⟩ : ∃ y9 : Int64, y9 = (l1 : Int32).toInt64 := ⟨_, rfl⟩
      refine lv_i2l (v := x1) hx hb d_Md_quantified_27 ex1.symm ?_
      refine lv_lconst (v := 0) hx hb d_Md_quantified_28 (by decide) ?_
      refine lv_lconst (v := 1) hx hb d_Md_quantified_29 (by decide) ?_
      refine hw_calli (hw_runS (n := 3) (own := "QuantifierOutModel") (As := [.long x1, .long 0, .long 1]) (rest := [.ref md]) hx hb hml hown hts hX hW hl.1 (c_Md_in l D cI cJ cZ cN x1 0 1 _ M) tw_684 tw_685 tw_5 tw_686 (by decide +kernel) rfl rfl ⟨by decide, by decide⟩ rfl rfl (Nat.le_of_ble_eq_true rfl) d_Md_quantified_30 ⟨by decide, by decide⟩) hW hS hA (fun rl Mi9 H locs hpi hz hW hS => ?_)
      obtain ⟨hb_rl, eMi9⟩ := hpi
      rw [eMi9] at hW
      have gl : it_b rl (0 ≤ l1.toInt ∧ l1.toInt ≤ 1) := it_c hb_rl (by rw [ex1, nm_i2l, show (0 : Int64).toInt = 0 from rfl, show (1 : Int64).toInt = 1 from rfl])
      refine lv_if_eq (tgt := 46) hx hb d_Md_quantified_33 (by decide) (fun c_33 => ?_) (fun c_33 => ?_)
      · skip
        refine lv_iconst (v := 3) hx hb d_Md_quantified_46 (by decide) ?_
        refine lv_goto (tgt := 51) hx hb d_Md_quantified_47 (by decide) ?_
        refine hw_put (own := "QuantifierOutModel") (v := .int 3) (ty := .int) hx hb hts i_Md ft_Md tk_Md n_Md hown hW hS w_md rfl 0 (by decide) (hts _ tw_603) (fun _ h9 => h9) rfl (tk_Md 0 (by decide)) rfl rfl (Nat.le_of_ble_eq_true rfl) d_Md_quantified_51 (fun H locs hW hS => ?_)
        have hW : hw_W D qcl (qty cI cJ cZ cN) _ (va_up M md (some (.inr (8, [.int 3, .int (nI n), .ref kd, .ref on, .ref tw, .ref nu, .ref le, .ref fx, .ref fy, .ref si, .ref de, .ref ne, .ref it, .ref po, .ref ma, .ref ab, .ref be, .long up, .long dn, .ref li, .int pz, .ref fr, .ref to])))) s H := hW
        generalize hMw2 : va_up M md (some (.inr (8, [.int 3, .int (nI n), .ref kd, .ref on, .ref tw, .ref nu, .ref le, .ref fx, .ref fy, .ref si, .ref de, .ref ne, .ref it, .ref po, .ref ma, .ref ab, .ref be, .long up, .long dn, .ref li, .int pz, .ref fr, .ref to]))) = Mw2 at hW
        have w_md : Mw2 md = some (.inr (8, [.int 3, .int (nI n), .ref kd, .ref on, .ref tw, .ref nu, .ref le, .ref fx, .ref fy, .ref si, .ref de, .ref ne, .ref it, .ref po, .ref ma, .ref ab, .ref be, .long up, .long dn, .ref li, .int pz, .ref fr, .ref to])) := by rw [← hMw2]; exact va_up_self _ _ _
        have hfr_Mw2 : ∀ x9, x9 ≠ md → Mw2 x9 = M x9 := fun x9 z9 => by rw [← hMw2, va_up_ne _ _ z9]
        refine lv_aload_n hx hb d_Md_quantified_54 rfl (lv_at hl 0 rfl) ?_
        refine hw_get (own := "QuantifierOutModel") (v := .int 3) hx hb hts i_Md hown hW w_md rfl 0 (by decide) (hts _ tw_603) (fun _ h9 => h9) rfl d_Md_quantified_55 ?_
        have hK1 : md_W cI cJ cZ md kd on tw nu le fx fy si de ne it po ma ab be li fr to Mw2 (nI 3) n up dn pz NE IT PO MA AB BE := md_W.cd hD hK w_md hfr_Mw2
        have hf1 : ∀ x9, x9 ≠ md → x9 ≠ ne → x9 ≠ it → x9 ≠ po → x9 ≠ ma → x9 ≠ ab → x9 ≠ be → Mw2 x9 = M x9 := fun x9 z0 z1 z2 z3 z4 z5 z6 => hfr_Mw2 x9 z0
        have hT1 := md_T.kept hD hT hf1
        have hL1 := md_L.kept hD hL hf1
        refine lv_if_le (tgt := 63) hx hb d_Md_quantified_58 (by decide) (fun c_58 => ?_) (fun c_58 => ?_)
        · skip
          exact absurd c_58 (by decide)
        · skip
          refine lv_iconst (v := 0) hx hb d_Md_quantified_61 (by decide) ?_
          rw [hQ9]
          exact hw_reti hx hb hr hlocks hW hS (md_N.no (by unfold cQuant; rw [if_neg (fun z => z his1), if_neg (by omega), if_pos (Or.inl (it_b0 gl c_33))]) (by decide) ⟨up, dn, pz, NE, IT, PO, MA, AB, BE, st, mt, hK1, hT1, hM, hL1, hg⟩ (md_F.of hf1)) d_Md_quantified_62
      · skip
        have hl01 := it_b1 gl c_33
        obtain ⟨hj2, ej⟩ := ix_of (n := 2) (by decide) (p := l1) ⟨hl01.1, by omega⟩
        have t_de : M de = some (.inl (cI, 60, .inl (st 8))) := hT.2.2.2.2.2.2.2.2
        refine lv_aload_n hx hb d_Md_quantified_36 rfl (lv_at hl 0 rfl) ?_
        refine hw_get (own := "QuantifierOutModel") (v := .ref de) hx hb hts i_Md hown hW w_md rfl 10 (by decide) (hts _ tw_613) (fun _ h9 => h9) rfl d_Md_quantified_37 ?_
        refine lv_iload_n hx hb d_Md_quantified_40 rfl (lv_at hl 3 rfl) ?_
        refine hw_ild hx hb hW 0 t_de rfl a rfl (by omega) (by decide) d_Md_quantified_41 ?_
        rw [hc1.2.2.2.1]
        refine lv_iconst (v := 2) hx hb d_Md_quantified_42 (by decide) ?_
        refine lv_icmp_ne (tgt := 50) hx hb d_Md_quantified_43 (by decide) (fun c_43 => ?_) (fun c_43 => ?_)
        · skip
          have hd3 : nd q1 < 2 := Nat.lt_of_le_of_ne hd2 (fun z => c_43 (by rw [z]; rfl))
          refine lv_iconst (v := 0) hx hb d_Md_quantified_50 (by decide) ?_
          refine hw_put (own := "QuantifierOutModel") (v := .int 0) (ty := .int) hx hb hts i_Md ft_Md tk_Md n_Md hown hW hS w_md rfl 0 (by decide) (hts _ tw_603) (fun _ h9 => h9) rfl (tk_Md 0 (by decide)) rfl rfl (Nat.le_of_ble_eq_true rfl) d_Md_quantified_51 (fun H locs hW hS => ?_)
          have hW : hw_W D qcl (qty cI cJ cZ cN) _ (va_up M md (some (.inr (8, [.int 0, .int (nI n), .ref kd, .ref on, .ref tw, .ref nu, .ref le, .ref fx, .ref fy, .ref si, .ref de, .ref ne, .ref it, .ref po, .ref ma, .ref ab, .ref be, .long up, .long dn, .ref li, .int pz, .ref fr, .ref to])))) s H := hW
          generalize hMw3 : va_up M md (some (.inr (8, [.int 0, .int (nI n), .ref kd, .ref on, .ref tw, .ref nu, .ref le, .ref fx, .ref fy, .ref si, .ref de, .ref ne, .ref it, .ref po, .ref ma, .ref ab, .ref be, .long up, .long dn, .ref li, .int pz, .ref fr, .ref to]))) = Mw3 at hW
          have t_de : Mw3 de = some (.inl (cI, 60, .inl (st 8))) := by rw [← hMw3, va_up_ne _ _ (Ne.symm (show md ≠ de from hD 0 9 (by decide) (by decide)))]; exact t_de
          have w_md : Mw3 md = some (.inr (8, [.int 0, .int (nI n), .ref kd, .ref on, .ref tw, .ref nu, .ref le, .ref fx, .ref fy, .ref si, .ref de, .ref ne, .ref it, .ref po, .ref ma, .ref ab, .ref be, .long up, .long dn, .ref li, .int pz, .ref fr, .ref to])) := by rw [← hMw3]; exact va_up_self _ _ _
          have hfr_Mw3 : ∀ x9, x9 ≠ md → Mw3 x9 = M x9 := fun x9 z9 => by rw [← hMw3, va_up_ne _ _ z9]
          refine lv_aload_n hx hb d_Md_quantified_54 rfl (lv_at hl 0 rfl) ?_
          refine hw_get (own := "QuantifierOutModel") (v := .int 0) hx hb hts i_Md hown hW w_md rfl 0 (by decide) (hts _ tw_603) (fun _ h9 => h9) rfl d_Md_quantified_55 ?_
          have hK1 : md_W cI cJ cZ md kd on tw nu le fx fy si de ne it po ma ab be li fr to Mw3 (nI 0) n up dn pz NE IT PO MA AB BE := md_W.cd hD hK w_md hfr_Mw3
          have hf1 : ∀ x9, x9 ≠ md → x9 ≠ ne → x9 ≠ it → x9 ≠ po → x9 ≠ ma → x9 ≠ ab → x9 ≠ be → Mw3 x9 = M x9 := fun x9 z0 z1 z2 z3 z4 z5 z6 => hfr_Mw3 x9 z0
          have hT1 := md_T.kept hD hT hf1
          have hL1 := md_L.kept hD hL hf1
          refine lv_if_le (tgt := 63) hx hb d_Md_quantified_58 (by decide) (fun c_58 => ?_) (fun c_58 => ?_)
          · skip
            refine lv_aload_n hx hb d_Md_quantified_63 rfl (lv_at hl 0 rfl) ?_
            refine lv_iload_n hx hb d_Md_quantified_64 rfl (lv_at hl 1 rfl) ?_
            refine lv_iload_n hx hb d_Md_quantified_65 rfl (lv_at hl 3 rfl) ?_
            refine lv_iconst (v := (-1)) hx hb d_Md_quantified_66 (by decide) ?_
            refine hw_calli (hw_runV (n := 3) (own := "QuantifierOutModel") (As := [.int kI, .int (nI a), .int (-1)]) (rest := []) hx hb hml hown hts hX hW hl.1 (c_Md_addS l D cI cJ cZ cN md kd on tw nu le fx fy si de ne it po ma ab be li fr to (nI 0) n up dn pz NE IT PO MA AB BE _ st Mw3 hD hK1 hT1 hn60 kI a (by rw [hkI]; cases kk <;> decide) ha (b01 hc1.1) (b01 hc1.2.1)) hK1.1 rfl tw_688 tw_690 ts_11 tw_5 tw_691 (by decide +kernel) rfl rfl ⟨by decide, by decide⟩ rfl rfl (Nat.le_of_ble_eq_true rfl) d_Md_quantified_67 ⟨by decide, by decide⟩) hW hS hA (fun ra Ma H locs hpa hz hW hS => ?_)
            obtain ⟨hra, hK3, hT3, hfa⟩ := hpa
            subst hra
            obtain ⟨st2, hst2⟩ : ∃ X9, X9 = ad_st st n kI (nI a) (-1) (st 5 a) (st 6 a) (st 7 a) (st 8 a) := ⟨_, rfl⟩
            rw [← hst2] at hT3
            have hL3 := md_L.k3 hL1 (hfa li (Ne.symm (show md ≠ li from hD 0 16 (by decide) (by decide))) (Ne.symm (show kd ≠ li from hD 1 16 (by decide) (by decide))) (Ne.symm (show on ≠ li from hD 2 16 (by decide) (by decide))) (Ne.symm (show tw ≠ li from hD 3 16 (by decide) (by decide))) (Ne.symm (show fx ≠ li from hD 6 16 (by decide) (by decide))) (Ne.symm (show fy ≠ li from hD 7 16 (by decide) (by decide))) (Ne.symm (show si ≠ li from hD 8 16 (by decide) (by decide))) (Ne.symm (show de ≠ li from hD 9 16 (by decide) (by decide)))) (hfa fr (Ne.symm (show md ≠ fr from hD 0 17 (by decide) (by decide))) (Ne.symm (show kd ≠ fr from hD 1 17 (by decide) (by decide))) (Ne.symm (show on ≠ fr from hD 2 17 (by decide) (by decide))) (Ne.symm (show tw ≠ fr from hD 3 17 (by decide) (by decide))) (Ne.symm (show fx ≠ fr from hD 6 17 (by decide) (by decide))) (Ne.symm (show fy ≠ fr from hD 7 17 (by decide) (by decide))) (Ne.symm (show si ≠ fr from hD 8 17 (by decide) (by decide))) (Ne.symm (show de ≠ fr from hD 9 17 (by decide) (by decide)))) (hfa to (Ne.symm (show md ≠ to from hD 0 18 (by decide) (by decide))) (Ne.symm (show kd ≠ to from hD 1 18 (by decide) (by decide))) (Ne.symm (show on ≠ to from hD 2 18 (by decide) (by decide))) (Ne.symm (show tw ≠ to from hD 3 18 (by decide) (by decide))) (Ne.symm (show fx ≠ to from hD 6 18 (by decide) (by decide))) (Ne.symm (show fy ≠ to from hD 7 18 (by decide) (by decide))) (Ne.symm (show si ≠ to from hD 8 18 (by decide) (by decide))) (Ne.symm (show de ≠ to from hD 9 18 (by decide) (by decide))))
            have hF3 : md_F md kd on tw nu le fx fy si de ne it po ma ab be li fr to Mw3 Ma := fun x9 hx9 => hfa x9 (hx9 0 (by decide)) (hx9 1 (by decide)) (hx9 2 (by decide)) (hx9 3 (by decide)) (hx9 6 (by decide)) (hx9 7 (by decide)) (hx9 8 (by decide)) (hx9 9 (by decide))
            have w3_md := hK3.1
            have w3_md : Ma md = some (.inr (8, [.int (nI 0), .int (nI (n + 1)), .ref kd, .ref on, .ref tw, .ref nu, .ref le, .ref fx, .ref fy, .ref si, .ref de, .ref ne, .ref it, .ref po, .ref ma, .ref ab, .ref be, .long up, .long dn, .ref li, .int pz, .ref fr, .ref to])) := w3_md
            have t3_le : Ma le = some (.inl (cI, 60, .inl (st2 4))) := hT3.2.2.2.2.1
            have t3_de : Ma de = some (.inl (cI, 60, .inl (st2 8))) := hT3.2.2.2.2.2.2.2.2
            have t3_fx : Ma fx = some (.inl (cZ, 60, .inl (st2 5))) := hT3.2.2.2.2.2.1
            have t3_fy : Ma fy = some (.inl (cZ, 60, .inl (st2 6))) := hT3.2.2.2.2.2.2.1
            refine lv_istore (lv' := [(4, .int (nI n)), (0, .ref md), (1, .int kI), (2, .int l1), (3, .int (nI a))]) hx hb d_Md_quantified_70 hl (by decide) rfl (fun ls hl => ?_)
            refine lv_aload_n hx hb d_Md_quantified_72 rfl (lv_at hl 1 rfl) ?_
            refine hw_get (own := "QuantifierOutModel") (v := .ref le) hx hb hts i_Md hown hW w3_md rfl 6 (by decide) (hts _ tw_609) (fun _ h9 => h9) rfl d_Md_quantified_73 ?_
            refine lv_iload hx hb d_Md_quantified_76 (lv_at hl 0 rfl) ?_
            refine lv_iload_n hx hb d_Md_quantified_78 rfl (lv_at hl 3 rfl) ?_
            refine hw_ist hx hb hW hS 0 t3_le rfl n rfl (by omega) (by decide) d_Md_quantified_79 (fun H locs hW hS => ?_)
            have hW : hw_W D qcl (qty cI cJ cZ cN) _ (va_up Ma le (some (.inl (cI, 60, .inl (upd (st2 4) n l1))))) s H := hW
            generalize hMw4 : va_up Ma le (some (.inl (cI, 60, .inl (upd (st2 4) n l1)))) = Mw4 at hW
            have w3_md : Mw4 md = some (.inr (8, [.int (nI 0), .int (nI (n + 1)), .ref kd, .ref on, .ref tw, .ref nu, .ref le, .ref fx, .ref fy, .ref si, .ref de, .ref ne, .ref it, .ref po, .ref ma, .ref ab, .ref be, .long up, .long dn, .ref li, .int pz, .ref fr, .ref to])) := by rw [← hMw4, va_up_ne _ _ (show md ≠ le from hD 0 5 (by decide) (by decide))]; exact w3_md
            have t3_de : Mw4 de = some (.inl (cI, 60, .inl (st2 8))) := by rw [← hMw4, va_up_ne _ _ (Ne.symm (show le ≠ de from hD 5 9 (by decide) (by decide)))]; exact t3_de
            have t3_fx : Mw4 fx = some (.inl (cZ, 60, .inl (st2 5))) := by rw [← hMw4, va_up_ne _ _ (Ne.symm (show le ≠ fx from hD 5 6 (by decide) (by decide)))]; exact t3_fx
            have t3_fy : Mw4 fy = some (.inl (cZ, 60, .inl (st2 6))) := by rw [← hMw4, va_up_ne _ _ (Ne.symm (show le ≠ fy from hD 5 7 (by decide) (by decide)))]; exact t3_fy
            have t3_le : Mw4 le = some (.inl (cI, 60, .inl (upd (st2 4) n l1))) := by rw [← hMw4]; exact va_up_self _ _ _
            have hfr_Mw4 : ∀ x9, x9 ≠ le → Mw4 x9 = Ma x9 := fun x9 z9 => by rw [← hMw4, va_up_ne _ _ z9]
            refine lv_aload_n hx hb d_Md_quantified_80 rfl (lv_at hl 1 rfl) ?_
            refine hw_get (own := "QuantifierOutModel") (v := .ref de) hx hb hts i_Md hown hW w3_md rfl 10 (by decide) (hts _ tw_613) (fun _ h9 => h9) rfl d_Md_quantified_81 ?_
            refine lv_iload hx hb d_Md_quantified_84 (lv_at hl 0 rfl) ?_
            refine lv_dup2_11 hx hb d_Md_quantified_86 rfl rfl ?_
            refine hw_ild hx hb hW 0 t3_de rfl n rfl (by omega) (by decide) d_Md_quantified_87 ?_
            refine lv_iconst (v := 1) hx hb d_Md_quantified_88 (by decide) ?_
            refine lv_iadd hx hb d_Md_quantified_89 ?_
            refine lv_topi (fun x5 ex5 => ?_)
            rw [ex5]
            refine hw_ist hx hb hW hS 0 t3_de rfl n rfl (by omega) (by decide) d_Md_quantified_90 (fun H locs hW hS => ?_)
            have hW : hw_W D qcl (qty cI cJ cZ cN) _ (va_up Mw4 de (some (.inl (cI, 60, .inl (upd (st2 8) n (st2 8 n + 1)))))) s H := hW
            generalize hMw6 : va_up Mw4 de (some (.inl (cI, 60, .inl (upd (st2 8) n (st2 8 n + 1))))) = Mw6 at hW
            have w3_md : Mw6 md = some (.inr (8, [.int (nI 0), .int (nI (n + 1)), .ref kd, .ref on, .ref tw, .ref nu, .ref le, .ref fx, .ref fy, .ref si, .ref de, .ref ne, .ref it, .ref po, .ref ma, .ref ab, .ref be, .long up, .long dn, .ref li, .int pz, .ref fr, .ref to])) := by rw [← hMw6, va_up_ne _ _ (show md ≠ de from hD 0 9 (by decide) (by decide))]; exact w3_md
            have t3_fx : Mw6 fx = some (.inl (cZ, 60, .inl (st2 5))) := by rw [← hMw6, va_up_ne _ _ (show fx ≠ de from hD 6 9 (by decide) (by decide))]; exact t3_fx
            have t3_fy : Mw6 fy = some (.inl (cZ, 60, .inl (st2 6))) := by rw [← hMw6, va_up_ne _ _ (show fy ≠ de from hD 7 9 (by decide) (by decide))]; exact t3_fy
            have t3_le : Mw6 le = some (.inl (cI, 60, .inl (upd (st2 4) n l1))) := by rw [← hMw6, va_up_ne _ _ (show le ≠ de from hD 5 9 (by decide) (by decide))]; exact t3_le
            have t3_de : Mw6 de = some (.inl (cI, 60, .inl (upd (st2 8) n (st2 8 n + 1)))) := by rw [← hMw6]; exact va_up_self _ _ _
            have hfr_Mw6 : ∀ x9, x9 ≠ de → Mw6 x9 = Mw4 x9 := fun x9 z9 => by rw [← hMw6, va_up_ne _ _ z9]
            refine lv_iload_n hx hb d_Md_quantified_91 rfl (lv_at hl 3 rfl) ?_
            refine lv_if_ne (tgt := 106) hx hb d_Md_quantified_92 (by decide) (fun c_92 => ?_) (fun c_92 => ?_)
            · skip
              have ej0 : ix l1 = 1 := by have : ¬ ix l1 = 0 := (fun z => c_92 (by rw [ej, z]; rfl)); omega
              have el1 : l1 = 1 := by rw [ej, ej0]; rfl
              refine lv_aload_n hx hb d_Md_quantified_106 rfl (lv_at hl 1 rfl) ?_
              refine hw_get (own := "QuantifierOutModel") (v := .ref fy) hx hb hts i_Md hown hW w3_md rfl 8 (by decide) (hts _ tw_611) (fun _ h9 => h9) rfl d_Md_quantified_107 ?_
              refine lv_iload hx hb d_Md_quantified_110 (lv_at hl 0 rfl) ?_
              refine lv_iconst (v := 0) hx hb d_Md_quantified_112 (by decide) ?_
              refine hw_zst hx hb hW hS 2 t3_fy rfl n rfl (by omega) (by decide) rfl d_Md_quantified_113 (fun H locs hW hS => ?_)
              have hW : hw_W D qcl (qty cI cJ cZ cN) _ (va_up Mw6 fy (some (.inl (cZ, 60, .inl (upd (st2 6) n 0))))) s H := hW
              generalize hMw7 : va_up Mw6 fy (some (.inl (cZ, 60, .inl (upd (st2 6) n 0)))) = Mw7 at hW
              have w3_md : Mw7 md = some (.inr (8, [.int (nI 0), .int (nI (n + 1)), .ref kd, .ref on, .ref tw, .ref nu, .ref le, .ref fx, .ref fy, .ref si, .ref de, .ref ne, .ref it, .ref po, .ref ma, .ref ab, .ref be, .long up, .long dn, .ref li, .int pz, .ref fr, .ref to])) := by rw [← hMw7, va_up_ne _ _ (show md ≠ fy from hD 0 7 (by decide) (by decide))]; exact w3_md
              have t3_fx : Mw7 fx = some (.inl (cZ, 60, .inl (st2 5))) := by rw [← hMw7, va_up_ne _ _ (show fx ≠ fy from hD 6 7 (by decide) (by decide))]; exact t3_fx
              have t3_le : Mw7 le = some (.inl (cI, 60, .inl (upd (st2 4) n l1))) := by rw [← hMw7, va_up_ne _ _ (show le ≠ fy from hD 5 7 (by decide) (by decide))]; exact t3_le
              have t3_de : Mw7 de = some (.inl (cI, 60, .inl (upd (st2 8) n (st2 8 n + 1)))) := by rw [← hMw7, va_up_ne _ _ (Ne.symm (show fy ≠ de from hD 7 9 (by decide) (by decide)))]; exact t3_de
              have t3_fy : Mw7 fy = some (.inl (cZ, 60, .inl (upd (st2 6) n 0))) := by rw [← hMw7]; exact va_up_self _ _ _
              have hfr_Mw7 : ∀ x9, x9 ≠ fy → Mw7 x9 = Mw6 x9 := fun x9 z9 => by rw [← hMw7, va_up_ne _ _ z9]
              refine lv_iload hx hb d_Md_quantified_114 (lv_at hl 0 rfl) ?_
              have hK4 : md_W cI cJ cZ md kd on tw nu le fx fy si de ne it po ma ab be li fr to Mw7 (nI 0) (n + 1) up dn pz NE IT PO MA AB BE := ⟨((((hfr_Mw7 md (show md ≠ fy from hD 0 7 (by decide) (by decide)))).trans (hfr_Mw6 md (show md ≠ de from hD 0 9 (by decide) (by decide)))).trans (hfr_Mw4 md (show md ≠ le from hD 0 5 (by decide) (by decide)))).trans hK3.1, ((((hfr_Mw7 ne (Ne.symm (show fy ≠ ne from hD 7 10 (by decide) (by decide))))).trans (hfr_Mw6 ne (Ne.symm (show de ≠ ne from hD 9 10 (by decide) (by decide))))).trans (hfr_Mw4 ne (Ne.symm (show le ≠ ne from hD 5 10 (by decide) (by decide))))).trans hK3.2.1, ((((hfr_Mw7 it (Ne.symm (show fy ≠ it from hD 7 11 (by decide) (by decide))))).trans (hfr_Mw6 it (Ne.symm (show de ≠ it from hD 9 11 (by decide) (by decide))))).trans (hfr_Mw4 it (Ne.symm (show le ≠ it from hD 5 11 (by decide) (by decide))))).trans hK3.2.2.1, ((((hfr_Mw7 po (Ne.symm (show fy ≠ po from hD 7 12 (by decide) (by decide))))).trans (hfr_Mw6 po (Ne.symm (show de ≠ po from hD 9 12 (by decide) (by decide))))).trans (hfr_Mw4 po (Ne.symm (show le ≠ po from hD 5 12 (by decide) (by decide))))).trans hK3.2.2.2.1, ((((hfr_Mw7 ma (Ne.symm (show fy ≠ ma from hD 7 13 (by decide) (by decide))))).trans (hfr_Mw6 ma (Ne.symm (show de ≠ ma from hD 9 13 (by decide) (by decide))))).trans (hfr_Mw4 ma (Ne.symm (show le ≠ ma from hD 5 13 (by decide) (by decide))))).trans hK3.2.2.2.2.1, ((((hfr_Mw7 ab (Ne.symm (show fy ≠ ab from hD 7 14 (by decide) (by decide))))).trans (hfr_Mw6 ab (Ne.symm (show de ≠ ab from hD 9 14 (by decide) (by decide))))).trans (hfr_Mw4 ab (Ne.symm (show le ≠ ab from hD 5 14 (by decide) (by decide))))).trans hK3.2.2.2.2.2.1, ((((hfr_Mw7 be (Ne.symm (show fy ≠ be from hD 7 15 (by decide) (by decide))))).trans (hfr_Mw6 be (Ne.symm (show de ≠ be from hD 9 15 (by decide) (by decide))))).trans (hfr_Mw4 be (Ne.symm (show le ≠ be from hD 5 15 (by decide) (by decide))))).trans hK3.2.2.2.2.2.2⟩
              have h_le : Mw7 le = some (.inl (cI, 60, .inl (upd (st2 4) n 1))) := by have h9 := t3_le; rw [el1] at h9; exact h9
              have hT4 : md_T cI cZ kd on tw nu le fx fy si de Mw7 (qu1 st2 n) := ⟨((((hfr_Mw7 kd (show kd ≠ fy from hD 1 7 (by decide) (by decide)))).trans (hfr_Mw6 kd (show kd ≠ de from hD 1 9 (by decide) (by decide)))).trans (hfr_Mw4 kd (show kd ≠ le from hD 1 5 (by decide) (by decide)))).trans hT3.1, ((((hfr_Mw7 on (show on ≠ fy from hD 2 7 (by decide) (by decide)))).trans (hfr_Mw6 on (show on ≠ de from hD 2 9 (by decide) (by decide)))).trans (hfr_Mw4 on (show on ≠ le from hD 2 5 (by decide) (by decide)))).trans hT3.2.1, ((((hfr_Mw7 tw (show tw ≠ fy from hD 3 7 (by decide) (by decide)))).trans (hfr_Mw6 tw (show tw ≠ de from hD 3 9 (by decide) (by decide)))).trans (hfr_Mw4 tw (show tw ≠ le from hD 3 5 (by decide) (by decide)))).trans hT3.2.2.1, ((((hfr_Mw7 nu (show nu ≠ fy from hD 4 7 (by decide) (by decide)))).trans (hfr_Mw6 nu (show nu ≠ de from hD 4 9 (by decide) (by decide)))).trans (hfr_Mw4 nu (show nu ≠ le from hD 4 5 (by decide) (by decide)))).trans hT3.2.2.2.1, h_le, ((((hfr_Mw7 fx (show fx ≠ fy from hD 6 7 (by decide) (by decide)))).trans (hfr_Mw6 fx (show fx ≠ de from hD 6 9 (by decide) (by decide)))).trans (hfr_Mw4 fx (Ne.symm (show le ≠ fx from hD 5 6 (by decide) (by decide))))).trans hT3.2.2.2.2.2.1, t3_fy, ((((hfr_Mw7 si (Ne.symm (show fy ≠ si from hD 7 8 (by decide) (by decide))))).trans (hfr_Mw6 si (show si ≠ de from hD 8 9 (by decide) (by decide)))).trans (hfr_Mw4 si (Ne.symm (show le ≠ si from hD 5 8 (by decide) (by decide))))).trans hT3.2.2.2.2.2.2.2.1, t3_de⟩
              have hL4 := md_L.k3 hL3 ((((hfr_Mw7 li (Ne.symm (show fy ≠ li from hD 7 16 (by decide) (by decide))))).trans (hfr_Mw6 li (Ne.symm (show de ≠ li from hD 9 16 (by decide) (by decide))))).trans (hfr_Mw4 li (Ne.symm (show le ≠ li from hD 5 16 (by decide) (by decide))))) ((((hfr_Mw7 fr (Ne.symm (show fy ≠ fr from hD 7 17 (by decide) (by decide))))).trans (hfr_Mw6 fr (Ne.symm (show de ≠ fr from hD 9 17 (by decide) (by decide))))).trans (hfr_Mw4 fr (Ne.symm (show le ≠ fr from hD 5 17 (by decide) (by decide))))) ((((hfr_Mw7 to (Ne.symm (show fy ≠ to from hD 7 18 (by decide) (by decide))))).trans (hfr_Mw6 to (Ne.symm (show de ≠ to from hD 9 18 (by decide) (by decide))))).trans (hfr_Mw4 to (Ne.symm (show le ≠ to from hD 5 18 (by decide) (by decide)))))
              have hF4 : md_F md kd on tw nu le fx fy si de ne it po ma ab be li fr to Ma Mw7 := fun x9 hx9 => (((hfr_Mw7 x9 (hx9 7 (by decide)))).trans (hfr_Mw6 x9 (hx9 9 (by decide)))).trans (hfr_Mw4 x9 (hx9 5 (by decide)))
              have hM4 := mt_add (q := mu_q n a (ix l1) kk q1) (st2 := qu1 st2 n) hM hn60 rfl (mo_quant hj2 (by rw [va_up_ne _ _ (by omega)]; exact hq1) (by omega) (mo_upt (mt_none hM) hmo1) hd3) ((mc_quant hkI hc1 hst2).2 ej0) (fun a i h3 hi => (qu1_old (by omega)).trans (by rw [hst2]; exact ad_old (by omega))) (fun i hi => by show st2 3 i = st 3 i; rw [hst2]; rfl)
              rw [hQ9]
              exact hw_reti hx hb hr hlocks hW hS (md_N.yes (by unfold cQuant; rw [if_neg (fun z => z his1), if_neg (by omega), if_neg (by rw [hdd]; exact fun z => z.elim (fun y => y hl01) (by omega))]) hn60 rfl (md_J.add hK4 hT4 hM4 hL4 hg (by rw [hga1]; rfl)) (md_F.tr (md_F.tr (md_F.of hf1) hF3) hF4)) d_Md_quantified_116
            · skip
              have ej0 : ix l1 = 0 := by rw [c_92]; rfl
              have el1 : l1 = 0 := by rw [ej, ej0]; rfl
              refine lv_aload_n hx hb d_Md_quantified_95 rfl (lv_at hl 1 rfl) ?_
              refine hw_get (own := "QuantifierOutModel") (v := .ref fx) hx hb hts i_Md hown hW w3_md rfl 7 (by decide) (hts _ tw_610) (fun _ h9 => h9) rfl d_Md_quantified_96 ?_
              refine lv_iload hx hb d_Md_quantified_99 (lv_at hl 0 rfl) ?_
              refine lv_iconst (v := 0) hx hb d_Md_quantified_101 (by decide) ?_
              refine hw_zst hx hb hW hS 2 t3_fx rfl n rfl (by omega) (by decide) rfl d_Md_quantified_102 (fun H locs hW hS => ?_)
              have hW : hw_W D qcl (qty cI cJ cZ cN) _ (va_up Mw6 fx (some (.inl (cZ, 60, .inl (upd (st2 5) n 0))))) s H := hW
              generalize hMw8 : va_up Mw6 fx (some (.inl (cZ, 60, .inl (upd (st2 5) n 0)))) = Mw8 at hW
              have w3_md : Mw8 md = some (.inr (8, [.int (nI 0), .int (nI (n + 1)), .ref kd, .ref on, .ref tw, .ref nu, .ref le, .ref fx, .ref fy, .ref si, .ref de, .ref ne, .ref it, .ref po, .ref ma, .ref ab, .ref be, .long up, .long dn, .ref li, .int pz, .ref fr, .ref to])) := by rw [← hMw8, va_up_ne _ _ (show md ≠ fx from hD 0 6 (by decide) (by decide))]; exact w3_md
              have t3_fy : Mw8 fy = some (.inl (cZ, 60, .inl (st2 6))) := by rw [← hMw8, va_up_ne _ _ (Ne.symm (show fx ≠ fy from hD 6 7 (by decide) (by decide)))]; exact t3_fy
              have t3_le : Mw8 le = some (.inl (cI, 60, .inl (upd (st2 4) n l1))) := by rw [← hMw8, va_up_ne _ _ (show le ≠ fx from hD 5 6 (by decide) (by decide))]; exact t3_le
              have t3_de : Mw8 de = some (.inl (cI, 60, .inl (upd (st2 8) n (st2 8 n + 1)))) := by rw [← hMw8, va_up_ne _ _ (Ne.symm (show fx ≠ de from hD 6 9 (by decide) (by decide)))]; exact t3_de
              have t3_fx : Mw8 fx = some (.inl (cZ, 60, .inl (upd (st2 5) n 0))) := by rw [← hMw8]; exact va_up_self _ _ _
              have hfr_Mw8 : ∀ x9, x9 ≠ fx → Mw8 x9 = Mw6 x9 := fun x9 z9 => by rw [← hMw8, va_up_ne _ _ z9]
              refine lv_goto (tgt := 114) hx hb d_Md_quantified_103 (by decide) ?_
              refine lv_iload hx hb d_Md_quantified_114 (lv_at hl 0 rfl) ?_
              have hK4 : md_W cI cJ cZ md kd on tw nu le fx fy si de ne it po ma ab be li fr to Mw8 (nI 0) (n + 1) up dn pz NE IT PO MA AB BE := ⟨((((hfr_Mw8 md (show md ≠ fx from hD 0 6 (by decide) (by decide)))).trans (hfr_Mw6 md (show md ≠ de from hD 0 9 (by decide) (by decide)))).trans (hfr_Mw4 md (show md ≠ le from hD 0 5 (by decide) (by decide)))).trans hK3.1, ((((hfr_Mw8 ne (Ne.symm (show fx ≠ ne from hD 6 10 (by decide) (by decide))))).trans (hfr_Mw6 ne (Ne.symm (show de ≠ ne from hD 9 10 (by decide) (by decide))))).trans (hfr_Mw4 ne (Ne.symm (show le ≠ ne from hD 5 10 (by decide) (by decide))))).trans hK3.2.1, ((((hfr_Mw8 it (Ne.symm (show fx ≠ it from hD 6 11 (by decide) (by decide))))).trans (hfr_Mw6 it (Ne.symm (show de ≠ it from hD 9 11 (by decide) (by decide))))).trans (hfr_Mw4 it (Ne.symm (show le ≠ it from hD 5 11 (by decide) (by decide))))).trans hK3.2.2.1, ((((hfr_Mw8 po (Ne.symm (show fx ≠ po from hD 6 12 (by decide) (by decide))))).trans (hfr_Mw6 po (Ne.symm (show de ≠ po from hD 9 12 (by decide) (by decide))))).trans (hfr_Mw4 po (Ne.symm (show le ≠ po from hD 5 12 (by decide) (by decide))))).trans hK3.2.2.2.1, ((((hfr_Mw8 ma (Ne.symm (show fx ≠ ma from hD 6 13 (by decide) (by decide))))).trans (hfr_Mw6 ma (Ne.symm (show de ≠ ma from hD 9 13 (by decide) (by decide))))).trans (hfr_Mw4 ma (Ne.symm (show le ≠ ma from hD 5 13 (by decide) (by decide))))).trans hK3.2.2.2.2.1, ((((hfr_Mw8 ab (Ne.symm (show fx ≠ ab from hD 6 14 (by decide) (by decide))))).trans (hfr_Mw6 ab (Ne.symm (show de ≠ ab from hD 9 14 (by decide) (by decide))))).trans (hfr_Mw4 ab (Ne.symm (show le ≠ ab from hD 5 14 (by decide) (by decide))))).trans hK3.2.2.2.2.2.1, ((((hfr_Mw8 be (Ne.symm (show fx ≠ be from hD 6 15 (by decide) (by decide))))).trans (hfr_Mw6 be (Ne.symm (show de ≠ be from hD 9 15 (by decide) (by decide))))).trans (hfr_Mw4 be (Ne.symm (show le ≠ be from hD 5 15 (by decide) (by decide))))).trans hK3.2.2.2.2.2.2⟩
              have h_le : Mw8 le = some (.inl (cI, 60, .inl (upd (st2 4) n 0))) := by have h9 := t3_le; rw [el1] at h9; exact h9
              have hT4 : md_T cI cZ kd on tw nu le fx fy si de Mw8 (qu0 st2 n) := ⟨((((hfr_Mw8 kd (show kd ≠ fx from hD 1 6 (by decide) (by decide)))).trans (hfr_Mw6 kd (show kd ≠ de from hD 1 9 (by decide) (by decide)))).trans (hfr_Mw4 kd (show kd ≠ le from hD 1 5 (by decide) (by decide)))).trans hT3.1, ((((hfr_Mw8 on (show on ≠ fx from hD 2 6 (by decide) (by decide)))).trans (hfr_Mw6 on (show on ≠ de from hD 2 9 (by decide) (by decide)))).trans (hfr_Mw4 on (show on ≠ le from hD 2 5 (by decide) (by decide)))).trans hT3.2.1, ((((hfr_Mw8 tw (show tw ≠ fx from hD 3 6 (by decide) (by decide)))).trans (hfr_Mw6 tw (show tw ≠ de from hD 3 9 (by decide) (by decide)))).trans (hfr_Mw4 tw (show tw ≠ le from hD 3 5 (by decide) (by decide)))).trans hT3.2.2.1, ((((hfr_Mw8 nu (show nu ≠ fx from hD 4 6 (by decide) (by decide)))).trans (hfr_Mw6 nu (show nu ≠ de from hD 4 9 (by decide) (by decide)))).trans (hfr_Mw4 nu (show nu ≠ le from hD 4 5 (by decide) (by decide)))).trans hT3.2.2.2.1, h_le, t3_fx, ((((hfr_Mw8 fy (Ne.symm (show fx ≠ fy from hD 6 7 (by decide) (by decide))))).trans (hfr_Mw6 fy (show fy ≠ de from hD 7 9 (by decide) (by decide)))).trans (hfr_Mw4 fy (Ne.symm (show le ≠ fy from hD 5 7 (by decide) (by decide))))).trans hT3.2.2.2.2.2.2.1, ((((hfr_Mw8 si (Ne.symm (show fx ≠ si from hD 6 8 (by decide) (by decide))))).trans (hfr_Mw6 si (show si ≠ de from hD 8 9 (by decide) (by decide)))).trans (hfr_Mw4 si (Ne.symm (show le ≠ si from hD 5 8 (by decide) (by decide))))).trans hT3.2.2.2.2.2.2.2.1, t3_de⟩
              have hL4 := md_L.k3 hL3 ((((hfr_Mw8 li (Ne.symm (show fx ≠ li from hD 6 16 (by decide) (by decide))))).trans (hfr_Mw6 li (Ne.symm (show de ≠ li from hD 9 16 (by decide) (by decide))))).trans (hfr_Mw4 li (Ne.symm (show le ≠ li from hD 5 16 (by decide) (by decide))))) ((((hfr_Mw8 fr (Ne.symm (show fx ≠ fr from hD 6 17 (by decide) (by decide))))).trans (hfr_Mw6 fr (Ne.symm (show de ≠ fr from hD 9 17 (by decide) (by decide))))).trans (hfr_Mw4 fr (Ne.symm (show le ≠ fr from hD 5 17 (by decide) (by decide))))) ((((hfr_Mw8 to (Ne.symm (show fx ≠ to from hD 6 18 (by decide) (by decide))))).trans (hfr_Mw6 to (Ne.symm (show de ≠ to from hD 9 18 (by decide) (by decide))))).trans (hfr_Mw4 to (Ne.symm (show le ≠ to from hD 5 18 (by decide) (by decide)))))
              have hF4 : md_F md kd on tw nu le fx fy si de ne it po ma ab be li fr to Ma Mw8 := fun x9 hx9 => (((hfr_Mw8 x9 (hx9 6 (by decide)))).trans (hfr_Mw6 x9 (hx9 9 (by decide)))).trans (hfr_Mw4 x9 (hx9 5 (by decide)))
              have hM4 := mt_add (q := mu_q n a (ix l1) kk q1) (st2 := qu0 st2 n) hM hn60 rfl (mo_quant hj2 (by rw [va_up_ne _ _ (by omega)]; exact hq1) (by omega) (mo_upt (mt_none hM) hmo1) hd3) ((mc_quant hkI hc1 hst2).1 ej0) (fun a i h3 hi => (qu0_old (by omega)).trans (by rw [hst2]; exact ad_old (by omega))) (fun i hi => by show st2 3 i = st 3 i; rw [hst2]; rfl)
              rw [hQ9]
              exact hw_reti hx hb hr hlocks hW hS (md_N.yes (by unfold cQuant; rw [if_neg (fun z => z his1), if_neg (by omega), if_neg (by rw [hdd]; exact fun z => z.elim (fun y => y hl01) (by omega))]) hn60 rfl (md_J.add hK4 hT4 hM4 hL4 hg (by rw [hga1]; rfl)) (md_F.tr (md_F.tr (md_F.of hf1) hF3) hF4)) d_Md_quantified_116
          · skip
            exact absurd (by decide) c_58
        · skip
          have hd3 : nd q1 = 2 := (nI_eq (b := 2) (by omega) (by omega)).mp c_43
          refine lv_iconst (v := 3) hx hb d_Md_quantified_46 (by decide) ?_
          refine lv_goto (tgt := 51) hx hb d_Md_quantified_47 (by decide) ?_
          refine hw_put (own := "QuantifierOutModel") (v := .int 3) (ty := .int) hx hb hts i_Md ft_Md tk_Md n_Md hown hW hS w_md rfl 0 (by decide) (hts _ tw_603) (fun _ h9 => h9) rfl (tk_Md 0 (by decide)) rfl rfl (Nat.le_of_ble_eq_true rfl) d_Md_quantified_51 (fun H locs hW hS => ?_)
          have hW : hw_W D qcl (qty cI cJ cZ cN) _ (va_up M md (some (.inr (8, [.int 3, .int (nI n), .ref kd, .ref on, .ref tw, .ref nu, .ref le, .ref fx, .ref fy, .ref si, .ref de, .ref ne, .ref it, .ref po, .ref ma, .ref ab, .ref be, .long up, .long dn, .ref li, .int pz, .ref fr, .ref to])))) s H := hW
          generalize hMw9 : va_up M md (some (.inr (8, [.int 3, .int (nI n), .ref kd, .ref on, .ref tw, .ref nu, .ref le, .ref fx, .ref fy, .ref si, .ref de, .ref ne, .ref it, .ref po, .ref ma, .ref ab, .ref be, .long up, .long dn, .ref li, .int pz, .ref fr, .ref to]))) = Mw9 at hW
          have t_de : Mw9 de = some (.inl (cI, 60, .inl (st 8))) := by rw [← hMw9, va_up_ne _ _ (Ne.symm (show md ≠ de from hD 0 9 (by decide) (by decide)))]; exact t_de
          have w_md : Mw9 md = some (.inr (8, [.int 3, .int (nI n), .ref kd, .ref on, .ref tw, .ref nu, .ref le, .ref fx, .ref fy, .ref si, .ref de, .ref ne, .ref it, .ref po, .ref ma, .ref ab, .ref be, .long up, .long dn, .ref li, .int pz, .ref fr, .ref to])) := by rw [← hMw9]; exact va_up_self _ _ _
          have hfr_Mw9 : ∀ x9, x9 ≠ md → Mw9 x9 = M x9 := fun x9 z9 => by rw [← hMw9, va_up_ne _ _ z9]
          refine lv_aload_n hx hb d_Md_quantified_54 rfl (lv_at hl 0 rfl) ?_
          refine hw_get (own := "QuantifierOutModel") (v := .int 3) hx hb hts i_Md hown hW w_md rfl 0 (by decide) (hts _ tw_603) (fun _ h9 => h9) rfl d_Md_quantified_55 ?_
          have hK1 : md_W cI cJ cZ md kd on tw nu le fx fy si de ne it po ma ab be li fr to Mw9 (nI 3) n up dn pz NE IT PO MA AB BE := md_W.cd hD hK w_md hfr_Mw9
          have hf1 : ∀ x9, x9 ≠ md → x9 ≠ ne → x9 ≠ it → x9 ≠ po → x9 ≠ ma → x9 ≠ ab → x9 ≠ be → Mw9 x9 = M x9 := fun x9 z0 z1 z2 z3 z4 z5 z6 => hfr_Mw9 x9 z0
          have hT1 := md_T.kept hD hT hf1
          have hL1 := md_L.kept hD hL hf1
          refine lv_if_le (tgt := 63) hx hb d_Md_quantified_58 (by decide) (fun c_58 => ?_) (fun c_58 => ?_)
          · skip
            exact absurd c_58 (by decide)
          · skip
            refine lv_iconst (v := 0) hx hb d_Md_quantified_61 (by decide) ?_
            rw [hQ9]
            exact hw_reti hx hb hr hlocks hW hS (md_N.no (by unfold cQuant; rw [if_neg (fun z => z his1), if_neg (by omega), if_pos (Or.inr (by rw [hdd]; omega))]) (by decide) ⟨up, dn, pz, NE, IT, PO, MA, AB, BE, st, mt, hK1, hT1, hM, hL1, hg⟩ (md_F.of hf1)) d_Md_quantified_62
    · skip
      have hn60 : n = 60 := (nI_eq (b := 60) (by omega) (by omega)).mp c_19
      refine lv_iconst (v := 2) hx hb d_Md_quantified_22 (by decide) ?_
      refine lv_goto (tgt := 51) hx hb d_Md_quantified_23 (by decide) ?_
      refine hw_put (own := "QuantifierOutModel") (v := .int 2) (ty := .int) hx hb hts i_Md ft_Md tk_Md n_Md hown hW hS w_md rfl 0 (by decide) (hts _ tw_603) (fun _ h9 => h9) rfl (tk_Md 0 (by decide)) rfl rfl (Nat.le_of_ble_eq_true rfl) d_Md_quantified_51 (fun H locs hW hS => ?_)
      have hW : hw_W D qcl (qty cI cJ cZ cN) _ (va_up M md (some (.inr (8, [.int 2, .int (nI n), .ref kd, .ref on, .ref tw, .ref nu, .ref le, .ref fx, .ref fy, .ref si, .ref de, .ref ne, .ref it, .ref po, .ref ma, .ref ab, .ref be, .long up, .long dn, .ref li, .int pz, .ref fr, .ref to])))) s H := hW
      generalize hMw10 : va_up M md (some (.inr (8, [.int 2, .int (nI n), .ref kd, .ref on, .ref tw, .ref nu, .ref le, .ref fx, .ref fy, .ref si, .ref de, .ref ne, .ref it, .ref po, .ref ma, .ref ab, .ref be, .long up, .long dn, .ref li, .int pz, .ref fr, .ref to]))) = Mw10 at hW
      have w_md : Mw10 md = some (.inr (8, [.int 2, .int (nI n), .ref kd, .ref on, .ref tw, .ref nu, .ref le, .ref fx, .ref fy, .ref si, .ref de, .ref ne, .ref it, .ref po, .ref ma, .ref ab, .ref be, .long up, .long dn, .ref li, .int pz, .ref fr, .ref to])) := by rw [← hMw10]; exact va_up_self _ _ _
      have hfr_Mw10 : ∀ x9, x9 ≠ md → Mw10 x9 = M x9 := fun x9 z9 => by rw [← hMw10, va_up_ne _ _ z9]
      refine lv_aload_n hx hb d_Md_quantified_54 rfl (lv_at hl 0 rfl) ?_
      refine hw_get (own := "QuantifierOutModel") (v := .int 2) hx hb hts i_Md hown hW w_md rfl 0 (by decide) (hts _ tw_603) (fun _ h9 => h9) rfl d_Md_quantified_55 ?_
      have hK1 : md_W cI cJ cZ md kd on tw nu le fx fy si de ne it po ma ab be li fr to Mw10 (nI 2) n up dn pz NE IT PO MA AB BE := md_W.cd hD hK w_md hfr_Mw10
      have hf1 : ∀ x9, x9 ≠ md → x9 ≠ ne → x9 ≠ it → x9 ≠ po → x9 ≠ ma → x9 ≠ ab → x9 ≠ be → Mw10 x9 = M x9 := fun x9 z0 z1 z2 z3 z4 z5 z6 => hfr_Mw10 x9 z0
      have hT1 := md_T.kept hD hT hf1
      have hL1 := md_L.kept hD hL hf1
      refine lv_if_le (tgt := 63) hx hb d_Md_quantified_58 (by decide) (fun c_58 => ?_) (fun c_58 => ?_)
      · skip
        exact absurd c_58 (by decide)
      · skip
        refine lv_iconst (v := 0) hx hb d_Md_quantified_61 (by decide) ?_
        rw [hQ9]
        exact hw_reti hx hb hr hlocks hW hS (md_N.no (by unfold cQuant; rw [if_neg (fun z => z his1), if_pos hn60]) (by decide) ⟨up, dn, pz, NE, IT, PO, MA, AB, BE, st, mt, hK1, hT1, hM, hL1, hg⟩ (md_F.of hf1)) d_Md_quantified_62
  · skip
    refine lv_iconst (v := 1) hx hb d_Md_quantified_9 (by decide) ?_
    refine lv_goto (tgt := 51) hx hb d_Md_quantified_10 (by decide) ?_
    refine hw_put (own := "QuantifierOutModel") (v := .int 1) (ty := .int) hx hb hts i_Md ft_Md tk_Md n_Md hown hW hS w_md rfl 0 (by decide) (hts _ tw_603) (fun _ h9 => h9) rfl (tk_Md 0 (by decide)) rfl rfl (Nat.le_of_ble_eq_true rfl) d_Md_quantified_51 (fun H locs hW hS => ?_)
    have hW : hw_W D qcl (qty cI cJ cZ cN) _ (va_up M md (some (.inr (8, [.int 1, .int (nI n), .ref kd, .ref on, .ref tw, .ref nu, .ref le, .ref fx, .ref fy, .ref si, .ref de, .ref ne, .ref it, .ref po, .ref ma, .ref ab, .ref be, .long up, .long dn, .ref li, .int pz, .ref fr, .ref to])))) s H := hW
    generalize hMw11 : va_up M md (some (.inr (8, [.int 1, .int (nI n), .ref kd, .ref on, .ref tw, .ref nu, .ref le, .ref fx, .ref fy, .ref si, .ref de, .ref ne, .ref it, .ref po, .ref ma, .ref ab, .ref be, .long up, .long dn, .ref li, .int pz, .ref fr, .ref to]))) = Mw11 at hW
    have w_md : Mw11 md = some (.inr (8, [.int 1, .int (nI n), .ref kd, .ref on, .ref tw, .ref nu, .ref le, .ref fx, .ref fy, .ref si, .ref de, .ref ne, .ref it, .ref po, .ref ma, .ref ab, .ref be, .long up, .long dn, .ref li, .int pz, .ref fr, .ref to])) := by rw [← hMw11]; exact va_up_self _ _ _
    have hfr_Mw11 : ∀ x9, x9 ≠ md → Mw11 x9 = M x9 := fun x9 z9 => by rw [← hMw11, va_up_ne _ _ z9]
    refine lv_aload_n hx hb d_Md_quantified_54 rfl (lv_at hl 0 rfl) ?_
    refine hw_get (own := "QuantifierOutModel") (v := .int 1) hx hb hts i_Md hown hW w_md rfl 0 (by decide) (hts _ tw_603) (fun _ h9 => h9) rfl d_Md_quantified_55 ?_
    have hK1 : md_W cI cJ cZ md kd on tw nu le fx fy si de ne it po ma ab be li fr to Mw11 (nI 1) n up dn pz NE IT PO MA AB BE := md_W.cd hD hK w_md hfr_Mw11
    have hf1 : ∀ x9, x9 ≠ md → x9 ≠ ne → x9 ≠ it → x9 ≠ po → x9 ≠ ma → x9 ≠ ab → x9 ≠ be → Mw11 x9 = M x9 := fun x9 z0 z1 z2 z3 z4 z5 z6 => hfr_Mw11 x9 z0
    have hT1 := md_T.kept hD hT hf1
    have hL1 := md_L.kept hD hL hf1
    refine lv_if_le (tgt := 63) hx hb d_Md_quantified_58 (by decide) (fun c_58 => ?_) (fun c_58 => ?_)
    · skip
      exact absurd c_58 (by decide)
    · skip
      refine lv_iconst (v := 0) hx hb d_Md_quantified_61 (by decide) ?_
      rw [hQ9]
      exact hw_reti hx hb hr hlocks hW hS (md_N.no (by unfold cQuant; rw [if_pos (fun h => it_b0 hb_rx c_6 ((isn_iff hn).mpr h))]) (by decide) ⟨up, dn, pz, NE, IT, PO, MA, AB, BE, st, mt, hK1, hT1, hM, hL1, hg⟩ (md_F.of hf1)) d_Md_quantified_62
set_option maxHeartbeats 4000000 in
set_option maxRecDepth 100000 in
theorem c_Md_some (cd : Int32) (n : Nat) (g : Nat → abn) (sz : Nat) (M : Nat → Option va_E) (hD : md_D md kd on tw nu le fx fy si de ne it po ma ab be li fr to) (hJ : md_J cI cJ cZ md kd on tw nu le fx fy si de ne it po ma ab be li fr to M cd n g) (l1 x1 : Int32)  : Met l y_Md_some (.code y_Md_some b_Md_some 3 (some .int) :: ww) ({ frames := 3, cells := 0, slots := 0, locals := 110 }) (hw_Pc D qcl (qty cI cJ cZ cN) [.ref md, .int l1, .int x1] M sz) (va_Qi (fun r M1 => md_N cI cJ cZ md kd on tw nu le fx fy si de ne it po ma ab be li fr to n g (cQuant n g l1 x1) (gQuant l1 false (g (ix x1))) M r M1) (hw_B D qcl (qty cI cJ cZ cN) M sz) (hw_A M sz)) 0 0 (hw_A M sz) := by
  obtain ⟨up, dn, pz, NE, IT, PO, MA, AB, BE, st, mt, hK, hT, hM, hL, hg⟩ := hJ
  have hn := hM.1
  refine hw_met (by decide) (Nat.le_of_ble_eq_true rfl) ?_
  intro p e s m below meth c hx hb hr hml hown hlocks hnm hts hsz hX hW ls hl
  subst hsz
  have hA : ∀ q, s.heap.size ≤ q → hw_A M s.heap.size q := fun q h => Or.inr h
  have hS : va_S (hw_A M s.heap.size) s.heap s.heap [] := va_S.rf
  have hl : lv_has ls 3 [(0, .ref md), (1, .int l1), (2, .int x1)] := hl
  have hown : s.vm.findClass "QuantifierOutModel" = some m.cls := hown
  obtain ⟨Q9, hQ9⟩ : ∃ X : State → Prop, X = MQ below (va_Qi (fun r M1 => md_N cI cJ cZ md kd on tw nu le fx fy si de ne it po ma ab be li fr to n g (cQuant n g l1 x1) (gQuant l1 false (g (ix x1))) M r M1) (hw_B D qcl (qty cI cJ cZ cN) M s.heap.size) (hw_A M s.heap.size)) [.ref md, .int l1, .int x1].toArray s 0 0 (hw_A M s.heap.size) := ⟨_, rfl⟩
  rw [← hQ9]
  have w_md := hK.1
  have w_md : M md = some (.inr (8, [.int cd, .int (nI n), .ref kd, .ref on, .ref tw, .ref nu, .ref le, .ref fx, .ref fy, .ref si, .ref de, .ref ne, .ref it, .ref po, .ref ma, .ref ab, .ref be, .long up, .long dn, .ref li, .int pz, .ref fr, .ref to])) := w_md
  refine lv_aload_n hx hb d_Md_some_0 rfl (lv_at hl 0 rfl) ?_
  refine lv_iconst (v := 4) hx hb d_Md_some_1 (by decide) ?_
  refine lv_iload_n hx hb d_Md_some_2 rfl (lv_at hl 1 rfl) ?_
  refine lv_iload_n hx hb d_Md_some_3 rfl (lv_at hl 2 rfl) ?_
  refine hw_calli (hw_runV (n := 3) (own := "QuantifierOutModel") (As := [.int 4, .int l1, .int x1]) (rest := []) hx hb hml hown hts hX hW hl.1 (c_Md_quantified l D cI cJ cZ cN md kd on tw nu le fx fy si de ne it po ma ab be li fr to cd n g _ M hD ⟨up, dn, pz, NE, IT, PO, MA, AB, BE, st, mt, hK, hT, hM, hL, hg⟩ 4 l1 x1 false rfl) hK.1 rfl tw_716 tw_718 ts_14 tw_5 tw_719 (by decide +kernel) rfl rfl ⟨by decide, by decide⟩ rfl rfl (Nat.le_of_ble_eq_true rfl) d_Md_some_4 ⟨by decide, by decide⟩) hW hS hA (fun rp Mp H locs hpp hz hW hS => ?_)
  rw [hQ9]
  exact hw_reti hx hb hr hlocks hW hS hpp d_Md_some_7
set_option maxHeartbeats 4000000 in
set_option maxRecDepth 100000 in
theorem c_Md_every (cd : Int32) (n : Nat) (g : Nat → abn) (sz : Nat) (M : Nat → Option va_E) (hD : md_D md kd on tw nu le fx fy si de ne it po ma ab be li fr to) (hJ : md_J cI cJ cZ md kd on tw nu le fx fy si de ne it po ma ab be li fr to M cd n g) (l1 x1 : Int32)  : Met l y_Md_every (.code y_Md_every b_Md_every 3 (some .int) :: ww) ({ frames := 3, cells := 0, slots := 0, locals := 110 }) (hw_Pc D qcl (qty cI cJ cZ cN) [.ref md, .int l1, .int x1] M sz) (va_Qi (fun r M1 => md_N cI cJ cZ md kd on tw nu le fx fy si de ne it po ma ab be li fr to n g (cQuant n g l1 x1) (gQuant l1 true (g (ix x1))) M r M1) (hw_B D qcl (qty cI cJ cZ cN) M sz) (hw_A M sz)) 0 0 (hw_A M sz) := by
  obtain ⟨up, dn, pz, NE, IT, PO, MA, AB, BE, st, mt, hK, hT, hM, hL, hg⟩ := hJ
  have hn := hM.1
  refine hw_met (by decide) (Nat.le_of_ble_eq_true rfl) ?_
  intro p e s m below meth c hx hb hr hml hown hlocks hnm hts hsz hX hW ls hl
  subst hsz
  have hA : ∀ q, s.heap.size ≤ q → hw_A M s.heap.size q := fun q h => Or.inr h
  have hS : va_S (hw_A M s.heap.size) s.heap s.heap [] := va_S.rf
  have hl : lv_has ls 3 [(0, .ref md), (1, .int l1), (2, .int x1)] := hl
  have hown : s.vm.findClass "QuantifierOutModel" = some m.cls := hown
  obtain ⟨Q9, hQ9⟩ : ∃ X : State → Prop, X = MQ below (va_Qi (fun r M1 => md_N cI cJ cZ md kd on tw nu le fx fy si de ne it po ma ab be li fr to n g (cQuant n g l1 x1) (gQuant l1 true (g (ix x1))) M r M1) (hw_B D qcl (qty cI cJ cZ cN) M s.heap.size) (hw_A M s.heap.size)) [.ref md, .int l1, .int x1].toArray s 0 0 (hw_A M s.heap.size) := ⟨_, rfl⟩
  rw [← hQ9]
  have w_md := hK.1
  have w_md : M md = some (.inr (8, [.int cd, .int (nI n), .ref kd, .ref on, .ref tw, .ref nu, .ref le, .ref fx, .ref fy, .ref si, .ref de, .ref ne, .ref it, .ref po, .ref ma, .ref ab, .ref be, .long up, .long dn, .ref li, .int pz, .ref fr, .ref to])) := w_md
  refine lv_aload_n hx hb d_Md_every_0 rfl (lv_at hl 0 rfl) ?_
  refine lv_iconst (v := 5) hx hb d_Md_every_1 (by decide) ?_
  refine lv_iload_n hx hb d_Md_every_2 rfl (lv_at hl 1 rfl) ?_
  refine lv_iload_n hx hb d_Md_every_3 rfl (lv_at hl 2 rfl) ?_
  refine hw_calli (hw_runV (n := 3) (own := "QuantifierOutModel") (As := [.int 5, .int l1, .int x1]) (rest := []) hx hb hml hown hts hX hW hl.1 (c_Md_quantified l D cI cJ cZ cN md kd on tw nu le fx fy si de ne it po ma ab be li fr to cd n g _ M hD ⟨up, dn, pz, NE, IT, PO, MA, AB, BE, st, mt, hK, hT, hM, hL, hg⟩ 5 l1 x1 true rfl) hK.1 rfl tw_716 tw_718 ts_14 tw_5 tw_719 (by decide +kernel) rfl rfl ⟨by decide, by decide⟩ rfl rfl (Nat.le_of_ble_eq_true rfl) d_Md_every_4 ⟨by decide, by decide⟩) hW hS hA (fun rp Mp H locs hpp hz hW hS => ?_)
  rw [hQ9]
  exact hw_reti hx hb hr hlocks hW hS hpp d_Md_every_7
end G51

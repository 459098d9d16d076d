/-! The reference: add -/
def ad_st (st : Nat → Nat → Int32) (n : Nat) (k p q x5 x6 x7 x8 : Int32) : Nat → Nat → Int32
  | 0 => upd (st 0) n k
  | 1 => upd (st 1) n p
  | 2 => upd (st 2) n q
  | 5 => upd (st 5) n x5
  | 6 => upd (st 6) n x6
  | 7 => upd (st 7) n x7
  | 8 => upd (st 8) n x8
  | a => st a
theorem ad_old {st : Nat → Nat → Int32} {n : Nat} {k p q x5 x6 x7 x8 : Int32} {a i : Nat} (hi : i ≠ n) : ad_st st n k p q x5 x6 x7 x8 a i = st a i := by
  rcases a with _ | _ | _ | _ | _ | _ | _ | _ | _ | a
  · exact pk_un hi
  · exact pk_un hi
  · exact pk_un hi
  · rfl
  · rfl
  · exact pk_un hi
  · exact pk_un hi
  · exact pk_un hi
  · exact pk_un hi
  · rfl
def orI (u v : Int32) : Int32 := if u = 0 then v else 1
def mxI (u v : Int32) : Int32 := if v ≤ u then u else v
theorem orI01 {u v : Int32} (hv : v = 0 ∨ v = 1) : orI u v = 0 ∨ orI u v = 1 := by
  unfold orI; by_cases e : u = 0
  · rw [if_pos e]; exact hv
  · rw [if_neg e]; exact Or.inr rfl
theorem orI_b {a b : Bool} : orI (if a = true then 1 else 0) (if b = true then 1 else 0) = if (a || b) = true then 1 else 0 := by
  cases a <;> cases b <;> rfl
theorem mxI_n {a b : Nat} (ha : a < 2 ^ 31) (hb : b < 2 ^ 31) : mxI (nI a) (nI b) = nI (max a b) := by
  unfold mxI
  rcases Nat.lt_or_ge a b with h | h
  · rw [if_neg (fun z => by rw [nI_leI hb ha] at z; omega), Nat.max_eq_right (by omega)]
  · rw [if_pos ((nI_leI hb ha).mpr h), Nat.max_eq_left h]
theorem nI_nm1 {b : Nat} (hb : b < 2 ^ 31) : ¬ nI b = -1 := fun z => by
  have h := nI_toInt hb
  rw [z] at h
  have : (-1 : Int32).toInt = -1 := rfl
  omega
theorem nI_prd (n : Nat) : nI (n + 1) - 1 = nI n := pk_sub (a := n + 1) (b := 1) (by omega)
section G50
variable (l : Launch) (D : va_G) (cI cJ cZ cN : ClassId) (md kd on tw nu le fx fy si de ne it po ma ab be li fr to : Nat)
set_option maxHeartbeats 4000000 in
set_option maxRecDepth 100000 in
theorem c_Md_addA (cd : Int32) (n : Nat) (up dn : Int64) (pz : Int32) (NE IT : Nat → Int32) (PO : Nat → Int64) (MA : Nat → Int32) (AB BE : Nat → Int64) (sz : Nat) (st : Nat → Nat → Int32) (M : Nat → Option va_E) (hD : md_D md kd on tw nu le fx fy si de ne it po ma ab be li fr to) (hK : md_W cI cJ cZ md kd on tw nu le fx fy si de ne it po ma ab be li fr to M cd n up dn pz NE IT PO MA AB BE) (hT : md_T cI cZ kd on tw nu le fx fy si de M st) (hn : n < 60)  : Met l y_Md_add (.code y_Md_add b_Md_add 6 (some .int) :: ww) ({ frames := 0, cells := 0, slots := 0, locals := 0 }) (hw_Pc D qcl (qty cI cJ cZ cN) [.ref md, .int 0, .int (-1), .int (-1)] M sz) (va_Qi (fun r M1 => r = nI n ∧ md_W cI cJ cZ md kd on tw nu le fx fy si de ne it po ma ab be li fr to M1 cd (n + 1) up dn pz NE IT PO MA AB BE ∧ md_T cI cZ kd on tw nu le fx fy si de M1 (ad_st st n 0 (-1) (-1) 1 1 1 0) ∧ ∀ x9, x9 ≠ md → x9 ≠ kd → x9 ≠ on → x9 ≠ tw → x9 ≠ fx → x9 ≠ fy → x9 ≠ si → x9 ≠ de → M1 x9 = M x9) (hw_B D qcl (qty cI cJ cZ cN) M sz) (hw_A M sz)) 0 0 (hw_A M sz) := by
  refine hw_met (by decide) (Nat.le_of_ble_eq_true rfl) ?_
  intro p e s m below meth c hx hb hr hml hown hlocks hnm hts hsz hX hW ls hl
  subst hsz
  have hA : ∀ q, s.heap.size ≤ q → hw_A M s.heap.size q := fun q h => Or.inr h
  have hS : va_S (hw_A M s.heap.size) s.heap s.heap [] := va_S.rf
  have hl : lv_has ls 6 [(0, .ref md), (1, .int 0), (2, .int (-1)), (3, .int (-1))] := hl
  have hown : s.vm.findClass "QuantifierOutModel" = some m.cls := hown
  obtain ⟨Q9, hQ9⟩ : ∃ X : State → Prop, X = MQ below (va_Qi (fun r M1 => r = nI n ∧ md_W cI cJ cZ md kd on tw nu le fx fy si de ne it po ma ab be li fr to M1 cd (n + 1) up dn pz NE IT PO MA AB BE ∧ md_T cI cZ kd on tw nu le fx fy si de M1 (ad_st st n 0 (-1) (-1) 1 1 1 0) ∧ ∀ x9, x9 ≠ md → x9 ≠ kd → x9 ≠ on → x9 ≠ tw → x9 ≠ fx → x9 ≠ fy → x9 ≠ si → x9 ≠ de → M1 x9 = M x9) (hw_B D qcl (qty cI cJ cZ cN) M s.heap.size) (hw_A M s.heap.size)) [.ref md, .int 0, .int (-1), .int (-1)].toArray s 0 0 (hw_A M s.heap.size) := ⟨_, rfl⟩
  rw [← hQ9]
  have w_md := hK.1
  have w_md : M md = some (.inr (8, [.int cd, .int (nI n), .ref kd, .ref on, .ref tw, .ref nu, .ref le, .ref fx, .ref fy, .ref si, .ref de, .ref ne, .ref it, .ref po, .ref ma, .ref ab, .ref be, .long up, .long dn, .ref li, .int pz, .ref fr, .ref to])) := w_md
  have t_kd : M kd = some (.inl (cI, 60, .inl (st 0))) := hT.1
  have t_on : M on = some (.inl (cI, 60, .inl (st 1))) := hT.2.1
  have t_tw : M tw = some (.inl (cI, 60, .inl (st 2))) := hT.2.2.1
  have t_fx : M fx = some (.inl (cZ, 60, .inl (st 5))) := hT.2.2.2.2.2.1
  have t_fy : M fy = some (.inl (cZ, 60, .inl (st 6))) := hT.2.2.2.2.2.2.1
  have t_si : M si = some (.inl (cI, 60, .inl (st 7))) := hT.2.2.2.2.2.2.2.1
  have t_de : M de = some (.inl (cI, 60, .inl (st 8))) := hT.2.2.2.2.2.2.2.2
  refine lv_aload_n hx hb d_Md_add_0 rfl (lv_at hl 0 rfl) ?_
  refine hw_get (own := "QuantifierOutModel") (v := .ref kd) hx hb hts i_Md hown hW w_md rfl 2 (by decide) (hts _ tw_605) (fun _ h9 => h9) rfl d_Md_add_1 ?_
  refine lv_aload_n hx hb d_Md_add_4 rfl (lv_at hl 0 rfl) ?_
  refine hw_get (own := "QuantifierOutModel") (v := .int (nI n)) hx hb hts i_Md hown hW w_md rfl 1 (by decide) (hts _ tw_604) (fun _ h9 => h9) rfl d_Md_add_5 ?_
  refine lv_iload_n hx hb d_Md_add_8 rfl (lv_at hl 1 rfl) ?_
  refine hw_ist hx hb hW hS 0 t_kd rfl n rfl (by omega) (by decide) d_Md_add_9 (fun H locs hW hS => ?_)
  have hW : hw_W D qcl (qty cI cJ cZ cN) _ (va_up M kd (some (.inl (cI, 60, .inl (upd (st 0) n 0))))) s H := hW
  generalize hMw1 : va_up M kd (some (.inl (cI, 60, .inl (upd (st 0) n 0)))) = Mw1 at hW
  have w_md : Mw1 md = some (.inr (8, [.int cd, .int (nI n), .ref kd, .ref on, .ref tw, .ref nu, .ref le, .ref fx, .ref fy, .ref si, .ref de, .ref ne, .ref it, .ref po, .ref ma, .ref ab, .ref be, .long up, .long dn, .ref li, .int pz, .ref fr, .ref to])) := by rw [← hMw1, va_up_ne _ _ (show md ≠ kd from hD 0 1 (by decide) (by decide))]; exact w_md
  have t_on : Mw1 on = some (.inl (cI, 60, .inl (st 1))) := by rw [← hMw1, va_up_ne _ _ (Ne.symm (show kd ≠ on from hD 1 2 (by decide) (by decide)))]; exact t_on
  have t_tw : Mw1 tw = some (.inl (cI, 60, .inl (st 2))) := by rw [← hMw1, va_up_ne _ _ (Ne.symm (show kd ≠ tw from hD 1 3 (by decide) (by decide)))]; exact t_tw
  have t_fx : Mw1 fx = some (.inl (cZ, 60, .inl (st 5))) := by rw [← hMw1, va_up_ne _ _ (Ne.symm (show kd ≠ fx from hD 1 6 (by decide) (by decide)))]; exact t_fx
  have t_fy : Mw1 fy = some (.inl (cZ, 60, .inl (st 6))) := by rw [← hMw1, va_up_ne _ _ (Ne.symm (show kd ≠ fy from hD 1 7 (by decide) (by decide)))]; exact t_fy
  have t_si : Mw1 si = some (.inl (cI, 60, .inl (st 7))) := by rw [← hMw1, va_up_ne _ _ (Ne.symm (show kd ≠ si from hD 1 8 (by decide) (by decide)))]; exact t_si
  have t_de : Mw1 de = some (.inl (cI, 60, .inl (st 8))) := by rw [← hMw1, va_up_ne _ _ (Ne.symm (show kd ≠ de from hD 1 9 (by decide) (by decide)))]; exact t_de
  have t_kd : Mw1 kd = some (.inl (cI, 60, .inl (upd (st 0) n 0))) := by rw [← hMw1]; exact va_up_self _ _ _
  have hfr_Mw1 : ∀ x9, x9 ≠ kd → Mw1 x9 = M x9 := fun x9 z9 => by rw [← hMw1, va_up_ne _ _ z9]
  refine lv_aload_n hx hb d_Md_add_10 rfl (lv_at hl 0 rfl) ?_
  refine hw_get (own := "QuantifierOutModel") (v := .ref on) hx hb hts i_Md hown hW w_md rfl 3 (by decide) (hts _ tw_606) (fun _ h9 => h9) rfl d_Md_add_11 ?_
  refine lv_aload_n hx hb d_Md_add_14 rfl (lv_at hl 0 rfl) ?_
  refine hw_get (own := "QuantifierOutModel") (v := .int (nI n)) hx hb hts i_Md hown hW w_md rfl 1 (by decide) (hts _ tw_604) (fun _ h9 => h9) rfl d_Md_add_15 ?_
  refine lv_iload_n hx hb d_Md_add_18 rfl (lv_at hl 2 rfl) ?_
  refine hw_ist hx hb hW hS 0 t_on rfl n rfl (by omega) (by decide) d_Md_add_19 (fun H locs hW hS => ?_)
  have hW : hw_W D qcl (qty cI cJ cZ cN) _ (va_up Mw1 on (some (.inl (cI, 60, .inl (upd (st 1) n (-1)))))) s H := hW
  generalize hMw2 : va_up Mw1 on (some (.inl (cI, 60, .inl (upd (st 1) n (-1))))) = Mw2 at hW
  have w_md : Mw2 md = some (.inr (8, [.int cd, .int (nI n), .ref kd, .ref on, .ref tw, .ref nu, .ref le, .ref fx, .ref fy, .ref si, .ref de, .ref ne, .ref it, .ref po, .ref ma, .ref ab, .ref be, .long up, .long dn, .ref li, .int pz, .ref fr, .ref to])) := by rw [← hMw2, va_up_ne _ _ (show md ≠ on from hD 0 2 (by decide) (by decide))]; exact w_md
  have t_tw : Mw2 tw = some (.inl (cI, 60, .inl (st 2))) := by rw [← hMw2, va_up_ne _ _ (Ne.symm (show on ≠ tw from hD 2 3 (by decide) (by decide)))]; exact t_tw
  have t_fx : Mw2 fx = some (.inl (cZ, 60, .inl (st 5))) := by rw [← hMw2, va_up_ne _ _ (Ne.symm (show on ≠ fx from hD 2 6 (by decide) (by decide)))]; exact t_fx
  have t_fy : Mw2 fy = some (.inl (cZ, 60, .inl (st 6))) := by rw [← hMw2, va_up_ne _ _ (Ne.symm (show on ≠ fy from hD 2 7 (by decide) (by decide)))]; exact t_fy
  have t_si : Mw2 si = some (.inl (cI, 60, .inl (st 7))) := by rw [← hMw2, va_up_ne _ _ (Ne.symm (show on ≠ si from hD 2 8 (by decide) (by decide)))]; exact t_si
  have t_de : Mw2 de = some (.inl (cI, 60, .inl (st 8))) := by rw [← hMw2, va_up_ne _ _ (Ne.symm (show on ≠ de from hD 2 9 (by decide) (by decide)))]; exact t_de
  have t_kd : Mw2 kd = some (.inl (cI, 60, .inl (upd (st 0) n 0))) := by rw [← hMw2, va_up_ne _ _ (show kd ≠ on from hD 1 2 (by decide) (by decide))]; exact t_kd
  have t_on : Mw2 on = some (.inl (cI, 60, .inl (upd (st 1) n (-1)))) := by rw [← hMw2]; exact va_up_self _ _ _
  have hfr_Mw2 : ∀ x9, x9 ≠ on → Mw2 x9 = Mw1 x9 := fun x9 z9 => by rw [← hMw2, va_up_ne _ _ z9]
  refine lv_aload_n hx hb d_Md_add_20 rfl (lv_at hl 0 rfl) ?_
  refine hw_get (own := "QuantifierOutModel") (v := .ref tw) hx hb hts i_Md hown hW w_md rfl 4 (by decide) (hts _ tw_607) (fun _ h9 => h9) rfl d_Md_add_21 ?_
  refine lv_aload_n hx hb d_Md_add_24 rfl (lv_at hl 0 rfl) ?_
  refine hw_get (own := "QuantifierOutModel") (v := .int (nI n)) hx hb hts i_Md hown hW w_md rfl 1 (by decide) (hts _ tw_604) (fun _ h9 => h9) rfl d_Md_add_25 ?_
  refine lv_iload_n hx hb d_Md_add_28 rfl (lv_at hl 3 rfl) ?_
  refine hw_ist hx hb hW hS 0 t_tw rfl n rfl (by omega) (by decide) d_Md_add_29 (fun H locs hW hS => ?_)
  have hW : hw_W D qcl (qty cI cJ cZ cN) _ (va_up Mw2 tw (some (.inl (cI, 60, .inl (upd (st 2) n (-1)))))) s H := hW
  generalize hMw3 : va_up Mw2 tw (some (.inl (cI, 60, .inl (upd (st 2) n (-1))))) = Mw3 at hW
  have w_md : Mw3 md = some (.inr (8, [.int cd, .int (nI n), .ref kd, .ref on, .ref tw, .ref nu, .ref le, .ref fx, .ref fy, .ref si, .ref de, .ref ne, .ref it, .ref po, .ref ma, .ref ab, .ref be, .long up, .long dn, .ref li, .int pz, .ref fr, .ref to])) := by rw [← hMw3, va_up_ne _ _ (show md ≠ tw from hD 0 3 (by decide) (by decide))]; exact w_md
  have t_fx : Mw3 fx = some (.inl (cZ, 60, .inl (st 5))) := by rw [← hMw3, va_up_ne _ _ (Ne.symm (show tw ≠ fx from hD 3 6 (by decide) (by decide)))]; exact t_fx
  have t_fy : Mw3 fy = some (.inl (cZ, 60, .inl (st 6))) := by rw [← hMw3, va_up_ne _ _ (Ne.symm (show tw ≠ fy from hD 3 7 (by decide) (by decide)))]; exact t_fy
  have t_si : Mw3 si = some (.inl (cI, 60, .inl (st 7))) := by rw [← hMw3, va_up_ne _ _ (Ne.symm (show tw ≠ si from hD 3 8 (by decide) (by decide)))]; exact t_si
  have t_de : Mw3 de = some (.inl (cI, 60, .inl (st 8))) := by rw [← hMw3, va_up_ne _ _ (Ne.symm (show tw ≠ de from hD 3 9 (by decide) (by decide)))]; exact t_de
  have t_kd : Mw3 kd = some (.inl (cI, 60, .inl (upd (st 0) n 0))) := by rw [← hMw3, va_up_ne _ _ (show kd ≠ tw from hD 1 3 (by decide) (by decide))]; exact t_kd
  have t_on : Mw3 on = some (.inl (cI, 60, .inl (upd (st 1) n (-1)))) := by rw [← hMw3, va_up_ne _ _ (show on ≠ tw from hD 2 3 (by decide) (by decide))]; exact t_on
  have t_tw : Mw3 tw = some (.inl (cI, 60, .inl (upd (st 2) n (-1)))) := by rw [← hMw3]; exact va_up_self _ _ _
  have hfr_Mw3 : ∀ x9, x9 ≠ tw → Mw3 x9 = Mw2 x9 := fun x9 z9 => by rw [← hMw3, va_up_ne _ _ z9]
  have T98 : ∀ (X Y : Int32), X = 1 → Y = 1 → ∀ (ls : Array Slot), lv_has ls 6 [(5, .int Y), (4, .int X), (0, .ref md), (1, .int 0), (2, .int (-1)), (3, .int (-1))] → W p l e ({ frames := 0, cells := 0, slots := 0, locals := 0 }) s m [.ref md, .int 0, .int (-1), .int (-1)].toArray below meth c H locs 0 0 Q9 (F0 m 98 ls []) := by
    intro X Y hX hY ls hl
    have hX01 : X = 0 ∨ X = 1 := Or.inr hX
    have hY01 : Y = 0 ∨ Y = 1 := Or.inr hY
    refine lv_aload_n hx hb d_Md_add_98 rfl (lv_at hl 2 rfl) ?_
    refine hw_get (own := "QuantifierOutModel") (v := .ref fx) hx hb hts i_Md hown hW w_md rfl 7 (by decide) (hts _ tw_610) (fun _ h9 => h9) rfl d_Md_add_99 ?_
    refine lv_aload_n hx hb d_Md_add_102 rfl (lv_at hl 2 rfl) ?_
    refine hw_get (own := "QuantifierOutModel") (v := .int (nI n)) hx hb hts i_Md hown hW w_md rfl 1 (by decide) (hts _ tw_604) (fun _ h9 => h9) rfl d_Md_add_103 ?_
    refine lv_iload hx hb d_Md_add_106 (lv_at hl 1 rfl) ?_
    refine hw_zst hx hb hW hS 2 t_fx rfl n rfl (by omega) (by decide) (by rcases hX01 with z9 | z9 <;> rw [z9] <;> rfl) d_Md_add_108 (fun H locs hW hS => ?_)
    have hW : hw_W D qcl (qty cI cJ cZ cN) _ (va_up Mw3 fx (some (.inl (cZ, 60, .inl (upd (st 5) n X))))) s H := hW
    generalize hMw4 : va_up Mw3 fx (some (.inl (cZ, 60, .inl (upd (st 5) n X)))) = Mw4 at hW
    have w_md : Mw4 md = some (.inr (8, [.int cd, .int (nI n), .ref kd, .ref on, .ref tw, .ref nu, .ref le, .ref fx, .ref fy, .ref si, .ref de, .ref ne, .ref it, .ref po, .ref ma, .ref ab, .ref be, .long up, .long dn, .ref li, .int pz, .ref fr, .ref to])) := by rw [← hMw4, va_up_ne _ _ (show md ≠ fx from hD 0 6 (by decide) (by decide))]; exact w_md
    have t_fy : Mw4 fy = some (.inl (cZ, 60, .inl (st 6))) := by rw [← hMw4, va_up_ne _ _ (Ne.symm (show fx ≠ fy from hD 6 7 (by decide) (by decide)))]; exact t_fy
    have t_si : Mw4 si = some (.inl (cI, 60, .inl (st 7))) := by rw [← hMw4, va_up_ne _ _ (Ne.symm (show fx ≠ si from hD 6 8 (by decide) (by decide)))]; exact t_si
    have t_de : Mw4 de = some (.inl (cI, 60, .inl (st 8))) := by rw [← hMw4, va_up_ne _ _ (Ne.symm (show fx ≠ de from hD 6 9 (by decide) (by decide)))]; exact t_de
    have t_kd : Mw4 kd = some (.inl (cI, 60, .inl (upd (st 0) n 0))) := by rw [← hMw4, va_up_ne _ _ (show kd ≠ fx from hD 1 6 (by decide) (by decide))]; exact t_kd
    have t_on : Mw4 on = some (.inl (cI, 60, .inl (upd (st 1) n (-1)))) := by rw [← hMw4, va_up_ne _ _ (show on ≠ fx from hD 2 6 (by decide) (by decide))]; exact t_on
    have t_tw : Mw4 tw = some (.inl (cI, 60, .inl (upd (st 2) n (-1)))) := by rw [← hMw4, va_up_ne _ _ (show tw ≠ fx from hD 3 6 (by decide) (by decide))]; exact t_tw
    have t_fx : Mw4 fx = some (.inl (cZ, 60, .inl (upd (st 5) n X))) := by rw [← hMw4]; exact va_up_self _ _ _
    have hfr_Mw4 : ∀ x9, x9 ≠ fx → Mw4 x9 = Mw3 x9 := fun x9 z9 => by rw [← hMw4, va_up_ne _ _ z9]
    refine lv_aload_n hx hb d_Md_add_109 rfl (lv_at hl 2 rfl) ?_
    refine hw_get (own := "QuantifierOutModel") (v := .ref fy) hx hb hts i_Md hown hW w_md rfl 8 (by decide) (hts _ tw_611) (fun _ h9 => h9) rfl d_Md_add_110 ?_
    refine lv_aload_n hx hb d_Md_add_113 rfl (lv_at hl 2 rfl) ?_
    refine hw_get (own := "QuantifierOutModel") (v := .int (nI n)) hx hb hts i_Md hown hW w_md rfl 1 (by decide) (hts _ tw_604) (fun _ h9 => h9) rfl d_Md_add_114 ?_
    refine lv_iload hx hb d_Md_add_117 (lv_at hl 0 rfl) ?_
    refine hw_zst hx hb hW hS 2 t_fy rfl n rfl (by omega) (by decide) (by rcases hY01 with z9 | z9 <;> rw [z9] <;> rfl) d_Md_add_119 (fun H locs hW hS => ?_)
    have hW : hw_W D qcl (qty cI cJ cZ cN) _ (va_up Mw4 fy (some (.inl (cZ, 60, .inl (upd (st 6) n Y))))) s H := hW
    generalize hMw5 : va_up Mw4 fy (some (.inl (cZ, 60, .inl (upd (st 6) n Y)))) = Mw5 at hW
    have w_md : Mw5 md = some (.inr (8, [.int cd, .int (nI n), .ref kd, .ref on, .ref tw, .ref nu, .ref le, .ref fx, .ref fy, .ref si, .ref de, .ref ne, .ref it, .ref po, .ref ma, .ref ab, .ref be, .long up, .long dn, .ref li, .int pz, .ref fr, .ref to])) := by rw [← hMw5, va_up_ne _ _ (show md ≠ fy from hD 0 7 (by decide) (by decide))]; exact w_md
    have t_si : Mw5 si = some (.inl (cI, 60, .inl (st 7))) := by rw [← hMw5, va_up_ne _ _ (Ne.symm (show fy ≠ si from hD 7 8 (by decide) (by decide)))]; exact t_si
    have t_de : Mw5 de = some (.inl (cI, 60, .inl (st 8))) := by rw [← hMw5, va_up_ne _ _ (Ne.symm (show fy ≠ de from hD 7 9 (by decide) (by decide)))]; exact t_de
    have t_kd : Mw5 kd = some (.inl (cI, 60, .inl (upd (st 0) n 0))) := by rw [← hMw5, va_up_ne _ _ (show kd ≠ fy from hD 1 7 (by decide) (by decide))]; exact t_kd
    have t_on : Mw5 on = some (.inl (cI, 60, .inl (upd (st 1) n (-1)))) := by rw [← hMw5, va_up_ne _ _ (show on ≠ fy from hD 2 7 (by decide) (by decide))]; exact t_on
    have t_tw : Mw5 tw = some (.inl (cI, 60, .inl (upd (st 2) n (-1)))) := by rw [← hMw5, va_up_ne _ _ (show tw ≠ fy from hD 3 7 (by decide) (by decide))]; exact t_tw
    have t_fx : Mw5 fx = some (.inl (cZ, 60, .inl (upd (st 5) n X))) := by rw [← hMw5, va_up_ne _ _ (show fx ≠ fy from hD 6 7 (by decide) (by decide))]; exact t_fx
    have t_fy : Mw5 fy = some (.inl (cZ, 60, .inl (upd (st 6) n Y))) := by rw [← hMw5]; exact va_up_self _ _ _
    have hfr_Mw5 : ∀ x9, x9 ≠ fy → Mw5 x9 = Mw4 x9 := fun x9 z9 => by rw [← hMw5, va_up_ne _ _ z9]
    refine lv_aload_n hx hb d_Md_add_120 rfl (lv_at hl 2 rfl) ?_
    refine hw_get (own := "QuantifierOutModel") (v := .ref si) hx hb hts i_Md hown hW w_md rfl 9 (by decide) (hts _ tw_612) (fun _ h9 => h9) rfl d_Md_add_121 ?_
    refine lv_aload_n hx hb d_Md_add_124 rfl (lv_at hl 2 rfl) ?_
    refine hw_get (own := "QuantifierOutModel") (v := .int (nI n)) hx hb hts i_Md hown hW w_md rfl 1 (by decide) (hts _ tw_604) (fun _ h9 => h9) rfl d_Md_add_125 ?_
    refine lv_iload_n hx hb d_Md_add_128 rfl (lv_at hl 3 rfl) ?_
    refine lv_if_ne (tgt := 136) hx hb d_Md_add_129 (by decide) (fun c_129 => ?_) (fun c_129 => ?_)
    · skip
      exact absurd rfl c_129
    · skip
      refine lv_iconst (v := 1) hx hb d_Md_add_132 (by decide) ?_
      refine lv_goto (tgt := 158) hx hb d_Md_add_133 (by decide) ?_
      refine hw_ist hx hb hW hS 0 t_si rfl n rfl (by omega) (by decide) d_Md_add_158 (fun H locs hW hS => ?_)
      have hW : hw_W D qcl (qty cI cJ cZ cN) _ (va_up Mw5 si (some (.inl (cI, 60, .inl (upd (st 7) n 1))))) s H := hW
      generalize hMw6 : va_up Mw5 si (some (.inl (cI, 60, .inl (upd (st 7) n 1)))) = Mw6 at hW
      have w_md : Mw6 md = some (.inr (8, [.int cd, .int (nI n), .ref kd, .ref on, .ref tw, .ref nu, .ref le, .ref fx, .ref fy, .ref si, .ref de, .ref ne, .ref it, .ref po, .ref ma, .ref ab, .ref be, .long up, .long dn, .ref li, .int pz, .ref fr, .ref to])) := by rw [← hMw6, va_up_ne _ _ (show md ≠ si from hD 0 8 (by decide) (by decide))]; exact w_md
      have t_de : Mw6 de = some (.inl (cI, 60, .inl (st 8))) := by rw [← hMw6, va_up_ne _ _ (Ne.symm (show si ≠ de from hD 8 9 (by decide) (by decide)))]; exact t_de
      have t_kd : Mw6 kd = some (.inl (cI, 60, .inl (upd (st 0) n 0))) := by rw [← hMw6, va_up_ne _ _ (show kd ≠ si from hD 1 8 (by decide) (by decide))]; exact t_kd
      have t_on : Mw6 on = some (.inl (cI, 60, .inl (upd (st 1) n (-1)))) := by rw [← hMw6, va_up_ne _ _ (show on ≠ si from hD 2 8 (by decide) (by decide))]; exact t_on
      have t_tw : Mw6 tw = some (.inl (cI, 60, .inl (upd (st 2) n (-1)))) := by rw [← hMw6, va_up_ne _ _ (show tw ≠ si from hD 3 8 (by decide) (by decide))]; exact t_tw
      have t_fx : Mw6 fx = some (.inl (cZ, 60, .inl (upd (st 5) n X))) := by rw [← hMw6, va_up_ne _ _ (show fx ≠ si from hD 6 8 (by decide) (by decide))]; exact t_fx
      have t_fy : Mw6 fy = some (.inl (cZ, 60, .inl (upd (st 6) n Y))) := by rw [← hMw6, va_up_ne _ _ (show fy ≠ si from hD 7 8 (by decide) (by decide))]; exact t_fy
      have t_si : Mw6 si = some (.inl (cI, 60, .inl (upd (st 7) n 1))) := by rw [← hMw6]; exact va_up_self _ _ _
      have hfr_Mw6 : ∀ x9, x9 ≠ si → Mw6 x9 = Mw5 x9 := fun x9 z9 => by rw [← hMw6, va_up_ne _ _ z9]
      refine lv_aload_n hx hb d_Md_add_159 rfl (lv_at hl 2 rfl) ?_
      refine hw_get (own := "QuantifierOutModel") (v := .ref de) hx hb hts i_Md hown hW w_md rfl 10 (by decide) (hts _ tw_613) (fun _ h9 => h9) rfl d_Md_add_160 ?_
      refine lv_aload_n hx hb d_Md_add_163 rfl (lv_at hl 2 rfl) ?_
      refine hw_get (own := "QuantifierOutModel") (v := .int (nI n)) hx hb hts i_Md hown hW w_md rfl 1 (by decide) (hts _ tw_604) (fun _ h9 => h9) rfl d_Md_add_164 ?_
      refine lv_iload_n hx hb d_Md_add_167 rfl (lv_at hl 3 rfl) ?_
      refine lv_if_ne (tgt := 175) hx hb d_Md_add_168 (by decide) (fun c_168 => ?_) (fun c_168 => ?_)
      · skip
        exact absurd rfl c_168
      · skip
        refine lv_iconst (v := 0) hx hb d_Md_add_171 (by decide) ?_
        refine lv_goto (tgt := 210) hx hb d_Md_add_172 (by decide) ?_
        refine hw_ist hx hb hW hS 0 t_de rfl n rfl (by omega) (by decide) d_Md_add_210 (fun H locs hW hS => ?_)
        have hW : hw_W D qcl (qty cI cJ cZ cN) _ (va_up Mw6 de (some (.inl (cI, 60, .inl (upd (st 8) n 0))))) s H := hW
        generalize hMw7 : va_up Mw6 de (some (.inl (cI, 60, .inl (upd (st 8) n 0)))) = Mw7 at hW
        have w_md : Mw7 md = some (.inr (8, [.int cd, .int (nI n), .ref kd, .ref on, .ref tw, .ref nu, .ref le, .ref fx, .ref fy, .ref si, .ref de, .ref ne, .ref it, .ref po, .ref ma, .ref ab, .ref be, .long up, .long dn, .ref li, .int pz, .ref fr, .ref to])) := by rw [← hMw7, va_up_ne _ _ (show md ≠ de from hD 0 9 (by decide) (by decide))]; exact w_md
        have t_kd : Mw7 kd = some (.inl (cI, 60, .inl (upd (st 0) n 0))) := by rw [← hMw7, va_up_ne _ _ (show kd ≠ de from hD 1 9 (by decide) (by decide))]; exact t_kd
        have t_on : Mw7 on = some (.inl (cI, 60, .inl (upd (st 1) n (-1)))) := by rw [← hMw7, va_up_ne _ _ (show on ≠ de from hD 2 9 (by decide) (by decide))]; exact t_on
        have t_tw : Mw7 tw = some (.inl (cI, 60, .inl (upd (st 2) n (-1)))) := by rw [← hMw7, va_up_ne _ _ (show tw ≠ de from hD 3 9 (by decide) (by decide))]; exact t_tw
        have t_fx : Mw7 fx = some (.inl (cZ, 60, .inl (upd (st 5) n X))) := by rw [← hMw7, va_up_ne _ _ (show fx ≠ de from hD 6 9 (by decide) (by decide))]; exact t_fx
        have t_fy : Mw7 fy = some (.inl (cZ, 60, .inl (upd (st 6) n Y))) := by rw [← hMw7, va_up_ne _ _ (show fy ≠ de from hD 7 9 (by decide) (by decide))]; exact t_fy
        have t_si : Mw7 si = some (.inl (cI, 60, .inl (upd (st 7) n 1))) := by rw [← hMw7, va_up_ne _ _ (show si ≠ de from hD 8 9 (by decide) (by decide))]; exact t_si
        have t_de : Mw7 de = some (.inl (cI, 60, .inl (upd (st 8) n 0))) := by rw [← hMw7]; exact va_up_self _ _ _
        have hfr_Mw7 : ∀ x9, x9 ≠ de → Mw7 x9 = Mw6 x9 := fun x9 z9 => by rw [← hMw7, va_up_ne _ _ z9]
        refine lv_aload_n hx hb d_Md_add_211 rfl (lv_at hl 2 rfl) ?_
        refine lv_dup hx hb d_Md_add_212 rfl ?_
        refine hw_get (own := "QuantifierOutModel") (v := .int (nI n)) hx hb hts i_Md hown hW w_md rfl 1 (by decide) (hts _ tw_604) (fun _ h9 => h9) rfl d_Md_add_213 ?_
        refine lv_iconst (v := 1) hx hb d_Md_add_216 (by decide) ?_
        refine lv_iadd hx hb d_Md_add_217 ?_
        refine lv_topi (fun x8 ex8 => ?_)
        have enx8 : x8 = nI (n + 1) := by rw [ex8]; exact nI_1 n
        rw [enx8]
        refine hw_put (own := "QuantifierOutModel") (v := .int (nI (n + 1))) (ty := .int) hx hb hts i_Md ft_Md tk_Md n_Md hown hW hS w_md rfl 1 (by decide) (hts _ tw_604) (fun _ h9 => h9) rfl (tk_Md 1 (by decide)) rfl rfl (Nat.le_of_ble_eq_true rfl) d_Md_add_218 (fun H locs hW hS => ?_)
        have hW : hw_W D qcl (qty cI cJ cZ cN) _ (va_up Mw7 md (some (.inr (8, [.int cd, .int (nI (n + 1)), .ref kd, .ref on, .ref tw, .ref nu, .ref le, .ref fx, .ref fy, .ref si, .ref de, .ref ne, .ref it, .ref po, .ref ma, .ref ab, .ref be, .long up, .long dn, .ref li, .int pz, .ref fr, .ref to])))) s H := hW
        generalize hMw9 : va_up Mw7 md (some (.inr (8, [.int cd, .int (nI (n + 1)), .ref kd, .ref on, .ref tw, .ref nu, .ref le, .ref fx, .ref fy, .ref si, .ref de, .ref ne, .ref it, .ref po, .ref ma, .ref ab, .ref be, .long up, .long dn, .ref li, .int pz, .ref fr, .ref to]))) = Mw9 at hW
        have t_kd : Mw9 kd = some (.inl (cI, 60, .inl (upd (st 0) n 0))) := by rw [← hMw9, va_up_ne _ _ (Ne.symm (show md ≠ kd from hD 0 1 (by decide) (by decide)))]; exact t_kd
        have t_on : Mw9 on = some (.inl (cI, 60, .inl (upd (st 1) n (-1)))) := by rw [← hMw9, va_up_ne _ _ (Ne.symm (show md ≠ on from hD 0 2 (by decide) (by decide)))]; exact t_on
        have t_tw : Mw9 tw = some (.inl (cI, 60, .inl (upd (st 2) n (-1)))) := by rw [← hMw9, va_up_ne _ _ (Ne.symm (show md ≠ tw from hD 0 3 (by decide) (by decide)))]; exact t_tw
        have t_fx : Mw9 fx = some (.inl (cZ, 60, .inl (upd (st 5) n X))) := by rw [← hMw9, va_up_ne _ _ (Ne.symm (show md ≠ fx from hD 0 6 (by decide) (by decide)))]; exact t_fx
        have t_fy : Mw9 fy = some (.inl (cZ, 60, .inl (upd (st 6) n Y))) := by rw [← hMw9, va_up_ne _ _ (Ne.symm (show md ≠ fy from hD 0 7 (by decide) (by decide)))]; exact t_fy
        have t_si : Mw9 si = some (.inl (cI, 60, .inl (upd (st 7) n 1))) := by rw [← hMw9, va_up_ne _ _ (Ne.symm (show md ≠ si from hD 0 8 (by decide) (by decide)))]; exact t_si
        have t_de : Mw9 de = some (.inl (cI, 60, .inl (upd (st 8) n 0))) := by rw [← hMw9, va_up_ne _ _ (Ne.symm (show md ≠ de from hD 0 9 (by decide) (by decide)))]; exact t_de
        have w_md : Mw9 md = some (.inr (8, [.int cd, .int (nI (n + 1)), .ref kd, .ref on, .ref tw, .ref nu, .ref le, .ref fx, .ref fy, .ref si, .ref de, .ref ne, .ref it, .ref po, .ref ma, .ref ab, .ref be, .long up, .long dn, .ref li, .int pz, .ref fr, .ref to])) := by rw [← hMw9]; exact va_up_self _ _ _
        have hfr_Mw9 : ∀ x9, x9 ≠ md → Mw9 x9 = Mw7 x9 := fun x9 z9 => by rw [← hMw9, va_up_ne _ _ z9]
        refine lv_aload_n hx hb d_Md_add_221 rfl (lv_at hl 2 rfl) ?_
        refine hw_get (own := "QuantifierOutModel") (v := .int (nI (n + 1))) hx hb hts i_Md hown hW w_md rfl 1 (by decide) (hts _ tw_604) (fun _ h9 => h9) rfl d_Md_add_222 ?_
        refine lv_iconst (v := 1) hx hb d_Md_add_225 (by decide) ?_
        refine lv_isub hx hb d_Md_add_226 ?_
        refine lv_topi (fun x10 ex10 => ?_)
        rw [hQ9]
        refine hw_reti hx hb hr hlocks hW hS ⟨by rw [ex10]; exact nI_prd n, ⟨w_md, (((((((((hfr_Mw9 ne (Ne.symm (show md ≠ ne from hD 0 10 (by decide) (by decide))))).trans (hfr_Mw7 ne (Ne.symm (show de ≠ ne from hD 9 10 (by decide) (by decide))))).trans (hfr_Mw6 ne (Ne.symm (show si ≠ ne from hD 8 10 (by decide) (by decide))))).trans (hfr_Mw5 ne (Ne.symm (show fy ≠ ne from hD 7 10 (by decide) (by decide))))).trans (hfr_Mw4 ne (Ne.symm (show fx ≠ ne from hD 6 10 (by decide) (by decide))))).trans (hfr_Mw3 ne (Ne.symm (show tw ≠ ne from hD 3 10 (by decide) (by decide))))).trans (hfr_Mw2 ne (Ne.symm (show on ≠ ne from hD 2 10 (by decide) (by decide))))).trans (hfr_Mw1 ne (Ne.symm (show kd ≠ ne from hD 1 10 (by decide) (by decide))))).trans hK.2.1, (((((((((hfr_Mw9 it (Ne.symm (show md ≠ it from hD 0 11 (by decide) (by decide))))).trans (hfr_Mw7 it (Ne.symm (show de ≠ it from hD 9 11 (by decide) (by decide))))).trans (hfr_Mw6 it (Ne.symm (show si ≠ it from hD 8 11 (by decide) (by decide))))).trans (hfr_Mw5 it (Ne.symm (show fy ≠ it from hD 7 11 (by decide) (by decide))))).trans (hfr_Mw4 it (Ne.symm (show fx ≠ it from hD 6 11 (by decide) (by decide))))).trans (hfr_Mw3 it (Ne.symm (show tw ≠ it from hD 3 11 (by decide) (by decide))))).trans (hfr_Mw2 it (Ne.symm (show on ≠ it from hD 2 11 (by decide) (by decide))))).trans (hfr_Mw1 it (Ne.symm (show kd ≠ it from hD 1 11 (by decide) (by decide))))).trans hK.2.2.1, (((((((((hfr_Mw9 po (Ne.symm (show md ≠ po from hD 0 12 (by decide) (by decide))))).trans (hfr_Mw7 po (Ne.symm (show de ≠ po from hD 9 12 (by decide) (by decide))))).trans (hfr_Mw6 po (Ne.symm (show si ≠ po from hD 8 12 (by decide) (by decide))))).trans (hfr_Mw5 po (Ne.symm (show fy ≠ po from hD 7 12 (by decide) (by decide))))).trans (hfr_Mw4 po (Ne.symm (show fx ≠ po from hD 6 12 (by decide) (by decide))))).trans (hfr_Mw3 po (Ne.symm (show tw ≠ po from hD 3 12 (by decide) (by decide))))).trans (hfr_Mw2 po (Ne.symm (show on ≠ po from hD 2 12 (by decide) (by decide))))).trans (hfr_Mw1 po (Ne.symm (show kd ≠ po from hD 1 12 (by decide) (by decide))))).trans hK.2.2.2.1, (((((((((hfr_Mw9 ma (Ne.symm (show md ≠ ma from hD 0 13 (by decide) (by decide))))).trans (hfr_Mw7 ma (Ne.symm (show de ≠ ma from hD 9 13 (by decide) (by decide))))).trans (hfr_Mw6 ma (Ne.symm (show si ≠ ma from hD 8 13 (by decide) (by decide))))).trans (hfr_Mw5 ma (Ne.symm (show fy ≠ ma from hD 7 13 (by decide) (by decide))))).trans (hfr_Mw4 ma (Ne.symm (show fx ≠ ma from hD 6 13 (by decide) (by decide))))).trans (hfr_Mw3 ma (Ne.symm (show tw ≠ ma from hD 3 13 (by decide) (by decide))))).trans (hfr_Mw2 ma (Ne.symm (show on ≠ ma from hD 2 13 (by decide) (by decide))))).trans (hfr_Mw1 ma (Ne.symm (show kd ≠ ma from hD 1 13 (by decide) (by decide))))).trans hK.2.2.2.2.1, (((((((((hfr_Mw9 ab (Ne.symm (show md ≠ ab from hD 0 14 (by decide) (by decide))))).trans (hfr_Mw7 ab (Ne.symm (show de ≠ ab from hD 9 14 (by decide) (by decide))))).trans (hfr_Mw6 ab (Ne.symm (show si ≠ ab from hD 8 14 (by decide) (by decide))))).trans (hfr_Mw5 ab (Ne.symm (show fy ≠ ab from hD 7 14 (by decide) (by decide))))).trans (hfr_Mw4 ab (Ne.symm (show fx ≠ ab from hD 6 14 (by decide) (by decide))))).trans (hfr_Mw3 ab (Ne.symm (show tw ≠ ab from hD 3 14 (by decide) (by decide))))).trans (hfr_Mw2 ab (Ne.symm (show on ≠ ab from hD 2 14 (by decide) (by decide))))).trans (hfr_Mw1 ab (Ne.symm (show kd ≠ ab from hD 1 14 (by decide) (by decide))))).trans hK.2.2.2.2.2.1, (((((((((hfr_Mw9 be (Ne.symm (show md ≠ be from hD 0 15 (by decide) (by decide))))).trans (hfr_Mw7 be (Ne.symm (show de ≠ be from hD 9 15 (by decide) (by decide))))).trans (hfr_Mw6 be (Ne.symm (show si ≠ be from hD 8 15 (by decide) (by decide))))).trans (hfr_Mw5 be (Ne.symm (show fy ≠ be from hD 7 15 (by decide) (by decide))))).trans (hfr_Mw4 be (Ne.symm (show fx ≠ be from hD 6 15 (by decide) (by decide))))).trans (hfr_Mw3 be (Ne.symm (show tw ≠ be from hD 3 15 (by decide) (by decide))))).trans (hfr_Mw2 be (Ne.symm (show on ≠ be from hD 2 15 (by decide) (by decide))))).trans (hfr_Mw1 be (Ne.symm (show kd ≠ be from hD 1 15 (by decide) (by decide))))).trans hK.2.2.2.2.2.2⟩, ?_, fun x9 z0 z1 z2 z3 z4 z5 z6 z7 => ((((((((hfr_Mw9 x9 z0)).trans (hfr_Mw7 x9 z7)).trans (hfr_Mw6 x9 z6)).trans (hfr_Mw5 x9 z5)).trans (hfr_Mw4 x9 z4)).trans (hfr_Mw3 x9 z3)).trans (hfr_Mw2 x9 z2)).trans (hfr_Mw1 x9 z1)⟩ d_Md_add_227
        have hfin : md_T cI cZ kd on tw nu le fx fy si de Mw9 (ad_st st n 0 (-1) (-1) X Y 1 0) := ⟨t_kd, t_on, t_tw, (((((((((hfr_Mw9 nu (Ne.symm (show md ≠ nu from hD 0 4 (by decide) (by decide))))).trans (hfr_Mw7 nu (show nu ≠ de from hD 4 9 (by decide) (by decide)))).trans (hfr_Mw6 nu (show nu ≠ si from hD 4 8 (by decide) (by decide)))).trans (hfr_Mw5 nu (show nu ≠ fy from hD 4 7 (by decide) (by decide)))).trans (hfr_Mw4 nu (show nu ≠ fx from hD 4 6 (by decide) (by decide)))).trans (hfr_Mw3 nu (Ne.symm (show tw ≠ nu from hD 3 4 (by decide) (by decide))))).trans (hfr_Mw2 nu (Ne.symm (show on ≠ nu from hD 2 4 (by decide) (by decide))))).trans (hfr_Mw1 nu (Ne.symm (show kd ≠ nu from hD 1 4 (by decide) (by decide))))).trans hT.2.2.2.1, (((((((((hfr_Mw9 le (Ne.symm (show md ≠ le from hD 0 5 (by decide) (by decide))))).trans (hfr_Mw7 le (show le ≠ de from hD 5 9 (by decide) (by decide)))).trans (hfr_Mw6 le (show le ≠ si from hD 5 8 (by decide) (by decide)))).trans (hfr_Mw5 le (show le ≠ fy from hD 5 7 (by decide) (by decide)))).trans (hfr_Mw4 le (show le ≠ fx from hD 5 6 (by decide) (by decide)))).trans (hfr_Mw3 le (Ne.symm (show tw ≠ le from hD 3 5 (by decide) (by decide))))).trans (hfr_Mw2 le (Ne.symm (show on ≠ le from hD 2 5 (by decide) (by decide))))).trans (hfr_Mw1 le (Ne.symm (show kd ≠ le from hD 1 5 (by decide) (by decide))))).trans hT.2.2.2.2.1, t_fx, t_fy, t_si, t_de⟩
        rw [hX, hY] at hfin; exact hfin
  have T64 : ∀ (X : Int32), X = 1 → ∀ (ls : Array Slot), lv_has ls 6 [(4, .int X), (0, .ref md), (1, .int 0), (2, .int (-1)), (3, .int (-1))] → W p l e ({ frames := 0, cells := 0, slots := 0, locals := 0 }) s m [.ref md, .int 0, .int (-1), .int (-1)].toArray below meth c H locs 0 0 Q9 (F0 m 64 ls []) := by
    intro X hX ls hl
    refine lv_iload_n hx hb d_Md_add_64 rfl (lv_at hl 2 rfl) ?_
    refine lv_if_eq (tgt := 91) hx hb d_Md_add_65 (by decide) (fun c_65 => ?_) (fun c_65 => ?_)
    · skip
      refine lv_iconst (v := 1) hx hb d_Md_add_91 (by decide) ?_
      refine lv_goto (tgt := 96) hx hb d_Md_add_92 (by decide) ?_
      refine lv_istore (lv' := [(5, .int 1), (4, .int X), (0, .ref md), (1, .int 0), (2, .int (-1)), (3, .int (-1))]) hx hb d_Md_add_96 hl (by decide) rfl (fun ls hl => ?_)
      exact T98 X 1 hX rfl ls (lv_sub hl [0, 1, 2, 3, 4, 5] rfl)
    · skip
      exact absurd rfl c_65
  refine lv_iload_n hx hb d_Md_add_30 rfl (lv_at hl 1 rfl) ?_
  refine lv_if_eq (tgt := 57) hx hb d_Md_add_31 (by decide) (fun c_31 => ?_) (fun c_31 => ?_)
  · skip
    refine lv_iconst (v := 1) hx hb d_Md_add_57 (by decide) ?_
    refine lv_goto (tgt := 62) hx hb d_Md_add_58 (by decide) ?_
    refine lv_istore (lv' := [(4, .int 1), (0, .ref md), (1, .int 0), (2, .int (-1)), (3, .int (-1))]) hx hb d_Md_add_62 hl (by decide) rfl (fun ls hl => ?_)
    exact T64 1 rfl ls (lv_sub hl [0, 1, 2, 3, 4] rfl)
  · skip
    exact absurd rfl c_31
set_option maxHeartbeats 4000000 in
set_option maxRecDepth 100000 in
theorem c_Md_addS (cd : Int32) (n : Nat) (up dn : Int64) (pz : Int32) (NE IT : Nat → Int32) (PO : Nat → Int64) (MA : Nat → Int32) (AB BE : Nat → Int64) (sz : Nat) (st : Nat → Nat → Int32) (M : Nat → Option va_E) (hD : md_D md kd on tw nu le fx fy si de ne it po ma ab be li fr to) (hK : md_W cI cJ cZ md kd on tw nu le fx fy si de ne it po ma ab be li fr to M cd n up dn pz NE IT PO MA AB BE) (hT : md_T cI cZ kd on tw nu le fx fy si de M st) (hn : n < 60) (k : Int32) (a : Nat) (hk : ¬ k = 0) (ha : a < n) (h5 : st 5 a = 0 ∨ st 5 a = 1) (h6 : st 6 a = 0 ∨ st 6 a = 1) : Met l y_Md_add (.code y_Md_add b_Md_add 6 (some .int) :: ww) ({ frames := 0, cells := 0, slots := 0, locals := 0 }) (hw_Pc D qcl (qty cI cJ cZ cN) [.ref md, .int k, .int (nI a), .int (-1)] M sz) (va_Qi (fun r M1 => r = nI n ∧ md_W cI cJ cZ md kd on tw nu le fx fy si de ne it po ma ab be li fr to M1 cd (n + 1) up dn pz NE IT PO MA AB BE ∧ md_T cI cZ kd on tw nu le fx fy si de M1 (ad_st st n k (nI a) (-1) (st 5 a) (st 6 a) (st 7 a) (st 8 a)) ∧ ∀ x9, x9 ≠ md → x9 ≠ kd → x9 ≠ on → x9 ≠ tw → x9 ≠ fx → x9 ≠ fy → x9 ≠ si → x9 ≠ de → M1 x9 = M x9) (hw_B D qcl (qty cI cJ cZ cN) M sz) (hw_A M sz)) 0 0 (hw_A M sz) := by
  refine hw_met (by decide) (Nat.le_of_ble_eq_true rfl) ?_
  intro p e s m below meth c hx hb hr hml hown hlocks hnm hts hsz hX hW ls hl
  subst hsz
  have hA : ∀ q, s.heap.size ≤ q → hw_A M s.heap.size q := fun q h => Or.inr h
  have hS : va_S (hw_A M s.heap.size) s.heap s.heap [] := va_S.rf
  have hl : lv_has ls 6 [(0, .ref md), (1, .int k), (2, .int (nI a)), (3, .int (-1))] := hl
  have hown : s.vm.findClass "QuantifierOutModel" = some m.cls := hown
  obtain ⟨Q9, hQ9⟩ : ∃ X : State → Prop, X = MQ below (va_Qi (fun r M1 => r = nI n ∧ md_W cI cJ cZ md kd on tw nu le fx fy si de ne it po ma ab be li fr to M1 cd (n + 1) up dn pz NE IT PO MA AB BE ∧ md_T cI cZ kd on tw nu le fx fy si de M1 (ad_st st n k (nI a) (-1) (st 5 a) (st 6 a) (st 7 a) (st 8 a)) ∧ ∀ x9, x9 ≠ md → x9 ≠ kd → x9 ≠ on → x9 ≠ tw → x9 ≠ fx → x9 ≠ fy → x9 ≠ si → x9 ≠ de → M1 x9 = M x9) (hw_B D qcl (qty cI cJ cZ cN) M s.heap.size) (hw_A M s.heap.size)) [.ref md, .int k, .int (nI a), .int (-1)].toArray s 0 0 (hw_A M s.heap.size) := ⟨_, rfl⟩
  rw [← hQ9]
  have w_md := hK.1
  have w_md : M md = some (.inr (8, [.int cd, .int (nI n), .ref kd, .ref on, .ref tw, .ref nu, .ref le, .ref fx, .ref fy, .ref si, .ref de, .ref ne, .ref it, .ref po, .ref ma, .ref ab, .ref be, .long up, .long dn, .ref li, .int pz, .ref fr, .ref to])) := w_md
  have t_kd : M kd = some (.inl (cI, 60, .inl (st 0))) := hT.1
  have t_on : M on = some (.inl (cI, 60, .inl (st 1))) := hT.2.1
  have t_tw : M tw = some (.inl (cI, 60, .inl (st 2))) := hT.2.2.1
  have t_fx : M fx = some (.inl (cZ, 60, .inl (st 5))) := hT.2.2.2.2.2.1
  have t_fy : M fy = some (.inl (cZ, 60, .inl (st 6))) := hT.2.2.2.2.2.2.1
  have t_si : M si = some (.inl (cI, 60, .inl (st 7))) := hT.2.2.2.2.2.2.2.1
  have t_de : M de = some (.inl (cI, 60, .inl (st 8))) := hT.2.2.2.2.2.2.2.2
  refine lv_aload_n hx hb d_Md_add_0 rfl (lv_at hl 0 rfl) ?_
  refine hw_get (own := "QuantifierOutModel") (v := .ref kd) hx hb hts i_Md hown hW w_md rfl 2 (by decide) (hts _ tw_605) (fun _ h9 => h9) rfl d_Md_add_1 ?_
  refine lv_aload_n hx hb d_Md_add_4 rfl (lv_at hl 0 rfl) ?_
  refine hw_get (own := "QuantifierOutModel") (v := .int (nI n)) hx hb hts i_Md hown hW w_md rfl 1 (by decide) (hts _ tw_604) (fun _ h9 => h9) rfl d_Md_add_5 ?_
  refine lv_iload_n hx hb d_Md_add_8 rfl (lv_at hl 1 rfl) ?_
  refine hw_ist hx hb hW hS 0 t_kd rfl n rfl (by omega) (by decide) d_Md_add_9 (fun H locs hW hS => ?_)
  have hW : hw_W D qcl (qty cI cJ cZ cN) _ (va_up M kd (some (.inl (cI, 60, .inl (upd (st 0) n k))))) s H := hW
  generalize hMw1 : va_up M kd (some (.inl (cI, 60, .inl (upd (st 0) n k)))) = Mw1 at hW
  have w_md : Mw1 md = some (.inr (8, [.int cd, .int (nI n), .ref kd, .ref on, .ref tw, .ref nu, .ref le, .ref fx, .ref fy, .ref si, .ref de, .ref ne, .ref it, .ref po, .ref ma, .ref ab, .ref be, .long up, .long dn, .ref li, .int pz, .ref fr, .ref to])) := by rw [← hMw1, va_up_ne _ _ (show md ≠ kd from hD 0 1 (by decide) (by decide))]; exact w_md
  have t_on : Mw1 on = some (.inl (cI, 60, .inl (st 1))) := by rw [← hMw1, va_up_ne _ _ (Ne.symm (show kd ≠ on from hD 1 2 (by decide) (by decide)))]; exact t_on
  have t_tw : Mw1 tw = some (.inl (cI, 60, .inl (st 2))) := by rw [← hMw1, va_up_ne _ _ (Ne.symm (show kd ≠ tw from hD 1 3 (by decide) (by decide)))]; exact t_tw
  have t_fx : Mw1 fx = some (.inl (cZ, 60, .inl (st 5))) := by rw [← hMw1, va_up_ne _ _ (Ne.symm (show kd ≠ fx from hD 1 6 (by decide) (by decide)))]; exact t_fx
  have t_fy : Mw1 fy = some (.inl (cZ, 60, .inl (st 6))) := by rw [← hMw1, va_up_ne _ _ (Ne.symm (show kd ≠ fy from hD 1 7 (by decide) (by decide)))]; exact t_fy
  have t_si : Mw1 si = some (.inl (cI, 60, .inl (st 7))) := by rw [← hMw1, va_up_ne _ _ (Ne.symm (show kd ≠ si from hD 1 8 (by decide) (by decide)))]; exact t_si
  have t_de : Mw1 de = some (.inl (cI, 60, .inl (st 8))) := by rw [← hMw1, va_up_ne _ _ (Ne.symm (show kd ≠ de from hD 1 9 (by decide) (by decide)))]; exact t_de
  have t_kd : Mw1 kd = some (.inl (cI, 60, .inl (upd (st 0) n k))) := by rw [← hMw1]; exact va_up_self _ _ _
  have hfr_Mw1 : ∀ x9, x9 ≠ kd → Mw1 x9 = M x9 := fun x9 z9 => by rw [← hMw1, va_up_ne _ _ z9]
  refine lv_aload_n hx hb d_Md_add_10 rfl (lv_at hl 0 rfl) ?_
  refine hw_get (own := "QuantifierOutModel") (v := .ref on) hx hb hts i_Md hown hW w_md rfl 3 (by decide) (hts _ tw_606) (fun _ h9 => h9) rfl d_Md_add_11 ?_
  refine lv_aload_n hx hb d_Md_add_14 rfl (lv_at hl 0 rfl) ?_
  refine hw_get (own := "QuantifierOutModel") (v := .int (nI n)) hx hb hts i_Md hown hW w_md rfl 1 (by decide) (hts _ tw_604) (fun _ h9 => h9) rfl d_Md_add_15 ?_
  refine lv_iload_n hx hb d_Md_add_18 rfl (lv_at hl 2 rfl) ?_
  refine hw_ist hx hb hW hS 0 t_on rfl n rfl (by omega) (by decide) d_Md_add_19 (fun H locs hW hS => ?_)
  have hW : hw_W D qcl (qty cI cJ cZ cN) _ (va_up Mw1 on (some (.inl (cI, 60, .inl (upd (st 1) n (nI a)))))) s H := hW
  generalize hMw2 : va_up Mw1 on (some (.inl (cI, 60, .inl (upd (st 1) n (nI a))))) = Mw2 at hW
  have w_md : Mw2 md = some (.inr (8, [.int cd, .int (nI n), .ref kd, .ref on, .ref tw, .ref nu, .ref le, .ref fx, .ref fy, .ref si, .ref de, .ref ne, .ref it, .ref po, .ref ma, .ref ab, .ref be, .long up, .long dn, .ref li, .int pz, .ref fr, .ref to])) := by rw [← hMw2, va_up_ne _ _ (show md ≠ on from hD 0 2 (by decide) (by decide))]; exact w_md
  have t_tw : Mw2 tw = some (.inl (cI, 60, .inl (st 2))) := by rw [← hMw2, va_up_ne _ _ (Ne.symm (show on ≠ tw from hD 2 3 (by decide) (by decide)))]; exact t_tw
  have t_fx : Mw2 fx = some (.inl (cZ, 60, .inl (st 5))) := by rw [← hMw2, va_up_ne _ _ (Ne.symm (show on ≠ fx from hD 2 6 (by decide) (by decide)))]; exact t_fx
  have t_fy : Mw2 fy = some (.inl (cZ, 60, .inl (st 6))) := by rw [← hMw2, va_up_ne _ _ (Ne.symm (show on ≠ fy from hD 2 7 (by decide) (by decide)))]; exact t_fy
  have t_si : Mw2 si = some (.inl (cI, 60, .inl (st 7))) := by rw [← hMw2, va_up_ne _ _ (Ne.symm (show on ≠ si from hD 2 8 (by decide) (by decide)))]; exact t_si
  have t_de : Mw2 de = some (.inl (cI, 60, .inl (st 8))) := by rw [← hMw2, va_up_ne _ _ (Ne.symm (show on ≠ de from hD 2 9 (by decide) (by decide)))]; exact t_de
  have t_kd : Mw2 kd = some (.inl (cI, 60, .inl (upd (st 0) n k))) := by rw [← hMw2, va_up_ne _ _ (show kd ≠ on from hD 1 2 (by decide) (by decide))]; exact t_kd
  have t_on : Mw2 on = some (.inl (cI, 60, .inl (upd (st 1) n (nI a)))) := by rw [← hMw2]; exact va_up_self _ _ _
  have hfr_Mw2 : ∀ x9, x9 ≠ on → Mw2 x9 = Mw1 x9 := fun x9 z9 => by rw [← hMw2, va_up_ne _ _ z9]
  refine lv_aload_n hx hb d_Md_add_20 rfl (lv_at hl 0 rfl) ?_
  refine hw_get (own := "QuantifierOutModel") (v := .ref tw) hx hb hts i_Md hown hW w_md rfl 4 (by decide) (hts _ tw_607) (fun _ h9 => h9) rfl d_Md_add_21 ?_
  refine lv_aload_n hx hb d_Md_add_24 rfl (lv_at hl 0 rfl) ?_
  refine hw_get (own := "QuantifierOutModel") (v := .int (nI n)) hx hb hts i_Md hown hW w_md rfl 1 (by decide) (hts _ tw_604) (fun _ h9 => h9) rfl d_Md_add_25 ?_
  refine lv_iload_n hx hb d_Md_add_28 rfl (lv_at hl 3 rfl) ?_
  refine hw_ist hx hb hW hS 0 t_tw rfl n rfl (by omega) (by decide) d_Md_add_29 (fun H locs hW hS => ?_)
  have hW : hw_W D qcl (qty cI cJ cZ cN) _ (va_up Mw2 tw (some (.inl (cI, 60, .inl (upd (st 2) n (-1)))))) s H := hW
  generalize hMw3 : va_up Mw2 tw (some (.inl (cI, 60, .inl (upd (st 2) n (-1))))) = Mw3 at hW
  have w_md : Mw3 md = some (.inr (8, [.int cd, .int (nI n), .ref kd, .ref on, .ref tw, .ref nu, .ref le, .ref fx, .ref fy, .ref si, .ref de, .ref ne, .ref it, .ref po, .ref ma, .ref ab, .ref be, .long up, .long dn, .ref li, .int pz, .ref fr, .ref to])) := by rw [← hMw3, va_up_ne _ _ (show md ≠ tw from hD 0 3 (by decide) (by decide))]; exact w_md
  have t_fx : Mw3 fx = some (.inl (cZ, 60, .inl (st 5))) := by rw [← hMw3, va_up_ne _ _ (Ne.symm (show tw ≠ fx from hD 3 6 (by decide) (by decide)))]; exact t_fx
  have t_fy : Mw3 fy = some (.inl (cZ, 60, .inl (st 6))) := by rw [← hMw3, va_up_ne _ _ (Ne.symm (show tw ≠ fy from hD 3 7 (by decide) (by decide)))]; exact t_fy
  have t_si : Mw3 si = some (.inl (cI, 60, .inl (st 7))) := by rw [← hMw3, va_up_ne _ _ (Ne.symm (show tw ≠ si from hD 3 8 (by decide) (by decide)))]; exact t_si
  have t_de : Mw3 de = some (.inl (cI, 60, .inl (st 8))) := by rw [← hMw3, va_up_ne _ _ (Ne.symm (show tw ≠ de from hD 3 9 (by decide) (by decide)))]; exact t_de
  have t_kd : Mw3 kd = some (.inl (cI, 60, .inl (upd (st 0) n k))) := by rw [← hMw3, va_up_ne _ _ (show kd ≠ tw from hD 1 3 (by decide) (by decide))]; exact t_kd
  have t_on : Mw3 on = some (.inl (cI, 60, .inl (upd (st 1) n (nI a)))) := by rw [← hMw3, va_up_ne _ _ (show on ≠ tw from hD 2 3 (by decide) (by decide))]; exact t_on
  have t_tw : Mw3 tw = some (.inl (cI, 60, .inl (upd (st 2) n (-1)))) := by rw [← hMw3]; exact va_up_self _ _ _
  have hfr_Mw3 : ∀ x9, x9 ≠ tw → Mw3 x9 = Mw2 x9 := fun x9 z9 => by rw [← hMw3, va_up_ne _ _ z9]
  have T98 : ∀ (X Y : Int32), X = (st 5 a) → Y = (st 6 a) → ∀ (ls : Array Slot), lv_has ls 6 [(5, .int Y), (4, .int X), (0, .ref md), (1, .int k), (2, .int (nI a)), (3, .int (-1))] → W p l e ({ frames := 0, cells := 0, slots := 0, locals := 0 }) s m [.ref md, .int k, .int (nI a), .int (-1)].toArray below meth c H locs 0 0 Q9 (F0 m 98 ls []) := by
    intro X Y hX hY ls hl
    have hX01 : X = 0 ∨ X = 1 := by rw [hX]; exact h5
    have hY01 : Y = 0 ∨ Y = 1 := by rw [hY]; exact h6
    refine lv_aload_n hx hb d_Md_add_98 rfl (lv_at hl 2 rfl) ?_
    refine hw_get (own := "QuantifierOutModel") (v := .ref fx) hx hb hts i_Md hown hW w_md rfl 7 (by decide) (hts _ tw_610) (fun _ h9 => h9) rfl d_Md_add_99 ?_
    refine lv_aload_n hx hb d_Md_add_102 rfl (lv_at hl 2 rfl) ?_
    refine hw_get (own := "QuantifierOutModel") (v := .int (nI n)) hx hb hts i_Md hown hW w_md rfl 1 (by decide) (hts _ tw_604) (fun _ h9 => h9) rfl d_Md_add_103 ?_
    refine lv_iload hx hb d_Md_add_106 (lv_at hl 1 rfl) ?_
    refine hw_zst hx hb hW hS 2 t_fx rfl n rfl (by omega) (by decide) (by rcases hX01 with z9 | z9 <;> rw [z9] <;> rfl) d_Md_add_108 (fun H locs hW hS => ?_)
    have hW : hw_W D qcl (qty cI cJ cZ cN) _ (va_up Mw3 fx (some (.inl (cZ, 60, .inl (upd (st 5) n X))))) s H := hW
    generalize hMw4 : va_up Mw3 fx (some (.inl (cZ, 60, .inl (upd (st 5) n X)))) = Mw4 at hW
    have w_md : Mw4 md = some (.inr (8, [.int cd, .int (nI n), .ref kd, .ref on, .ref tw, .ref nu, .ref le, .ref fx, .ref fy, .ref si, .ref de, .ref ne, .ref it, .ref po, .ref ma, .ref ab, .ref be, .long up, .long dn, .ref li, .int pz, .ref fr, .ref to])) := by rw [← hMw4, va_up_ne _ _ (show md ≠ fx from hD 0 6 (by decide) (by decide))]; exact w_md
    have t_fy : Mw4 fy = some (.inl (cZ, 60, .inl (st 6))) := by rw [← hMw4, va_up_ne _ _ (Ne.symm (show fx ≠ fy from hD 6 7 (by decide) (by decide)))]; exact t_fy
    have t_si : Mw4 si = some (.inl (cI, 60, .inl (st 7))) := by rw [← hMw4, va_up_ne _ _ (Ne.symm (show fx ≠ si from hD 6 8 (by decide) (by decide)))]; exact t_si
    have t_de : Mw4 de = some (.inl (cI, 60, .inl (st 8))) := by rw [← hMw4, va_up_ne _ _ (Ne.symm (show fx ≠ de from hD 6 9 (by decide) (by decide)))]; exact t_de
    have t_kd : Mw4 kd = some (.inl (cI, 60, .inl (upd (st 0) n k))) := by rw [← hMw4, va_up_ne _ _ (show kd ≠ fx from hD 1 6 (by decide) (by decide))]; exact t_kd
    have t_on : Mw4 on = some (.inl (cI, 60, .inl (upd (st 1) n (nI a)))) := by rw [← hMw4, va_up_ne _ _ (show on ≠ fx from hD 2 6 (by decide) (by decide))]; exact t_on
    have t_tw : Mw4 tw = some (.inl (cI, 60, .inl (upd (st 2) n (-1)))) := by rw [← hMw4, va_up_ne _ _ (show tw ≠ fx from hD 3 6 (by decide) (by decide))]; exact t_tw
    have t_fx : Mw4 fx = some (.inl (cZ, 60, .inl (upd (st 5) n X))) := by rw [← hMw4]; exact va_up_self _ _ _
    have hfr_Mw4 : ∀ x9, x9 ≠ fx → Mw4 x9 = Mw3 x9 := fun x9 z9 => by rw [← hMw4, va_up_ne _ _ z9]
    refine lv_aload_n hx hb d_Md_add_109 rfl (lv_at hl 2 rfl) ?_
    refine hw_get (own := "QuantifierOutModel") (v := .ref fy) hx hb hts i_Md hown hW w_md rfl 8 (by decide) (hts _ tw_611) (fun _ h9 => h9) rfl d_Md_add_110 ?_
    refine lv_aload_n hx hb d_Md_add_113 rfl (lv_at hl 2 rfl) ?_
    refine hw_get (own := "QuantifierOutModel") (v := .int (nI n)) hx hb hts i_Md hown hW w_md rfl 1 (by decide) (hts _ tw_604) (fun _ h9 => h9) rfl d_Md_add_114 ?_
    refine lv_iload hx hb d_Md_add_117 (lv_at hl 0 rfl) ?_
    refine hw_zst hx hb hW hS 2 t_fy rfl n rfl (by omega) (by decide) (by rcases hY01 with z9 | z9 <;> rw [z9] <;> rfl) d_Md_add_119 (fun H locs hW hS => ?_)
    have hW : hw_W D qcl (qty cI cJ cZ cN) _ (va_up Mw4 fy (some (.inl (cZ, 60, .inl (upd (st 6) n Y))))) s H := hW
    generalize hMw5 : va_up Mw4 fy (some (.inl (cZ, 60, .inl (upd (st 6) n Y)))) = Mw5 at hW
    have w_md : Mw5 md = some (.inr (8, [.int cd, .int (nI n), .ref kd, .ref on, .ref tw, .ref nu, .ref le, .ref fx, .ref fy, .ref si, .ref de, .ref ne, .ref it, .ref po, .ref ma, .ref ab, .ref be, .long up, .long dn, .ref li, .int pz, .ref fr, .ref to])) := by rw [← hMw5, va_up_ne _ _ (show md ≠ fy from hD 0 7 (by decide) (by decide))]; exact w_md
    have t_si : Mw5 si = some (.inl (cI, 60, .inl (st 7))) := by rw [← hMw5, va_up_ne _ _ (Ne.symm (show fy ≠ si from hD 7 8 (by decide) (by decide)))]; exact t_si
    have t_de : Mw5 de = some (.inl (cI, 60, .inl (st 8))) := by rw [← hMw5, va_up_ne _ _ (Ne.symm (show fy ≠ de from hD 7 9 (by decide) (by decide)))]; exact t_de
    have t_kd : Mw5 kd = some (.inl (cI, 60, .inl (upd (st 0) n k))) := by rw [← hMw5, va_up_ne _ _ (show kd ≠ fy from hD 1 7 (by decide) (by decide))]; exact t_kd
    have t_on : Mw5 on = some (.inl (cI, 60, .inl (upd (st 1) n (nI a)))) := by rw [← hMw5, va_up_ne _ _ (show on ≠ fy from hD 2 7 (by decide) (by decide))]; exact t_on
    have t_tw : Mw5 tw = some (.inl (cI, 60, .inl (upd (st 2) n (-1)))) := by rw [← hMw5, va_up_ne _ _ (show tw ≠ fy from hD 3 7 (by decide) (by decide))]; exact t_tw
    have t_fx : Mw5 fx = some (.inl (cZ, 60, .inl (upd (st 5) n X))) := by rw [← hMw5, va_up_ne _ _ (show fx ≠ fy from hD 6 7 (by decide) (by decide))]; exact t_fx
    have t_fy : Mw5 fy = some (.inl (cZ, 60, .inl (upd (st 6) n Y))) := by rw [← hMw5]; exact va_up_self _ _ _
    have hfr_Mw5 : ∀ x9, x9 ≠ fy → Mw5 x9 = Mw4 x9 := fun x9 z9 => by rw [← hMw5, va_up_ne _ _ z9]
    refine lv_aload_n hx hb d_Md_add_120 rfl (lv_at hl 2 rfl) ?_
    refine hw_get (own := "QuantifierOutModel") (v := .ref si) hx hb hts i_Md hown hW w_md rfl 9 (by decide) (hts _ tw_612) (fun _ h9 => h9) rfl d_Md_add_121 ?_
    refine lv_aload_n hx hb d_Md_add_124 rfl (lv_at hl 2 rfl) ?_
    refine hw_get (own := "QuantifierOutModel") (v := .int (nI n)) hx hb hts i_Md hown hW w_md rfl 1 (by decide) (hts _ tw_604) (fun _ h9 => h9) rfl d_Md_add_125 ?_
    refine lv_iload_n hx hb d_Md_add_128 rfl (lv_at hl 3 rfl) ?_
    refine lv_if_ne (tgt := 136) hx hb d_Md_add_129 (by decide) (fun c_129 => ?_) (fun c_129 => ?_)
    · skip
      refine lv_aload_n hx hb d_Md_add_136 rfl (lv_at hl 2 rfl) ?_
      refine hw_get (own := "QuantifierOutModel") (v := .ref si) hx hb hts i_Md hown hW w_md rfl 9 (by decide) (hts _ tw_612) (fun _ h9 => h9) rfl d_Md_add_137 ?_
      refine lv_iload_n hx hb d_Md_add_140 rfl (lv_at hl 4 rfl) ?_
      refine hw_ild hx hb hW 0 t_si rfl a rfl (by omega) (by decide) d_Md_add_141 ?_
      refine lv_iload_n hx hb d_Md_add_142 rfl (lv_at hl 5 rfl) ?_
      refine lv_iconst (v := (-1)) hx hb d_Md_add_143 (by decide) ?_
      refine lv_icmp_ne (tgt := 151) hx hb d_Md_add_144 (by decide) (fun c_144 => ?_) (fun c_144 => ?_)
      · skip
        exact absurd rfl c_144
      · skip
        refine lv_iconst (v := 0) hx hb d_Md_add_147 (by decide) ?_
        refine lv_goto (tgt := 157) hx hb d_Md_add_148 (by decide) ?_
        refine lv_iadd hx hb d_Md_add_157 ?_
        refine lv_topi (fun x6 ex6 => ?_)
        have es7 : x6 = st 7 a := by rw [ex6]; exact Int32.add_zero _
        rw [es7]
        refine hw_ist hx hb hW hS 0 t_si rfl n rfl (by omega) (by decide) d_Md_add_158 (fun H locs hW hS => ?_)
        have hW : hw_W D qcl (qty cI cJ cZ cN) _ (va_up Mw5 si (some (.inl (cI, 60, .inl (upd (st 7) n (st 7 a)))))) s H := hW
        generalize hMw7 : va_up Mw5 si (some (.inl (cI, 60, .inl (upd (st 7) n (st 7 a))))) = Mw7 at hW
        have w_md : Mw7 md = some (.inr (8, [.int cd, .int (nI n), .ref kd, .ref on, .ref tw, .ref nu, .ref le, .ref fx, .ref fy, .ref si, .ref de, .ref ne, .ref it, .ref po, .ref ma, .ref ab, .ref be, .long up, .long dn, .ref li, .int pz, .ref fr, .ref to])) := by rw [← hMw7, va_up_ne _ _ (show md ≠ si from hD 0 8 (by decide) (by decide))]; exact w_md
        have t_de : Mw7 de = some (.inl (cI, 60, .inl (st 8))) := by rw [← hMw7, va_up_ne _ _ (Ne.symm (show si ≠ de from hD 8 9 (by decide) (by decide)))]; exact t_de
        have t_kd : Mw7 kd = some (.inl (cI, 60, .inl (upd (st 0) n k))) := by rw [← hMw7, va_up_ne _ _ (show kd ≠ si from hD 1 8 (by decide) (by decide))]; exact t_kd
        have t_on : Mw7 on = some (.inl (cI, 60, .inl (upd (st 1) n (nI a)))) := by rw [← hMw7, va_up_ne _ _ (show on ≠ si from hD 2 8 (by decide) (by decide))]; exact t_on
        have t_tw : Mw7 tw = some (.inl (cI, 60, .inl (upd (st 2) n (-1)))) := by rw [← hMw7, va_up_ne _ _ (show tw ≠ si from hD 3 8 (by decide) (by decide))]; exact t_tw
        have t_fx : Mw7 fx = some (.inl (cZ, 60, .inl (upd (st 5) n X))) := by rw [← hMw7, va_up_ne _ _ (show fx ≠ si from hD 6 8 (by decide) (by decide))]; exact t_fx
        have t_fy : Mw7 fy = some (.inl (cZ, 60, .inl (upd (st 6) n Y))) := by rw [← hMw7, va_up_ne _ _ (show fy ≠ si from hD 7 8 (by decide) (by decide))]; exact t_fy
        have t_si : Mw7 si = some (.inl (cI, 60, .inl (upd (st 7) n (st 7 a)))) := by rw [← hMw7]; exact va_up_self _ _ _
        have hfr_Mw7 : ∀ x9, x9 ≠ si → Mw7 x9 = Mw5 x9 := fun x9 z9 => by rw [← hMw7, va_up_ne _ _ z9]
        refine lv_aload_n hx hb d_Md_add_159 rfl (lv_at hl 2 rfl) ?_
        refine hw_get (own := "QuantifierOutModel") (v := .ref de) hx hb hts i_Md hown hW w_md rfl 10 (by decide) (hts _ tw_613) (fun _ h9 => h9) rfl d_Md_add_160 ?_
        refine lv_aload_n hx hb d_Md_add_163 rfl (lv_at hl 2 rfl) ?_
        refine hw_get (own := "QuantifierOutModel") (v := .int (nI n)) hx hb hts i_Md hown hW w_md rfl 1 (by decide) (hts _ tw_604) (fun _ h9 => h9) rfl d_Md_add_164 ?_
        refine lv_iload_n hx hb d_Md_add_167 rfl (lv_at hl 3 rfl) ?_
        refine lv_if_ne (tgt := 175) hx hb d_Md_add_168 (by decide) (fun c_168 => ?_) (fun c_168 => ?_)
        · skip
          refine lv_iload_n hx hb d_Md_add_175 rfl (lv_at hl 5 rfl) ?_
          refine lv_iconst (v := (-1)) hx hb d_Md_add_176 (by decide) ?_
          refine lv_icmp_eq (tgt := 204) hx hb d_Md_add_177 (by decide) (fun c_177 => ?_) (fun c_177 => ?_)
          · skip
            refine lv_aload_n hx hb d_Md_add_204 rfl (lv_at hl 2 rfl) ?_
            refine hw_get (own := "QuantifierOutModel") (v := .ref de) hx hb hts i_Md hown hW w_md rfl 10 (by decide) (hts _ tw_613) (fun _ h9 => h9) rfl d_Md_add_205 ?_
            refine lv_iload_n hx hb d_Md_add_208 rfl (lv_at hl 4 rfl) ?_
            refine hw_ild hx hb hW 0 t_de rfl a rfl (by omega) (by decide) d_Md_add_209 ?_
            refine hw_ist hx hb hW hS 0 t_de rfl n rfl (by omega) (by decide) d_Md_add_210 (fun H locs hW hS => ?_)
            have hW : hw_W D qcl (qty cI cJ cZ cN) _ (va_up Mw7 de (some (.inl (cI, 60, .inl (upd (st 8) n ((st 8) a)))))) s H := hW
            generalize hMw8 : va_up Mw7 de (some (.inl (cI, 60, .inl (upd (st 8) n ((st 8) a))))) = Mw8 at hW
            have w_md : Mw8 md = some (.inr (8, [.int cd, .int (nI n), .ref kd, .ref on, .ref tw, .ref nu, .ref le, .ref fx, .ref fy, .ref si, .ref de, .ref ne, .ref it, .ref po, .ref ma, .ref ab, .ref be, .long up, .long dn, .ref li, .int pz, .ref fr, .ref to])) := by rw [← hMw8, va_up_ne _ _ (show md ≠ de from hD 0 9 (by decide) (by decide))]; exact w_md
            have t_kd : Mw8 kd = some (.inl (cI, 60, .inl (upd (st 0) n k))) := by rw [← hMw8, va_up_ne _ _ (show kd ≠ de from hD 1 9 (by decide) (by decide))]; exact t_kd
            have t_on : Mw8 on = some (.inl (cI, 60, .inl (upd (st 1) n (nI a)))) := by rw [← hMw8, va_up_ne _ _ (show on ≠ de from hD 2 9 (by decide) (by decide))]; exact t_on
            have t_tw : Mw8 tw = some (.inl (cI, 60, .inl (upd (st 2) n (-1)))) := by rw [← hMw8, va_up_ne _ _ (show tw ≠ de from hD 3 9 (by decide) (by decide))]; exact t_tw
            have t_fx : Mw8 fx = some (.inl (cZ, 60, .inl (upd (st 5) n X))) := by rw [← hMw8, va_up_ne _ _ (show fx ≠ de from hD 6 9 (by decide) (by decide))]; exact t_fx
            have t_fy : Mw8 fy = some (.inl (cZ, 60, .inl (upd (st 6) n Y))) := by rw [← hMw8, va_up_ne _ _ (show fy ≠ de from hD 7 9 (by decide) (by decide))]; exact t_fy
            have t_si : Mw8 si = some (.inl (cI, 60, .inl (upd (st 7) n (st 7 a)))) := by rw [← hMw8, va_up_ne _ _ (show si ≠ de from hD 8 9 (by decide) (by decide))]; exact t_si
            have t_de : Mw8 de = some (.inl (cI, 60, .inl (upd (st 8) n ((st 8) a)))) := by rw [← hMw8]; exact va_up_self _ _ _
            have hfr_Mw8 : ∀ x9, x9 ≠ de → Mw8 x9 = Mw7 x9 := fun x9 z9 => by rw [← hMw8, va_up_ne _ _ z9]
            refine lv_aload_n hx hb d_Md_add_211 rfl (lv_at hl 2 rfl) ?_
            refine lv_dup hx hb d_Md_add_212 rfl ?_
            refine hw_get (own := "QuantifierOutModel") (v := .int (nI n)) hx hb hts i_Md hown hW w_md rfl 1 (by decide) (hts _ tw_604) (fun _ h9 => h9) rfl d_Md_add_213 ?_
            refine lv_iconst (v := 1) hx hb d_Md_add_216 (by decide) ?_
            refine lv_iadd hx hb d_Md_add_217 ?_
            refine lv_topi (fun x9 ex9 => ?_)
            have enx9 : x9 = nI (n + 1) := by rw [ex9]; exact nI_1 n
            rw [enx9]
            refine hw_put (own := "QuantifierOutModel") (v := .int (nI (n + 1))) (ty := .int) hx hb hts i_Md ft_Md tk_Md n_Md hown hW hS w_md rfl 1 (by decide) (hts _ tw_604) (fun _ h9 => h9) rfl (tk_Md 1 (by decide)) rfl rfl (Nat.le_of_ble_eq_true rfl) d_Md_add_218 (fun H locs hW hS => ?_)
            have hW : hw_W D qcl (qty cI cJ cZ cN) _ (va_up Mw8 md (some (.inr (8, [.int cd, .int (nI (n + 1)), .ref kd, .ref on, .ref tw, .ref nu, .ref le, .ref fx, .ref fy, .ref si, .ref de, .ref ne, .ref it, .ref po, .ref ma, .ref ab, .ref be, .long up, .long dn, .ref li, .int pz, .ref fr, .ref to])))) s H := hW
            generalize hMw10 : va_up Mw8 md (some (.inr (8, [.int cd, .int (nI (n + 1)), .ref kd, .ref on, .ref tw, .ref nu, .ref le, .ref fx, .ref fy, .ref si, .ref de, .ref ne, .ref it, .ref po, .ref ma, .ref ab, .ref be, .long up, .long dn, .ref li, .int pz, .ref fr, .ref to]))) = Mw10 at hW
            have t_kd : Mw10 kd = some (.inl (cI, 60, .inl (upd (st 0) n k))) := by rw [← hMw10, va_up_ne _ _ (Ne.symm (show md ≠ kd from hD 0 1 (by decide) (by decide)))]; exact t_kd
            have t_on : Mw10 on = some (.inl (cI, 60, .inl (upd (st 1) n (nI a)))) := by rw [← hMw10, va_up_ne _ _ (Ne.symm (show md ≠ on from hD 0 2 (by decide) (by decide)))]; exact t_on
            have t_tw : Mw10 tw = some (.inl (cI, 60, .inl (upd (st 2) n (-1)))) := by rw [← hMw10, va_up_ne _ _ (Ne.symm (show md ≠ tw from hD 0 3 (by decide) (by decide)))]; exact t_tw
            have t_fx : Mw10 fx = some (.inl (cZ, 60, .inl (upd (st 5) n X))) := by rw [← hMw10, va_up_ne _ _ (Ne.symm (show md ≠ fx from hD 0 6 (by decide) (by decide)))]; exact t_fx
            have t_fy : Mw10 fy = some (.inl (cZ, 60, .inl (upd (st 6) n Y))) := by rw [← hMw10, va_up_ne _ _ (Ne.symm (show md ≠ fy from hD 0 7 (by decide) (by decide)))]; exact t_fy
            have t_si : Mw10 si = some (.inl (cI, 60, .inl (upd (st 7) n (st 7 a)))) := by rw [← hMw10, va_up_ne _ _ (Ne.symm (show md ≠ si from hD 0 8 (by decide) (by decide)))]; exact t_si
            have t_de : Mw10 de = some (.inl (cI, 60, .inl (upd (st 8) n ((st 8) a)))) := by rw [← hMw10, va_up_ne _ _ (Ne.symm (show md ≠ de from hD 0 9 (by decide) (by decide)))]; exact t_de
            have w_md : Mw10 md = some (.inr (8, [.int cd, .int (nI (n + 1)), .ref kd, .ref on, .ref tw, .ref nu, .ref le, .ref fx, .ref fy, .ref si, .ref de, .ref ne, .ref it, .ref po, .ref ma, .ref ab, .ref be, .long up, .long dn, .ref li, .int pz, .ref fr, .ref to])) := by rw [← hMw10]; exact va_up_self _ _ _
            have hfr_Mw10 : ∀ x9, x9 ≠ md → Mw10 x9 = Mw8 x9 := fun x9 z9 => by rw [← hMw10, va_up_ne _ _ z9]
            refine lv_aload_n hx hb d_Md_add_221 rfl (lv_at hl 2 rfl) ?_
            refine hw_get (own := "QuantifierOutModel") (v := .int (nI (n + 1))) hx hb hts i_Md hown hW w_md rfl 1 (by decide) (hts _ tw_604) (fun _ h9 => h9) rfl d_Md_add_222 ?_
            refine lv_iconst (v := 1) hx hb d_Md_add_225 (by decide) ?_
            refine lv_isub hx hb d_Md_add_226 ?_
            refine lv_topi (fun x11 ex11 => ?_)
            rw [hQ9]
            refine hw_reti hx hb hr hlocks hW hS ⟨by rw [ex11]; exact nI_prd n, ⟨w_md, (((((((((hfr_Mw10 ne (Ne.symm (show md ≠ ne from hD 0 10 (by decide) (by decide))))).trans (hfr_Mw8 ne (Ne.symm (show de ≠ ne from hD 9 10 (by decide) (by decide))))).trans (hfr_Mw7 ne (Ne.symm (show si ≠ ne from hD 8 10 (by decide) (by decide))))).trans (hfr_Mw5 ne (Ne.symm (show fy ≠ ne from hD 7 10 (by decide) (by decide))))).trans (hfr_Mw4 ne (Ne.symm (show fx ≠ ne from hD 6 10 (by decide) (by decide))))).trans (hfr_Mw3 ne (Ne.symm (show tw ≠ ne from hD 3 10 (by decide) (by decide))))).trans (hfr_Mw2 ne (Ne.symm (show on ≠ ne from hD 2 10 (by decide) (by decide))))).trans (hfr_Mw1 ne (Ne.symm (show kd ≠ ne from hD 1 10 (by decide) (by decide))))).trans hK.2.1, (((((((((hfr_Mw10 it (Ne.symm (show md ≠ it from hD 0 11 (by decide) (by decide))))).trans (hfr_Mw8 it (Ne.symm (show de ≠ it from hD 9 11 (by decide) (by decide))))).trans (hfr_Mw7 it (Ne.symm (show si ≠ it from hD 8 11 (by decide) (by decide))))).trans (hfr_Mw5 it (Ne.symm (show fy ≠ it from hD 7 11 (by decide) (by decide))))).trans (hfr_Mw4 it (Ne.symm (show fx ≠ it from hD 6 11 (by decide) (by decide))))).trans (hfr_Mw3 it (Ne.symm (show tw ≠ it from hD 3 11 (by decide) (by decide))))).trans (hfr_Mw2 it (Ne.symm (show on ≠ it from hD 2 11 (by decide) (by decide))))).trans (hfr_Mw1 it (Ne.symm (show kd ≠ it from hD 1 11 (by decide) (by decide))))).trans hK.2.2.1, (((((((((hfr_Mw10 po (Ne.symm (show md ≠ po from hD 0 12 (by decide) (by decide))))).trans (hfr_Mw8 po (Ne.symm (show de ≠ po from hD 9 12 (by decide) (by decide))))).trans (hfr_Mw7 po (Ne.symm (show si ≠ po from hD 8 12 (by decide) (by decide))))).trans (hfr_Mw5 po (Ne.symm (show fy ≠ po from hD 7 12 (by decide) (by decide))))).trans (hfr_Mw4 po (Ne.symm (show fx ≠ po from hD 6 12 (by decide) (by decide))))).trans (hfr_Mw3 po (Ne.symm (show tw ≠ po from hD 3 12 (by decide) (by decide))))).trans (hfr_Mw2 po (Ne.symm (show on ≠ po from hD 2 12 (by decide) (by decide))))).trans (hfr_Mw1 po (Ne.symm (show kd ≠ po from hD 1 12 (by decide) (by decide))))).trans hK.2.2.2.1, (((((((((hfr_Mw10 ma (Ne.symm (show md ≠ ma from hD 0 13 (by decide) (by decide))))).trans (hfr_Mw8 ma (Ne.symm (show de ≠ ma from hD 9 13 (by decide) (by decide))))).trans (hfr_Mw7 ma (Ne.symm (show si ≠ ma from hD 8 13 (by decide) (by decide))))).trans (hfr_Mw5 ma (Ne.symm (show fy ≠ ma from hD 7 13 (by decide) (by decide))))).trans (hfr_Mw4 ma (Ne.symm (show fx ≠ ma from hD 6 13 (by decide) (by decide))))).trans (hfr_Mw3 ma (Ne.symm (show tw ≠ ma from hD 3 13 (by decide) (by decide))))).trans (hfr_Mw2 ma (Ne.symm (show on ≠ ma from hD 2 13 (by decide) (by decide))))).trans (hfr_Mw1 ma (Ne.symm (show kd ≠ ma from hD 1 13 (by decide) (by decide))))).trans hK.2.2.2.2.1, (((((((((hfr_Mw10 ab (Ne.symm (show md ≠ ab from hD 0 14 (by decide) (by decide))))).trans (hfr_Mw8 ab (Ne.symm (show de ≠ ab from hD 9 14 (by decide) (by decide))))).trans (hfr_Mw7 ab (Ne.symm (show si ≠ ab from hD 8 14 (by decide) (by decide))))).trans (hfr_Mw5 ab (Ne.symm (show fy ≠ ab from hD 7 14 (by decide) (by decide))))).trans (hfr_Mw4 ab (Ne.symm (show fx ≠ ab from hD 6 14 (by decide) (by decide))))).trans (hfr_Mw3 ab (Ne.symm (show tw ≠ ab from hD 3 14 (by decide) (by decide))))).trans (hfr_Mw2 ab (Ne.symm (show on ≠ ab from hD 2 14 (by decide) (by decide))))).trans (hfr_Mw1 ab (Ne.symm (show kd ≠ ab from hD 1 14 (by decide) (by decide))))).trans hK.2.2.2.2.2.1, (((((((((hfr_Mw10 be (Ne.symm (show md ≠ be from hD 0 15 (by decide) (by decide))))).trans (hfr_Mw8 be (Ne.symm (show de ≠ be from hD 9 15 (by decide) (by decide))))).trans (hfr_Mw7 be (Ne.symm (show si ≠ be from hD 8 15 (by decide) (by decide))))).trans (hfr_Mw5 be (Ne.symm (show fy ≠ be from hD 7 15 (by decide) (by decide))))).trans (hfr_Mw4 be (Ne.symm (show fx ≠ be from hD 6 15 (by decide) (by decide))))).trans (hfr_Mw3 be (Ne.symm (show tw ≠ be from hD 3 15 (by decide) (by decide))))).trans (hfr_Mw2 be (Ne.symm (show on ≠ be from hD 2 15 (by decide) (by decide))))).trans (hfr_Mw1 be (Ne.symm (show kd ≠ be from hD 1 15 (by decide) (by decide))))).trans hK.2.2.2.2.2.2⟩, ?_, fun x9 z0 z1 z2 z3 z4 z5 z6 z7 => ((((((((hfr_Mw10 x9 z0)).trans (hfr_Mw8 x9 z7)).trans (hfr_Mw7 x9 z6)).trans (hfr_Mw5 x9 z5)).trans (hfr_Mw4 x9 z4)).trans (hfr_Mw3 x9 z3)).trans (hfr_Mw2 x9 z2)).trans (hfr_Mw1 x9 z1)⟩ d_Md_add_227
            have hfin : md_T cI cZ kd on tw nu le fx fy si de Mw10 (ad_st st n k (nI a) (-1) X Y (st 7 a) (st 8 a)) := ⟨t_kd, t_on, t_tw, (((((((((hfr_Mw10 nu (Ne.symm (show md ≠ nu from hD 0 4 (by decide) (by decide))))).trans (hfr_Mw8 nu (show nu ≠ de from hD 4 9 (by decide) (by decide)))).trans (hfr_Mw7 nu (show nu ≠ si from hD 4 8 (by decide) (by decide)))).trans (hfr_Mw5 nu (show nu ≠ fy from hD 4 7 (by decide) (by decide)))).trans (hfr_Mw4 nu (show nu ≠ fx from hD 4 6 (by decide) (by decide)))).trans (hfr_Mw3 nu (Ne.symm (show tw ≠ nu from hD 3 4 (by decide) (by decide))))).trans (hfr_Mw2 nu (Ne.symm (show on ≠ nu from hD 2 4 (by decide) (by decide))))).trans (hfr_Mw1 nu (Ne.symm (show kd ≠ nu from hD 1 4 (by decide) (by decide))))).trans hT.2.2.2.1, (((((((((hfr_Mw10 le (Ne.symm (show md ≠ le from hD 0 5 (by decide) (by decide))))).trans (hfr_Mw8 le (show le ≠ de from hD 5 9 (by decide) (by decide)))).trans (hfr_Mw7 le (show le ≠ si from hD 5 8 (by decide) (by decide)))).trans (hfr_Mw5 le (show le ≠ fy from hD 5 7 (by decide) (by decide)))).trans (hfr_Mw4 le (show le ≠ fx from hD 5 6 (by decide) (by decide)))).trans (hfr_Mw3 le (Ne.symm (show tw ≠ le from hD 3 5 (by decide) (by decide))))).trans (hfr_Mw2 le (Ne.symm (show on ≠ le from hD 2 5 (by decide) (by decide))))).trans (hfr_Mw1 le (Ne.symm (show kd ≠ le from hD 1 5 (by decide) (by decide))))).trans hT.2.2.2.2.1, t_fx, t_fy, t_si, t_de⟩
            rw [hX, hY] at hfin; exact hfin
          · skip
            exact absurd rfl c_177
        · skip
          exact absurd c_168 hk
    · skip
      exact absurd c_129 hk
  have T64 : ∀ (X : Int32), X = (st 5 a) → ∀ (ls : Array Slot), lv_has ls 6 [(4, .int X), (0, .ref md), (1, .int k), (2, .int (nI a)), (3, .int (-1))] → W p l e ({ frames := 0, cells := 0, slots := 0, locals := 0 }) s m [.ref md, .int k, .int (nI a), .int (-1)].toArray below meth c H locs 0 0 Q9 (F0 m 64 ls []) := by
    intro X hX ls hl
    refine lv_iload_n hx hb d_Md_add_64 rfl (lv_at hl 2 rfl) ?_
    refine lv_if_eq (tgt := 91) hx hb d_Md_add_65 (by decide) (fun c_65 => ?_) (fun c_65 => ?_)
    · skip
      exact absurd c_65 hk
    · skip
      refine lv_aload_n hx hb d_Md_add_68 rfl (lv_at hl 1 rfl) ?_
      refine hw_get (own := "QuantifierOutModel") (v := .ref fy) hx hb hts i_Md hown hW w_md rfl 8 (by decide) (hts _ tw_611) (fun _ h9 => h9) rfl d_Md_add_69 ?_
      refine lv_iload_n hx hb d_Md_add_72 rfl (lv_at hl 3 rfl) ?_
      refine hw_zld hx hb hW 2 t_fy rfl a rfl (by omega) (by decide) d_Md_add_73 ?_
      refine lv_if_ne (tgt := 91) hx hb d_Md_add_74 (by decide) (fun c_74 => ?_) (fun c_74 => ?_)
      · skip
        refine lv_iconst (v := 1) hx hb d_Md_add_91 (by decide) ?_
        refine lv_goto (tgt := 96) hx hb d_Md_add_92 (by decide) ?_
        refine lv_istore (lv' := [(5, .int 1), (4, .int X), (0, .ref md), (1, .int k), (2, .int (nI a)), (3, .int (-1))]) hx hb d_Md_add_96 hl (by decide) rfl (fun ls hl => ?_)
        exact T98 X 1 hX ((h6.resolve_left c_74).symm) ls (lv_sub hl [0, 1, 2, 3, 4, 5] rfl)
      · skip
        refine lv_iload_n hx hb d_Md_add_77 rfl (lv_at hl 4 rfl) ?_
        refine lv_iconst (v := (-1)) hx hb d_Md_add_78 (by decide) ?_
        refine lv_icmp_eq (tgt := 95) hx hb d_Md_add_79 (by decide) (fun c_79 => ?_) (fun c_79 => ?_)
        · skip
          refine lv_iconst (v := 0) hx hb d_Md_add_95 (by decide) ?_
          refine lv_istore (lv' := [(5, .int 0), (4, .int X), (0, .ref md), (1, .int k), (2, .int (nI a)), (3, .int (-1))]) hx hb d_Md_add_96 hl (by decide) rfl (fun ls hl => ?_)
          exact T98 X 0 hX c_74.symm ls (lv_sub hl [0, 1, 2, 3, 4, 5] rfl)
        · skip
          exact absurd rfl c_79
  refine lv_iload_n hx hb d_Md_add_30 rfl (lv_at hl 1 rfl) ?_
  refine lv_if_eq (tgt := 57) hx hb d_Md_add_31 (by decide) (fun c_31 => ?_) (fun c_31 => ?_)
  · skip
    exact absurd c_31 hk
  · skip
    refine lv_aload_n hx hb d_Md_add_34 rfl (lv_at hl 0 rfl) ?_
    refine hw_get (own := "QuantifierOutModel") (v := .ref fx) hx hb hts i_Md hown hW w_md rfl 7 (by decide) (hts _ tw_610) (fun _ h9 => h9) rfl d_Md_add_35 ?_
    refine lv_iload_n hx hb d_Md_add_38 rfl (lv_at hl 2 rfl) ?_
    refine hw_zld hx hb hW 2 t_fx rfl a rfl (by omega) (by decide) d_Md_add_39 ?_
    refine lv_if_ne (tgt := 57) hx hb d_Md_add_40 (by decide) (fun c_40 => ?_) (fun c_40 => ?_)
    · skip
      refine lv_iconst (v := 1) hx hb d_Md_add_57 (by decide) ?_
      refine lv_goto (tgt := 62) hx hb d_Md_add_58 (by decide) ?_
      refine lv_istore (lv' := [(4, .int 1), (0, .ref md), (1, .int k), (2, .int (nI a)), (3, .int (-1))]) hx hb d_Md_add_62 hl (by decide) rfl (fun ls hl => ?_)
      exact T64 1 ((h5.resolve_left c_40).symm) ls (lv_sub hl [0, 1, 2, 3, 4] rfl)
    · skip
      refine lv_iload_n hx hb d_Md_add_43 rfl (lv_at hl 3 rfl) ?_
      refine lv_iconst (v := (-1)) hx hb d_Md_add_44 (by decide) ?_
      refine lv_icmp_eq (tgt := 61) hx hb d_Md_add_45 (by decide) (fun c_45 => ?_) (fun c_45 => ?_)
      · skip
        refine lv_iconst (v := 0) hx hb d_Md_add_61 (by decide) ?_
        refine lv_istore (lv' := [(4, .int 0), (0, .ref md), (1, .int k), (2, .int (nI a)), (3, .int (-1))]) hx hb d_Md_add_62 hl (by decide) rfl (fun ls hl => ?_)
        exact T64 0 c_40.symm ls (lv_sub hl [0, 1, 2, 3, 4] rfl)
      · skip
        exact absurd rfl c_45
set_option maxHeartbeats 4000000 in
set_option maxRecDepth 100000 in
theorem c_Md_addP (cd : Int32) (n : Nat) (up dn : Int64) (pz : Int32) (NE IT : Nat → Int32) (PO : Nat → Int64) (MA : Nat → Int32) (AB BE : Nat → Int64) (sz : Nat) (st : Nat → Nat → Int32) (M : Nat → Option va_E) (hD : md_D md kd on tw nu le fx fy si de ne it po ma ab be li fr to) (hK : md_W cI cJ cZ md kd on tw nu le fx fy si de ne it po ma ab be li fr to M cd n up dn pz NE IT PO MA AB BE) (hT : md_T cI cZ kd on tw nu le fx fy si de M st) (hn : n < 60) (k : Int32) (a b : Nat) (hk : ¬ k = 0) (ha : a < n) (hb9 : b < n) (h5 : st 5 a = 0 ∨ st 5 a = 1) (h6 : st 6 a = 0 ∨ st 6 a = 1) (g5 : st 5 b = 0 ∨ st 5 b = 1) (g6 : st 6 b = 0 ∨ st 6 b = 1) : Met l y_Md_add (.code y_Md_add b_Md_add 6 (some .int) :: ww) ({ frames := 0, cells := 0, slots := 0, locals := 0 }) (hw_Pc D qcl (qty cI cJ cZ cN) [.ref md, .int k, .int (nI a), .int (nI b)] M sz) (va_Qi (fun r M1 => r = nI n ∧ md_W cI cJ cZ md kd on tw nu le fx fy si de ne it po ma ab be li fr to M1 cd (n + 1) up dn pz NE IT PO MA AB BE ∧ md_T cI cZ kd on tw nu le fx fy si de M1 (ad_st st n k (nI a) (nI b) (orI (st 5 a) (st 5 b)) (orI (st 6 a) (st 6 b)) (st 7 a + st 7 b) (mxI (st 8 a) (st 8 b))) ∧ ∀ x9, x9 ≠ md → x9 ≠ kd → x9 ≠ on → x9 ≠ tw → x9 ≠ fx → x9 ≠ fy → x9 ≠ si → x9 ≠ de → M1 x9 = M x9) (hw_B D qcl (qty cI cJ cZ cN) M sz) (hw_A M sz)) 0 0 (hw_A M sz) := by
  refine hw_met (by decide) (Nat.le_of_ble_eq_true rfl) ?_
  intro p e s m below meth c hx hb hr hml hown hlocks hnm hts hsz hX hW ls hl
  subst hsz
  have hA : ∀ q, s.heap.size ≤ q → hw_A M s.heap.size q := fun q h => Or.inr h
  have hS : va_S (hw_A M s.heap.size) s.heap s.heap [] := va_S.rf
  have hl : lv_has ls 6 [(0, .ref md), (1, .int k), (2, .int (nI a)), (3, .int (nI b))] := hl
  have hown : s.vm.findClass "QuantifierOutModel" = some m.cls := hown
  obtain ⟨Q9, hQ9⟩ : ∃ X : State → Prop, X = MQ below (va_Qi (fun r M1 => r = nI n ∧ md_W cI cJ cZ md kd on tw nu le fx fy si de ne it po ma ab be li fr to M1 cd (n + 1) up dn pz NE IT PO MA AB BE ∧ md_T cI cZ kd on tw nu le fx fy si de M1 (ad_st st n k (nI a) (nI b) (orI (st 5 a) (st 5 b)) (orI (st 6 a) (st 6 b)) (st 7 a + st 7 b) (mxI (st 8 a) (st 8 b))) ∧ ∀ x9, x9 ≠ md → x9 ≠ kd → x9 ≠ on → x9 ≠ tw → x9 ≠ fx → x9 ≠ fy → x9 ≠ si → x9 ≠ de → M1 x9 = M x9) (hw_B D qcl (qty cI cJ cZ cN) M s.heap.size) (hw_A M s.heap.size)) [.ref md, .int k, .int (nI a), .int (nI b)].toArray s 0 0 (hw_A M s.heap.size) := ⟨_, rfl⟩
  rw [← hQ9]
  have w_md := hK.1
  have w_md : M md = some (.inr (8, [.int cd, .int (nI n), .ref kd, .ref on, .ref tw, .ref nu, .ref le, .ref fx, .ref fy, .ref si, .ref de, .ref ne, .ref it, .ref po, .ref ma, .ref ab, .ref be, .long up, .long dn, .ref li, .int pz, .ref fr, .ref to])) := w_md
  have t_kd : M kd = some (.inl (cI, 60, .inl (st 0))) := hT.1
  have t_on : M on = some (.inl (cI, 60, .inl (st 1))) := hT.2.1
  have t_tw : M tw = some (.inl (cI, 60, .inl (st 2))) := hT.2.2.1
  have t_fx : M fx = some (.inl (cZ, 60, .inl (st 5))) := hT.2.2.2.2.2.1
  have t_fy : M fy = some (.inl (cZ, 60, .inl (st 6))) := hT.2.2.2.2.2.2.1
  have t_si : M si = some (.inl (cI, 60, .inl (st 7))) := hT.2.2.2.2.2.2.2.1
  have t_de : M de = some (.inl (cI, 60, .inl (st 8))) := hT.2.2.2.2.2.2.2.2
  refine lv_aload_n hx hb d_Md_add_0 rfl (lv_at hl 0 rfl) ?_
  refine hw_get (own := "QuantifierOutModel") (v := .ref kd) hx hb hts i_Md hown hW w_md rfl 2 (by decide) (hts _ tw_605) (fun _ h9 => h9) rfl d_Md_add_1 ?_
  refine lv_aload_n hx hb d_Md_add_4 rfl (lv_at hl 0 rfl) ?_
  refine hw_get (own := "QuantifierOutModel") (v := .int (nI n)) hx hb hts i_Md hown hW w_md rfl 1 (by decide) (hts _ tw_604) (fun _ h9 => h9) rfl d_Md_add_5 ?_
  refine lv_iload_n hx hb d_Md_add_8 rfl (lv_at hl 1 rfl) ?_
  refine hw_ist hx hb hW hS 0 t_kd rfl n rfl (by omega) (by decide) d_Md_add_9 (fun H locs hW hS => ?_)
  have hW : hw_W D qcl (qty cI cJ cZ cN) _ (va_up M kd (some (.inl (cI, 60, .inl (upd (st 0) n k))))) s H := hW
  generalize hMw1 : va_up M kd (some (.inl (cI, 60, .inl (upd (st 0) n k)))) = Mw1 at hW
  have w_md : Mw1 md = some (.inr (8, [.int cd, .int (nI n), .ref kd, .ref on, .ref tw, .ref nu, .ref le, .ref fx, .ref fy, .ref si, .ref de, .ref ne, .ref it, .ref po, .ref ma, .ref ab, .ref be, .long up, .long dn, .ref li, .int pz, .ref fr, .ref to])) := by rw [← hMw1, va_up_ne _ _ (show md ≠ kd from hD 0 1 (by decide) (by decide))]; exact w_md
  have t_on : Mw1 on = some (.inl (cI, 60, .inl (st 1))) := by rw [← hMw1, va_up_ne _ _ (Ne.symm (show kd ≠ on from hD 1 2 (by decide) (by decide)))]; exact t_on
  have t_tw : Mw1 tw = some (.inl (cI, 60, .inl (st 2))) := by rw [← hMw1, va_up_ne _ _ (Ne.symm (show kd ≠ tw from hD 1 3 (by decide) (by decide)))]; exact t_tw
  have t_fx : Mw1 fx = some (.inl (cZ, 60, .inl (st 5))) := by rw [← hMw1, va_up_ne _ _ (Ne.symm (show kd ≠ fx from hD 1 6 (by decide) (by decide)))]; exact t_fx
  have t_fy : Mw1 fy = some (.inl (cZ, 60, .inl (st 6))) := by rw [← hMw1, va_up_ne _ _ (Ne.symm (show kd ≠ fy from hD 1 7 (by decide) (by decide)))]; exact t_fy
  have t_si : Mw1 si = some (.inl (cI, 60, .inl (st 7))) := by rw [← hMw1, va_up_ne _ _ (Ne.symm (show kd ≠ si from hD 1 8 (by decide) (by decide)))]; exact t_si
  have t_de : Mw1 de = some (.inl (cI, 60, .inl (st 8))) := by rw [← hMw1, va_up_ne _ _ (Ne.symm (show kd ≠ de from hD 1 9 (by decide) (by decide)))]; exact t_de
  have t_kd : Mw1 kd = some (.inl (cI, 60, .inl (upd (st 0) n k))) := by rw [← hMw1]; exact va_up_self _ _ _
  have hfr_Mw1 : ∀ x9, x9 ≠ kd → Mw1 x9 = M x9 := fun x9 z9 => by rw [← hMw1, va_up_ne _ _ z9]
  refine lv_aload_n hx hb d_Md_add_10 rfl (lv_at hl 0 rfl) ?_
  refine hw_get (own := "QuantifierOutModel") (v := .ref on) hx hb hts i_Md hown hW w_md rfl 3 (by decide) (hts _ tw_606) (fun _ h9 => h9) rfl d_Md_add_11 ?_
  refine lv_aload_n hx hb d_Md_add_14 rfl (lv_at hl 0 rfl) ?_
  refine hw_get (own := "QuantifierOutModel") (v := .int (nI n)) hx hb hts i_Md hown hW w_md rfl 1 (by decide) (hts _ tw_604) (fun _ h9 => h9) rfl d_Md_add_15 ?_
  refine lv_iload_n hx hb d_Md_add_18 rfl (lv_at hl 2 rfl) ?_
  refine hw_ist hx hb hW hS 0 t_on rfl n rfl (by omega) (by decide) d_Md_add_19 (fun H locs hW hS => ?_)
  have hW : hw_W D qcl (qty cI cJ cZ cN) _ (va_up Mw1 on (some (.inl (cI, 60, .inl (upd (st 1) n (nI a)))))) s H := hW
  generalize hMw2 : va_up Mw1 on (some (.inl (cI, 60, .inl (upd (st 1) n (nI a))))) = Mw2 at hW
  have w_md : Mw2 md = some (.inr (8, [.int cd, .int (nI n), .ref kd, .ref on, .ref tw, .ref nu, .ref le, .ref fx, .ref fy, .ref si, .ref de, .ref ne, .ref it, .ref po, .ref ma, .ref ab, .ref be, .long up, .long dn, .ref li, .int pz, .ref fr, .ref to])) := by rw [← hMw2, va_up_ne _ _ (show md ≠ on from hD 0 2 (by decide) (by decide))]; exact w_md
  have t_tw : Mw2 tw = some (.inl (cI, 60, .inl (st 2))) := by rw [← hMw2, va_up_ne _ _ (Ne.symm (show on ≠ tw from hD 2 3 (by decide) (by decide)))]; exact t_tw
  have t_fx : Mw2 fx = some (.inl (cZ, 60, .inl (st 5))) := by rw [← hMw2, va_up_ne _ _ (Ne.symm (show on ≠ fx from hD 2 6 (by decide) (by decide)))]; exact t_fx
  have t_fy : Mw2 fy = some (.inl (cZ, 60, .inl (st 6))) := by rw [← hMw2, va_up_ne _ _ (Ne.symm (show on ≠ fy from hD 2 7 (by decide) (by decide)))]; exact t_fy
  have t_si : Mw2 si = some (.inl (cI, 60, .inl (st 7))) := by rw [← hMw2, va_up_ne _ _ (Ne.symm (show on ≠ si from hD 2 8 (by decide) (by decide)))]; exact t_si
  have t_de : Mw2 de = some (.inl (cI, 60, .inl (st 8))) := by rw [← hMw2, va_up_ne _ _ (Ne.symm (show on ≠ de from hD 2 9 (by decide) (by decide)))]; exact t_de
  have t_kd : Mw2 kd = some (.inl (cI, 60, .inl (upd (st 0) n k))) := by rw [← hMw2, va_up_ne _ _ (show kd ≠ on from hD 1 2 (by decide) (by decide))]; exact t_kd
  have t_on : Mw2 on = some (.inl (cI, 60, .inl (upd (st 1) n (nI a)))) := by rw [← hMw2]; exact va_up_self _ _ _
  have hfr_Mw2 : ∀ x9, x9 ≠ on → Mw2 x9 = Mw1 x9 := fun x9 z9 => by rw [← hMw2, va_up_ne _ _ z9]
  refine lv_aload_n hx hb d_Md_add_20 rfl (lv_at hl 0 rfl) ?_
  refine hw_get (own := "QuantifierOutModel") (v := .ref tw) hx hb hts i_Md hown hW w_md rfl 4 (by decide) (hts _ tw_607) (fun _ h9 => h9) rfl d_Md_add_21 ?_
  refine lv_aload_n hx hb d_Md_add_24 rfl (lv_at hl 0 rfl) ?_
  refine hw_get (own := "QuantifierOutModel") (v := .int (nI n)) hx hb hts i_Md hown hW w_md rfl 1 (by decide) (hts _ tw_604) (fun _ h9 => h9) rfl d_Md_add_25 ?_
  refine lv_iload_n hx hb d_Md_add_28 rfl (lv_at hl 3 rfl) ?_
  refine hw_ist hx hb hW hS 0 t_tw rfl n rfl (by omega) (by decide) d_Md_add_29 (fun H locs hW hS => ?_)
  have hW : hw_W D qcl (qty cI cJ cZ cN) _ (va_up Mw2 tw (some (.inl (cI, 60, .inl (upd (st 2) n (nI b)))))) s H := hW
  generalize hMw3 : va_up Mw2 tw (some (.inl (cI, 60, .inl (upd (st 2) n (nI b))))) = Mw3 at hW
  have w_md : Mw3 md = some (.inr (8, [.int cd, .int (nI n), .ref kd, .ref on, .ref tw, .ref nu, .ref le, .ref fx, .ref fy, .ref si, .ref de, .ref ne, .ref it, .ref po, .ref ma, .ref ab, .ref be, .long up, .long dn, .ref li, .int pz, .ref fr, .ref to])) := by rw [← hMw3, va_up_ne _ _ (show md ≠ tw from hD 0 3 (by decide) (by decide))]; exact w_md
  have t_fx : Mw3 fx = some (.inl (cZ, 60, .inl (st 5))) := by rw [← hMw3, va_up_ne _ _ (Ne.symm (show tw ≠ fx from hD 3 6 (by decide) (by decide)))]; exact t_fx
  have t_fy : Mw3 fy = some (.inl (cZ, 60, .inl (st 6))) := by rw [← hMw3, va_up_ne _ _ (Ne.symm (show tw ≠ fy from hD 3 7 (by decide) (by decide)))]; exact t_fy
  have t_si : Mw3 si = some (.inl (cI, 60, .inl (st 7))) := by rw [← hMw3, va_up_ne _ _ (Ne.symm (show tw ≠ si from hD 3 8 (by decide) (by decide)))]; exact t_si
  have t_de : Mw3 de = some (.inl (cI, 60, .inl (st 8))) := by rw [← hMw3, va_up_ne _ _ (Ne.symm (show tw ≠ de from hD 3 9 (by decide) (by decide)))]; exact t_de
  have t_kd : Mw3 kd = some (.inl (cI, 60, .inl (upd (st 0) n k))) := by rw [← hMw3, va_up_ne _ _ (show kd ≠ tw from hD 1 3 (by decide) (by decide))]; exact t_kd
  have t_on : Mw3 on = some (.inl (cI, 60, .inl (upd (st 1) n (nI a)))) := by rw [← hMw3, va_up_ne _ _ (show on ≠ tw from hD 2 3 (by decide) (by decide))]; exact t_on
  have t_tw : Mw3 tw = some (.inl (cI, 60, .inl (upd (st 2) n (nI b)))) := by rw [← hMw3]; exact va_up_self _ _ _
  have hfr_Mw3 : ∀ x9, x9 ≠ tw → Mw3 x9 = Mw2 x9 := fun x9 z9 => by rw [← hMw3, va_up_ne _ _ z9]
  have T98 : ∀ (X Y : Int32), X = (orI (st 5 a) (st 5 b)) → Y = (orI (st 6 a) (st 6 b)) → ∀ (ls : Array Slot), lv_has ls 6 [(5, .int Y), (4, .int X), (0, .ref md), (1, .int k), (2, .int (nI a)), (3, .int (nI b))] → W p l e ({ frames := 0, cells := 0, slots := 0, locals := 0 }) s m [.ref md, .int k, .int (nI a), .int (nI b)].toArray below meth c H locs 0 0 Q9 (F0 m 98 ls []) := by
    intro X Y hX hY ls hl
    have hX01 : X = 0 ∨ X = 1 := by rw [hX]; exact orI01 g5
    have hY01 : Y = 0 ∨ Y = 1 := by rw [hY]; exact orI01 g6
    refine lv_aload_n hx hb d_Md_add_98 rfl (lv_at hl 2 rfl) ?_
    refine hw_get (own := "QuantifierOutModel") (v := .ref fx) hx hb hts i_Md hown hW w_md rfl 7 (by decide) (hts _ tw_610) (fun _ h9 => h9) rfl d_Md_add_99 ?_
    refine lv_aload_n hx hb d_Md_add_102 rfl (lv_at hl 2 rfl) ?_
    refine hw_get (own := "QuantifierOutModel") (v := .int (nI n)) hx hb hts i_Md hown hW w_md rfl 1 (by decide) (hts _ tw_604) (fun _ h9 => h9) rfl d_Md_add_103 ?_
    refine lv_iload hx hb d_Md_add_106 (lv_at hl 1 rfl) ?_
    refine hw_zst hx hb hW hS 2 t_fx rfl n rfl (by omega) (by decide) (by rcases hX01 with z9 | z9 <;> rw [z9] <;> rfl) d_Md_add_108 (fun H locs hW hS => ?_)
    have hW : hw_W D qcl (qty cI cJ cZ cN) _ (va_up Mw3 fx (some (.inl (cZ, 60, .inl (upd (st 5) n X))))) s H := hW
    generalize hMw4 : va_up Mw3 fx (some (.inl (cZ, 60, .inl (upd (st 5) n X)))) = Mw4 at hW
    have w_md : Mw4 md = some (.inr (8, [.int cd, .int (nI n), .ref kd, .ref on, .ref tw, .ref nu, .ref le, .ref fx, .ref fy, .ref si, .ref de, .ref ne, .ref it, .ref po, .ref ma, .ref ab, .ref be, .long up, .long dn, .ref li, .int pz, .ref fr, .ref to])) := by rw [← hMw4, va_up_ne _ _ (show md ≠ fx from hD 0 6 (by decide) (by decide))]; exact w_md
    have t_fy : Mw4 fy = some (.inl (cZ, 60, .inl (st 6))) := by rw [← hMw4, va_up_ne _ _ (Ne.symm (show fx ≠ fy from hD 6 7 (by decide) (by decide)))]; exact t_fy
    have t_si : Mw4 si = some (.inl (cI, 60, .inl (st 7))) := by rw [← hMw4, va_up_ne _ _ (Ne.symm (show fx ≠ si from hD 6 8 (by decide) (by decide)))]; exact t_si
    have t_de : Mw4 de = some (.inl (cI, 60, .inl (st 8))) := by rw [← hMw4, va_up_ne _ _ (Ne.symm (show fx ≠ de from hD 6 9 (by decide) (by decide)))]; exact t_de
    have t_kd : Mw4 kd = some (.inl (cI, 60, .inl (upd (st 0) n k))) := by rw [← hMw4, va_up_ne _ _ (show kd ≠ fx from hD 1 6 (by decide) (by decide))]; exact t_kd
    have t_on : Mw4 on = some (.inl (cI, 60, .inl (upd (st 1) n (nI a)))) := by rw [← hMw4, va_up_ne _ _ (show on ≠ fx from hD 2 6 (by decide) (by decide))]; exact t_on
    have t_tw : Mw4 tw = some (.inl (cI, 60, .inl (upd (st 2) n (nI b)))) := by rw [← hMw4, va_up_ne _ _ (show tw ≠ fx from hD 3 6 (by decide) (by decide))]; exact t_tw
    have t_fx : Mw4 fx = some (.inl (cZ, 60, .inl (upd (st 5) n X))) := by rw [← hMw4]; exact va_up_self _ _ _
    have hfr_Mw4 : ∀ x9, x9 ≠ fx → Mw4 x9 = Mw3 x9 := fun x9 z9 => by rw [← hMw4, va_up_ne _ _ z9]
    refine lv_aload_n hx hb d_Md_add_109 rfl (lv_at hl 2 rfl) ?_
    refine hw_get (own := "QuantifierOutModel") (v := .ref fy) hx hb hts i_Md hown hW w_md rfl 8 (by decide) (hts _ tw_611) (fun _ h9 => h9) rfl d_Md_add_110 ?_
    refine lv_aload_n hx hb d_Md_add_113 rfl (lv_at hl 2 rfl) ?_
    refine hw_get (own := "QuantifierOutModel") (v := .int (nI n)) hx hb hts i_Md hown hW w_md rfl 1 (by decide) (hts _ tw_604) (fun _ h9 => h9) rfl d_Md_add_114 ?_
    refine lv_iload hx hb d_Md_add_117 (lv_at hl 0 rfl) ?_
    refine hw_zst hx hb hW hS 2 t_fy rfl n rfl (by omega) (by decide) (by rcases hY01 with z9 | z9 <;> rw [z9] <;> rfl) d_Md_add_119 (fun H locs hW hS => ?_)
    have hW : hw_W D qcl (qty cI cJ cZ cN) _ (va_up Mw4 fy (some (.inl (cZ, 60, .inl (upd (st 6) n Y))))) s H := hW
    generalize hMw5 : va_up Mw4 fy (some (.inl (cZ, 60, .inl (upd (st 6) n Y)))) = Mw5 at hW
    have w_md : Mw5 md = some (.inr (8, [.int cd, .int (nI n), .ref kd, .ref on, .ref tw, .ref nu, .ref le, .ref fx, .ref fy, .ref si, .ref de, .ref ne, .ref it, .ref po, .ref ma, .ref ab, .ref be, .long up, .long dn, .ref li, .int pz, .ref fr, .ref to])) := by rw [← hMw5, va_up_ne _ _ (show md ≠ fy from hD 0 7 (by decide) (by decide))]; exact w_md
    have t_si : Mw5 si = some (.inl (cI, 60, .inl (st 7))) := by rw [← hMw5, va_up_ne _ _ (Ne.symm (show fy ≠ si from hD 7 8 (by decide) (by decide)))]; exact t_si
    have t_de : Mw5 de = some (.inl (cI, 60, .inl (st 8))) := by rw [← hMw5, va_up_ne _ _ (Ne.symm (show fy ≠ de from hD 7 9 (by decide) (by decide)))]; exact t_de
    have t_kd : Mw5 kd = some (.inl (cI, 60, .inl (upd (st 0) n k))) := by rw [← hMw5, va_up_ne _ _ (show kd ≠ fy from hD 1 7 (by decide) (by decide))]; exact t_kd
    have t_on : Mw5 on = some (.inl (cI, 60, .inl (upd (st 1) n (nI a)))) := by rw [← hMw5, va_up_ne _ _ (show on ≠ fy from hD 2 7 (by decide) (by decide))]; exact t_on
    have t_tw : Mw5 tw = some (.inl (cI, 60, .inl (upd (st 2) n (nI b)))) := by rw [← hMw5, va_up_ne _ _ (show tw ≠ fy from hD 3 7 (by decide) (by decide))]; exact t_tw
    have t_fx : Mw5 fx = some (.inl (cZ, 60, .inl (upd (st 5) n X))) := by rw [← hMw5, va_up_ne _ _ (show fx ≠ fy from hD 6 7 (by decide) (by decide))]; exact t_fx
    have t_fy : Mw5 fy = some (.inl (cZ, 60, .inl (upd (st 6) n Y))) := by rw [← hMw5]; exact va_up_self _ _ _
    have hfr_Mw5 : ∀ x9, x9 ≠ fy → Mw5 x9 = Mw4 x9 := fun x9 z9 => by rw [← hMw5, va_up_ne _ _ z9]
    refine lv_aload_n hx hb d_Md_add_120 rfl (lv_at hl 2 rfl) ?_
    refine hw_get (own := "QuantifierOutModel") (v := .ref si) hx hb hts i_Md hown hW w_md rfl 9 (by decide) (hts _ tw_612) (fun _ h9 => h9) rfl d_Md_add_121 ?_
    refine lv_aload_n hx hb d_Md_add_124 rfl (lv_at hl 2 rfl) ?_
    refine hw_get (own := "QuantifierOutModel") (v := .int (nI n)) hx hb hts i_Md hown hW w_md rfl 1 (by decide) (hts _ tw_604) (fun _ h9 => h9) rfl d_Md_add_125 ?_
    refine lv_iload_n hx hb d_Md_add_128 rfl (lv_at hl 3 rfl) ?_
    refine lv_if_ne (tgt := 136) hx hb d_Md_add_129 (by decide) (fun c_129 => ?_) (fun c_129 => ?_)
    · skip
      refine lv_aload_n hx hb d_Md_add_136 rfl (lv_at hl 2 rfl) ?_
      refine hw_get (own := "QuantifierOutModel") (v := .ref si) hx hb hts i_Md hown hW w_md rfl 9 (by decide) (hts _ tw_612) (fun _ h9 => h9) rfl d_Md_add_137 ?_
      refine lv_iload_n hx hb d_Md_add_140 rfl (lv_at hl 4 rfl) ?_
      refine hw_ild hx hb hW 0 t_si rfl a rfl (by omega) (by decide) d_Md_add_141 ?_
      refine lv_iload_n hx hb d_Md_add_142 rfl (lv_at hl 5 rfl) ?_
      refine lv_iconst (v := (-1)) hx hb d_Md_add_143 (by decide) ?_
      refine lv_icmp_ne (tgt := 151) hx hb d_Md_add_144 (by decide) (fun c_144 => ?_) (fun c_144 => ?_)
      · skip
        refine lv_aload_n hx hb d_Md_add_151 rfl (lv_at hl 2 rfl) ?_
        refine hw_get (own := "QuantifierOutModel") (v := .ref si) hx hb hts i_Md hown hW w_md rfl 9 (by decide) (hts _ tw_612) (fun _ h9 => h9) rfl d_Md_add_152 ?_
        refine lv_iload_n hx hb d_Md_add_155 rfl (lv_at hl 5 rfl) ?_
        refine hw_ild hx hb hW 0 t_si rfl b rfl (by omega) (by decide) d_Md_add_156 ?_
        refine lv_iadd hx hb d_Md_add_157 ?_
        refine lv_topi (fun x6 ex6 => ?_)
        rw [ex6]
        refine hw_ist hx hb hW hS 0 t_si rfl n rfl (by omega) (by decide) d_Md_add_158 (fun H locs hW hS => ?_)
        have hW : hw_W D qcl (qty cI cJ cZ cN) _ (va_up Mw5 si (some (.inl (cI, 60, .inl (upd (st 7) n (st 7 a + st 7 b)))))) s H := hW
        generalize hMw7 : va_up Mw5 si (some (.inl (cI, 60, .inl (upd (st 7) n (st 7 a + st 7 b))))) = Mw7 at hW
        have w_md : Mw7 md = some (.inr (8, [.int cd, .int (nI n), .ref kd, .ref on, .ref tw, .ref nu, .ref le, .ref fx, .ref fy, .ref si, .ref de, .ref ne, .ref it, .ref po, .ref ma, .ref ab, .ref be, .long up, .long dn, .ref li, .int pz, .ref fr, .ref to])) := by rw [← hMw7, va_up_ne _ _ (show md ≠ si from hD 0 8 (by decide) (by decide))]; exact w_md
        have t_de : Mw7 de = some (.inl (cI, 60, .inl (st 8))) := by rw [← hMw7, va_up_ne _ _ (Ne.symm (show si ≠ de from hD 8 9 (by decide) (by decide)))]; exact t_de
        have t_kd : Mw7 kd = some (.inl (cI, 60, .inl (upd (st 0) n k))) := by rw [← hMw7, va_up_ne _ _ (show kd ≠ si from hD 1 8 (by decide) (by decide))]; exact t_kd
        have t_on : Mw7 on = some (.inl (cI, 60, .inl (upd (st 1) n (nI a)))) := by rw [← hMw7, va_up_ne _ _ (show on ≠ si from hD 2 8 (by decide) (by decide))]; exact t_on
        have t_tw : Mw7 tw = some (.inl (cI, 60, .inl (upd (st 2) n (nI b)))) := by rw [← hMw7, va_up_ne _ _ (show tw ≠ si from hD 3 8 (by decide) (by decide))]; exact t_tw
        have t_fx : Mw7 fx = some (.inl (cZ, 60, .inl (upd (st 5) n X))) := by rw [← hMw7, va_up_ne _ _ (show fx ≠ si from hD 6 8 (by decide) (by decide))]; exact t_fx
        have t_fy : Mw7 fy = some (.inl (cZ, 60, .inl (upd (st 6) n Y))) := by rw [← hMw7, va_up_ne _ _ (show fy ≠ si from hD 7 8 (by decide) (by decide))]; exact t_fy
        have t_si : Mw7 si = some (.inl (cI, 60, .inl (upd (st 7) n (st 7 a + st 7 b)))) := by rw [← hMw7]; exact va_up_self _ _ _
        have hfr_Mw7 : ∀ x9, x9 ≠ si → Mw7 x9 = Mw5 x9 := fun x9 z9 => by rw [← hMw7, va_up_ne _ _ z9]
        refine lv_aload_n hx hb d_Md_add_159 rfl (lv_at hl 2 rfl) ?_
        refine hw_get (own := "QuantifierOutModel") (v := .ref de) hx hb hts i_Md hown hW w_md rfl 10 (by decide) (hts _ tw_613) (fun _ h9 => h9) rfl d_Md_add_160 ?_
        refine lv_aload_n hx hb d_Md_add_163 rfl (lv_at hl 2 rfl) ?_
        refine hw_get (own := "QuantifierOutModel") (v := .int (nI n)) hx hb hts i_Md hown hW w_md rfl 1 (by decide) (hts _ tw_604) (fun _ h9 => h9) rfl d_Md_add_164 ?_
        refine lv_iload_n hx hb d_Md_add_167 rfl (lv_at hl 3 rfl) ?_
        refine lv_if_ne (tgt := 175) hx hb d_Md_add_168 (by decide) (fun c_168 => ?_) (fun c_168 => ?_)
        · skip
          refine lv_iload_n hx hb d_Md_add_175 rfl (lv_at hl 5 rfl) ?_
          refine lv_iconst (v := (-1)) hx hb d_Md_add_176 (by decide) ?_
          refine lv_icmp_eq (tgt := 204) hx hb d_Md_add_177 (by decide) (fun c_177 => ?_) (fun c_177 => ?_)
          · skip
            exact absurd c_177 (nI_nm1 (by omega))
          · skip
            refine lv_aload_n hx hb d_Md_add_180 rfl (lv_at hl 2 rfl) ?_
            refine hw_get (own := "QuantifierOutModel") (v := .ref de) hx hb hts i_Md hown hW w_md rfl 10 (by decide) (hts _ tw_613) (fun _ h9 => h9) rfl d_Md_add_181 ?_
            refine lv_iload_n hx hb d_Md_add_184 rfl (lv_at hl 5 rfl) ?_
            refine hw_ild hx hb hW 0 t_de rfl b rfl (by omega) (by decide) d_Md_add_185 ?_
            refine lv_aload_n hx hb d_Md_add_186 rfl (lv_at hl 2 rfl) ?_
            refine hw_get (own := "QuantifierOutModel") (v := .ref de) hx hb hts i_Md hown hW w_md rfl 10 (by decide) (hts _ tw_613) (fun _ h9 => h9) rfl d_Md_add_187 ?_
            refine lv_iload_n hx hb d_Md_add_190 rfl (lv_at hl 4 rfl) ?_
            refine hw_ild hx hb hW 0 t_de rfl a rfl (by omega) (by decide) d_Md_add_191 ?_
            refine lv_icmp_le (tgt := 204) hx hb d_Md_add_192 (by decide) (fun c_192 => ?_) (fun c_192 => ?_)
            · skip
              refine lv_aload_n hx hb d_Md_add_204 rfl (lv_at hl 2 rfl) ?_
              refine hw_get (own := "QuantifierOutModel") (v := .ref de) hx hb hts i_Md hown hW w_md rfl 10 (by decide) (hts _ tw_613) (fun _ h9 => h9) rfl d_Md_add_205 ?_
              refine lv_iload_n hx hb d_Md_add_208 rfl (lv_at hl 4 rfl) ?_
              refine hw_ild hx hb hW 0 t_de rfl a rfl (by omega) (by decide) d_Md_add_209 ?_
              have hmx : (st 8 a) = mxI (st 8 a) (st 8 b) := by unfold mxI; rw [if_pos c_192]
              refine hw_ist hx hb hW hS 0 t_de rfl n rfl (by omega) (by decide) d_Md_add_210 (fun H locs hW hS => ?_)
              have hW : hw_W D qcl (qty cI cJ cZ cN) _ (va_up Mw7 de (some (.inl (cI, 60, .inl (upd (st 8) n ((st 8) a)))))) s H := hW
              generalize hMw8 : va_up Mw7 de (some (.inl (cI, 60, .inl (upd (st 8) n ((st 8) a))))) = Mw8 at hW
              have w_md : Mw8 md = some (.inr (8, [.int cd, .int (nI n), .ref kd, .ref on, .ref tw, .ref nu, .ref le, .ref fx, .ref fy, .ref si, .ref de, .ref ne, .ref it, .ref po, .ref ma, .ref ab, .ref be, .long up, .long dn, .ref li, .int pz, .ref fr, .ref to])) := by rw [← hMw8, va_up_ne _ _ (show md ≠ de from hD 0 9 (by decide) (by decide))]; exact w_md
              have t_kd : Mw8 kd = some (.inl (cI, 60, .inl (upd (st 0) n k))) := by rw [← hMw8, va_up_ne _ _ (show kd ≠ de from hD 1 9 (by decide) (by decide))]; exact t_kd
              have t_on : Mw8 on = some (.inl (cI, 60, .inl (upd (st 1) n (nI a)))) := by rw [← hMw8, va_up_ne _ _ (show on ≠ de from hD 2 9 (by decide) (by decide))]; exact t_on
              have t_tw : Mw8 tw = some (.inl (cI, 60, .inl (upd (st 2) n (nI b)))) := by rw [← hMw8, va_up_ne _ _ (show tw ≠ de from hD 3 9 (by decide) (by decide))]; exact t_tw
              have t_fx : Mw8 fx = some (.inl (cZ, 60, .inl (upd (st 5) n X))) := by rw [← hMw8, va_up_ne _ _ (show fx ≠ de from hD 6 9 (by decide) (by decide))]; exact t_fx
              have t_fy : Mw8 fy = some (.inl (cZ, 60, .inl (upd (st 6) n Y))) := by rw [← hMw8, va_up_ne _ _ (show fy ≠ de from hD 7 9 (by decide) (by decide))]; exact t_fy
              have t_si : Mw8 si = some (.inl (cI, 60, .inl (upd (st 7) n (st 7 a + st 7 b)))) := by rw [← hMw8, va_up_ne _ _ (show si ≠ de from hD 8 9 (by decide) (by decide))]; exact t_si
              have t_de : Mw8 de = some (.inl (cI, 60, .inl (upd (st 8) n ((st 8) a)))) := by rw [← hMw8]; exact va_up_self _ _ _
              have hfr_Mw8 : ∀ x9, x9 ≠ de → Mw8 x9 = Mw7 x9 := fun x9 z9 => by rw [← hMw8, va_up_ne _ _ z9]
              refine lv_aload_n hx hb d_Md_add_211 rfl (lv_at hl 2 rfl) ?_
              refine lv_dup hx hb d_Md_add_212 rfl ?_
              refine hw_get (own := "QuantifierOutModel") (v := .int (nI n)) hx hb hts i_Md hown hW w_md rfl 1 (by decide) (hts _ tw_604) (fun _ h9 => h9) rfl d_Md_add_213 ?_
              refine lv_iconst (v := 1) hx hb d_Md_add_216 (by decide) ?_
              refine lv_iadd hx hb d_Md_add_217 ?_
              refine lv_topi (fun x9 ex9 => ?_)
              have enx9 : x9 = nI (n + 1) := by rw [ex9]; exact nI_1 n
              rw [enx9]
              refine hw_put (own := "QuantifierOutModel") (v := .int (nI (n + 1))) (ty := .int) hx hb hts i_Md ft_Md tk_Md n_Md hown hW hS w_md rfl 1 (by decide) (hts _ tw_604) (fun _ h9 => h9) rfl (tk_Md 1 (by decide)) rfl rfl (Nat.le_of_ble_eq_true rfl) d_Md_add_218 (fun H locs hW hS => ?_)
              have hW : hw_W D qcl (qty cI cJ cZ cN) _ (va_up Mw8 md (some (.inr (8, [.int cd, .int (nI (n + 1)), .ref kd, .ref on, .ref tw, .ref nu, .ref le, .ref fx, .ref fy, .ref si, .ref de, .ref ne, .ref it, .ref po, .ref ma, .ref ab, .ref be, .long up, .long dn, .ref li, .int pz, .ref fr, .ref to])))) s H := hW
              generalize hMw10 : va_up Mw8 md (some (.inr (8, [.int cd, .int (nI (n + 1)), .ref kd, .ref on, .ref tw, .ref nu, .ref le, .ref fx, .ref fy, .ref si, .ref de, .ref ne, .ref it, .ref po, .ref ma, .ref ab, .ref be, .long up, .long dn, .ref li, .int pz, .ref fr, .ref to]))) = Mw10 at hW
              have t_kd : Mw10 kd = some (.inl (cI, 60, .inl (upd (st 0) n k))) := by rw [← hMw10, va_up_ne _ _ (Ne.symm (show md ≠ kd from hD 0 1 (by decide) (by decide)))]; exact t_kd
              have t_on : Mw10 on = some (.inl (cI, 60, .inl (upd (st 1) n (nI a)))) := by rw [← hMw10, va_up_ne _ _ (Ne.symm (show md ≠ on from hD 0 2 (by decide) (by decide)))]; exact t_on
              have t_tw : Mw10 tw = some (.inl (cI, 60, .inl (upd (st 2) n (nI b)))) := by rw [← hMw10, va_up_ne _ _ (Ne.symm (show md ≠ tw from hD 0 3 (by decide) (by decide)))]; exact t_tw
              have t_fx : Mw10 fx = some (.inl (cZ, 60, .inl (upd (st 5) n X))) := by rw [← hMw10, va_up_ne _ _ (Ne.symm (show md ≠ fx from hD 0 6 (by decide) (by decide)))]; exact t_fx
              have t_fy : Mw10 fy = some (.inl (cZ, 60, .inl (upd (st 6) n Y))) := by rw [← hMw10, va_up_ne _ _ (Ne.symm (show md ≠ fy from hD 0 7 (by decide) (by decide)))]; exact t_fy
              have t_si : Mw10 si = some (.inl (cI, 60, .inl (upd (st 7) n (st 7 a + st 7 b)))) := by rw [← hMw10, va_up_ne _ _ (Ne.symm (show md ≠ si from hD 0 8 (by decide) (by decide)))]; exact t_si
              have t_de : Mw10 de = some (.inl (cI, 60, .inl (upd (st 8) n ((st 8) a)))) := by rw [← hMw10, va_up_ne _ _ (Ne.symm (show md ≠ de from hD 0 9 (by decide) (by decide)))]; exact t_de
              have w_md : Mw10 md = some (.inr (8, [.int cd, .int (nI (n + 1)), .ref kd, .ref on, .ref tw, .ref nu, .ref le, .ref fx, .ref fy, .ref si, .ref de, .ref ne, .ref it, .ref po, .ref ma, .ref ab, .ref be, .long up, .long dn, .ref li, .int pz, .ref fr, .ref to])) := by rw [← hMw10]; exact va_up_self _ _ _
              have hfr_Mw10 : ∀ x9, x9 ≠ md → Mw10 x9 = Mw8 x9 := fun x9 z9 => by rw [← hMw10, va_up_ne _ _ z9]
              refine lv_aload_n hx hb d_Md_add_221 rfl (lv_at hl 2 rfl) ?_
              refine hw_get (own := "QuantifierOutModel") (v := .int (nI (n + 1))) hx hb hts i_Md hown hW w_md rfl 1 (by decide) (hts _ tw_604) (fun _ h9 => h9) rfl d_Md_add_222 ?_
              refine lv_iconst (v := 1) hx hb d_Md_add_225 (by decide) ?_
              refine lv_isub hx hb d_Md_add_226 ?_
              refine lv_topi (fun x11 ex11 => ?_)
              rw [hQ9]
              refine hw_reti hx hb hr hlocks hW hS ⟨by rw [ex11]; exact nI_prd n, ⟨w_md, (((((((((hfr_Mw10 ne (Ne.symm (show md ≠ ne from hD 0 10 (by decide) (by decide))))).trans (hfr_Mw8 ne (Ne.symm (show de ≠ ne from hD 9 10 (by decide) (by decide))))).trans (hfr_Mw7 ne (Ne.symm (show si ≠ ne from hD 8 10 (by decide) (by decide))))).trans (hfr_Mw5 ne (Ne.symm (show fy ≠ ne from hD 7 10 (by decide) (by decide))))).trans (hfr_Mw4 ne (Ne.symm (show fx ≠ ne from hD 6 10 (by decide) (by decide))))).trans (hfr_Mw3 ne (Ne.symm (show tw ≠ ne from hD 3 10 (by decide) (by decide))))).trans (hfr_Mw2 ne (Ne.symm (show on ≠ ne from hD 2 10 (by decide) (by decide))))).trans (hfr_Mw1 ne (Ne.symm (show kd ≠ ne from hD 1 10 (by decide) (by decide))))).trans hK.2.1, (((((((((hfr_Mw10 it (Ne.symm (show md ≠ it from hD 0 11 (by decide) (by decide))))).trans (hfr_Mw8 it (Ne.symm (show de ≠ it from hD 9 11 (by decide) (by decide))))).trans (hfr_Mw7 it (Ne.symm (show si ≠ it from hD 8 11 (by decide) (by decide))))).trans (hfr_Mw5 it (Ne.symm (show fy ≠ it from hD 7 11 (by decide) (by decide))))).trans (hfr_Mw4 it (Ne.symm (show fx ≠ it from hD 6 11 (by decide) (by decide))))).trans (hfr_Mw3 it (Ne.symm (show tw ≠ it from hD 3 11 (by decide) (by decide))))).trans (hfr_Mw2 it (Ne.symm (show on ≠ it from hD 2 11 (by decide) (by decide))))).trans (hfr_Mw1 it (Ne.symm (show kd ≠ it from hD 1 11 (by decide) (by decide))))).trans hK.2.2.1, (((((((((hfr_Mw10 po (Ne.symm (show md ≠ po from hD 0 12 (by decide) (by decide))))).trans (hfr_Mw8 po (Ne.symm (show de ≠ po from hD 9 12 (by decide) (by decide))))).trans (hfr_Mw7 po (Ne.symm (show si ≠ po from hD 8 12 (by decide) (by decide))))).trans (hfr_Mw5 po (Ne.symm (show fy ≠ po from hD 7 12 (by decide) (by decide))))).trans (hfr_Mw4 po (Ne.symm (show fx ≠ po from hD 6 12 (by decide) (by decide))))).trans (hfr_Mw3 po (Ne.symm (show tw ≠ po from hD 3 12 (by decide) (by decide))))).trans (hfr_Mw2 po (Ne.symm (show on ≠ po from hD 2 12 (by decide) (by decide))))).trans (hfr_Mw1 po (Ne.symm (show kd ≠ po from hD 1 12 (by decide) (by decide))))).trans hK.2.2.2.1, (((((((((hfr_Mw10 ma (Ne.symm (show md ≠ ma from hD 0 13 (by decide) (by decide))))).trans (hfr_Mw8 ma (Ne.symm (show de ≠ ma from hD 9 13 (by decide) (by decide))))).trans (hfr_Mw7 ma (Ne.symm (show si ≠ ma from hD 8 13 (by decide) (by decide))))).trans (hfr_Mw5 ma (Ne.symm (show fy ≠ ma from hD 7 13 (by decide) (by decide))))).trans (hfr_Mw4 ma (Ne.symm (show fx ≠ ma from hD 6 13 (by decide) (by decide))))).trans (hfr_Mw3 ma (Ne.symm (show tw ≠ ma from hD 3 13 (by decide) (by decide))))).trans (hfr_Mw2 ma (Ne.symm (show on ≠ ma from hD 2 13 (by decide) (by decide))))).trans (hfr_Mw1 ma (Ne.symm (show kd ≠ ma from hD 1 13 (by decide) (by decide))))).trans hK.2.2.2.2.1, (((((((((hfr_Mw10 ab (Ne.symm (show md ≠ ab from hD 0 14 (by decide) (by decide))))).trans (hfr_Mw8 ab (Ne.symm (show de ≠ ab from hD 9 14 (by decide) (by decide))))).trans (hfr_Mw7 ab (Ne.symm (show si ≠ ab from hD 8 14 (by decide) (by decide))))).trans (hfr_Mw5 ab (Ne.symm (show fy ≠ ab from hD 7 14 (by decide) (by decide))))).trans (hfr_Mw4 ab (Ne.symm (show fx ≠ ab from hD 6 14 (by decide) (by decide))))).trans (hfr_Mw3 ab (Ne.symm (show tw ≠ ab from hD 3 14 (by decide) (by decide))))).trans (hfr_Mw2 ab (Ne.symm (show on ≠ ab from hD 2 14 (by decide) (by decide))))).trans (hfr_Mw1 ab (Ne.symm (show kd ≠ ab from hD 1 14 (by decide) (by decide))))).trans hK.2.2.2.2.2.1, (((((((((hfr_Mw10 be (Ne.symm (show md ≠ be from hD 0 15 (by decide) (by decide))))).trans (hfr_Mw8 be (Ne.symm (show de ≠ be from hD 9 15 (by decide) (by decide))))).trans (hfr_Mw7 be (Ne.symm (show si ≠ be from hD 8 15 (by decide) (by decide))))).trans (hfr_Mw5 be (Ne.symm (show fy ≠ be from hD 7 15 (by decide) (by decide))))).trans (hfr_Mw4 be (Ne.symm (show fx ≠ be from hD 6 15 (by decide) (by decide))))).trans (hfr_Mw3 be (Ne.symm (show tw ≠ be from hD 3 15 (by decide) (by decide))))).trans (hfr_Mw2 be (Ne.symm (show on ≠ be from hD 2 15 (by decide) (by decide))))).trans (hfr_Mw1 be (Ne.symm (show kd ≠ be from hD 1 15 (by decide) (by decide))))).trans hK.2.2.2.2.2.2⟩, ?_, fun x9 z0 z1 z2 z3 z4 z5 z6 z7 => ((((((((hfr_Mw10 x9 z0)).trans (hfr_Mw8 x9 z7)).trans (hfr_Mw7 x9 z6)).trans (hfr_Mw5 x9 z5)).trans (hfr_Mw4 x9 z4)).trans (hfr_Mw3 x9 z3)).trans (hfr_Mw2 x9 z2)).trans (hfr_Mw1 x9 z1)⟩ d_Md_add_227
              have hfin : md_T cI cZ kd on tw nu le fx fy si de Mw10 (ad_st st n k (nI a) (nI b) X Y (st 7 a + st 7 b) (st 8 a)) := ⟨t_kd, t_on, t_tw, (((((((((hfr_Mw10 nu (Ne.symm (show md ≠ nu from hD 0 4 (by decide) (by decide))))).trans (hfr_Mw8 nu (show nu ≠ de from hD 4 9 (by decide) (by decide)))).trans (hfr_Mw7 nu (show nu ≠ si from hD 4 8 (by decide) (by decide)))).trans (hfr_Mw5 nu (show nu ≠ fy from hD 4 7 (by decide) (by decide)))).trans (hfr_Mw4 nu (show nu ≠ fx from hD 4 6 (by decide) (by decide)))).trans (hfr_Mw3 nu (Ne.symm (show tw ≠ nu from hD 3 4 (by decide) (by decide))))).trans (hfr_Mw2 nu (Ne.symm (show on ≠ nu from hD 2 4 (by decide) (by decide))))).trans (hfr_Mw1 nu (Ne.symm (show kd ≠ nu from hD 1 4 (by decide) (by decide))))).trans hT.2.2.2.1, (((((((((hfr_Mw10 le (Ne.symm (show md ≠ le from hD 0 5 (by decide) (by decide))))).trans (hfr_Mw8 le (show le ≠ de from hD 5 9 (by decide) (by decide)))).trans (hfr_Mw7 le (show le ≠ si from hD 5 8 (by decide) (by decide)))).trans (hfr_Mw5 le (show le ≠ fy from hD 5 7 (by decide) (by decide)))).trans (hfr_Mw4 le (show le ≠ fx from hD 5 6 (by decide) (by decide)))).trans (hfr_Mw3 le (Ne.symm (show tw ≠ le from hD 3 5 (by decide) (by decide))))).trans (hfr_Mw2 le (Ne.symm (show on ≠ le from hD 2 5 (by decide) (by decide))))).trans (hfr_Mw1 le (Ne.symm (show kd ≠ le from hD 1 5 (by decide) (by decide))))).trans hT.2.2.2.2.1, t_fx, t_fy, t_si, t_de⟩
              rw [hX, hY] at hfin; rw [← hmx]; exact hfin
            · skip
              refine lv_aload_n hx hb d_Md_add_195 rfl (lv_at hl 2 rfl) ?_
              refine hw_get (own := "QuantifierOutModel") (v := .ref de) hx hb hts i_Md hown hW w_md rfl 10 (by decide) (hts _ tw_613) (fun _ h9 => h9) rfl d_Md_add_196 ?_
              refine lv_iload_n hx hb d_Md_add_199 rfl (lv_at hl 5 rfl) ?_
              refine hw_ild hx hb hW 0 t_de rfl b rfl (by omega) (by decide) d_Md_add_200 ?_
              refine lv_goto (tgt := 210) hx hb d_Md_add_201 (by decide) ?_
              have hmx : (st 8 b) = mxI (st 8 a) (st 8 b) := by unfold mxI; rw [if_neg c_192]
              refine hw_ist hx hb hW hS 0 t_de rfl n rfl (by omega) (by decide) d_Md_add_210 (fun H locs hW hS => ?_)
              have hW : hw_W D qcl (qty cI cJ cZ cN) _ (va_up Mw7 de (some (.inl (cI, 60, .inl (upd (st 8) n ((st 8) b)))))) s H := hW
              generalize hMw12 : va_up Mw7 de (some (.inl (cI, 60, .inl (upd (st 8) n ((st 8) b))))) = Mw12 at hW
              have w_md : Mw12 md = some (.inr (8, [.int cd, .int (nI n), .ref kd, .ref on, .ref tw, .ref nu, .ref le, .ref fx, .ref fy, .ref si, .ref de, .ref ne, .ref it, .ref po, .ref ma, .ref ab, .ref be, .long up, .long dn, .ref li, .int pz, .ref fr, .ref to])) := by rw [← hMw12, va_up_ne _ _ (show md ≠ de from hD 0 9 (by decide) (by decide))]; exact w_md
              have t_kd : Mw12 kd = some (.inl (cI, 60, .inl (upd (st 0) n k))) := by rw [← hMw12, va_up_ne _ _ (show kd ≠ de from hD 1 9 (by decide) (by decide))]; exact t_kd
              have t_on : Mw12 on = some (.inl (cI, 60, .inl (upd (st 1) n (nI a)))) := by rw [← hMw12, va_up_ne _ _ (show on ≠ de from hD 2 9 (by decide) (by decide))]; exact t_on
              have t_tw : Mw12 tw = some (.inl (cI, 60, .inl (upd (st 2) n (nI b)))) := by rw [← hMw12, va_up_ne _ _ (show tw ≠ de from hD 3 9 (by decide) (by decide))]; exact t_tw
              have t_fx : Mw12 fx = some (.inl (cZ, 60, .inl (upd (st 5) n X))) := by rw [← hMw12, va_up_ne _ _ (show fx ≠ de from hD 6 9 (by decide) (by decide))]; exact t_fx
              have t_fy : Mw12 fy = some (.inl (cZ, 60, .inl (upd (st 6) n Y))) := by rw [← hMw12, va_up_ne _ _ (show fy ≠ de from hD 7 9 (by decide) (by decide))]; exact t_fy
              have t_si : Mw12 si = some (.inl (cI, 60, .inl (upd (st 7) n (st 7 a + st 7 b)))) := by rw [← hMw12, va_up_ne _ _ (show si ≠ de from hD 8 9 (by decide) (by decide))]; exact t_si
              have t_de : Mw12 de = some (.inl (cI, 60, .inl (upd (st 8) n ((st 8) b)))) := by rw [← hMw12]; exact va_up_self _ _ _
              have hfr_Mw12 : ∀ x9, x9 ≠ de → Mw12 x9 = Mw7 x9 := fun x9 z9 => by rw [← hMw12, va_up_ne _ _ z9]
              refine lv_aload_n hx hb d_Md_add_211 rfl (lv_at hl 2 rfl) ?_
              refine lv_dup hx hb d_Md_add_212 rfl ?_
              refine hw_get (own := "QuantifierOutModel") (v := .int (nI n)) hx hb hts i_Md hown hW w_md rfl 1 (by decide) (hts _ tw_604) (fun _ h9 => h9) rfl d_Md_add_213 ?_
              refine lv_iconst (v := 1) hx hb d_Md_add_216 (by decide) ?_
              refine lv_iadd hx hb d_Md_add_217 ?_
              refine lv_topi (fun x13 ex13 => ?_)
              have enx13 : x13 = nI (n + 1) := by rw [ex13]; exact nI_1 n
              rw [enx13]
              refine hw_put (own := "QuantifierOutModel") (v := .int (nI (n + 1))) (ty := .int) hx hb hts i_Md ft_Md tk_Md n_Md hown hW hS w_md rfl 1 (by decide) (hts _ tw_604) (fun _ h9 => h9) rfl (tk_Md 1 (by decide)) rfl rfl (Nat.le_of_ble_eq_true rfl) d_Md_add_218 (fun H locs hW hS => ?_)
              have hW : hw_W D qcl (qty cI cJ cZ cN) _ (va_up Mw12 md (some (.inr (8, [.int cd, .int (nI (n + 1)), .ref kd, .ref on, .ref tw, .ref nu, .ref le, .ref fx, .ref fy, .ref si, .ref de, .ref ne, .ref it, .ref po, .ref ma, .ref ab, .ref be, .long up, .long dn, .ref li, .int pz, .ref fr, .ref to])))) s H := hW
              generalize hMw14 : va_up Mw12 md (some (.inr (8, [.int cd, .int (nI (n + 1)), .ref kd, .ref on, .ref tw, .ref nu, .ref le, .ref fx, .ref fy, .ref si, .ref de, .ref ne, .ref it, .ref po, .ref ma, .ref ab, .ref be, .long up, .long dn, .ref li, .int pz, .ref fr, .ref to]))) = Mw14 at hW
              have t_kd : Mw14 kd = some (.inl (cI, 60, .inl (upd (st 0) n k))) := by rw [← hMw14, va_up_ne _ _ (Ne.symm (show md ≠ kd from hD 0 1 (by decide) (by decide)))]; exact t_kd
              have t_on : Mw14 on = some (.inl (cI, 60, .inl (upd (st 1) n (nI a)))) := by rw [← hMw14, va_up_ne _ _ (Ne.symm (show md ≠ on from hD 0 2 (by decide) (by decide)))]; exact t_on
              have t_tw : Mw14 tw = some (.inl (cI, 60, .inl (upd (st 2) n (nI b)))) := by rw [← hMw14, va_up_ne _ _ (Ne.symm (show md ≠ tw from hD 0 3 (by decide) (by decide)))]; exact t_tw
              have t_fx : Mw14 fx = some (.inl (cZ, 60, .inl (upd (st 5) n X))) := by rw [← hMw14, va_up_ne _ _ (Ne.symm (show md ≠ fx from hD 0 6 (by decide) (by decide)))]; exact t_fx
              have t_fy : Mw14 fy = some (.inl (cZ, 60, .inl (upd (st 6) n Y))) := by rw [← hMw14, va_up_ne _ _ (Ne.symm (show md ≠ fy from hD 0 7 (by decide) (by decide)))]; exact t_fy
              have t_si : Mw14 si = some (.inl (cI, 60, .inl (upd (st 7) n (st 7 a + st 7 b)))) := by rw [← hMw14, va_up_ne _ _ (Ne.symm (show md ≠ si from hD 0 8 (by decide) (by decide)))]; exact t_si
              have t_de : Mw14 de = some (.inl (cI, 60, .inl (upd (st 8) n ((st 8) b)))) := by rw [← hMw14, va_up_ne _ _ (Ne.symm (show md ≠ de from hD 0 9 (by decide) (by decide)))]; exact t_de
              have w_md : Mw14 md = some (.inr (8, [.int cd, .int (nI (n + 1)), .ref kd, .ref on, .ref tw, .ref nu, .ref le, .ref fx, .ref fy, .ref si, .ref de, .ref ne, .ref it, .ref po, .ref ma, .ref ab, .ref be, .long up, .long dn, .ref li, .int pz, .ref fr, .ref to])) := by rw [← hMw14]; exact va_up_self _ _ _
              have hfr_Mw14 : ∀ x9, x9 ≠ md → Mw14 x9 = Mw12 x9 := fun x9 z9 => by rw [← hMw14, va_up_ne _ _ z9]
              refine lv_aload_n hx hb d_Md_add_221 rfl (lv_at hl 2 rfl) ?_
              refine hw_get (own := "QuantifierOutModel") (v := .int (nI (n + 1))) hx hb hts i_Md hown hW w_md rfl 1 (by decide) (hts _ tw_604) (fun _ h9 => h9) rfl d_Md_add_222 ?_
              refine lv_iconst (v := 1) hx hb d_Md_add_225 (by decide) ?_
              refine lv_isub hx hb d_Md_add_226 ?_
              refine lv_topi (fun x15 ex15 => ?_)
              rw [hQ9]
              refine hw_reti hx hb hr hlocks hW hS ⟨by rw [ex15]; exact nI_prd n, ⟨w_md, (((((((((hfr_Mw14 ne (Ne.symm (show md ≠ ne from hD 0 10 (by decide) (by decide))))).trans (hfr_Mw12 ne (Ne.symm (show de ≠ ne from hD 9 10 (by decide) (by decide))))).trans (hfr_Mw7 ne (Ne.symm (show si ≠ ne from hD 8 10 (by decide) (by decide))))).trans (hfr_Mw5 ne (Ne.symm (show fy ≠ ne from hD 7 10 (by decide) (by decide))))).trans (hfr_Mw4 ne (Ne.symm (show fx ≠ ne from hD 6 10 (by decide) (by decide))))).trans (hfr_Mw3 ne (Ne.symm (show tw ≠ ne from hD 3 10 (by decide) (by decide))))).trans (hfr_Mw2 ne (Ne.symm (show on ≠ ne from hD 2 10 (by decide) (by decide))))).trans (hfr_Mw1 ne (Ne.symm (show kd ≠ ne from hD 1 10 (by decide) (by decide))))).trans hK.2.1, (((((((((hfr_Mw14 it (Ne.symm (show md ≠ it from hD 0 11 (by decide) (by decide))))).trans (hfr_Mw12 it (Ne.symm (show de ≠ it from hD 9 11 (by decide) (by decide))))).trans (hfr_Mw7 it (Ne.symm (show si ≠ it from hD 8 11 (by decide) (by decide))))).trans (hfr_Mw5 it (Ne.symm (show fy ≠ it from hD 7 11 (by decide) (by decide))))).trans (hfr_Mw4 it (Ne.symm (show fx ≠ it from hD 6 11 (by decide) (by decide))))).trans (hfr_Mw3 it (Ne.symm (show tw ≠ it from hD 3 11 (by decide) (by decide))))).trans (hfr_Mw2 it (Ne.symm (show on ≠ it from hD 2 11 (by decide) (by decide))))).trans (hfr_Mw1 it (Ne.symm (show kd ≠ it from hD 1 11 (by decide) (by decide))))).trans hK.2.2.1, (((((((((hfr_Mw14 po (Ne.symm (show md ≠ po from hD 0 12 (by decide) (by decide))))).trans (hfr_Mw12 po (Ne.symm (show de ≠ po from hD 9 12 (by decide) (by decide))))).trans (hfr_Mw7 po (Ne.symm (show si ≠ po from hD 8 12 (by decide) (by decide))))).trans (hfr_Mw5 po (Ne.symm (show fy ≠ po from hD 7 12 (by decide) (by decide))))).trans (hfr_Mw4 po (Ne.symm (show fx ≠ po from hD 6 12 (by decide) (by decide))))).trans (hfr_Mw3 po (Ne.symm (show tw ≠ po from hD 3 12 (by decide) (by decide))))).trans (hfr_Mw2 po (Ne.symm (show on ≠ po from hD 2 12 (by decide) (by decide))))).trans (hfr_Mw1 po (Ne.symm (show kd ≠ po from hD 1 12 (by decide) (by decide))))).trans hK.2.2.2.1, (((((((((hfr_Mw14 ma (Ne.symm (show md ≠ ma from hD 0 13 (by decide) (by decide))))).trans (hfr_Mw12 ma (Ne.symm (show de ≠ ma from hD 9 13 (by decide) (by decide))))).trans (hfr_Mw7 ma (Ne.symm (show si ≠ ma from hD 8 13 (by decide) (by decide))))).trans (hfr_Mw5 ma (Ne.symm (show fy ≠ ma from hD 7 13 (by decide) (by decide))))).trans (hfr_Mw4 ma (Ne.symm (show fx ≠ ma from hD 6 13 (by decide) (by decide))))).trans (hfr_Mw3 ma (Ne.symm (show tw ≠ ma from hD 3 13 (by decide) (by decide))))).trans (hfr_Mw2 ma (Ne.symm (show on ≠ ma from hD 2 13 (by decide) (by decide))))).trans (hfr_Mw1 ma (Ne.symm (show kd ≠ ma from hD 1 13 (by decide) (by decide))))).trans hK.2.2.2.2.1, (((((((((hfr_Mw14 ab (Ne.symm (show md ≠ ab from hD 0 14 (by decide) (by decide))))).trans (hfr_Mw12 ab (Ne.symm (show de ≠ ab from hD 9 14 (by decide) (by decide))))).trans (hfr_Mw7 ab (Ne.symm (show si ≠ ab from hD 8 14 (by decide) (by decide))))).trans (hfr_Mw5 ab (Ne.symm (show fy ≠ ab from hD 7 14 (by decide) (by decide))))).trans (hfr_Mw4 ab (Ne.symm (show fx ≠ ab from hD 6 14 (by decide) (by decide))))).trans (hfr_Mw3 ab (Ne.symm (show tw ≠ ab from hD 3 14 (by decide) (by decide))))).trans (hfr_Mw2 ab (Ne.symm (show on ≠ ab from hD 2 14 (by decide) (by decide))))).trans (hfr_Mw1 ab (Ne.symm (show kd ≠ ab from hD 1 14 (by decide) (by decide))))).trans hK.2.2.2.2.2.1, (((((((((hfr_Mw14 be (Ne.symm (show md ≠ be from hD 0 15 (by decide) (by decide))))).trans (hfr_Mw12 be (Ne.symm (show de ≠ be from hD 9 15 (by decide) (by decide))))).trans (hfr_Mw7 be (Ne.symm (show si ≠ be from hD 8 15 (by decide) (by decide))))).trans (hfr_Mw5 be (Ne.symm (show fy ≠ be from hD 7 15 (by decide) (by decide))))).trans (hfr_Mw4 be (Ne.symm (show fx ≠ be from hD 6 15 (by decide) (by decide))))).trans (hfr_Mw3 be (Ne.symm (show tw ≠ be from hD 3 15 (by decide) (by decide))))).trans (hfr_Mw2 be (Ne.symm (show on ≠ be from hD 2 15 (by decide) (by decide))))).trans (hfr_Mw1 be (Ne.symm (show kd ≠ be from hD 1 15 (by decide) (by decide))))).trans hK.2.2.2.2.2.2⟩, ?_, fun x9 z0 z1 z2 z3 z4 z5 z6 z7 => ((((((((hfr_Mw14 x9 z0)).trans (hfr_Mw12 x9 z7)).trans (hfr_Mw7 x9 z6)).trans (hfr_Mw5 x9 z5)).trans (hfr_Mw4 x9 z4)).trans (hfr_Mw3 x9 z3)).trans (hfr_Mw2 x9 z2)).trans (hfr_Mw1 x9 z1)⟩ d_Md_add_227
              have hfin : md_T cI cZ kd on tw nu le fx fy si de Mw14 (ad_st st n k (nI a) (nI b) X Y (st 7 a + st 7 b) (st 8 b)) := ⟨t_kd, t_on, t_tw, (((((((((hfr_Mw14 nu (Ne.symm (show md ≠ nu from hD 0 4 (by decide) (by decide))))).trans (hfr_Mw12 nu (show nu ≠ de from hD 4 9 (by decide) (by decide)))).trans (hfr_Mw7 nu (show nu ≠ si from hD 4 8 (by decide) (by decide)))).trans (hfr_Mw5 nu (show nu ≠ fy from hD 4 7 (by decide) (by decide)))).trans (hfr_Mw4 nu (show nu ≠ fx from hD 4 6 (by decide) (by decide)))).trans (hfr_Mw3 nu (Ne.symm (show tw ≠ nu from hD 3 4 (by decide) (by decide))))).trans (hfr_Mw2 nu (Ne.symm (show on ≠ nu from hD 2 4 (by decide) (by decide))))).trans (hfr_Mw1 nu (Ne.symm (show kd ≠ nu from hD 1 4 (by decide) (by decide))))).trans hT.2.2.2.1, (((((((((hfr_Mw14 le (Ne.symm (show md ≠ le from hD 0 5 (by decide) (by decide))))).trans (hfr_Mw12 le (show le ≠ de from hD 5 9 (by decide) (by decide)))).trans (hfr_Mw7 le (show le ≠ si from hD 5 8 (by decide) (by decide)))).trans (hfr_Mw5 le (show le ≠ fy from hD 5 7 (by decide) (by decide)))).trans (hfr_Mw4 le (show le ≠ fx from hD 5 6 (by decide) (by decide)))).trans (hfr_Mw3 le (Ne.symm (show tw ≠ le from hD 3 5 (by decide) (by decide))))).trans (hfr_Mw2 le (Ne.symm (show on ≠ le from hD 2 5 (by decide) (by decide))))).trans (hfr_Mw1 le (Ne.symm (show kd ≠ le from hD 1 5 (by decide) (by decide))))).trans hT.2.2.2.2.1, t_fx, t_fy, t_si, t_de⟩
              rw [hX, hY] at hfin; rw [← hmx]; exact hfin
        · skip
          exact absurd c_168 hk
      · skip
        exact absurd c_144 (nI_nm1 (by omega))
    · skip
      exact absurd c_129 hk
  have T64 : ∀ (X : Int32), X = (orI (st 5 a) (st 5 b)) → ∀ (ls : Array Slot), lv_has ls 6 [(4, .int X), (0, .ref md), (1, .int k), (2, .int (nI a)), (3, .int (nI b))] → W p l e ({ frames := 0, cells := 0, slots := 0, locals := 0 }) s m [.ref md, .int k, .int (nI a), .int (nI b)].toArray below meth c H locs 0 0 Q9 (F0 m 64 ls []) := by
    intro X hX ls hl
    refine lv_iload_n hx hb d_Md_add_64 rfl (lv_at hl 2 rfl) ?_
    refine lv_if_eq (tgt := 91) hx hb d_Md_add_65 (by decide) (fun c_65 => ?_) (fun c_65 => ?_)
    · skip
      exact absurd c_65 hk
    · skip
      refine lv_aload_n hx hb d_Md_add_68 rfl (lv_at hl 1 rfl) ?_
      refine hw_get (own := "QuantifierOutModel") (v := .ref fy) hx hb hts i_Md hown hW w_md rfl 8 (by decide) (hts _ tw_611) (fun _ h9 => h9) rfl d_Md_add_69 ?_
      refine lv_iload_n hx hb d_Md_add_72 rfl (lv_at hl 3 rfl) ?_
      refine hw_zld hx hb hW 2 t_fy rfl a rfl (by omega) (by decide) d_Md_add_73 ?_
      refine lv_if_ne (tgt := 91) hx hb d_Md_add_74 (by decide) (fun c_74 => ?_) (fun c_74 => ?_)
      · skip
        refine lv_iconst (v := 1) hx hb d_Md_add_91 (by decide) ?_
        refine lv_goto (tgt := 96) hx hb d_Md_add_92 (by decide) ?_
        refine lv_istore (lv' := [(5, .int 1), (4, .int X), (0, .ref md), (1, .int k), (2, .int (nI a)), (3, .int (nI b))]) hx hb d_Md_add_96 hl (by decide) rfl (fun ls hl => ?_)
        exact T98 X 1 hX (by unfold orI; rw [if_neg c_74]) ls (lv_sub hl [0, 1, 2, 3, 4, 5] rfl)
      · skip
        refine lv_iload_n hx hb d_Md_add_77 rfl (lv_at hl 4 rfl) ?_
        refine lv_iconst (v := (-1)) hx hb d_Md_add_78 (by decide) ?_
        refine lv_icmp_eq (tgt := 95) hx hb d_Md_add_79 (by decide) (fun c_79 => ?_) (fun c_79 => ?_)
        · skip
          exact absurd c_79 (nI_nm1 (by omega))
        · skip
          refine lv_aload_n hx hb d_Md_add_82 rfl (lv_at hl 1 rfl) ?_
          refine hw_get (own := "QuantifierOutModel") (v := .ref fy) hx hb hts i_Md hown hW w_md rfl 8 (by decide) (hts _ tw_611) (fun _ h9 => h9) rfl d_Md_add_83 ?_
          refine lv_iload_n hx hb d_Md_add_86 rfl (lv_at hl 4 rfl) ?_
          refine hw_zld hx hb hW 2 t_fy rfl b rfl (by omega) (by decide) d_Md_add_87 ?_
          refine lv_if_eq (tgt := 95) hx hb d_Md_add_88 (by decide) (fun c_88 => ?_) (fun c_88 => ?_)
          · skip
            refine lv_iconst (v := 0) hx hb d_Md_add_95 (by decide) ?_
            refine lv_istore (lv' := [(5, .int 0), (4, .int X), (0, .ref md), (1, .int k), (2, .int (nI a)), (3, .int (nI b))]) hx hb d_Md_add_96 hl (by decide) rfl (fun ls hl => ?_)
            exact T98 X 0 hX (by unfold orI; rw [if_pos c_74, c_88]) ls (lv_sub hl [0, 1, 2, 3, 4, 5] rfl)
          · skip
            refine lv_iconst (v := 1) hx hb d_Md_add_91 (by decide) ?_
            refine lv_goto (tgt := 96) hx hb d_Md_add_92 (by decide) ?_
            refine lv_istore (lv' := [(5, .int 1), (4, .int X), (0, .ref md), (1, .int k), (2, .int (nI a)), (3, .int (nI b))]) hx hb d_Md_add_96 hl (by decide) rfl (fun ls hl => ?_)
            exact T98 X 1 hX (by unfold orI; rw [if_pos c_74, g6.resolve_left c_88]) ls (lv_sub hl [0, 1, 2, 3, 4, 5] rfl)
  refine lv_iload_n hx hb d_Md_add_30 rfl (lv_at hl 1 rfl) ?_
  refine lv_if_eq (tgt := 57) hx hb d_Md_add_31 (by decide) (fun c_31 => ?_) (fun c_31 => ?_)
  · skip
    exact absurd c_31 hk
  · skip
    refine lv_aload_n hx hb d_Md_add_34 rfl (lv_at hl 0 rfl) ?_
    refine hw_get (own := "QuantifierOutModel") (v := .ref fx) hx hb hts i_Md hown hW w_md rfl 7 (by decide) (hts _ tw_610) (fun _ h9 => h9) rfl d_Md_add_35 ?_
    refine lv_iload_n hx hb d_Md_add_38 rfl (lv_at hl 2 rfl) ?_
    refine hw_zld hx hb hW 2 t_fx rfl a rfl (by omega) (by decide) d_Md_add_39 ?_
    refine lv_if_ne (tgt := 57) hx hb d_Md_add_40 (by decide) (fun c_40 => ?_) (fun c_40 => ?_)
    · skip
      refine lv_iconst (v := 1) hx hb d_Md_add_57 (by decide) ?_
      refine lv_goto (tgt := 62) hx hb d_Md_add_58 (by decide) ?_
      refine lv_istore (lv' := [(4, .int 1), (0, .ref md), (1, .int k), (2, .int (nI a)), (3, .int (nI b))]) hx hb d_Md_add_62 hl (by decide) rfl (fun ls hl => ?_)
      exact T64 1 (by unfold orI; rw [if_neg c_40]) ls (lv_sub hl [0, 1, 2, 3, 4] rfl)
    · skip
      refine lv_iload_n hx hb d_Md_add_43 rfl (lv_at hl 3 rfl) ?_
      refine lv_iconst (v := (-1)) hx hb d_Md_add_44 (by decide) ?_
      refine lv_icmp_eq (tgt := 61) hx hb d_Md_add_45 (by decide) (fun c_45 => ?_) (fun c_45 => ?_)
      · skip
        exact absurd c_45 (nI_nm1 (by omega))
      · skip
        refine lv_aload_n hx hb d_Md_add_48 rfl (lv_at hl 0 rfl) ?_
        refine hw_get (own := "QuantifierOutModel") (v := .ref fx) hx hb hts i_Md hown hW w_md rfl 7 (by decide) (hts _ tw_610) (fun _ h9 => h9) rfl d_Md_add_49 ?_
        refine lv_iload_n hx hb d_Md_add_52 rfl (lv_at hl 3 rfl) ?_
        refine hw_zld hx hb hW 2 t_fx rfl b rfl (by omega) (by decide) d_Md_add_53 ?_
        refine lv_if_eq (tgt := 61) hx hb d_Md_add_54 (by decide) (fun c_54 => ?_) (fun c_54 => ?_)
        · skip
          refine lv_iconst (v := 0) hx hb d_Md_add_61 (by decide) ?_
          refine lv_istore (lv' := [(4, .int 0), (0, .ref md), (1, .int k), (2, .int (nI a)), (3, .int (nI b))]) hx hb d_Md_add_62 hl (by decide) rfl (fun ls hl => ?_)
          exact T64 0 (by unfold orI; rw [if_pos c_40, c_54]) ls (lv_sub hl [0, 1, 2, 3, 4] rfl)
        · skip
          refine lv_iconst (v := 1) hx hb d_Md_add_57 (by decide) ?_
          refine lv_goto (tgt := 62) hx hb d_Md_add_58 (by decide) ?_
          refine lv_istore (lv' := [(4, .int 1), (0, .ref md), (1, .int k), (2, .int (nI a)), (3, .int (nI b))]) hx hb d_Md_add_62 hl (by decide) rfl (fun ls hl => ?_)
          exact T64 1 (by unfold orI; rw [if_pos c_40, g5.resolve_left c_54]) ls (lv_sub hl [0, 1, 2, 3, 4] rfl)
end G50

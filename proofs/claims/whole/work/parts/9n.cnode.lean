/-! the class: a node read -/
section CND
variable {l : Launch} {d : Nat} {h : Mem} {s : Nat → Int} {n i nb : Nat} {X : NX}
theorem kd_wh (C : CuC h s n i) {w0 m : Nat} (hw : w0 + m ≤ 23) : ((128 + (w0 : Int) ≤ h 1 5 ∧ h 1 5 < 128 + (w0 : Int) + m) ↔ 0 ≤ whF s n i w0 m) ∧ (0 ≤ whF s n i w0 m → h 1 5 = 128 + (w0 : Int) + whF s n i w0 m) := by
  have b := whF_b (s := s) (n := n) (i := i) (w0 := w0) (k := m)
  have k2 : 0 ≤ whF s n i w0 m → h 1 5 = 128 + (w0 : Int) + whF s n i w0 m := fun x => by
    have := (kd_w C (w := w0 + (whF s n i w0 m).toNat) (by omega)).mpr (whF_is x)
    omega
  refine ⟨⟨fun x => ?_, fun x => by have := k2 x; omega⟩, k2⟩
  by_cases e : 0 ≤ whF s n i w0 m
  · exact e
  · have := whF_n.mp (show whF s n i w0 m < 0 by omega) (h 1 5 - 128 - w0).toNat (by omega)
    exact absurd ((kd_w C (w := w0 + (h 1 5 - 128 - w0).toNat) (by omega)).mp (by omega)) this
theorem c_readDiscipline (T : TxC h s n) (C : CuC h s n i) (hn : nb = 4 ∨ nb = 34) (h64 : h 64 2 = (nb : Int) + 1) {k : Nat} (hk : k < 4) : Cl l (d + 4) M_X4_readDiscipline [(2, 65), (0, (k : Int))] SHP h (fun r sh' h' => sh' = SHP ∧ ((onU s n i 12 4 = 0 ∧ r = 1 ∧ Fs1 (up h (nb + 5) k (whF s n i 12 4)) h' ∧ CuC h' s n (i + 1)) ∨ (onU s n i 12 4 ≠ 0 ∧ r = 0 ∧ h' = up h 1 8 (onU s n i 12 4)))) := by
  refine Cl_hide (fun Q hQ => ?_)
  have t0 := ly_64_0 T.1
  have o := (net_sh hn).1
  have ixn : ((nb : Int) + 1).toNat - 1 = nb := by omega
  obtain ⟨k1, k2⟩ := kd_wh C (w0 := 12) (m := 4) (by decide)
  have b := flt_b (s := s) (n := n) (i := i) (w := 1) (by decide)
  unfold onU at hQ
  obtain ⟨wf, hwf⟩ : ∃ wf, wf = whF s n i 12 4 := ⟨_, rfl⟩
  rw [← hwf] at k1 k2 hQ
  have no : ¬ 0 ≤ wf → V l (d + 4) 0 0 M_X4_readDiscipline 0 0 26 Q [(2, 65), (0, (k : Int))] [] SHP h := by
    intro x
    rw [iF_f x] at hQ
    refine S_X4_readDiscipline_26 _ _ _ _ ?_; simp (disch := omega) only [B_X4_readDiscipline_26, bi_0, x_ic, x_lc, x_ld, x_st, x_sl, x_inc, x_b32, x_b64, x_d32, x_d64, x_s64, x_un, x_lcmp, x_dup, x_pop, x_dup2, x_if, x_cmp, x_sw, swk, x_ald, x_ast, x_alen, x_getf, x_putf, x_inv, x_mm, x_copy, x_iret, x_lret, x_vret, ok1, pu, ct, rcv, rcs, ent0, List.getElem?_cons_zero, List.getElem?_cons_succ, List.getElem?_nil, List.set_cons_zero, List.set_cons_succ, List.take_succ_cons, List.take_zero, List.drop_succ_cons, List.drop_zero, List.reverse_cons, List.reverse_nil, List.nil_append, List.cons_append, List.length_cons, List.length_nil, true_and, and_true, and_self, ne_eq, not_true_eq_false, not_false_eq_true, reduceIte, true_or, or_true, false_or, or_false, Nat.reduceAdd, Nat.reduceSub, Nat.reduceMul, Nat.reduceLeDiff, Nat.reduceEqDiff, Nat.reduceLT, Nat.le_refl, Nat.zero_le, Int.reduceToNat, Int.reduceAdd, Int.reduceSub, Int.reduceMul, Int.reduceNeg, Int.reduceLT, Int.reduceLE, Int.reduceEq, Nat.zero_add, Nat.add_zero, Nat.reduceBEq, Nat.one_ne_zero, Nat.zero_ne_one, Nat.lt_irrefl, Nat.succ_ne_zero, w32_id, ixc, ixc2, Int.toNat_natCast, ob_64, t0, ob_1]
    refine Cl.app (c_wrong (l := l) (d := d + 2) T C (w := 1) (by decide)) ?_
    (try simp (disch := omega) only [bi_0, x_ic, x_lc, x_ld, x_st, x_sl, x_inc, x_b32, x_b64, x_d32, x_d64, x_s64, x_un, x_lcmp, x_dup, x_pop, x_dup2, x_if, x_cmp, x_sw, swk, x_ald, x_ast, x_alen, x_getf, x_putf, x_inv, x_mm, x_copy, x_iret, x_lret, x_vret, ok1, pu, ct, rcv, rcs, ent0, List.getElem?_cons_zero, List.getElem?_cons_succ, List.getElem?_nil, List.set_cons_zero, List.set_cons_succ, List.take_succ_cons, List.take_zero, List.drop_succ_cons, List.drop_zero, List.reverse_cons, List.reverse_nil, List.nil_append, List.cons_append, List.length_cons, List.length_nil, true_and, and_true, and_self, ne_eq, not_true_eq_false, not_false_eq_true, reduceIte, true_or, or_true, false_or, or_false, Nat.reduceAdd, Nat.reduceSub, Nat.reduceMul, Nat.reduceLeDiff, Nat.reduceEqDiff, Nat.reduceLT, Nat.le_refl, Nat.zero_le, Int.reduceToNat, Int.reduceAdd, Int.reduceSub, Int.reduceMul, Int.reduceNeg, Int.reduceLT, Int.reduceLE, Int.reduceEq, Nat.zero_add, Nat.add_zero, Nat.reduceBEq, Nat.one_ne_zero, Nat.zero_ne_one, Nat.lt_irrefl, Nat.succ_ne_zero, w32_id, ixc, ixc2, Int.toNat_natCast])
    exact hQ _ _ _ ⟨rfl, Or.inr ⟨by omega, rfl, rfl⟩⟩
  show V l (d + 4) 0 0 M_X4_readDiscipline 0 0 0 Q [(2, 65), (0, (k : Int))] [] SHP h
  refine S_X4_readDiscipline_0 _ _ _ _ ?_; simp (disch := omega) only [B_X4_readDiscipline_0, bi_0, x_ic, x_lc, x_ld, x_st, x_sl, x_inc, x_b32, x_b64, x_d32, x_d64, x_s64, x_un, x_lcmp, x_dup, x_pop, x_dup2, x_if, x_cmp, x_sw, swk, x_ald, x_ast, x_alen, x_getf, x_putf, x_inv, x_mm, x_copy, x_iret, x_lret, x_vret, ok1, pu, ct, rcv, rcs, ent0, List.getElem?_cons_zero, List.getElem?_cons_succ, List.getElem?_nil, List.set_cons_zero, List.set_cons_succ, List.take_succ_cons, List.take_zero, List.drop_succ_cons, List.drop_zero, List.reverse_cons, List.reverse_nil, List.nil_append, List.cons_append, List.length_cons, List.length_nil, true_and, and_true, and_self, ne_eq, not_true_eq_false, not_false_eq_true, reduceIte, true_or, or_true, false_or, or_false, Nat.reduceAdd, Nat.reduceSub, Nat.reduceMul, Nat.reduceLeDiff, Nat.reduceEqDiff, Nat.reduceLT, Nat.le_refl, Nat.zero_le, Int.reduceToNat, Int.reduceAdd, Int.reduceSub, Int.reduceMul, Int.reduceNeg, Int.reduceLT, Int.reduceLE, Int.reduceEq, Nat.zero_add, Nat.add_zero, Nat.reduceBEq, Nat.one_ne_zero, Nat.zero_ne_one, Nat.lt_irrefl, Nat.succ_ne_zero, w32_id, ixc, ixc2, Int.toNat_natCast, ob_64, t0, ob_1]
  refine ⟨fun x => no (fun y => by have := k1.mpr y; omega), fun x => ⟨fun y => ?_, fun y => no (fun y => by have := k1.mpr y; omega)⟩⟩
  have w0 := k1.mp (by omega)
  have e5 : h 1 5 = 140 + wf := by have := k2 w0; omega
  rw [iF_t w0] at hQ
  have ew : 140 + wf - 140 = wf := by omega
  have C1 : CuC (up h (nb + 5) k wf) s n i := C.fr (up_ne (by omega))
  have T1 : TxC (up h (nb + 5) k wf) s n := (Fnt_up (nb := nb) hn (by unfold ntW; omega)).tx hn T
  have t1 := ly_64_0 T1.1
  refine S_X4_readDiscipline_35 _ _ _ _ ?_; simp (disch := omega) only [B_X4_readDiscipline_35, bi_0, x_ic, x_lc, x_ld, x_st, x_sl, x_inc, x_b32, x_b64, x_d32, x_d64, x_s64, x_un, x_lcmp, x_dup, x_pop, x_dup2, x_if, x_cmp, x_sw, swk, x_ald, x_ast, x_alen, x_getf, x_putf, x_inv, x_mm, x_copy, x_iret, x_lret, x_vret, ok1, pu, ct, rcv, rcs, ent0, List.getElem?_cons_zero, List.getElem?_cons_succ, List.getElem?_nil, List.set_cons_zero, List.set_cons_succ, List.take_succ_cons, List.take_zero, List.drop_succ_cons, List.drop_zero, List.reverse_cons, List.reverse_nil, List.nil_append, List.cons_append, List.length_cons, List.length_nil, true_and, and_true, and_self, ne_eq, not_true_eq_false, not_false_eq_true, reduceIte, true_or, or_true, false_or, or_false, Nat.reduceAdd, Nat.reduceSub, Nat.reduceMul, Nat.reduceLeDiff, Nat.reduceEqDiff, Nat.reduceLT, Nat.le_refl, Nat.zero_le, Int.reduceToNat, Int.reduceAdd, Int.reduceSub, Int.reduceMul, Int.reduceNeg, Int.reduceLT, Int.reduceLE, Int.reduceEq, Nat.zero_add, Nat.add_zero, Nat.reduceBEq, Nat.one_ne_zero, Nat.zero_ne_one, Nat.lt_irrefl, Nat.succ_ne_zero, w32_id, ixc, ixc2, Int.toNat_natCast, ob_64, t0, t1, h64, ob_1, o, ixn, nf4 T.1 hn, nln5 hn, e5, ew]
  refine ⟨by omega, ?_⟩
  refine Cl.imp (c_next (l := l) (d := d) T1 C1) (fun r sh' h' q => ?_)
  obtain ⟨rfl, rfl, F, C2⟩ := q
  (try simp (disch := omega) only [bi_0, x_ic, x_lc, x_ld, x_st, x_sl, x_inc, x_b32, x_b64, x_d32, x_d64, x_s64, x_un, x_lcmp, x_dup, x_pop, x_dup2, x_if, x_cmp, x_sw, swk, x_ald, x_ast, x_alen, x_getf, x_putf, x_inv, x_mm, x_copy, x_iret, x_lret, x_vret, ok1, pu, ct, rcv, rcs, ent0, List.getElem?_cons_zero, List.getElem?_cons_succ, List.getElem?_nil, List.set_cons_zero, List.set_cons_succ, List.take_succ_cons, List.take_zero, List.drop_succ_cons, List.drop_zero, List.reverse_cons, List.reverse_nil, List.nil_append, List.cons_append, List.length_cons, List.length_nil, true_and, and_true, and_self, ne_eq, not_true_eq_false, not_false_eq_true, reduceIte, true_or, or_true, false_or, or_false, Nat.reduceAdd, Nat.reduceSub, Nat.reduceMul, Nat.reduceLeDiff, Nat.reduceEqDiff, Nat.reduceLT, Nat.le_refl, Nat.zero_le, Int.reduceToNat, Int.reduceAdd, Int.reduceSub, Int.reduceMul, Int.reduceNeg, Int.reduceLT, Int.reduceLE, Int.reduceEq, Nat.zero_add, Nat.add_zero, Nat.reduceBEq, Nat.one_ne_zero, Nat.zero_ne_one, Nat.lt_irrefl, Nat.succ_ne_zero, w32_id, ixc, ixc2, Int.toNat_natCast])
  exact hQ _ _ _ ⟨rfl, Or.inl ⟨rfl, rfl, F, C2⟩⟩
theorem c_curveName (T : TxC h s n) (C : CuC h s n i) (hn : nb = 4 ∨ nb = 34) (h64 : h 64 2 = (nb : Int) + 1) {nm : Nat → Int} {c0 : Nat} (x1 : h nb 11 = (c0 : Int)) (c6 : c0 ≤ 6) (X1 : NaL nm (h (nb + 2)) 0 c0) {x k : Nat} (hx : x = nb + 6 ∨ x = nb + 7) (hk : k < 4) : Cl l (d + 4) M_X4_readCurveName [(2, 65), (2, (x : Int) + 1), (0, (k : Int))] SHP h (fun r sh' h' => sh' = SHP ∧ ((tdU s n nm i 0 c0 (fun _ => False) = 0 ∧ r = 1 ∧ Fs1 (up h x k (naF nm (tkVa s n i) 0 c0)) h' ∧ CuC h' s n (i + 1)) ∨ (tdU s n nm i 0 c0 (fun _ => False) ≠ 0 ∧ r = 0 ∧ Fnt nb h h' ∧ h' 1 8 = tdU s n nm i 0 c0 (fun _ => False)))) := by
  refine Cl_hide (fun Q hQ => ?_)
  have t0 := ly_64_0 T.1
  have o := (net_sh hn).1
  have ixn : ((nb : Int) + 1).toNat - 1 = nb := by omega
  have hz : ln SHP 0 ((x : Int) + 1) = 4 := by
    rcases hx with rfl | rfl
    · exact nln6 hn
    · exact nln7 hn
  have b1 := flt_b (s := s) (n := n) (i := i) (w := 1) (by decide)
  have b2 := flt_b (s := s) (n := n) (i := i) (w := 2) (by decide)
  unfold tdU at hQ
  show V l (d + 4) 0 0 M_X4_readCurveName 0 0 0 Q [(2, 65), (2, (x : Int) + 1), (0, (k : Int))] [] SHP h
  refine S_X4_readCurveName_0 _ _ _ _ ?_; simp (disch := omega) only [B_X4_readCurveName_0, bi_0, x_ic, x_lc, x_ld, x_st, x_sl, x_inc, x_b32, x_b64, x_d32, x_d64, x_s64, x_un, x_lcmp, x_dup, x_pop, x_dup2, x_if, x_cmp, x_sw, swk, x_ald, x_ast, x_alen, x_getf, x_putf, x_inv, x_mm, x_copy, x_iret, x_lret, x_vret, ok1, pu, ct, rcv, rcs, ent0, List.getElem?_cons_zero, List.getElem?_cons_succ, List.getElem?_nil, List.set_cons_zero, List.set_cons_succ, List.take_succ_cons, List.take_zero, List.drop_succ_cons, List.drop_zero, List.reverse_cons, List.reverse_nil, List.nil_append, List.cons_append, List.length_cons, List.length_nil, true_and, and_true, and_self, ne_eq, not_true_eq_false, not_false_eq_true, reduceIte, true_or, or_true, false_or, or_false, Nat.reduceAdd, Nat.reduceSub, Nat.reduceMul, Nat.reduceLeDiff, Nat.reduceEqDiff, Nat.reduceLT, Nat.le_refl, Nat.zero_le, Int.reduceToNat, Int.reduceAdd, Int.reduceSub, Int.reduceMul, Int.reduceNeg, Int.reduceLT, Int.reduceLE, Int.reduceEq, Nat.zero_add, Nat.add_zero, Nat.reduceBEq, Nat.one_ne_zero, Nat.zero_ne_one, Nat.lt_irrefl, Nat.succ_ne_zero, w32_id, ixc, ixc2, Int.toNat_natCast, ob_64, t0, ob_1]
  refine Cl.app (c_isName (l := l) (d := d + 1) C) ?_
  (try simp (disch := omega) only [bi_0, x_ic, x_lc, x_ld, x_st, x_sl, x_inc, x_b32, x_b64, x_d32, x_d64, x_s64, x_un, x_lcmp, x_dup, x_pop, x_dup2, x_if, x_cmp, x_sw, swk, x_ald, x_ast, x_alen, x_getf, x_putf, x_inv, x_mm, x_copy, x_iret, x_lret, x_vret, ok1, pu, ct, rcv, rcs, ent0, List.getElem?_cons_zero, List.getElem?_cons_succ, List.getElem?_nil, List.set_cons_zero, List.set_cons_succ, List.take_succ_cons, List.take_zero, List.drop_succ_cons, List.drop_zero, List.reverse_cons, List.reverse_nil, List.nil_append, List.cons_append, List.length_cons, List.length_nil, true_and, and_true, and_self, ne_eq, not_true_eq_false, not_false_eq_true, reduceIte, true_or, or_true, false_or, or_false, Nat.reduceAdd, Nat.reduceSub, Nat.reduceMul, Nat.reduceLeDiff, Nat.reduceEqDiff, Nat.reduceLT, Nat.le_refl, Nat.zero_le, Int.reduceToNat, Int.reduceAdd, Int.reduceSub, Int.reduceMul, Int.reduceNeg, Int.reduceLT, Int.reduceLE, Int.reduceEq, Nat.zero_add, Nat.add_zero, Nat.reduceBEq, Nat.one_ne_zero, Nat.zero_ne_one, Nat.lt_irrefl, Nat.succ_ne_zero, w32_id, ixc, ixc2, Int.toNat_natCast, bI_0, ob_64, t0, ob_1])
  refine ⟨fun y => ?_, fun y => ?_⟩
  · refine Cl.app (c_wrong (l := l) (d := d + 2) T C (w := 1) (by decide)) ?_
    (try simp (disch := omega) only [bi_0, x_ic, x_lc, x_ld, x_st, x_sl, x_inc, x_b32, x_b64, x_d32, x_d64, x_s64, x_un, x_lcmp, x_dup, x_pop, x_dup2, x_if, x_cmp, x_sw, swk, x_ald, x_ast, x_alen, x_getf, x_putf, x_inv, x_mm, x_copy, x_iret, x_lret, x_vret, ok1, pu, ct, rcv, rcs, ent0, List.getElem?_cons_zero, List.getElem?_cons_succ, List.getElem?_nil, List.set_cons_zero, List.set_cons_succ, List.take_succ_cons, List.take_zero, List.drop_succ_cons, List.drop_zero, List.reverse_cons, List.reverse_nil, List.nil_append, List.cons_append, List.length_cons, List.length_nil, true_and, and_true, and_self, ne_eq, not_true_eq_false, not_false_eq_true, reduceIte, true_or, or_true, false_or, or_false, Nat.reduceAdd, Nat.reduceSub, Nat.reduceMul, Nat.reduceLeDiff, Nat.reduceEqDiff, Nat.reduceLT, Nat.le_refl, Nat.zero_le, Int.reduceToNat, Int.reduceAdd, Int.reduceSub, Int.reduceMul, Int.reduceNeg, Int.reduceLT, Int.reduceLE, Int.reduceEq, Nat.zero_add, Nat.add_zero, Nat.reduceBEq, Nat.one_ne_zero, Nat.zero_ne_one, Nat.lt_irrefl, Nat.succ_ne_zero, w32_id, ixc, ixc2, Int.toNat_natCast])
    rw [iF_f y] at hQ
    exact hQ _ _ _ ⟨rfl, Or.inr ⟨by omega, rfl, Fnt_8 hn, up_at⟩⟩
  have y := Classical.not_not.mp y
  rw [iF_t y] at hQ
  have nn := C.2.2.2.2 y.1
  have cf := c_find (l := l) (d := d + 2) (h := h) (x := nb + 2) (a := 0) (m := c0) (z := 6) (nln2 hn) (by omega) (by decide) X1 nn
  obtain ⟨v, hv⟩ : ∃ v, v = naF nm (tkVa s n i) 0 c0 := ⟨_, rfl⟩
  have vb := naF_b (nm := nm) (v := tkVa s n i) (a := 0) (k := c0)
  rw [← hv] at hQ cf vb
  obtain ⟨m1, hm1⟩ : ∃ m1, m1 = up h x k v := ⟨_, rfl⟩
  have N1 : Fnt nb h m1 := by rw [hm1]; exact Fnt_up hn (by unfold ntW; omega)
  have T1 := N1.tx hn T
  have C1 : CuC m1 s n i := C.fr (by rw [hm1]; exact up_ne (by omega))
  have t1 := ly_64_0 T1.1
  have e1 : m1 x k = v := by rw [hm1, up_at]
  refine S_X4_readCurveName_19 _ _ _ _ ?_; simp (disch := omega) only [B_X4_readCurveName_19, bi_0, x_ic, x_lc, x_ld, x_st, x_sl, x_inc, x_b32, x_b64, x_d32, x_d64, x_s64, x_un, x_lcmp, x_dup, x_pop, x_dup2, x_if, x_cmp, x_sw, swk, x_ald, x_ast, x_alen, x_getf, x_putf, x_inv, x_mm, x_copy, x_iret, x_lret, x_vret, ok1, pu, ct, rcv, rcs, ent0, List.getElem?_cons_zero, List.getElem?_cons_succ, List.getElem?_nil, List.set_cons_zero, List.set_cons_succ, List.take_succ_cons, List.take_zero, List.drop_succ_cons, List.drop_zero, List.reverse_cons, List.reverse_nil, List.nil_append, List.cons_append, List.length_cons, List.length_nil, true_and, and_true, and_self, ne_eq, not_true_eq_false, not_false_eq_true, reduceIte, true_or, or_true, false_or, or_false, Nat.reduceAdd, Nat.reduceSub, Nat.reduceMul, Nat.reduceLeDiff, Nat.reduceEqDiff, Nat.reduceLT, Nat.le_refl, Nat.zero_le, Int.reduceToNat, Int.reduceAdd, Int.reduceSub, Int.reduceMul, Int.reduceNeg, Int.reduceLT, Int.reduceLE, Int.reduceEq, Nat.zero_add, Nat.add_zero, Nat.reduceBEq, Nat.one_ne_zero, Nat.zero_ne_one, Nat.lt_irrefl, Nat.succ_ne_zero, w32_id, ixc, ixc2, Int.toNat_natCast, ob_64, t0, h64, ob_1, o, ixn, nf1 T.1 hn, x1]
  refine Cl.app cf ?_
  (try simp (disch := omega) only [bi_0, x_ic, x_lc, x_ld, x_st, x_sl, x_inc, x_b32, x_b64, x_d32, x_d64, x_s64, x_un, x_lcmp, x_dup, x_pop, x_dup2, x_if, x_cmp, x_sw, swk, x_ald, x_ast, x_alen, x_getf, x_putf, x_inv, x_mm, x_copy, x_iret, x_lret, x_vret, ok1, pu, ct, rcv, rcs, ent0, List.getElem?_cons_zero, List.getElem?_cons_succ, List.getElem?_nil, List.set_cons_zero, List.set_cons_succ, List.take_succ_cons, List.take_zero, List.drop_succ_cons, List.drop_zero, List.reverse_cons, List.reverse_nil, List.nil_append, List.cons_append, List.length_cons, List.length_nil, true_and, and_true, and_self, ne_eq, not_true_eq_false, not_false_eq_true, reduceIte, true_or, or_true, false_or, or_false, Nat.reduceAdd, Nat.reduceSub, Nat.reduceMul, Nat.reduceLeDiff, Nat.reduceEqDiff, Nat.reduceLT, Nat.le_refl, Nat.zero_le, Int.reduceToNat, Int.reduceAdd, Int.reduceSub, Int.reduceMul, Int.reduceNeg, Int.reduceLT, Int.reduceLE, Int.reduceEq, Nat.zero_add, Nat.add_zero, Nat.reduceBEq, Nat.one_ne_zero, Nat.zero_ne_one, Nat.lt_irrefl, Nat.succ_ne_zero, w32_id, ixc, ixc2, Int.toNat_natCast, hz, ob_64, ← hm1, e1, t1, ob_1])
  refine ⟨by omega, by omega, fun z => ?_, fun z => ?_⟩
  · refine Cl.app (c_wrong (l := l) (d := d + 2) T1 C1 (w := 2) (by decide)) ?_
    (try simp (disch := omega) only [bi_0, x_ic, x_lc, x_ld, x_st, x_sl, x_inc, x_b32, x_b64, x_d32, x_d64, x_s64, x_un, x_lcmp, x_dup, x_pop, x_dup2, x_if, x_cmp, x_sw, swk, x_ald, x_ast, x_alen, x_getf, x_putf, x_inv, x_mm, x_copy, x_iret, x_lret, x_vret, ok1, pu, ct, rcv, rcs, ent0, List.getElem?_cons_zero, List.getElem?_cons_succ, List.getElem?_nil, List.set_cons_zero, List.set_cons_succ, List.take_succ_cons, List.take_zero, List.drop_succ_cons, List.drop_zero, List.reverse_cons, List.reverse_nil, List.nil_append, List.cons_append, List.length_cons, List.length_nil, true_and, and_true, and_self, ne_eq, not_true_eq_false, not_false_eq_true, reduceIte, true_or, or_true, false_or, or_false, Nat.reduceAdd, Nat.reduceSub, Nat.reduceMul, Nat.reduceLeDiff, Nat.reduceEqDiff, Nat.reduceLT, Nat.le_refl, Nat.zero_le, Int.reduceToNat, Int.reduceAdd, Int.reduceSub, Int.reduceMul, Int.reduceNeg, Int.reduceLT, Int.reduceLE, Int.reduceEq, Nat.zero_add, Nat.add_zero, Nat.reduceBEq, Nat.one_ne_zero, Nat.zero_ne_one, Nat.lt_irrefl, Nat.succ_ne_zero, w32_id, ixc, ixc2, Int.toNat_natCast])
    rw [iF_t (by omega)] at hQ
    exact hQ _ _ _ ⟨rfl, Or.inr ⟨by omega, rfl, N1.trans (Fnt_8 hn), up_at⟩⟩
  · rw [iF_f (by omega), iF_f (fun x => x)] at hQ
    refine S_X4_readCurveName_62 _ _ _ _ ?_; simp (disch := omega) only [B_X4_readCurveName_62, bi_0, x_ic, x_lc, x_ld, x_st, x_sl, x_inc, x_b32, x_b64, x_d32, x_d64, x_s64, x_un, x_lcmp, x_dup, x_pop, x_dup2, x_if, x_cmp, x_sw, swk, x_ald, x_ast, x_alen, x_getf, x_putf, x_inv, x_mm, x_copy, x_iret, x_lret, x_vret, ok1, pu, ct, rcv, rcs, ent0, List.getElem?_cons_zero, List.getElem?_cons_succ, List.getElem?_nil, List.set_cons_zero, List.set_cons_succ, List.take_succ_cons, List.take_zero, List.drop_succ_cons, List.drop_zero, List.reverse_cons, List.reverse_nil, List.nil_append, List.cons_append, List.length_cons, List.length_nil, true_and, and_true, and_self, ne_eq, not_true_eq_false, not_false_eq_true, reduceIte, true_or, or_true, false_or, or_false, Nat.reduceAdd, Nat.reduceSub, Nat.reduceMul, Nat.reduceLeDiff, Nat.reduceEqDiff, Nat.reduceLT, Nat.le_refl, Nat.zero_le, Int.reduceToNat, Int.reduceAdd, Int.reduceSub, Int.reduceMul, Int.reduceNeg, Int.reduceLT, Int.reduceLE, Int.reduceEq, Nat.zero_add, Nat.add_zero, Nat.reduceBEq, Nat.one_ne_zero, Nat.zero_ne_one, Nat.lt_irrefl, Nat.succ_ne_zero, w32_id, ixc, ixc2, Int.toNat_natCast, ob_64, t1, ob_1]
    refine Cl.imp (c_next (l := l) (d := d) T1 C1) (fun r sh' h' q => ?_)
    obtain ⟨rfl, rfl, F, C2⟩ := q
    (try simp (disch := omega) only [bi_0, x_ic, x_lc, x_ld, x_st, x_sl, x_inc, x_b32, x_b64, x_d32, x_d64, x_s64, x_un, x_lcmp, x_dup, x_pop, x_dup2, x_if, x_cmp, x_sw, swk, x_ald, x_ast, x_alen, x_getf, x_putf, x_inv, x_mm, x_copy, x_iret, x_lret, x_vret, ok1, pu, ct, rcv, rcs, ent0, List.getElem?_cons_zero, List.getElem?_cons_succ, List.getElem?_nil, List.set_cons_zero, List.set_cons_succ, List.take_succ_cons, List.take_zero, List.drop_succ_cons, List.drop_zero, List.reverse_cons, List.reverse_nil, List.nil_append, List.cons_append, List.length_cons, List.length_nil, true_and, and_true, and_self, ne_eq, not_true_eq_false, not_false_eq_true, reduceIte, true_or, or_true, false_or, or_false, Nat.reduceAdd, Nat.reduceSub, Nat.reduceMul, Nat.reduceLeDiff, Nat.reduceEqDiff, Nat.reduceLT, Nat.le_refl, Nat.zero_le, Int.reduceToNat, Int.reduceAdd, Int.reduceSub, Int.reduceMul, Int.reduceNeg, Int.reduceLT, Int.reduceLE, Int.reduceEq, Nat.zero_add, Nat.add_zero, Nat.reduceBEq, Nat.one_ne_zero, Nat.zero_ne_one, Nat.lt_irrefl, Nat.succ_ne_zero, w32_id, ixc, ixc2, Int.toNat_natCast])
    exact hQ _ _ _ ⟨rfl, Or.inl ⟨rfl, rfl, by rw [← hm1]; exact F, C2⟩⟩
noncomputable def ndX (s : Nat → Int) (n : Nat) (X : NX) (i : Nat) : NX := (ndRow s n X.1 X.2.1 i, ru X.2.1 (6 + (X.1 1).toNat) (tkVa s n (i + 1)), X.2.2)
theorem c_readNode (T : TxC h s n) (C : CuC h s n i) (hn : nb = 4 ∨ nb = 34) (h64 : h 64 2 = (nb : Int) + 1) (W : WQ X.1) (R : CNX h nb X) : Cl l (d + 5) M_X4_readNode [(2, 65)] SHP h (fun r sh' h' => r = 0 ∧ sh' = SHP ∧ Fnt nb h h' ∧ ((orF (ndU s n X.1 X.2.1 i) (snU s n (i + 5) 59) = 0 ∧ h' 1 8 = h 1 8 ∧ CuC h' s n (i + 5 + 1) ∧ CNX h' nb (ndX s n X i)) ∨ (orF (ndU s n X.1 X.2.1 i) (snU s n (i + 5) 59) ≠ 0 ∧ h' 1 8 = orF (ndU s n X.1 X.2.1 i) (snU s n (i + 5) 59)))) := by
  refine Cl_hide (fun Q hQ => ?_)
  obtain ⟨row, nm, Lw⟩ := X
  dsimp only [ndX] at hQ W R ⊢
  obtain ⟨RX, Rc, Rn, Ro, Rf, Rl⟩ := R
  dsimp only at RX Rc Rn Ro Rf Rl
  obtain ⟨⟨w12, ⟨w3, w4⟩, w56⟩, wc, wn, wf⟩ := id W
  have W0' := W.1
  obtain ⟨U, hU⟩ : ∃ U, U = orF (ndU s n row nm i) (snU s n (i + 5) 59) := ⟨_, rfl⟩
  rw [← hU] at hQ
  have uc := hU
  unfold ndU at uc
  obtain ⟨c, hc⟩ : ∃ c : Nat, c = (row 1).toNat := ⟨_, rfl⟩
  have hr : row 1 = (c : Int) := by omega
  have t0 := ly_64_0 T.1
  have o := (net_sh hn).1
  have x12 : h nb 12 = (c : Int) := by rw [RX.1.2.1]; exact hr
  have ixn : ((nb : Int) + 1).toNat - 1 = nb := by omega
  show V l (d + 5) 0 0 M_X4_readNode 0 0 0 Q [(2, 65), (9, 0), (9, 0)] [] SHP h
  refine S_X4_readNode_0 _ _ _ _ ?_; simp (disch := omega) only [B_X4_readNode_0, bi_0, x_ic, x_lc, x_ld, x_st, x_sl, x_inc, x_b32, x_b64, x_d32, x_d64, x_s64, x_un, x_lcmp, x_dup, x_pop, x_dup2, x_if, x_cmp, x_sw, swk, x_ald, x_ast, x_alen, x_getf, x_putf, x_inv, x_mm, x_copy, x_iret, x_lret, x_vret, ok1, pu, ct, rcv, rcs, ent0, List.getElem?_cons_zero, List.getElem?_cons_succ, List.getElem?_nil, List.set_cons_zero, List.set_cons_succ, List.take_succ_cons, List.take_zero, List.drop_succ_cons, List.drop_zero, List.reverse_cons, List.reverse_nil, List.nil_append, List.cons_append, List.length_cons, List.length_nil, true_and, and_true, and_self, ne_eq, not_true_eq_false, not_false_eq_true, reduceIte, true_or, or_true, false_or, or_false, Nat.reduceAdd, Nat.reduceSub, Nat.reduceMul, Nat.reduceLeDiff, Nat.reduceEqDiff, Nat.reduceLT, Nat.le_refl, Nat.zero_le, Int.reduceToNat, Int.reduceAdd, Int.reduceSub, Int.reduceMul, Int.reduceNeg, Int.reduceLT, Int.reduceLE, Int.reduceEq, Nat.zero_add, Nat.add_zero, Nat.reduceBEq, Nat.one_ne_zero, Nat.zero_ne_one, Nat.lt_irrefl, Nat.succ_ne_zero, w32_id, ixc, ixc2, Int.toNat_natCast, ob_64, t0, h64, ob_1, o, ixn, x12]
  refine ⟨fun z => ?_, fun z => ?_⟩
  rotate_left
  · refine Cl.app (c_wrong (l := l) (d := d + 3) T C (w := 5) (by decide)) ?_
    (try simp (disch := omega) only [bi_0, x_ic, x_lc, x_ld, x_st, x_sl, x_inc, x_b32, x_b64, x_d32, x_d64, x_s64, x_un, x_lcmp, x_dup, x_pop, x_dup2, x_if, x_cmp, x_sw, swk, x_ald, x_ast, x_alen, x_getf, x_putf, x_inv, x_mm, x_copy, x_iret, x_lret, x_vret, ok1, pu, ct, rcv, rcs, ent0, List.getElem?_cons_zero, List.getElem?_cons_succ, List.getElem?_nil, List.set_cons_zero, List.set_cons_succ, List.take_succ_cons, List.take_zero, List.drop_succ_cons, List.drop_zero, List.reverse_cons, List.reverse_nil, List.nil_append, List.cons_append, List.length_cons, List.length_nil, true_and, and_true, and_self, ne_eq, not_true_eq_false, not_false_eq_true, reduceIte, true_or, or_true, false_or, or_false, Nat.reduceAdd, Nat.reduceSub, Nat.reduceMul, Nat.reduceLeDiff, Nat.reduceEqDiff, Nat.reduceLT, Nat.le_refl, Nat.zero_le, Int.reduceToNat, Int.reduceAdd, Int.reduceSub, Int.reduceMul, Int.reduceNeg, Int.reduceLT, Int.reduceLE, Int.reduceEq, Nat.zero_add, Nat.add_zero, Nat.reduceBEq, Nat.one_ne_zero, Nat.zero_ne_one, Nat.lt_irrefl, Nat.succ_ne_zero, w32_id, ixc, ixc2, Int.toNat_natCast])
    have b := flt_b (s := s) (n := n) (i := i) (w := 5) (by decide)
    have e : U = flt s n i 5 := by
      rw [uc]
      unfold nmU
      rw [iF_t (show row 1 = 4 by omega)]
      simp only [orF_n (show flt s n i 5 ≠ 0 by omega)]
    exact hQ _ _ _ ⟨rfl, rfl, Fnt_8 hn, Or.inr ⟨by omega, by rw [e]; exact up_at⟩⟩
  have c4 : c < 4 := by omega
  have nu := nnU_nm (s := s) (n := n) (i := i) (row := row) (nm := nm) (many := row 1) (most := 4) (by omega)
  rw [nu] at uc
  -- behind a fault
  have bad : ∀ (m : Mem) (f : Int), f ≠ 0 → U = f → Fnt nb h m → m 1 8 = f → V l (d + 5) 0 0 M_X4_readNode 0 0 97 Q [(2, 65), (0, (c : Int)), (9, 0)] [] SHP m := by
    intro m f hf e F e8
    refine S_X4_readNode_97 _ _ _ _ ?_; simp (disch := omega) only [B_X4_readNode_97, bi_0, x_ic, x_lc, x_ld, x_st, x_sl, x_inc, x_b32, x_b64, x_d32, x_d64, x_s64, x_un, x_lcmp, x_dup, x_pop, x_dup2, x_if, x_cmp, x_sw, swk, x_ald, x_ast, x_alen, x_getf, x_putf, x_inv, x_mm, x_copy, x_iret, x_lret, x_vret, ok1, pu, ct, rcv, rcs, ent0, List.getElem?_cons_zero, List.getElem?_cons_succ, List.getElem?_nil, List.set_cons_zero, List.set_cons_succ, List.take_succ_cons, List.take_zero, List.drop_succ_cons, List.drop_zero, List.reverse_cons, List.reverse_nil, List.nil_append, List.cons_append, List.length_cons, List.length_nil, true_and, and_true, and_self, ne_eq, not_true_eq_false, not_false_eq_true, reduceIte, true_or, or_true, false_or, or_false, Nat.reduceAdd, Nat.reduceSub, Nat.reduceMul, Nat.reduceLeDiff, Nat.reduceEqDiff, Nat.reduceLT, Nat.le_refl, Nat.zero_le, Int.reduceToNat, Int.reduceAdd, Int.reduceSub, Int.reduceMul, Int.reduceNeg, Int.reduceLT, Int.reduceLE, Int.reduceEq, Nat.zero_add, Nat.add_zero, Nat.reduceBEq, Nat.one_ne_zero, Nat.zero_ne_one, Nat.lt_irrefl, Nat.succ_ne_zero, w32_id, ixc, ixc2, Int.toNat_natCast]
    refine S_X4_readNode_98 _ _ _ _ ?_; simp (disch := omega) only [B_X4_readNode_98, bi_0, x_ic, x_lc, x_ld, x_st, x_sl, x_inc, x_b32, x_b64, x_d32, x_d64, x_s64, x_un, x_lcmp, x_dup, x_pop, x_dup2, x_if, x_cmp, x_sw, swk, x_ald, x_ast, x_alen, x_getf, x_putf, x_inv, x_mm, x_copy, x_iret, x_lret, x_vret, ok1, pu, ct, rcv, rcs, ent0, List.getElem?_cons_zero, List.getElem?_cons_succ, List.getElem?_nil, List.set_cons_zero, List.set_cons_succ, List.take_succ_cons, List.take_zero, List.drop_succ_cons, List.drop_zero, List.reverse_cons, List.reverse_nil, List.nil_append, List.cons_append, List.length_cons, List.length_nil, true_and, and_true, and_self, ne_eq, not_true_eq_false, not_false_eq_true, reduceIte, true_or, or_true, false_or, or_false, Nat.reduceAdd, Nat.reduceSub, Nat.reduceMul, Nat.reduceLeDiff, Nat.reduceEqDiff, Nat.reduceLT, Nat.le_refl, Nat.zero_le, Int.reduceToNat, Int.reduceAdd, Int.reduceSub, Int.reduceMul, Int.reduceNeg, Int.reduceLT, Int.reduceLE, Int.reduceEq, Nat.zero_add, Nat.add_zero, Nat.reduceBEq, Nat.one_ne_zero, Nat.zero_ne_one, Nat.lt_irrefl, Nat.succ_ne_zero, w32_id, ixc, ixc2, Int.toNat_natCast]
    refine ⟨fun _ => ?_, fun y => y.elim⟩
    refine S_X4_readNode_116 _ _ _ _ ?_; simp (disch := omega) only [B_X4_readNode_116, bi_0, x_ic, x_lc, x_ld, x_st, x_sl, x_inc, x_b32, x_b64, x_d32, x_d64, x_s64, x_un, x_lcmp, x_dup, x_pop, x_dup2, x_if, x_cmp, x_sw, swk, x_ald, x_ast, x_alen, x_getf, x_putf, x_inv, x_mm, x_copy, x_iret, x_lret, x_vret, ok1, pu, ct, rcv, rcs, ent0, List.getElem?_cons_zero, List.getElem?_cons_succ, List.getElem?_nil, List.set_cons_zero, List.set_cons_succ, List.take_succ_cons, List.take_zero, List.drop_succ_cons, List.drop_zero, List.reverse_cons, List.reverse_nil, List.nil_append, List.cons_append, List.length_cons, List.length_nil, true_and, and_true, and_self, ne_eq, not_true_eq_false, not_false_eq_true, reduceIte, true_or, or_true, false_or, or_false, Nat.reduceAdd, Nat.reduceSub, Nat.reduceMul, Nat.reduceLeDiff, Nat.reduceEqDiff, Nat.reduceLT, Nat.le_refl, Nat.zero_le, Int.reduceToNat, Int.reduceAdd, Int.reduceSub, Int.reduceMul, Int.reduceNeg, Int.reduceLT, Int.reduceLE, Int.reduceEq, Nat.zero_add, Nat.add_zero, Nat.reduceBEq, Nat.one_ne_zero, Nat.zero_ne_one, Nat.lt_irrefl, Nat.succ_ne_zero, w32_id, ixc, ixc2, Int.toNat_natCast]
    exact hQ _ _ _ ⟨rfl, rfl, F, Or.inr ⟨by omega, by rw [e8, e]⟩⟩
  refine S_X4_readNode_23 _ _ _ _ ?_; simp (disch := omega) only [B_X4_readNode_23, bi_0, x_ic, x_lc, x_ld, x_st, x_sl, x_inc, x_b32, x_b64, x_d32, x_d64, x_s64, x_un, x_lcmp, x_dup, x_pop, x_dup2, x_if, x_cmp, x_sw, swk, x_ald, x_ast, x_alen, x_getf, x_putf, x_inv, x_mm, x_copy, x_iret, x_lret, x_vret, ok1, pu, ct, rcv, rcs, ent0, List.getElem?_cons_zero, List.getElem?_cons_succ, List.getElem?_nil, List.set_cons_zero, List.set_cons_succ, List.take_succ_cons, List.take_zero, List.drop_succ_cons, List.drop_zero, List.reverse_cons, List.reverse_nil, List.nil_append, List.cons_append, List.length_cons, List.length_nil, true_and, and_true, and_self, ne_eq, not_true_eq_false, not_false_eq_true, reduceIte, true_or, or_true, false_or, or_false, Nat.reduceAdd, Nat.reduceSub, Nat.reduceMul, Nat.reduceLeDiff, Nat.reduceEqDiff, Nat.reduceLT, Nat.le_refl, Nat.zero_le, Int.reduceToNat, Int.reduceAdd, Int.reduceSub, Int.reduceMul, Int.reduceNeg, Int.reduceLT, Int.reduceLE, Int.reduceEq, Nat.zero_add, Nat.add_zero, Nat.reduceBEq, Nat.one_ne_zero, Nat.zero_ne_one, Nat.lt_irrefl, Nat.succ_ne_zero, w32_id, ixc, ixc2, Int.toNat_natCast, ob_64, t0, h64, ob_1]
  refine Cl.imp (c_next (l := l) (d := d + 1) T C) (fun r sh' m1 q => ?_)
  obtain ⟨rfl, rfl, F1, C1⟩ := q
  have T1 := T.fs F1
  have h1 : m1 64 2 = (nb : Int) + 1 := by rw [F1.1 64 (by decide)]; exact h64
  have RX1 : NmX m1 nb row nm := RX.fr (F1.1 _ (by omega)) (F1.1 _ (by omega)) (F1.1 _ (by omega)) (F1.1 _ (by omega))
  (try simp (disch := omega) only [bi_0, x_ic, x_lc, x_ld, x_st, x_sl, x_inc, x_b32, x_b64, x_d32, x_d64, x_s64, x_un, x_lcmp, x_dup, x_pop, x_dup2, x_if, x_cmp, x_sw, swk, x_ald, x_ast, x_alen, x_getf, x_putf, x_inv, x_mm, x_copy, x_iret, x_lret, x_vret, ok1, pu, ct, rcv, rcs, ent0, List.getElem?_cons_zero, List.getElem?_cons_succ, List.getElem?_nil, List.set_cons_zero, List.set_cons_succ, List.take_succ_cons, List.take_zero, List.drop_succ_cons, List.drop_zero, List.reverse_cons, List.reverse_nil, List.nil_append, List.cons_append, List.length_cons, List.length_nil, true_and, and_true, and_self, ne_eq, not_true_eq_false, not_false_eq_true, reduceIte, true_or, or_true, false_or, or_false, Nat.reduceAdd, Nat.reduceSub, Nat.reduceMul, Nat.reduceLeDiff, Nat.reduceEqDiff, Nat.reduceLT, Nat.le_refl, Nat.zero_le, Int.reduceToNat, Int.reduceAdd, Int.reduceSub, Int.reduceMul, Int.reduceNeg, Int.reduceLT, Int.reduceLE, Int.reduceEq, Nat.zero_add, Nat.add_zero, Nat.reduceBEq, Nat.one_ne_zero, Nat.zero_ne_one, Nat.lt_irrefl, Nat.succ_ne_zero, w32_id, ixc, ixc2, Int.toNat_natCast, ob_64, h1, o, ixn, nf2 T1.1 hn])
  refine Cl.imp (c_newName (l := l) (d := d) T1 C1 hn h1 W0' RX1 (x := nb + 3) (k := c) (z := 4) (by omega) (nln3 hn) (by omega) (by decide)) (fun r sh' m2 q => ?_)
  obtain ⟨rfl, q⟩ := q
  rcases q with ⟨q1, rfl, q2, F2, C2⟩ | ⟨q1, rfl, e2⟩
  rotate_left
  · (try simp (disch := omega) only [bi_0, x_ic, x_lc, x_ld, x_st, x_sl, x_inc, x_b32, x_b64, x_d32, x_d64, x_s64, x_un, x_lcmp, x_dup, x_pop, x_dup2, x_if, x_cmp, x_sw, swk, x_ald, x_ast, x_alen, x_getf, x_putf, x_inv, x_mm, x_copy, x_iret, x_lret, x_vret, ok1, pu, ct, rcv, rcs, ent0, List.getElem?_cons_zero, List.getElem?_cons_succ, List.getElem?_nil, List.set_cons_zero, List.set_cons_succ, List.take_succ_cons, List.take_zero, List.drop_succ_cons, List.drop_zero, List.reverse_cons, List.reverse_nil, List.nil_append, List.cons_append, List.length_cons, List.length_nil, true_and, and_true, and_self, ne_eq, not_true_eq_false, not_false_eq_true, reduceIte, true_or, or_true, false_or, or_false, Nat.reduceAdd, Nat.reduceSub, Nat.reduceMul, Nat.reduceLeDiff, Nat.reduceEqDiff, Nat.reduceLT, Nat.le_refl, Nat.zero_le, Int.reduceToNat, Int.reduceAdd, Int.reduceSub, Int.reduceMul, Int.reduceNeg, Int.reduceLT, Int.reduceLE, Int.reduceEq, Nat.zero_add, Nat.add_zero, Nat.reduceBEq, Nat.one_ne_zero, Nat.zero_ne_one, Nat.lt_irrefl, Nat.succ_ne_zero, w32_id, ixc, ixc2, Int.toNat_natCast])
    refine ⟨fun _ => ?_, fun y => y.elim⟩
    simp only [orF_n q1] at uc
    exact bad m2 _ q1 uc ((F1.nt hn).trans (by rw [e2]; exact Fnt_8 hn)) (by rw [e2]; exact up_at)
  rw [q1, orF_0] at uc
  obtain ⟨u, hu⟩ : ∃ u, u = m1 1 7 := ⟨_, rfl⟩
  rw [← hu] at q2 F2
  have N2 : Fnt nb h m2 := (F1.nt hn).trans ((Fnt_up hn (by unfold ntW; omega)).trans (F2.nt hn))
  have T2 := N2.tx hn T
  have t2 := ly_64_0 T2.1
  have g2 : ∀ a, a ≠ 1 → a ≠ nb + 3 → m2 a = h a := fun a p q => by rw [F2.1 a p, up_ne q, F1.1 a p]
  have g2b : ∀ a, m2 (nb + 3) a = if a = c then u else h (nb + 3) a := fun a => by
    rw [F2.1 (nb + 3) (by omega)]
    by_cases x : a = c
    · rw [if_pos x, x, up_at]
    · rw [if_neg x, up_nj x, F1.1 (nb + 3) (by omega)]
  have g28 : m2 1 8 = h 1 8 := by rw [F2.2 8 (Or.inr rfl), up_ne (by omega), F1.2 8 (Or.inr rfl)]
  have h2 : m2 64 2 = (nb : Int) + 1 := by rw [N2.1 64 (by decide) (by omega)]; exact h64
  (try simp (disch := omega) only [bi_0, x_ic, x_lc, x_ld, x_st, x_sl, x_inc, x_b32, x_b64, x_d32, x_d64, x_s64, x_un, x_lcmp, x_dup, x_pop, x_dup2, x_if, x_cmp, x_sw, swk, x_ald, x_ast, x_alen, x_getf, x_putf, x_inv, x_mm, x_copy, x_iret, x_lret, x_vret, ok1, pu, ct, rcv, rcs, ent0, List.getElem?_cons_zero, List.getElem?_cons_succ, List.getElem?_nil, List.set_cons_zero, List.set_cons_succ, List.take_succ_cons, List.take_zero, List.drop_succ_cons, List.drop_zero, List.reverse_cons, List.reverse_nil, List.nil_append, List.cons_append, List.length_cons, List.length_nil, true_and, and_true, and_self, ne_eq, not_true_eq_false, not_false_eq_true, reduceIte, true_or, or_true, false_or, or_false, Nat.reduceAdd, Nat.reduceSub, Nat.reduceMul, Nat.reduceLeDiff, Nat.reduceEqDiff, Nat.reduceLT, Nat.le_refl, Nat.zero_le, Int.reduceToNat, Int.reduceAdd, Int.reduceSub, Int.reduceMul, Int.reduceNeg, Int.reduceLT, Int.reduceLE, Int.reduceEq, Nat.zero_add, Nat.add_zero, Nat.reduceBEq, Nat.one_ne_zero, Nat.zero_ne_one, Nat.lt_irrefl, Nat.succ_ne_zero, w32_id, ixc, ixc2, Int.toNat_natCast, ob_64])
  refine ⟨fun y => y.elim, fun _ => ?_⟩
  refine Cl.imp (c_readDiscipline (l := l) (d := d) T2 C2 hn h2 c4) (fun r sh' m3 q => ?_)
  obtain ⟨rfl, q⟩ := q
  rcases q with ⟨q3, rfl, F3, C3⟩ | ⟨q3, rfl, e3⟩
  rotate_left
  · (try simp (disch := omega) only [bi_0, x_ic, x_lc, x_ld, x_st, x_sl, x_inc, x_b32, x_b64, x_d32, x_d64, x_s64, x_un, x_lcmp, x_dup, x_pop, x_dup2, x_if, x_cmp, x_sw, swk, x_ald, x_ast, x_alen, x_getf, x_putf, x_inv, x_mm, x_copy, x_iret, x_lret, x_vret, ok1, pu, ct, rcv, rcs, ent0, List.getElem?_cons_zero, List.getElem?_cons_succ, List.getElem?_nil, List.set_cons_zero, List.set_cons_succ, List.take_succ_cons, List.take_zero, List.drop_succ_cons, List.drop_zero, List.reverse_cons, List.reverse_nil, List.nil_append, List.cons_append, List.length_cons, List.length_nil, true_and, and_true, and_self, ne_eq, not_true_eq_false, not_false_eq_true, reduceIte, true_or, or_true, false_or, or_false, Nat.reduceAdd, Nat.reduceSub, Nat.reduceMul, Nat.reduceLeDiff, Nat.reduceEqDiff, Nat.reduceLT, Nat.le_refl, Nat.zero_le, Int.reduceToNat, Int.reduceAdd, Int.reduceSub, Int.reduceMul, Int.reduceNeg, Int.reduceLT, Int.reduceLE, Int.reduceEq, Nat.zero_add, Nat.add_zero, Nat.reduceBEq, Nat.one_ne_zero, Nat.zero_ne_one, Nat.lt_irrefl, Nat.succ_ne_zero, w32_id, ixc, ixc2, Int.toNat_natCast])
    refine ⟨fun _ => ?_, fun y => y.elim⟩
    simp only [orF_n q3] at uc
    exact bad m3 _ q3 uc (N2.trans (by rw [e3]; exact Fnt_8 hn)) (by rw [e3]; exact up_at)
  rw [q3, orF_0] at uc
  have N3 := N2.trans ((Fnt_up hn (by unfold ntW; omega)).trans (F3.nt hn))
  have T3 := N3.tx hn T
  have t3 := ly_64_0 T3.1
  (try simp (disch := omega) only [bi_0, x_ic, x_lc, x_ld, x_st, x_sl, x_inc, x_b32, x_b64, x_d32, x_d64, x_s64, x_un, x_lcmp, x_dup, x_pop, x_dup2, x_if, x_cmp, x_sw, swk, x_ald, x_ast, x_alen, x_getf, x_putf, x_inv, x_mm, x_copy, x_iret, x_lret, x_vret, ok1, pu, ct, rcv, rcs, ent0, List.getElem?_cons_zero, List.getElem?_cons_succ, List.getElem?_nil, List.set_cons_zero, List.set_cons_succ, List.take_succ_cons, List.take_zero, List.drop_succ_cons, List.drop_zero, List.reverse_cons, List.reverse_nil, List.nil_append, List.cons_append, List.length_cons, List.length_nil, true_and, and_true, and_self, ne_eq, not_true_eq_false, not_false_eq_true, reduceIte, true_or, or_true, false_or, or_false, Nat.reduceAdd, Nat.reduceSub, Nat.reduceMul, Nat.reduceLeDiff, Nat.reduceEqDiff, Nat.reduceLT, Nat.le_refl, Nat.zero_le, Int.reduceToNat, Int.reduceAdd, Int.reduceSub, Int.reduceMul, Int.reduceNeg, Int.reduceLT, Int.reduceLE, Int.reduceEq, Nat.zero_add, Nat.add_zero, Nat.reduceBEq, Nat.one_ne_zero, Nat.zero_ne_one, Nat.lt_irrefl, Nat.succ_ne_zero, w32_id, ixc, ixc2, Int.toNat_natCast, ob_64, t3, ob_1])
  refine ⟨fun y => y.elim, fun _ => ?_⟩
  refine Cl.imp (c_takeW (l := l) (d := d) T3 C3 (w := 5) (by decide) rfl) (fun r sh' m4 q => ?_)
  obtain ⟨rfl, q⟩ := q
  rcases q with ⟨q4, rfl, F4, C4⟩ | ⟨q4, rfl, e4⟩
  rotate_left
  · (try simp (disch := omega) only [bi_0, x_ic, x_lc, x_ld, x_st, x_sl, x_inc, x_b32, x_b64, x_d32, x_d64, x_s64, x_un, x_lcmp, x_dup, x_pop, x_dup2, x_if, x_cmp, x_sw, swk, x_ald, x_ast, x_alen, x_getf, x_putf, x_inv, x_mm, x_copy, x_iret, x_lret, x_vret, ok1, pu, ct, rcv, rcs, ent0, List.getElem?_cons_zero, List.getElem?_cons_succ, List.getElem?_nil, List.set_cons_zero, List.set_cons_succ, List.take_succ_cons, List.take_zero, List.drop_succ_cons, List.drop_zero, List.reverse_cons, List.reverse_nil, List.nil_append, List.cons_append, List.length_cons, List.length_nil, true_and, and_true, and_self, ne_eq, not_true_eq_false, not_false_eq_true, reduceIte, true_or, or_true, false_or, or_false, Nat.reduceAdd, Nat.reduceSub, Nat.reduceMul, Nat.reduceLeDiff, Nat.reduceEqDiff, Nat.reduceLT, Nat.le_refl, Nat.zero_le, Int.reduceToNat, Int.reduceAdd, Int.reduceSub, Int.reduceMul, Int.reduceNeg, Int.reduceLT, Int.reduceLE, Int.reduceEq, Nat.zero_add, Nat.add_zero, Nat.reduceBEq, Nat.one_ne_zero, Nat.zero_ne_one, Nat.lt_irrefl, Nat.succ_ne_zero, w32_id, ixc, ixc2, Int.toNat_natCast])
    refine ⟨fun _ => ?_, fun y => y.elim⟩
    simp only [orF_n q4] at uc
    exact bad m4 _ q4 uc (N3.trans (by rw [e4]; exact Fnt_8 hn)) (by rw [e4]; exact up_at)
  rw [q4, orF_0] at uc
  have N4 := N3.trans (F4.nt hn)
  have T4 := N4.tx hn T
  have h4 : m4 64 2 = (nb : Int) + 1 := by rw [N4.1 64 (by decide) (by omega)]; exact h64
  have g4 : ∀ a, a ≠ 1 → a ≠ nb + 3 → a ≠ nb + 5 → m4 a = h a := fun a p1 p2 p3 => by rw [F4.1 a p1, F3.1 a p1, up_ne p3, g2 a p1 p2]
  have g4b : ∀ a, m4 (nb + 3) a = if a = c then u else h (nb + 3) a := fun a => by rw [F4.1 _ (by omega), F3.1 _ (by omega), up_ne (by omega)]; exact g2b a
  have nb4 : m4 nb = h nb := g4 nb (by omega) (by omega) (by omega)
  obtain ⟨c0, hc0⟩ : ∃ c0 : Nat, c0 = (row 0).toNat := ⟨_, rfl⟩
  rw [← hc0] at uc
  (try simp (disch := omega) only [bi_0, x_ic, x_lc, x_ld, x_st, x_sl, x_inc, x_b32, x_b64, x_d32, x_d64, x_s64, x_un, x_lcmp, x_dup, x_pop, x_dup2, x_if, x_cmp, x_sw, swk, x_ald, x_ast, x_alen, x_getf, x_putf, x_inv, x_mm, x_copy, x_iret, x_lret, x_vret, ok1, pu, ct, rcv, rcs, ent0, List.getElem?_cons_zero, List.getElem?_cons_succ, List.getElem?_nil, List.set_cons_zero, List.set_cons_succ, List.take_succ_cons, List.take_zero, List.drop_succ_cons, List.drop_zero, List.reverse_cons, List.reverse_nil, List.nil_append, List.cons_append, List.length_cons, List.length_nil, true_and, and_true, and_self, ne_eq, not_true_eq_false, not_false_eq_true, reduceIte, true_or, or_true, false_or, or_false, Nat.reduceAdd, Nat.reduceSub, Nat.reduceMul, Nat.reduceLeDiff, Nat.reduceEqDiff, Nat.reduceLT, Nat.le_refl, Nat.zero_le, Int.reduceToNat, Int.reduceAdd, Int.reduceSub, Int.reduceMul, Int.reduceNeg, Int.reduceLT, Int.reduceLE, Int.reduceEq, Nat.zero_add, Nat.add_zero, Nat.reduceBEq, Nat.one_ne_zero, Nat.zero_ne_one, Nat.lt_irrefl, Nat.succ_ne_zero, w32_id, ixc, ixc2, Int.toNat_natCast, ob_64, h4, o, ixn, nf5 T4.1 hn])
  refine ⟨fun y => y.elim, fun _ => ?_⟩
  refine Cl.imp (c_curveName (l := l) (d := d) (nm := nm) T4 C4 hn h4 (x := nb + 6) (k := c) (c0 := c0) (by rw [nb4, RX.1.1]; omega) (by omega) (by rw [g4 _ (by omega) (by omega) (by omega), hc0]; exact RX.2.1) (Or.inl rfl) c4) (fun r sh' m5 q => ?_)
  obtain ⟨rfl, q⟩ := q
  rcases q with ⟨q5, rfl, F5, C5⟩ | ⟨q5, rfl, N5, e5⟩
  rotate_left
  · (try simp (disch := omega) only [bi_0, x_ic, x_lc, x_ld, x_st, x_sl, x_inc, x_b32, x_b64, x_d32, x_d64, x_s64, x_un, x_lcmp, x_dup, x_pop, x_dup2, x_if, x_cmp, x_sw, swk, x_ald, x_ast, x_alen, x_getf, x_putf, x_inv, x_mm, x_copy, x_iret, x_lret, x_vret, ok1, pu, ct, rcv, rcs, ent0, List.getElem?_cons_zero, List.getElem?_cons_succ, List.getElem?_nil, List.set_cons_zero, List.set_cons_succ, List.take_succ_cons, List.take_zero, List.drop_succ_cons, List.drop_zero, List.reverse_cons, List.reverse_nil, List.nil_append, List.cons_append, List.length_cons, List.length_nil, true_and, and_true, and_self, ne_eq, not_true_eq_false, not_false_eq_true, reduceIte, true_or, or_true, false_or, or_false, Nat.reduceAdd, Nat.reduceSub, Nat.reduceMul, Nat.reduceLeDiff, Nat.reduceEqDiff, Nat.reduceLT, Nat.le_refl, Nat.zero_le, Int.reduceToNat, Int.reduceAdd, Int.reduceSub, Int.reduceMul, Int.reduceNeg, Int.reduceLT, Int.reduceLE, Int.reduceEq, Nat.zero_add, Nat.add_zero, Nat.reduceBEq, Nat.one_ne_zero, Nat.zero_ne_one, Nat.lt_irrefl, Nat.succ_ne_zero, w32_id, ixc, ixc2, Int.toNat_natCast])
    refine ⟨fun _ => ?_, fun y => y.elim⟩
    rw [show i + 1 + 1 + 1 + 1 = i + 4 by omega] at q5 e5
    simp only [orF_n q5] at uc
    exact bad m5 _ q5 uc (N4.trans N5) e5
  rw [q5, orF_0] at uc
  obtain ⟨v, hv⟩ : ∃ v, v = naF nm (tkVa s n (i + 1 + 1 + 1 + 1)) 0 c0 := ⟨_, rfl⟩
  rw [← hv] at F5
  have N5 := N4.trans ((Fnt_up hn (by unfold ntW; omega)).trans (F5.nt hn))
  have T5 := N5.tx hn T
  have t5 := ly_64_0 T5.1
  (try simp (disch := omega) only [bi_0, x_ic, x_lc, x_ld, x_st, x_sl, x_inc, x_b32, x_b64, x_d32, x_d64, x_s64, x_un, x_lcmp, x_dup, x_pop, x_dup2, x_if, x_cmp, x_sw, swk, x_ald, x_ast, x_alen, x_getf, x_putf, x_inv, x_mm, x_copy, x_iret, x_lret, x_vret, ok1, pu, ct, rcv, rcs, ent0, List.getElem?_cons_zero, List.getElem?_cons_succ, List.getElem?_nil, List.set_cons_zero, List.set_cons_succ, List.take_succ_cons, List.take_zero, List.drop_succ_cons, List.drop_zero, List.reverse_cons, List.reverse_nil, List.nil_append, List.cons_append, List.length_cons, List.length_nil, true_and, and_true, and_self, ne_eq, not_true_eq_false, not_false_eq_true, reduceIte, true_or, or_true, false_or, or_false, Nat.reduceAdd, Nat.reduceSub, Nat.reduceMul, Nat.reduceLeDiff, Nat.reduceEqDiff, Nat.reduceLT, Nat.le_refl, Nat.zero_le, Int.reduceToNat, Int.reduceAdd, Int.reduceSub, Int.reduceMul, Int.reduceNeg, Int.reduceLT, Int.reduceLE, Int.reduceEq, Nat.zero_add, Nat.add_zero, Nat.reduceBEq, Nat.one_ne_zero, Nat.zero_ne_one, Nat.lt_irrefl, Nat.succ_ne_zero, w32_id, ixc, ixc2, Int.toNat_natCast, ob_64, t5, ob_1])
  refine ⟨fun y => y.elim, fun _ => ?_⟩
  refine Cl.imp (c_takeS (l := l) (d := d) T5 C5 sg59) (fun r sh' m6 q => ?_)
  obtain ⟨rfl, q⟩ := q
  rcases q with ⟨q6, rfl, F6, C6⟩ | ⟨q6, rfl, e6⟩
  rotate_left
  · (try simp (disch := omega) only [bi_0, x_ic, x_lc, x_ld, x_st, x_sl, x_inc, x_b32, x_b64, x_d32, x_d64, x_s64, x_un, x_lcmp, x_dup, x_pop, x_dup2, x_if, x_cmp, x_sw, swk, x_ald, x_ast, x_alen, x_getf, x_putf, x_inv, x_mm, x_copy, x_iret, x_lret, x_vret, ok1, pu, ct, rcv, rcs, ent0, List.getElem?_cons_zero, List.getElem?_cons_succ, List.getElem?_nil, List.set_cons_zero, List.set_cons_succ, List.take_succ_cons, List.take_zero, List.drop_succ_cons, List.drop_zero, List.reverse_cons, List.reverse_nil, List.nil_append, List.cons_append, List.length_cons, List.length_nil, true_and, and_true, and_self, ne_eq, not_true_eq_false, not_false_eq_true, reduceIte, true_or, or_true, false_or, or_false, Nat.reduceAdd, Nat.reduceSub, Nat.reduceMul, Nat.reduceLeDiff, Nat.reduceEqDiff, Nat.reduceLT, Nat.le_refl, Nat.zero_le, Int.reduceToNat, Int.reduceAdd, Int.reduceSub, Int.reduceMul, Int.reduceNeg, Int.reduceLT, Int.reduceLE, Int.reduceEq, Nat.zero_add, Nat.add_zero, Nat.reduceBEq, Nat.one_ne_zero, Nat.zero_ne_one, Nat.lt_irrefl, Nat.succ_ne_zero, w32_id, ixc, ixc2, Int.toNat_natCast])
    refine ⟨fun _ => ?_, fun y => y.elim⟩
    exact bad m6 _ q6 uc (N5.trans (by rw [e6]; exact Fnt_8 hn)) (by rw [e6]; exact up_at)
  rw [q6] at uc
  have N6 := N5.trans (F6.nt hn)
  have g6 : ∀ a, a ≠ 1 → a ≠ nb + 3 → a ≠ nb + 5 → a ≠ nb + 6 → m6 a = h a := fun a p1 p2 p3 p4 => by rw [F6.1 a p1, F5.1 a p1, up_ne p4, g4 a p1 p2 p3]
  have h6 : m6 64 2 = (nb : Int) + 1 := by rw [N6.1 64 (by decide) (by omega)]; exact h64
  have nb6 : m6 nb = h nb := g6 nb (by omega) (by omega) (by omega) (by omega)
  have x126 : m6 nb 12 = (c : Int) := by rw [nb6]; exact x12
  (try simp (disch := omega) only [bi_0, x_ic, x_lc, x_ld, x_st, x_sl, x_inc, x_b32, x_b64, x_d32, x_d64, x_s64, x_un, x_lcmp, x_dup, x_pop, x_dup2, x_if, x_cmp, x_sw, swk, x_ald, x_ast, x_alen, x_getf, x_putf, x_inv, x_mm, x_copy, x_iret, x_lret, x_vret, ok1, pu, ct, rcv, rcs, ent0, List.getElem?_cons_zero, List.getElem?_cons_succ, List.getElem?_nil, List.set_cons_zero, List.set_cons_succ, List.take_succ_cons, List.take_zero, List.drop_succ_cons, List.drop_zero, List.reverse_cons, List.reverse_nil, List.nil_append, List.cons_append, List.length_cons, List.length_nil, true_and, and_true, and_self, ne_eq, not_true_eq_false, not_false_eq_true, reduceIte, true_or, or_true, false_or, or_false, Nat.reduceAdd, Nat.reduceSub, Nat.reduceMul, Nat.reduceLeDiff, Nat.reduceEqDiff, Nat.reduceLT, Nat.le_refl, Nat.zero_le, Int.reduceToNat, Int.reduceAdd, Int.reduceSub, Int.reduceMul, Int.reduceNeg, Int.reduceLT, Int.reduceLE, Int.reduceEq, Nat.zero_add, Nat.add_zero, Nat.reduceBEq, Nat.one_ne_zero, Nat.zero_ne_one, Nat.lt_irrefl, Nat.succ_ne_zero, w32_id, ixc, ixc2, Int.toNat_natCast])
  refine ⟨fun y => y.elim, fun _ => ?_⟩
  refine S_X4_readNode_98 _ _ _ _ ?_; simp (disch := omega) only [B_X4_readNode_98, bi_0, x_ic, x_lc, x_ld, x_st, x_sl, x_inc, x_b32, x_b64, x_d32, x_d64, x_s64, x_un, x_lcmp, x_dup, x_pop, x_dup2, x_if, x_cmp, x_sw, swk, x_ald, x_ast, x_alen, x_getf, x_putf, x_inv, x_mm, x_copy, x_iret, x_lret, x_vret, ok1, pu, ct, rcv, rcs, ent0, List.getElem?_cons_zero, List.getElem?_cons_succ, List.getElem?_nil, List.set_cons_zero, List.set_cons_succ, List.take_succ_cons, List.take_zero, List.drop_succ_cons, List.drop_zero, List.reverse_cons, List.reverse_nil, List.nil_append, List.cons_append, List.length_cons, List.length_nil, true_and, and_true, and_self, ne_eq, not_true_eq_false, not_false_eq_true, reduceIte, true_or, or_true, false_or, or_false, Nat.reduceAdd, Nat.reduceSub, Nat.reduceMul, Nat.reduceLeDiff, Nat.reduceEqDiff, Nat.reduceLT, Nat.le_refl, Nat.zero_le, Int.reduceToNat, Int.reduceAdd, Int.reduceSub, Int.reduceMul, Int.reduceNeg, Int.reduceLT, Int.reduceLE, Int.reduceEq, Nat.zero_add, Nat.add_zero, Nat.reduceBEq, Nat.one_ne_zero, Nat.zero_ne_one, Nat.lt_irrefl, Nat.succ_ne_zero, w32_id, ixc, ixc2, Int.toNat_natCast, ob_64, h6, o, ixn, x126]
  refine ⟨fun y => y.elim, fun _ => ?_⟩
  refine S_X4_readNode_116 _ _ _ _ ?_; simp (disch := omega) only [B_X4_readNode_116, bi_0, x_ic, x_lc, x_ld, x_st, x_sl, x_inc, x_b32, x_b64, x_d32, x_d64, x_s64, x_un, x_lcmp, x_dup, x_pop, x_dup2, x_if, x_cmp, x_sw, swk, x_ald, x_ast, x_alen, x_getf, x_putf, x_inv, x_mm, x_copy, x_iret, x_lret, x_vret, ok1, pu, ct, rcv, rcs, ent0, List.getElem?_cons_zero, List.getElem?_cons_succ, List.getElem?_nil, List.set_cons_zero, List.set_cons_succ, List.take_succ_cons, List.take_zero, List.drop_succ_cons, List.drop_zero, List.reverse_cons, List.reverse_nil, List.nil_append, List.cons_append, List.length_cons, List.length_nil, true_and, and_true, and_self, ne_eq, not_true_eq_false, not_false_eq_true, reduceIte, true_or, or_true, false_or, or_false, Nat.reduceAdd, Nat.reduceSub, Nat.reduceMul, Nat.reduceLeDiff, Nat.reduceEqDiff, Nat.reduceLT, Nat.le_refl, Nat.zero_le, Int.reduceToNat, Int.reduceAdd, Int.reduceSub, Int.reduceMul, Int.reduceNeg, Int.reduceLT, Int.reduceLE, Int.reduceEq, Nat.zero_add, Nat.add_zero, Nat.reduceBEq, Nat.one_ne_zero, Nat.zero_ne_one, Nat.lt_irrefl, Nat.succ_ne_zero, w32_id, ixc, ixc2, Int.toNat_natCast]
  have zU : ndU s n row nm i = 0 := (orF_z.mp (hU.symm.trans uc)).1
  obtain ⟨z1, z2, z3⟩ := ndU_z zU
  obtain ⟨r1, r2⟩ := ndRow_at (s := s) (n := n) (i := i) (nm := nm) hc
  have ne : ∀ q, q ≠ 1 → q < 70 + 2 * c ∨ 72 + 2 * c ≤ q → ndRow s n row nm i q = row q := fun q a b => ndRow_lo a (by omega)
  have e1 : ndRow s n row nm i 1 = row 1 + 1 := ndRow_1
  have oth : ∀ a, a ≠ 1 → a ≠ nb → a ≠ nb + 3 → a ≠ nb + 5 → a ≠ nb + 6 → up m6 nb 12 ((c : Int) + 1) a = h a := fun a p1 p2 p3 p4 p5 => by rw [up_ne p2, g6 a p1 p3 p4 p5]
  refine hQ _ _ _ ⟨rfl, rfl, N6.trans (Fnt_up hn (by unfold ntW; omega)), Or.inl ⟨uc, ?_, C6.fr (up_ne (by omega)), ?_⟩⟩
  · rw [up_ne (by omega), F6.2 8 (Or.inr rfl), F5.2 8 (Or.inr rfl), up_ne (by omega), F4.2 8 (Or.inr rfl), F3.2 8 (Or.inr rfl), up_ne (by omega)]; exact g28
  · refine ⟨⟨⟨?_, ?_, ?_⟩, ?_, ?_, ?_⟩, fun c' hc' => ?_, fun q hq => ?_, fun q hq => ?_, fun f hf => ?_, ?_⟩
    · dsimp only; rw [up_nj (by decide), nb6, ne 0 (by decide) (by omega)]; exact RX.1.1
    · dsimp only; rw [up_at, e1, hr]
    · dsimp only; rw [up_nj (by decide), nb6, ne 2 (by decide) (by omega)]; exact RX.1.2.2
    · dsimp only
      rw [oth (nb + 2) (by omega) (by omega) (by omega) (by omega) (by omega), ne 0 (by decide) (by omega)]
      exact NaL_fr RX.2.1 (by omega)
    · dsimp only
      rw [e1, hr, show ((c : Int) + 1).toNat = c + 1 by omega, Int.toNat_natCast]
      refine NaL_add (v := tkVa s n (i + 1)) (u := u) (by have := RX.2.2.1; rw [← hc] at this; exact this) q2 (fun x => z1.2.2 (Or.inr (Or.inl (by rw [← hc]; exact x)))) (fun k hk => ?_) ?_
      · rw [up_ne (by omega), F6.1 _ (by omega), F5.1 _ (by omega), up_ne (by omega), g4b, if_neg (by omega)]
      · rw [up_ne (by omega), F6.1 _ (by omega), F5.1 _ (by omega), up_ne (by omega), g4b, if_pos rfl]
    · dsimp only
      rw [oth (nb + 4) (by omega) (by omega) (by omega) (by omega) (by omega), ne 2 (by decide) (by omega)]
      exact NaL_fr RX.2.2.2 (by omega)
    · dsimp only at hc' ⊢
      rw [ne 0 (by decide) (by omega)] at hc'
      have := Rc c' hc'
      have w := wc c' hc'
      rw [oth (nb + 18 + 2 * c') (by omega) (by omega) (by omega) (by omega) (by omega), oth (nb + 19 + 2 * c') (by omega) (by omega) (by omega) (by omega) (by omega), ne _ (by omega) (by omega), ne _ (by omega) (by omega), ne _ (by omega) (by omega)]
      exact ⟨this.1, this.2.1, this.2.2.1, fun j hj => by rw [ne _ (by omega) (by have := w.1.2; omega)]; exact this.2.2.2 j hj⟩
    · dsimp only at hq ⊢
      have k5 : ∀ a, up m6 nb 12 ((c : Int) + 1) (nb + 5) a = if a = c then whF s n (i + 2) 12 4 else h (nb + 5) a := fun a => by
        rw [up_ne (by omega), F6.1 _ (by omega), F5.1 _ (by omega), up_ne (by omega), F4.1 _ (by omega), F3.1 _ (by omega)]
        by_cases x : a = c
        · rw [if_pos x, x, up_at]
        · rw [if_neg x, up_nj x, g2 _ (by omega) (by omega)]
      have k6 : ∀ a, up m6 nb 12 ((c : Int) + 1) (nb + 6) a = if a = c then v else h (nb + 6) a := fun a => by
        rw [up_ne (by omega), F6.1 _ (by omega), F5.1 _ (by omega)]
        by_cases x : a = c
        · rw [if_pos x, x, up_at]
        · rw [if_neg x, up_nj x, g4 _ (by omega) (by omega) (by omega)]
      rw [k5, k6]
      by_cases x : q = c
      · rw [if_pos x, if_pos x, x, r1, r2, hv, hc0]
        exact ⟨rfl, rfl⟩
      · rw [if_neg x, if_neg x]
        unfold kd cu
        rw [ne _ (by omega) (by omega), ne _ (by omega) (by omega)]
        exact Rn q (by omega)
    · dsimp only
      rw [oth (nb + 14) (by omega) (by omega) (by omega) (by omega) (by omega), ovr_cg W (ne 2 (by decide) (by omega)) (fun j a b => ne j (by omega) (by omega))]
      exact Ro q hq
    · dsimp only at hf ⊢
      rw [ne 2 (by decide) (by omega)] at hf
      have := Rf f hf
      have w := wf f hf
      rw [oth (nb + 7) (by omega) (by omega) (by omega) (by omega) (by omega), oth (nb + 8) (by omega) (by omega) (by omega) (by omega) (by omega), oth (nb + 10 + f) (by omega) (by omega) (by omega) (by omega) (by omega)]
      unfold sby hp nd
      rw [ne _ (by omega) (by omega), ne _ (by omega) (by omega)]
      exact ⟨this.1, this.2.1, fun k hk => by rw [ne _ (by omega) (by omega)]; exact this.2.2 k hk⟩
    · dsimp only
      rw [ne 3 (by decide) (by omega)]
      exact Rl.fr (by rw [up_nj (by decide), nb6]) (oth _ (by omega) (by omega) (by omega) (by omega) (by omega)) (oth _ (by omega) (by omega) (by omega) (by omega) (by omega))
end CND

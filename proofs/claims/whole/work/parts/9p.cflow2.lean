/-! the class: a flow read whole -/
section CF2
variable {l : Launch} {d : Nat} {h : Mem} {s : Nat → Int} {n i nb : Nat} {X : NX}
noncomputable def flX (s : Nat → Int) (n : Nat) (X : NX) (i : Nat) : NX := (flRow s n X.1 X.2.1 i, ru X.2.1 (10 + (X.1 2).toNat) (tkVa s n (i + 1)), X.2.2)
theorem c_readFlow (T : TxC h s n) (C : CuC h s n i) (hn : nb = 4 ∨ nb = 34) (h64 : h 64 2 = (nb : Int) + 1) (W : WQ X.1) (R : CNX h nb X) : Cl l (d + 6) M_X4_readFlow [(2, 65)] SHP h (fun r sh' h' => r = 0 ∧ sh' = SHP ∧ Fnt nb h h' ∧ ((orF (flU s n X.1 X.2.1 i) (snU s n (i + 5 + flM s n X.1 X.2.1 i) 59) = 0 ∧ h' 1 8 = h 1 8 ∧ CuC h' s n (i + 5 + flM s n X.1 X.2.1 i + 1) ∧ CNX h' nb (flX s n X i)) ∨ (orF (flU s n X.1 X.2.1 i) (snU s n (i + 5 + flM s n X.1 X.2.1 i) 59) ≠ 0 ∧ h' 1 8 = orF (flU s n X.1 X.2.1 i) (snU s n (i + 5 + flM s n X.1 X.2.1 i) 59)))) := by
  refine Cl_hide (fun Q hQ => ?_)
  obtain ⟨row, nm, Lw⟩ := X
  dsimp only [flX] at hQ W R ⊢
  obtain ⟨RX, Rc, Rn, Ro, Rf, Rl⟩ := R
  dsimp only at RX Rc Rn Ro Rf Rl
  obtain ⟨⟨w12, w34, ⟨w5, w6⟩⟩, wc, wn, wf⟩ := id W
  have W0' := W.1
  obtain ⟨M, hM⟩ : ∃ M, M = flM s n row nm i := ⟨_, rfl⟩
  obtain ⟨U, hU⟩ : ∃ U, U = orF (flU s n row nm i) (snU s n (i + 5 + flM s n row nm i) 59) := ⟨_, rfl⟩
  rw [← hU, ← hM] at hQ
  have uc := hU
  rw [← hM] at uc
  unfold flU at uc
  obtain ⟨c, hc⟩ : ∃ c : Nat, c = (row 2).toNat := ⟨_, rfl⟩
  have hr : row 2 = (c : Int) := by omega
  have t0 := ly_64_0 T.1
  have o := (net_sh hn).1
  have x13 : h nb 13 = (c : Int) := by rw [RX.1.2.2]; exact hr
  have ixn : ((nb : Int) + 1).toNat - 1 = nb := by omega
  show V l (d + 6) 0 0 M_X4_readFlow 0 0 0 Q [(2, 65), (9, 0), (9, 0)] [] SHP h
  refine S_X4_readFlow_0 _ _ _ _ ?_; simp (disch := omega) only [B_X4_readFlow_0, bi_0, x_ic, x_lc, x_ld, x_st, x_sl, x_inc, x_b32, x_b64, x_d32, x_d64, x_s64, x_un, x_lcmp, x_dup, x_pop, x_dup2, x_if, x_cmp, x_sw, swk, x_ald, x_ast, x_alen, x_getf, x_putf, x_inv, x_mm, x_copy, x_iret, x_lret, x_vret, ok1, pu, ct, rcv, rcs, ent0, List.getElem?_cons_zero, List.getElem?_cons_succ, List.getElem?_nil, List.set_cons_zero, List.set_cons_succ, List.take_succ_cons, List.take_zero, List.drop_succ_cons, List.drop_zero, List.reverse_cons, List.reverse_nil, List.nil_append, List.cons_append, List.length_cons, List.length_nil, true_and, and_true, and_self, ne_eq, not_true_eq_false, not_false_eq_true, reduceIte, true_or, or_true, false_or, or_false, Nat.reduceAdd, Nat.reduceSub, Nat.reduceMul, Nat.reduceLeDiff, Nat.reduceEqDiff, Nat.reduceLT, Nat.le_refl, Nat.zero_le, Int.reduceToNat, Int.reduceAdd, Int.reduceSub, Int.reduceMul, Int.reduceNeg, Int.reduceLT, Int.reduceLE, Int.reduceEq, Nat.zero_add, Nat.add_zero, Nat.reduceBEq, Nat.one_ne_zero, Nat.zero_ne_one, Nat.lt_irrefl, Nat.succ_ne_zero, w32_id, ixc, ixc2, Int.toNat_natCast, ob_64, t0, h64, ob_1, o, ixn, x13]
  refine ⟨fun z => ?_, fun z => ?_⟩
  rotate_left
  · refine Cl.app (c_wrong (l := l) (d := d + 4) T C (w := 5) (by decide)) ?_
    (try simp (disch := omega) only [bi_0, x_ic, x_lc, x_ld, x_st, x_sl, x_inc, x_b32, x_b64, x_d32, x_d64, x_s64, x_un, x_lcmp, x_dup, x_pop, x_dup2, x_if, x_cmp, x_sw, swk, x_ald, x_ast, x_alen, x_getf, x_putf, x_inv, x_mm, x_copy, x_iret, x_lret, x_vret, ok1, pu, ct, rcv, rcs, ent0, List.getElem?_cons_zero, List.getElem?_cons_succ, List.getElem?_nil, List.set_cons_zero, List.set_cons_succ, List.take_succ_cons, List.take_zero, List.drop_succ_cons, List.drop_zero, List.reverse_cons, List.reverse_nil, List.nil_append, List.cons_append, List.length_cons, List.length_nil, true_and, and_true, and_self, ne_eq, not_true_eq_false, not_false_eq_true, reduceIte, true_or, or_true, false_or, or_false, Nat.reduceAdd, Nat.reduceSub, Nat.reduceMul, Nat.reduceLeDiff, Nat.reduceEqDiff, Nat.reduceLT, Nat.le_refl, Nat.zero_le, Int.reduceToNat, Int.reduceAdd, Int.reduceSub, Int.reduceMul, Int.reduceNeg, Int.reduceLT, Int.reduceLE, Int.reduceEq, Nat.zero_add, Nat.add_zero, Nat.reduceBEq, Nat.one_ne_zero, Nat.zero_ne_one, Nat.lt_irrefl, Nat.succ_ne_zero, w32_id, ixc, ixc2, Int.toNat_natCast])
    have b := flt_b (s := s) (n := n) (i := i) (w := 5) (by decide)
    have e : U = flt s n i 5 := by
      rw [uc]
      unfold nmU
      rw [iF_t (show row 2 = 4 by omega)]
      simp only [orF_n (show flt s n i 5 ≠ 0 by omega)]
    exact hQ _ _ _ ⟨rfl, rfl, Fnt_8 hn, Or.inr ⟨by omega, by rw [e]; exact up_at⟩⟩
  have c4 : c < 4 := by omega
  have nu := nnU_nm (s := s) (n := n) (i := i) (row := row) (nm := nm) (many := row 2) (most := 4) (by omega)
  rw [nu] at uc
  -- behind a fault
  have bad : ∀ (m : Mem) (f : Int), f ≠ 0 → U = f → Fnt nb h m → m 1 8 = f → V l (d + 6) 0 0 M_X4_readFlow 0 0 110 Q [(2, 65), (0, (c : Int)), (9, 0)] [] SHP m := by
    intro m f hf e F e8
    refine S_X4_readFlow_110 _ _ _ _ ?_; simp (disch := omega) only [B_X4_readFlow_110, bi_0, x_ic, x_lc, x_ld, x_st, x_sl, x_inc, x_b32, x_b64, x_d32, x_d64, x_s64, x_un, x_lcmp, x_dup, x_pop, x_dup2, x_if, x_cmp, x_sw, swk, x_ald, x_ast, x_alen, x_getf, x_putf, x_inv, x_mm, x_copy, x_iret, x_lret, x_vret, ok1, pu, ct, rcv, rcs, ent0, List.getElem?_cons_zero, List.getElem?_cons_succ, List.getElem?_nil, List.set_cons_zero, List.set_cons_succ, List.take_succ_cons, List.take_zero, List.drop_succ_cons, List.drop_zero, List.reverse_cons, List.reverse_nil, List.nil_append, List.cons_append, List.length_cons, List.length_nil, true_and, and_true, and_self, ne_eq, not_true_eq_false, not_false_eq_true, reduceIte, true_or, or_true, false_or, or_false, Nat.reduceAdd, Nat.reduceSub, Nat.reduceMul, Nat.reduceLeDiff, Nat.reduceEqDiff, Nat.reduceLT, Nat.le_refl, Nat.zero_le, Int.reduceToNat, Int.reduceAdd, Int.reduceSub, Int.reduceMul, Int.reduceNeg, Int.reduceLT, Int.reduceLE, Int.reduceEq, Nat.zero_add, Nat.add_zero, Nat.reduceBEq, Nat.one_ne_zero, Nat.zero_ne_one, Nat.lt_irrefl, Nat.succ_ne_zero, w32_id, ixc, ixc2, Int.toNat_natCast]
    refine S_X4_readFlow_111 _ _ _ _ ?_; simp (disch := omega) only [B_X4_readFlow_111, bi_0, x_ic, x_lc, x_ld, x_st, x_sl, x_inc, x_b32, x_b64, x_d32, x_d64, x_s64, x_un, x_lcmp, x_dup, x_pop, x_dup2, x_if, x_cmp, x_sw, swk, x_ald, x_ast, x_alen, x_getf, x_putf, x_inv, x_mm, x_copy, x_iret, x_lret, x_vret, ok1, pu, ct, rcv, rcs, ent0, List.getElem?_cons_zero, List.getElem?_cons_succ, List.getElem?_nil, List.set_cons_zero, List.set_cons_succ, List.take_succ_cons, List.take_zero, List.drop_succ_cons, List.drop_zero, List.reverse_cons, List.reverse_nil, List.nil_append, List.cons_append, List.length_cons, List.length_nil, true_and, and_true, and_self, ne_eq, not_true_eq_false, not_false_eq_true, reduceIte, true_or, or_true, false_or, or_false, Nat.reduceAdd, Nat.reduceSub, Nat.reduceMul, Nat.reduceLeDiff, Nat.reduceEqDiff, Nat.reduceLT, Nat.le_refl, Nat.zero_le, Int.reduceToNat, Int.reduceAdd, Int.reduceSub, Int.reduceMul, Int.reduceNeg, Int.reduceLT, Int.reduceLE, Int.reduceEq, Nat.zero_add, Nat.add_zero, Nat.reduceBEq, Nat.one_ne_zero, Nat.zero_ne_one, Nat.lt_irrefl, Nat.succ_ne_zero, w32_id, ixc, ixc2, Int.toNat_natCast]
    refine ⟨fun _ => ?_, fun y => y.elim⟩
    refine S_X4_readFlow_129 _ _ _ _ ?_; simp (disch := omega) only [B_X4_readFlow_129, bi_0, x_ic, x_lc, x_ld, x_st, x_sl, x_inc, x_b32, x_b64, x_d32, x_d64, x_s64, x_un, x_lcmp, x_dup, x_pop, x_dup2, x_if, x_cmp, x_sw, swk, x_ald, x_ast, x_alen, x_getf, x_putf, x_inv, x_mm, x_copy, x_iret, x_lret, x_vret, ok1, pu, ct, rcv, rcs, ent0, List.getElem?_cons_zero, List.getElem?_cons_succ, List.getElem?_nil, List.set_cons_zero, List.set_cons_succ, List.take_succ_cons, List.take_zero, List.drop_succ_cons, List.drop_zero, List.reverse_cons, List.reverse_nil, List.nil_append, List.cons_append, List.length_cons, List.length_nil, true_and, and_true, and_self, ne_eq, not_true_eq_false, not_false_eq_true, reduceIte, true_or, or_true, false_or, or_false, Nat.reduceAdd, Nat.reduceSub, Nat.reduceMul, Nat.reduceLeDiff, Nat.reduceEqDiff, Nat.reduceLT, Nat.le_refl, Nat.zero_le, Int.reduceToNat, Int.reduceAdd, Int.reduceSub, Int.reduceMul, Int.reduceNeg, Int.reduceLT, Int.reduceLE, Int.reduceEq, Nat.zero_add, Nat.add_zero, Nat.reduceBEq, Nat.one_ne_zero, Nat.zero_ne_one, Nat.lt_irrefl, Nat.succ_ne_zero, w32_id, ixc, ixc2, Int.toNat_natCast]
    exact hQ _ _ _ ⟨rfl, rfl, F, Or.inr ⟨by omega, by rw [e8, e]⟩⟩
  refine S_X4_readFlow_23 _ _ _ _ ?_; simp (disch := omega) only [B_X4_readFlow_23, bi_0, x_ic, x_lc, x_ld, x_st, x_sl, x_inc, x_b32, x_b64, x_d32, x_d64, x_s64, x_un, x_lcmp, x_dup, x_pop, x_dup2, x_if, x_cmp, x_sw, swk, x_ald, x_ast, x_alen, x_getf, x_putf, x_inv, x_mm, x_copy, x_iret, x_lret, x_vret, ok1, pu, ct, rcv, rcs, ent0, List.getElem?_cons_zero, List.getElem?_cons_succ, List.getElem?_nil, List.set_cons_zero, List.set_cons_succ, List.take_succ_cons, List.take_zero, List.drop_succ_cons, List.drop_zero, List.reverse_cons, List.reverse_nil, List.nil_append, List.cons_append, List.length_cons, List.length_nil, true_and, and_true, and_self, ne_eq, not_true_eq_false, not_false_eq_true, reduceIte, true_or, or_true, false_or, or_false, Nat.reduceAdd, Nat.reduceSub, Nat.reduceMul, Nat.reduceLeDiff, Nat.reduceEqDiff, Nat.reduceLT, Nat.le_refl, Nat.zero_le, Int.reduceToNat, Int.reduceAdd, Int.reduceSub, Int.reduceMul, Int.reduceNeg, Int.reduceLT, Int.reduceLE, Int.reduceEq, Nat.zero_add, Nat.add_zero, Nat.reduceBEq, Nat.one_ne_zero, Nat.zero_ne_one, Nat.lt_irrefl, Nat.succ_ne_zero, w32_id, ixc, ixc2, Int.toNat_natCast, ob_64, t0, h64, ob_1]
  refine Cl.imp (c_next (l := l) (d := d + 2) T C) (fun r sh' m1 q => ?_)
  obtain ⟨rfl, rfl, F1, C1⟩ := q
  have T1 := T.fs F1
  have h1 : m1 64 2 = (nb : Int) + 1 := by rw [F1.1 64 (by decide)]; exact h64
  have RX1 : NmX m1 nb row nm := RX.fr (F1.1 _ (by omega)) (F1.1 _ (by omega)) (F1.1 _ (by omega)) (F1.1 _ (by omega))
  (try simp (disch := omega) only [bi_0, x_ic, x_lc, x_ld, x_st, x_sl, x_inc, x_b32, x_b64, x_d32, x_d64, x_s64, x_un, x_lcmp, x_dup, x_pop, x_dup2, x_if, x_cmp, x_sw, swk, x_ald, x_ast, x_alen, x_getf, x_putf, x_inv, x_mm, x_copy, x_iret, x_lret, x_vret, ok1, pu, ct, rcv, rcs, ent0, List.getElem?_cons_zero, List.getElem?_cons_succ, List.getElem?_nil, List.set_cons_zero, List.set_cons_succ, List.take_succ_cons, List.take_zero, List.drop_succ_cons, List.drop_zero, List.reverse_cons, List.reverse_nil, List.nil_append, List.cons_append, List.length_cons, List.length_nil, true_and, and_true, and_self, ne_eq, not_true_eq_false, not_false_eq_true, reduceIte, true_or, or_true, false_or, or_false, Nat.reduceAdd, Nat.reduceSub, Nat.reduceMul, Nat.reduceLeDiff, Nat.reduceEqDiff, Nat.reduceLT, Nat.le_refl, Nat.zero_le, Int.reduceToNat, Int.reduceAdd, Int.reduceSub, Int.reduceMul, Int.reduceNeg, Int.reduceLT, Int.reduceLE, Int.reduceEq, Nat.zero_add, Nat.add_zero, Nat.reduceBEq, Nat.one_ne_zero, Nat.zero_ne_one, Nat.lt_irrefl, Nat.succ_ne_zero, w32_id, ixc, ixc2, Int.toNat_natCast, ob_64, h1, o, ixn, nf3 T1.1 hn])
  refine Cl.imp (c_newName (l := l) (d := d + 1) T1 C1 hn h1 W0' RX1 (x := nb + 4) (k := c) (z := 4) (by omega) (nln4 hn) (by omega) (by decide)) (fun r sh' m2 q => ?_)
  obtain ⟨rfl, q⟩ := q
  rcases q with ⟨q1, rfl, q2, F2, C2⟩ | ⟨q1, rfl, e2⟩
  rotate_left
  · (try simp (disch := omega) only [bi_0, x_ic, x_lc, x_ld, x_st, x_sl, x_inc, x_b32, x_b64, x_d32, x_d64, x_s64, x_un, x_lcmp, x_dup, x_pop, x_dup2, x_if, x_cmp, x_sw, swk, x_ald, x_ast, x_alen, x_getf, x_putf, x_inv, x_mm, x_copy, x_iret, x_lret, x_vret, ok1, pu, ct, rcv, rcs, ent0, List.getElem?_cons_zero, List.getElem?_cons_succ, List.getElem?_nil, List.set_cons_zero, List.set_cons_succ, List.take_succ_cons, List.take_zero, List.drop_succ_cons, List.drop_zero, List.reverse_cons, List.reverse_nil, List.nil_append, List.cons_append, List.length_cons, List.length_nil, true_and, and_true, and_self, ne_eq, not_true_eq_false, not_false_eq_true, reduceIte, true_or, or_true, false_or, or_false, Nat.reduceAdd, Nat.reduceSub, Nat.reduceMul, Nat.reduceLeDiff, Nat.reduceEqDiff, Nat.reduceLT, Nat.le_refl, Nat.zero_le, Int.reduceToNat, Int.reduceAdd, Int.reduceSub, Int.reduceMul, Int.reduceNeg, Int.reduceLT, Int.reduceLE, Int.reduceEq, Nat.zero_add, Nat.add_zero, Nat.reduceBEq, Nat.one_ne_zero, Nat.zero_ne_one, Nat.lt_irrefl, Nat.succ_ne_zero, w32_id, ixc, ixc2, Int.toNat_natCast])
    refine ⟨fun _ => ?_, fun y => y.elim⟩
    simp only [orF_n q1] at uc
    exact bad m2 _ q1 uc ((F1.nt hn).trans (by rw [e2]; exact Fnt_8 hn)) (by rw [e2]; exact up_at)
  rw [q1, orF_0] at uc
  obtain ⟨u, hu⟩ : ∃ u, u = m1 1 7 := ⟨_, rfl⟩
  rw [← hu] at q2 F2
  have N2 : Fnt nb h m2 := (F1.nt hn).trans ((Fnt_up hn (by unfold ntW; omega)).trans (F2.nt hn))
  have T2 := N2.tx hn T
  have t2 := ly_64_0 T2.1
  have g2 : ∀ a, a ≠ 1 → a ≠ nb + 4 → m2 a = h a := fun a p q => by rw [F2.1 a p, up_ne q, F1.1 a p]
  have g2b : ∀ a, m2 (nb + 4) a = if a = c then u else h (nb + 4) a := fun a => by
    rw [F2.1 (nb + 4) (by omega)]
    by_cases x : a = c
    · rw [if_pos x, x, up_at]
    · rw [if_neg x, up_nj x, F1.1 (nb + 4) (by omega)]
  have g28 : m2 1 8 = h 1 8 := by rw [F2.2 8 (Or.inr rfl), up_ne (by omega), F1.2 8 (Or.inr rfl)]
  (try simp (disch := omega) only [bi_0, x_ic, x_lc, x_ld, x_st, x_sl, x_inc, x_b32, x_b64, x_d32, x_d64, x_s64, x_un, x_lcmp, x_dup, x_pop, x_dup2, x_if, x_cmp, x_sw, swk, x_ald, x_ast, x_alen, x_getf, x_putf, x_inv, x_mm, x_copy, x_iret, x_lret, x_vret, ok1, pu, ct, rcv, rcs, ent0, List.getElem?_cons_zero, List.getElem?_cons_succ, List.getElem?_nil, List.set_cons_zero, List.set_cons_succ, List.take_succ_cons, List.take_zero, List.drop_succ_cons, List.drop_zero, List.reverse_cons, List.reverse_nil, List.nil_append, List.cons_append, List.length_cons, List.length_nil, true_and, and_true, and_self, ne_eq, not_true_eq_false, not_false_eq_true, reduceIte, true_or, or_true, false_or, or_false, Nat.reduceAdd, Nat.reduceSub, Nat.reduceMul, Nat.reduceLeDiff, Nat.reduceEqDiff, Nat.reduceLT, Nat.le_refl, Nat.zero_le, Int.reduceToNat, Int.reduceAdd, Int.reduceSub, Int.reduceMul, Int.reduceNeg, Int.reduceLT, Int.reduceLE, Int.reduceEq, Nat.zero_add, Nat.add_zero, Nat.reduceBEq, Nat.one_ne_zero, Nat.zero_ne_one, Nat.lt_irrefl, Nat.succ_ne_zero, w32_id, ixc, ixc2, Int.toNat_natCast, ob_64, t2, ob_1])
  refine ⟨fun y => y.elim, fun _ => ?_⟩
  refine Cl.imp (c_takeW (l := l) (d := d + 1) T2 C2 (w := 7) (by decide) rfl) (fun r sh' m3 q => ?_)
  obtain ⟨rfl, q⟩ := q
  rcases q with ⟨q3, rfl, F3, C3⟩ | ⟨q3, rfl, e3⟩
  rotate_left
  · (try simp (disch := omega) only [bi_0, x_ic, x_lc, x_ld, x_st, x_sl, x_inc, x_b32, x_b64, x_d32, x_d64, x_s64, x_un, x_lcmp, x_dup, x_pop, x_dup2, x_if, x_cmp, x_sw, swk, x_ald, x_ast, x_alen, x_getf, x_putf, x_inv, x_mm, x_copy, x_iret, x_lret, x_vret, ok1, pu, ct, rcv, rcs, ent0, List.getElem?_cons_zero, List.getElem?_cons_succ, List.getElem?_nil, List.set_cons_zero, List.set_cons_succ, List.take_succ_cons, List.take_zero, List.drop_succ_cons, List.drop_zero, List.reverse_cons, List.reverse_nil, List.nil_append, List.cons_append, List.length_cons, List.length_nil, true_and, and_true, and_self, ne_eq, not_true_eq_false, not_false_eq_true, reduceIte, true_or, or_true, false_or, or_false, Nat.reduceAdd, Nat.reduceSub, Nat.reduceMul, Nat.reduceLeDiff, Nat.reduceEqDiff, Nat.reduceLT, Nat.le_refl, Nat.zero_le, Int.reduceToNat, Int.reduceAdd, Int.reduceSub, Int.reduceMul, Int.reduceNeg, Int.reduceLT, Int.reduceLE, Int.reduceEq, Nat.zero_add, Nat.add_zero, Nat.reduceBEq, Nat.one_ne_zero, Nat.zero_ne_one, Nat.lt_irrefl, Nat.succ_ne_zero, w32_id, ixc, ixc2, Int.toNat_natCast])
    refine ⟨fun _ => ?_, fun y => y.elim⟩
    simp only [orF_n q3] at uc
    exact bad m3 _ q3 uc (N2.trans (by rw [e3]; exact Fnt_8 hn)) (by rw [e3]; exact up_at)
  rw [q3, orF_0] at uc
  have N3 := N2.trans (F3.nt hn)
  have T3 := N3.tx hn T
  have h3 : m3 64 2 = (nb : Int) + 1 := by rw [N3.1 64 (by decide) (by omega)]; exact h64
  have g3 : ∀ a, a ≠ 1 → a ≠ nb + 4 → m3 a = h a := fun a p1 p2 => by rw [F3.1 a p1, g2 a p1 p2]
  have nb3 : m3 nb = h nb := g3 nb (by omega) (by omega)
  obtain ⟨c0, hc0⟩ : ∃ c0 : Nat, c0 = (row 0).toNat := ⟨_, rfl⟩
  obtain ⟨kk, hkk⟩ : ∃ kk : Nat, kk = (row 1).toNat := ⟨_, rfl⟩
  rw [← hc0, ← hkk] at uc
  (try simp (disch := omega) only [bi_0, x_ic, x_lc, x_ld, x_st, x_sl, x_inc, x_b32, x_b64, x_d32, x_d64, x_s64, x_un, x_lcmp, x_dup, x_pop, x_dup2, x_if, x_cmp, x_sw, swk, x_ald, x_ast, x_alen, x_getf, x_putf, x_inv, x_mm, x_copy, x_iret, x_lret, x_vret, ok1, pu, ct, rcv, rcs, ent0, List.getElem?_cons_zero, List.getElem?_cons_succ, List.getElem?_nil, List.set_cons_zero, List.set_cons_succ, List.take_succ_cons, List.take_zero, List.drop_succ_cons, List.drop_zero, List.reverse_cons, List.reverse_nil, List.nil_append, List.cons_append, List.length_cons, List.length_nil, true_and, and_true, and_self, ne_eq, not_true_eq_false, not_false_eq_true, reduceIte, true_or, or_true, false_or, or_false, Nat.reduceAdd, Nat.reduceSub, Nat.reduceMul, Nat.reduceLeDiff, Nat.reduceEqDiff, Nat.reduceLT, Nat.le_refl, Nat.zero_le, Int.reduceToNat, Int.reduceAdd, Int.reduceSub, Int.reduceMul, Int.reduceNeg, Int.reduceLT, Int.reduceLE, Int.reduceEq, Nat.zero_add, Nat.add_zero, Nat.reduceBEq, Nat.one_ne_zero, Nat.zero_ne_one, Nat.lt_irrefl, Nat.succ_ne_zero, w32_id, ixc, ixc2, Int.toNat_natCast, ob_64, h3, o, ixn, nf6 T3.1 hn])
  refine ⟨fun y => y.elim, fun _ => ?_⟩
  refine Cl.imp (c_curveName (l := l) (d := d + 1) (nm := nm) T3 C3 hn h3 (x := nb + 7) (k := c) (c0 := c0) (by rw [nb3, RX.1.1]; omega) (by omega) (by rw [g3 _ (by omega) (by omega), hc0]; exact RX.2.1) (Or.inr rfl) c4) (fun r sh' m4 q => ?_)
  obtain ⟨rfl, q⟩ := q
  rcases q with ⟨q4, rfl, F4, C4⟩ | ⟨q4, rfl, N4, e4⟩
  rotate_left
  · (try simp (disch := omega) only [bi_0, x_ic, x_lc, x_ld, x_st, x_sl, x_inc, x_b32, x_b64, x_d32, x_d64, x_s64, x_un, x_lcmp, x_dup, x_pop, x_dup2, x_if, x_cmp, x_sw, swk, x_ald, x_ast, x_alen, x_getf, x_putf, x_inv, x_mm, x_copy, x_iret, x_lret, x_vret, ok1, pu, ct, rcv, rcs, ent0, List.getElem?_cons_zero, List.getElem?_cons_succ, List.getElem?_nil, List.set_cons_zero, List.set_cons_succ, List.take_succ_cons, List.take_zero, List.drop_succ_cons, List.drop_zero, List.reverse_cons, List.reverse_nil, List.nil_append, List.cons_append, List.length_cons, List.length_nil, true_and, and_true, and_self, ne_eq, not_true_eq_false, not_false_eq_true, reduceIte, true_or, or_true, false_or, or_false, Nat.reduceAdd, Nat.reduceSub, Nat.reduceMul, Nat.reduceLeDiff, Nat.reduceEqDiff, Nat.reduceLT, Nat.le_refl, Nat.zero_le, Int.reduceToNat, Int.reduceAdd, Int.reduceSub, Int.reduceMul, Int.reduceNeg, Int.reduceLT, Int.reduceLE, Int.reduceEq, Nat.zero_add, Nat.add_zero, Nat.reduceBEq, Nat.one_ne_zero, Nat.zero_ne_one, Nat.lt_irrefl, Nat.succ_ne_zero, w32_id, ixc, ixc2, Int.toNat_natCast])
    refine ⟨fun _ => ?_, fun y => y.elim⟩
    rw [show i + 1 + 1 + 1 = i + 3 by omega] at q4 e4
    simp only [orF_n q4] at uc
    exact bad m4 _ q4 uc (N3.trans N4) e4
  rw [q4, orF_0] at uc
  obtain ⟨v, hv⟩ : ∃ v, v = naF nm (tkVa s n (i + 1 + 1 + 1)) 0 c0 := ⟨_, rfl⟩
  rw [← hv] at F4
  have N4 := N3.trans ((Fnt_up hn (by unfold ntW; omega)).trans (F4.nt hn))
  have T4 := N4.tx hn T
  have t4 := ly_64_0 T4.1
  (try simp (disch := omega) only [bi_0, x_ic, x_lc, x_ld, x_st, x_sl, x_inc, x_b32, x_b64, x_d32, x_d64, x_s64, x_un, x_lcmp, x_dup, x_pop, x_dup2, x_if, x_cmp, x_sw, swk, x_ald, x_ast, x_alen, x_getf, x_putf, x_inv, x_mm, x_copy, x_iret, x_lret, x_vret, ok1, pu, ct, rcv, rcs, ent0, List.getElem?_cons_zero, List.getElem?_cons_succ, List.getElem?_nil, List.set_cons_zero, List.set_cons_succ, List.take_succ_cons, List.take_zero, List.drop_succ_cons, List.drop_zero, List.reverse_cons, List.reverse_nil, List.nil_append, List.cons_append, List.length_cons, List.length_nil, true_and, and_true, and_self, ne_eq, not_true_eq_false, not_false_eq_true, reduceIte, true_or, or_true, false_or, or_false, Nat.reduceAdd, Nat.reduceSub, Nat.reduceMul, Nat.reduceLeDiff, Nat.reduceEqDiff, Nat.reduceLT, Nat.le_refl, Nat.zero_le, Int.reduceToNat, Int.reduceAdd, Int.reduceSub, Int.reduceMul, Int.reduceNeg, Int.reduceLT, Int.reduceLE, Int.reduceEq, Nat.zero_add, Nat.add_zero, Nat.reduceBEq, Nat.one_ne_zero, Nat.zero_ne_one, Nat.lt_irrefl, Nat.succ_ne_zero, w32_id, ixc, ixc2, Int.toNat_natCast, ob_64, t4, ob_1])
  refine ⟨fun y => y.elim, fun _ => ?_⟩
  refine Cl.imp (c_takeW (l := l) (d := d + 1) T4 C4 (w := 8) (by decide) rfl) (fun r sh' m5 q => ?_)
  obtain ⟨rfl, q⟩ := q
  rcases q with ⟨q5, rfl, F5, C5⟩ | ⟨q5, rfl, e5⟩
  rotate_left
  · (try simp (disch := omega) only [bi_0, x_ic, x_lc, x_ld, x_st, x_sl, x_inc, x_b32, x_b64, x_d32, x_d64, x_s64, x_un, x_lcmp, x_dup, x_pop, x_dup2, x_if, x_cmp, x_sw, swk, x_ald, x_ast, x_alen, x_getf, x_putf, x_inv, x_mm, x_copy, x_iret, x_lret, x_vret, ok1, pu, ct, rcv, rcs, ent0, List.getElem?_cons_zero, List.getElem?_cons_succ, List.getElem?_nil, List.set_cons_zero, List.set_cons_succ, List.take_succ_cons, List.take_zero, List.drop_succ_cons, List.drop_zero, List.reverse_cons, List.reverse_nil, List.nil_append, List.cons_append, List.length_cons, List.length_nil, true_and, and_true, and_self, ne_eq, not_true_eq_false, not_false_eq_true, reduceIte, true_or, or_true, false_or, or_false, Nat.reduceAdd, Nat.reduceSub, Nat.reduceMul, Nat.reduceLeDiff, Nat.reduceEqDiff, Nat.reduceLT, Nat.le_refl, Nat.zero_le, Int.reduceToNat, Int.reduceAdd, Int.reduceSub, Int.reduceMul, Int.reduceNeg, Int.reduceLT, Int.reduceLE, Int.reduceEq, Nat.zero_add, Nat.add_zero, Nat.reduceBEq, Nat.one_ne_zero, Nat.zero_ne_one, Nat.lt_irrefl, Nat.succ_ne_zero, w32_id, ixc, ixc2, Int.toNat_natCast])
    refine ⟨fun _ => ?_, fun y => y.elim⟩
    simp only [orF_n q5] at uc
    exact bad m5 _ q5 uc (N4.trans (by rw [e5]; exact Fnt_8 hn)) (by rw [e5]; exact up_at)
  rw [q5, orF_0] at uc
  have N5 := N4.trans (F5.nt hn)
  have T5 := N5.tx hn T
  have h5 : m5 64 2 = (nb : Int) + 1 := by rw [N5.1 64 (by decide) (by omega)]; exact h64
  have g5 : ∀ a, a ≠ 1 → a ≠ nb + 4 → a ≠ nb + 7 → m5 a = h a := fun a p1 p2 p3 => by rw [F5.1 a p1, F4.1 a p1, up_ne p3, g3 a p1 p2]
  have g5b : ∀ a, m5 (nb + 4) a = if a = c then u else h (nb + 4) a := fun a => by rw [F5.1 _ (by omega), F4.1 _ (by omega), up_ne (by omega), F3.1 _ (by omega)]; exact g2b a
  have g5c : ∀ a, m5 (nb + 7) a = if a = c then v else h (nb + 7) a := fun a => by
    rw [F5.1 _ (by omega), F4.1 _ (by omega)]
    by_cases x : a = c
    · rw [if_pos x, x, up_at]
    · rw [if_neg x, up_nj x, g3 _ (by omega) (by omega)]
  have g58 : m5 1 8 = h 1 8 := by rw [F5.2 8 (Or.inr rfl), F4.2 8 (Or.inr rfl), up_ne (by omega), F3.2 8 (Or.inr rfl)]; exact g28
  have Mw : (wyF s n nm kk (i + 5) 5 0).2 = M := by rw [hM, hkk]; rfl
  (try simp (disch := omega) only [bi_0, x_ic, x_lc, x_ld, x_st, x_sl, x_inc, x_b32, x_b64, x_d32, x_d64, x_s64, x_un, x_lcmp, x_dup, x_pop, x_dup2, x_if, x_cmp, x_sw, swk, x_ald, x_ast, x_alen, x_getf, x_putf, x_inv, x_mm, x_copy, x_iret, x_lret, x_vret, ok1, pu, ct, rcv, rcs, ent0, List.getElem?_cons_zero, List.getElem?_cons_succ, List.getElem?_nil, List.set_cons_zero, List.set_cons_succ, List.take_succ_cons, List.take_zero, List.drop_succ_cons, List.drop_zero, List.reverse_cons, List.reverse_nil, List.nil_append, List.cons_append, List.length_cons, List.length_nil, true_and, and_true, and_self, ne_eq, not_true_eq_false, not_false_eq_true, reduceIte, true_or, or_true, false_or, or_false, Nat.reduceAdd, Nat.reduceSub, Nat.reduceMul, Nat.reduceLeDiff, Nat.reduceEqDiff, Nat.reduceLT, Nat.le_refl, Nat.zero_le, Int.reduceToNat, Int.reduceAdd, Int.reduceSub, Int.reduceMul, Int.reduceNeg, Int.reduceLT, Int.reduceLE, Int.reduceEq, Nat.zero_add, Nat.add_zero, Nat.reduceBEq, Nat.one_ne_zero, Nat.zero_ne_one, Nat.lt_irrefl, Nat.succ_ne_zero, w32_id, ixc, ixc2, Int.toNat_natCast, ob_64])
  refine ⟨fun y => y.elim, fun _ => ?_⟩
  refine Cl.imp (c_readWay (l := l) (d := d) (row := row) (nm := nm) (kk := kk) T5 C5 hn h5 c4 (by rw [g5 nb (by omega) (by omega) (by omega), RX.1.2.1]; omega) (by omega) (by rw [g5 _ (by omega) (by omega) (by omega), hkk]; exact RX.2.2.1) (by rw [g5 _ (by omega) (by omega) (by omega)]; exact Ro)) (fun r sh' m6 q => ?_)
  obtain ⟨rfl, q⟩ := q
  rw [show i + 1 + 1 + 1 + 1 + 1 = i + 5 by omega] at q
  rcases q with ⟨q6, rfl, F6, C6, S6⟩ | ⟨q6, rfl, N6, e6⟩
  rotate_left
  · (try simp (disch := omega) only [bi_0, x_ic, x_lc, x_ld, x_st, x_sl, x_inc, x_b32, x_b64, x_d32, x_d64, x_s64, x_un, x_lcmp, x_dup, x_pop, x_dup2, x_if, x_cmp, x_sw, swk, x_ald, x_ast, x_alen, x_getf, x_putf, x_inv, x_mm, x_copy, x_iret, x_lret, x_vret, ok1, pu, ct, rcv, rcs, ent0, List.getElem?_cons_zero, List.getElem?_cons_succ, List.getElem?_nil, List.set_cons_zero, List.set_cons_succ, List.take_succ_cons, List.take_zero, List.drop_succ_cons, List.drop_zero, List.reverse_cons, List.reverse_nil, List.nil_append, List.cons_append, List.length_cons, List.length_nil, true_and, and_true, and_self, ne_eq, not_true_eq_false, not_false_eq_true, reduceIte, true_or, or_true, false_or, or_false, Nat.reduceAdd, Nat.reduceSub, Nat.reduceMul, Nat.reduceLeDiff, Nat.reduceEqDiff, Nat.reduceLT, Nat.le_refl, Nat.zero_le, Int.reduceToNat, Int.reduceAdd, Int.reduceSub, Int.reduceMul, Int.reduceNeg, Int.reduceLT, Int.reduceLE, Int.reduceEq, Nat.zero_add, Nat.add_zero, Nat.reduceBEq, Nat.one_ne_zero, Nat.zero_ne_one, Nat.lt_irrefl, Nat.succ_ne_zero, w32_id, ixc, ixc2, Int.toNat_natCast])
    refine ⟨fun _ => ?_, fun y => y.elim⟩
    simp only [orF_n q6] at uc
    exact bad m6 _ q6 uc (N5.trans N6) e6
  rw [q6, orF_0] at uc
  rw [Mw] at C6 S6
  have N6 := N5.trans (F6.nt hn c4)
  have T6 := N6.tx hn T
  have t6 := ly_64_0 T6.1
  (try simp (disch := omega) only [bi_0, x_ic, x_lc, x_ld, x_st, x_sl, x_inc, x_b32, x_b64, x_d32, x_d64, x_s64, x_un, x_lcmp, x_dup, x_pop, x_dup2, x_if, x_cmp, x_sw, swk, x_ald, x_ast, x_alen, x_getf, x_putf, x_inv, x_mm, x_copy, x_iret, x_lret, x_vret, ok1, pu, ct, rcv, rcs, ent0, List.getElem?_cons_zero, List.getElem?_cons_succ, List.getElem?_nil, List.set_cons_zero, List.set_cons_succ, List.take_succ_cons, List.take_zero, List.drop_succ_cons, List.drop_zero, List.reverse_cons, List.reverse_nil, List.nil_append, List.cons_append, List.length_cons, List.length_nil, true_and, and_true, and_self, ne_eq, not_true_eq_false, not_false_eq_true, reduceIte, true_or, or_true, false_or, or_false, Nat.reduceAdd, Nat.reduceSub, Nat.reduceMul, Nat.reduceLeDiff, Nat.reduceEqDiff, Nat.reduceLT, Nat.le_refl, Nat.zero_le, Int.reduceToNat, Int.reduceAdd, Int.reduceSub, Int.reduceMul, Int.reduceNeg, Int.reduceLT, Int.reduceLE, Int.reduceEq, Nat.zero_add, Nat.add_zero, Nat.reduceBEq, Nat.one_ne_zero, Nat.zero_ne_one, Nat.lt_irrefl, Nat.succ_ne_zero, w32_id, ixc, ixc2, Int.toNat_natCast, ob_64, t6, ob_1])
  refine ⟨fun y => y.elim, fun _ => ?_⟩
  refine Cl.imp (c_takeS (l := l) (d := d + 1) T6 C6 sg59) (fun r sh' m7 q => ?_)
  obtain ⟨rfl, q⟩ := q
  rcases q with ⟨q7, rfl, F7, C7⟩ | ⟨q7, rfl, e7⟩
  rotate_left
  · (try simp (disch := omega) only [bi_0, x_ic, x_lc, x_ld, x_st, x_sl, x_inc, x_b32, x_b64, x_d32, x_d64, x_s64, x_un, x_lcmp, x_dup, x_pop, x_dup2, x_if, x_cmp, x_sw, swk, x_ald, x_ast, x_alen, x_getf, x_putf, x_inv, x_mm, x_copy, x_iret, x_lret, x_vret, ok1, pu, ct, rcv, rcs, ent0, List.getElem?_cons_zero, List.getElem?_cons_succ, List.getElem?_nil, List.set_cons_zero, List.set_cons_succ, List.take_succ_cons, List.take_zero, List.drop_succ_cons, List.drop_zero, List.reverse_cons, List.reverse_nil, List.nil_append, List.cons_append, List.length_cons, List.length_nil, true_and, and_true, and_self, ne_eq, not_true_eq_false, not_false_eq_true, reduceIte, true_or, or_true, false_or, or_false, Nat.reduceAdd, Nat.reduceSub, Nat.reduceMul, Nat.reduceLeDiff, Nat.reduceEqDiff, Nat.reduceLT, Nat.le_refl, Nat.zero_le, Int.reduceToNat, Int.reduceAdd, Int.reduceSub, Int.reduceMul, Int.reduceNeg, Int.reduceLT, Int.reduceLE, Int.reduceEq, Nat.zero_add, Nat.add_zero, Nat.reduceBEq, Nat.one_ne_zero, Nat.zero_ne_one, Nat.lt_irrefl, Nat.succ_ne_zero, w32_id, ixc, ixc2, Int.toNat_natCast])
    refine ⟨fun _ => ?_, fun y => y.elim⟩
    exact bad m7 _ q7 uc (N6.trans (by rw [e7]; exact Fnt_8 hn)) (by rw [e7]; exact up_at)
  rw [q7] at uc
  have N7 := N6.trans (F7.nt hn)
  have S7 := S6.fs hn F7
  have g7 : ∀ a, a ≠ 1 → a ≠ nb + 4 → a ≠ nb + 7 → a ≠ nb + 8 → a ≠ nb + 10 + c → a ≠ nb + 14 → m7 a = h a := fun a p1 p2 p3 p4 p5 p6 => by rw [F7.1 a p1, F6.1 a p1 p4 p5 p6, g5 a p1 p2 p3]
  have h7 : m7 64 2 = (nb : Int) + 1 := by rw [N7.1 64 (by decide) (by omega)]; exact h64
  have nb7 : m7 nb = h nb := g7 nb (by omega) (by omega) (by omega) (by omega) (by omega) (by omega)
  have x137 : m7 nb 13 = (c : Int) := by rw [nb7]; exact x13
  (try simp (disch := omega) only [bi_0, x_ic, x_lc, x_ld, x_st, x_sl, x_inc, x_b32, x_b64, x_d32, x_d64, x_s64, x_un, x_lcmp, x_dup, x_pop, x_dup2, x_if, x_cmp, x_sw, swk, x_ald, x_ast, x_alen, x_getf, x_putf, x_inv, x_mm, x_copy, x_iret, x_lret, x_vret, ok1, pu, ct, rcv, rcs, ent0, List.getElem?_cons_zero, List.getElem?_cons_succ, List.getElem?_nil, List.set_cons_zero, List.set_cons_succ, List.take_succ_cons, List.take_zero, List.drop_succ_cons, List.drop_zero, List.reverse_cons, List.reverse_nil, List.nil_append, List.cons_append, List.length_cons, List.length_nil, true_and, and_true, and_self, ne_eq, not_true_eq_false, not_false_eq_true, reduceIte, true_or, or_true, false_or, or_false, Nat.reduceAdd, Nat.reduceSub, Nat.reduceMul, Nat.reduceLeDiff, Nat.reduceEqDiff, Nat.reduceLT, Nat.le_refl, Nat.zero_le, Int.reduceToNat, Int.reduceAdd, Int.reduceSub, Int.reduceMul, Int.reduceNeg, Int.reduceLT, Int.reduceLE, Int.reduceEq, Nat.zero_add, Nat.add_zero, Nat.reduceBEq, Nat.one_ne_zero, Nat.zero_ne_one, Nat.lt_irrefl, Nat.succ_ne_zero, w32_id, ixc, ixc2, Int.toNat_natCast])
  refine ⟨fun y => y.elim, fun _ => ?_⟩
  refine S_X4_readFlow_111 _ _ _ _ ?_; simp (disch := omega) only [B_X4_readFlow_111, bi_0, x_ic, x_lc, x_ld, x_st, x_sl, x_inc, x_b32, x_b64, x_d32, x_d64, x_s64, x_un, x_lcmp, x_dup, x_pop, x_dup2, x_if, x_cmp, x_sw, swk, x_ald, x_ast, x_alen, x_getf, x_putf, x_inv, x_mm, x_copy, x_iret, x_lret, x_vret, ok1, pu, ct, rcv, rcs, ent0, List.getElem?_cons_zero, List.getElem?_cons_succ, List.getElem?_nil, List.set_cons_zero, List.set_cons_succ, List.take_succ_cons, List.take_zero, List.drop_succ_cons, List.drop_zero, List.reverse_cons, List.reverse_nil, List.nil_append, List.cons_append, List.length_cons, List.length_nil, true_and, and_true, and_self, ne_eq, not_true_eq_false, not_false_eq_true, reduceIte, true_or, or_true, false_or, or_false, Nat.reduceAdd, Nat.reduceSub, Nat.reduceMul, Nat.reduceLeDiff, Nat.reduceEqDiff, Nat.reduceLT, Nat.le_refl, Nat.zero_le, Int.reduceToNat, Int.reduceAdd, Int.reduceSub, Int.reduceMul, Int.reduceNeg, Int.reduceLT, Int.reduceLE, Int.reduceEq, Nat.zero_add, Nat.add_zero, Nat.reduceBEq, Nat.one_ne_zero, Nat.zero_ne_one, Nat.lt_irrefl, Nat.succ_ne_zero, w32_id, ixc, ixc2, Int.toNat_natCast, ob_64, h7, o, ixn, x137]
  refine ⟨fun y => y.elim, fun _ => ?_⟩
  refine S_X4_readFlow_129 _ _ _ _ ?_; simp (disch := omega) only [B_X4_readFlow_129, bi_0, x_ic, x_lc, x_ld, x_st, x_sl, x_inc, x_b32, x_b64, x_d32, x_d64, x_s64, x_un, x_lcmp, x_dup, x_pop, x_dup2, x_if, x_cmp, x_sw, swk, x_ald, x_ast, x_alen, x_getf, x_putf, x_inv, x_mm, x_copy, x_iret, x_lret, x_vret, ok1, pu, ct, rcv, rcs, ent0, List.getElem?_cons_zero, List.getElem?_cons_succ, List.getElem?_nil, List.set_cons_zero, List.set_cons_succ, List.take_succ_cons, List.take_zero, List.drop_succ_cons, List.drop_zero, List.reverse_cons, List.reverse_nil, List.nil_append, List.cons_append, List.length_cons, List.length_nil, true_and, and_true, and_self, ne_eq, not_true_eq_false, not_false_eq_true, reduceIte, true_or, or_true, false_or, or_false, Nat.reduceAdd, Nat.reduceSub, Nat.reduceMul, Nat.reduceLeDiff, Nat.reduceEqDiff, Nat.reduceLT, Nat.le_refl, Nat.zero_le, Int.reduceToNat, Int.reduceAdd, Int.reduceSub, Int.reduceMul, Int.reduceNeg, Int.reduceLT, Int.reduceLE, Int.reduceEq, Nat.zero_add, Nat.add_zero, Nat.reduceBEq, Nat.one_ne_zero, Nat.zero_ne_one, Nat.lt_irrefl, Nat.succ_ne_zero, w32_id, ixc, ixc2, Int.toNat_natCast]
  have zU : flU s n row nm i = 0 := (orF_z.mp (hU.symm.trans uc)).1
  obtain ⟨z1, z2, z3, z4⟩ := flU_z W0' zU
  obtain ⟨r1, r2, r3⟩ := flRow_at (s := s) (n := n) (i := i) (nm := nm) hc
  have ne : ∀ q, q ≠ 2 → q < 78 + 6 * c ∨ 84 + 6 * c ≤ q → flRow s n row nm i q = row q := fun q a b => flRow_ne a (by omega) z3.2
  rw [← hM] at z3 z4 r2 r3
  rw [← hkk] at r3 z4
  have e2 : flRow s n row nm i 2 = row 2 + 1 := flRow_2
  have oth : ∀ a, a ≠ 1 → a ≠ nb → a ≠ nb + 4 → a ≠ nb + 7 → a ≠ nb + 8 → a ≠ nb + 10 + c → a ≠ nb + 14 → up m7 nb 13 ((c : Int) + 1) a = h a := fun a p1 p2 p3 p4 p5 p6 p7 => by rw [up_ne p2, g7 a p1 p3 p4 p5 p6 p7]
  refine hQ _ _ _ ⟨rfl, rfl, N7.trans (Fnt_up hn (by unfold ntW; omega)), Or.inl ⟨uc, ?_, C7.fr (up_ne (by omega)), ?_⟩⟩
  · rw [up_ne (by omega), F7.2 8 (Or.inr rfl), F6.2.1 8 (Or.inr rfl)]; exact g58
  · refine ⟨⟨⟨?_, ?_, ?_⟩, ?_, ?_, ?_⟩, fun c' hc' => ?_, fun q hq => ?_, fun q hq => ?_, fun f hf => ?_, ?_⟩
    · dsimp only; rw [up_nj (by decide), nb7, ne 0 (by decide) (by omega)]; exact RX.1.1
    · dsimp only; rw [up_nj (by decide), nb7, ne 1 (by decide) (by omega)]; exact RX.1.2.1
    · dsimp only; rw [up_at, e2, hr]
    · dsimp only
      rw [oth (nb + 2) (by omega) (by omega) (by omega) (by omega) (by omega) (by omega) (by omega), ne 0 (by decide) (by omega)]
      exact NaL_fr RX.2.1 (by omega)
    · dsimp only
      rw [oth (nb + 3) (by omega) (by omega) (by omega) (by omega) (by omega) (by omega) (by omega), ne 1 (by decide) (by omega)]
      exact NaL_fr RX.2.2.1 (by omega)
    · dsimp only
      rw [e2, hr, show ((c : Int) + 1).toNat = c + 1 by omega, Int.toNat_natCast]
      refine NaL_add (v := tkVa s n (i + 1)) (u := u) (by have := RX.2.2.2; rw [← hc] at this; exact this) q2 (fun x => z1.2.2 (Or.inr (Or.inr (by rw [← hc]; exact x)))) (fun k hk => ?_) ?_
      · rw [up_ne (by omega), F7.1 _ (by omega), F6.1 _ (by omega) (by omega) (by omega) (by omega), g5b, if_neg (by omega)]
      · rw [up_ne (by omega), F7.1 _ (by omega), F6.1 _ (by omega) (by omega) (by omega) (by omega), g5b, if_pos rfl]
    · dsimp only at hc' ⊢
      rw [ne 0 (by decide) (by omega)] at hc'
      have := Rc c' hc'
      have w := wc c' hc'
      rw [oth (nb + 18 + 2 * c') (by omega) (by omega) (by omega) (by omega) (by omega) (by omega) (by omega), oth (nb + 19 + 2 * c') (by omega) (by omega) (by omega) (by omega) (by omega) (by omega) (by omega), ne _ (by omega) (by omega), ne _ (by omega) (by omega), ne _ (by omega) (by omega)]
      exact ⟨this.1, this.2.1, this.2.2.1, fun j hj => by rw [ne _ (by omega) (by have := w.1.2; omega)]; exact this.2.2.2 j hj⟩
    · dsimp only at hq ⊢
      rw [ne 1 (by decide) (by omega)] at hq
      rw [oth (nb + 5) (by omega) (by omega) (by omega) (by omega) (by omega) (by omega) (by omega), oth (nb + 6) (by omega) (by omega) (by omega) (by omega) (by omega) (by omega) (by omega)]
      unfold kd cu
      rw [ne _ (by omega) (by omega), ne _ (by omega) (by omega)]
      exact Rn q hq
    · dsimp only
      rw [up_ne (by omega), S7.2.2 q hq]
      refine v6_cong (fun f _ => ?_)
      unfold ovK ovr
      rw [e2]
      by_cases x : f = c
      · rw [x, show decide ((c : Int) < row 2) = false from decide_eq_false (by omega), show decide ((c : Int) < row 2 + 1) = true from decide_eq_true (by omega), Bool.false_and, Bool.true_and, Bool.false_or, show (c == c) = true from beq_self_eq_true c, Bool.true_and, Bool.eq_iff_iff, wyB_t, decide_eq_true_iff]
        constructor
        · rintro ⟨j, a, b⟩
          by_cases y : hop (flRow s n row nm i) c (q : Int) < 0
          · exact absurd (by rw [r3 j a]; exact b) (hop_none y j (by omega))
          · omega
        · intro y
          obtain ⟨y1, y2⟩ := hop_some y
          exact ⟨(hop (flRow s n row nm i) c (q : Int)).toNat, by omega, by rw [← r3 _ (by omega)]; exact y2⟩
      · rw [show (f == c) = false from beq_eq_false_iff_ne.mpr x, Bool.false_and, Bool.or_false]
        by_cases y : (f : Int) < row 2
        · rw [decide_eq_true y, show decide ((f : Int) < row 2 + 1) = true from decide_eq_true (by omega), hop_cg (row := row) (wf f y).2.1.2 (fun j a b => ne j (by omega) (by omega))]
        · rw [decide_eq_false y, show decide ((f : Int) < row 2 + 1) = false from decide_eq_false (by omega), Bool.false_and, Bool.false_and]
    · dsimp only at hf ⊢
      have k7 : ∀ a, up m7 nb 13 ((c : Int) + 1) (nb + 7) a = if a = c then v else h (nb + 7) a := fun a => by rw [up_ne (by omega), F7.1 _ (by omega), F6.1 _ (by omega) (by omega) (by omega) (by omega), g5c]
      by_cases x : f = c
      · rw [x, r1, r2, k7, if_pos rfl, up_ne (by omega), up_ne (by omega), S7.1]
        refine ⟨by rw [hv, hc0], rfl, fun k hk => ?_⟩
        rw [r3 k (by omega), S7.2.1 k (by omega)]
      · have hf' : (f : Int) < row 2 := by omega
        have := Rf f hf'
        have w := wf f hf'
        have k8 : up m7 nb 13 ((c : Int) + 1) (nb + 8) f = h (nb + 8) f := by rw [up_ne (by omega), F7.1 _ (by omega), F6.2.2 f x, g5 _ (by omega) (by omega) (by omega)]
        rw [k7, if_neg x, k8, oth (nb + 10 + f) (by omega) (by omega) (by omega) (by omega) (by omega) (by omega) (by omega)]
        unfold sby hp nd
        rw [ne _ (by omega) (by omega), ne _ (by omega) (by omega)]
        exact ⟨this.1, this.2.1, fun k hk => by rw [ne _ (by omega) (by have := w.2.1.2; unfold hp at this; omega)]; exact this.2.2 k hk⟩
    · dsimp only
      rw [ne 3 (by decide) (by omega)]
      exact Rl.fr (by rw [up_nj (by decide), nb7]) (oth _ (by omega) (by omega) (by omega) (by omega) (by omega) (by omega) (by omega)) (oth _ (by omega) (by omega) (by omega) (by omega) (by omega) (by omega) (by omega))
end CF2

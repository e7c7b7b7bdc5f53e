/-! the class: a curve and a node, read whole -/
/-- the class's net is X -/
def CNc (h : Mem) (nb : Nat) (row : Nat → Int) : Prop := ∀ c : Nat, (c : Int) < row 0 → h (nb + 18 + 2 * c) 1 = row (4 + 11 * c) ∧ h (nb + 18 + 2 * c) 2 = row (5 + 11 * c) ∧ h (nb + 18 + 2 * c) 3 = row (6 + 11 * c) ∧ ∀ j : Nat, (j : Int) < row (4 + 11 * c) → h (nb + 19 + 2 * c) j = row (7 + 11 * c + j)
def CNn (h : Mem) (nb : Nat) (row : Nat → Int) : Prop := ∀ q : Nat, (q : Int) < row 1 → h (nb + 5) q = kd row q ∧ h (nb + 6) q = cu row q
def CNo (h : Mem) (nb : Nat) (row : Nat → Int) : Prop := ∀ q : Nat, q < 4 → h (nb + 14) q = v6 (ovr row q)
def CNf (h : Mem) (nb : Nat) (row : Nat → Int) : Prop := ∀ f : Nat, (f : Int) < row 2 → h (nb + 7) f = sby row f ∧ h (nb + 8) f = hp row f ∧ ∀ k : Nat, (k : Int) < hp row f → h (nb + 10 + f) k = nd row f k
def CNl (h : Mem) (nb : Nat) (v : Int) (L : LwS) : Prop := (v = -1 ∧ h nb 14 = 0 ∧ L.2 = 0 ∧ h (nb + 15) 2 = 0) ∨ (v = 0 ∧ h nb 14 = 1 ∧ h (nb + 15) 2 = (L.2 : Int) ∧ L.2 ≤ 1000 ∧ ∀ i, i < L.2 → h (nb + 16) i = trC (L.1 i))
def CNX (h : Mem) (nb : Nat) (X : NX) : Prop := NmX h nb X.1 X.2.1 ∧ CNc h nb X.1 ∧ CNn h nb X.1 ∧ CNo h nb X.1 ∧ CNf h nb X.1 ∧ CNl h nb (X.1 3) X.2.2
theorem CNc.fr {h h' : Mem} {nb : Nat} {row : Nat → Int} (W : W0 row) (C : CNc h nb row) (e : ∀ i, nb + 18 ≤ i → i < nb + 30 → h' i = h i) : CNc h' nb row := fun c hc => by
  have := W.1
  rw [e (nb + 18 + 2 * c) (by omega) (by omega), e (nb + 19 + 2 * c) (by omega) (by omega)]; exact C c hc
theorem CNn.fr {h h' : Mem} {nb : Nat} {row : Nat → Int} (C : CNn h nb row) (e5 : h' (nb + 5) = h (nb + 5)) (e6 : h' (nb + 6) = h (nb + 6)) : CNn h' nb row := fun q hq => by rw [e5, e6]; exact C q hq
theorem CNo.fr {h h' : Mem} {nb : Nat} {row : Nat → Int} (C : CNo h nb row) (e : h' (nb + 14) = h (nb + 14)) : CNo h' nb row := fun q hq => by rw [e]; exact C q hq
theorem CNf.fr {h h' : Mem} {nb : Nat} {row : Nat → Int} (W : W0 row) (C : CNf h nb row) (e : ∀ i, nb + 7 ≤ i → i < nb + 14 → h' i = h i) : CNf h' nb row := fun f hf => by
  have := W.2.2
  rw [e (nb + 7) (by omega) (by omega), e (nb + 8) (by omega) (by omega), e (nb + 10 + f) (by omega) (by omega)]; exact C f hf
theorem CNl.fr {h h' : Mem} {nb : Nat} {v : Int} {L : LwS} (C : CNl h nb v L) (e : h' nb 14 = h nb 14) (e5 : h' (nb + 15) = h (nb + 15)) (e6 : h' (nb + 16) = h (nb + 16)) : CNl h' nb v L := by unfold CNl; rw [e, e5, e6]; exact C
theorem NaL_fr {nm cl : Nat → Int} {a m j : Nat} {v : Int} (N : NaL nm cl a m) (hj : j < a ∨ a + m ≤ j) : NaL (ru nm j v) cl a m := by
  refine ⟨fun k hk => ?_, fun p k hp hk => ?_⟩
  · rw [ru_ne (by omega)]; exact N.1 k hk
  · rw [ru_ne (by omega), ru_ne (by omega)]; exact N.2 p k hp hk
theorem NaL_add {nm cl cl' : Nat → Int} {a m : Nat} {v u : Int} (N : NaL nm cl a m) (hv : NmR v u) (hn : ¬ 0 ≤ naF nm v a m) (e : ∀ k, k < m → cl' k = cl k) (eu : cl' m = u) : NaL (ru nm (a + m) v) cl' a (m + 1) := by
  have no := naF_nn.mp (show naF nm v a m < 0 by omega)
  refine ⟨fun k hk => ?_, fun p k hp hk => ?_⟩
  · by_cases x : k = m
    · rw [x, ru_at, eu]; exact hv
    · rw [ru_ne (by omega), e k (by omega)]; exact N.1 k (by omega)
  · by_cases x : p = m
    · by_cases y : k = m
      · omega
      · rw [x, ru_at, ru_ne (by omega)]; exact fun z => absurd z.symm (no k (by omega))
    · by_cases y : k = m
      · rw [y, ru_at, ru_ne (by omega)]; exact fun z => absurd z (no p (by omega))
      · rw [ru_ne (by omega), ru_ne (by omega)]; exact N.2 p k (by omega) (by omega)
section CCN
variable {l : Launch} {d : Nat} {h : Mem} {s : Nat → Int} {n i nb : Nat} {X : NX}
theorem sg59 : isSg 59 := by unfold isSg; omega
noncomputable def cvX (s : Nat → Int) (n : Nat) (X : NX) (i : Nat) : NX := (cvRow s n X.1 i, ru X.2.1 (X.1 0).toNat (tkVa s n (i + 1)), X.2.2)
theorem c_readCurve (T : TxC h s n) (C : CuC h s n i) (hn : nb = 4 ∨ nb = 34) (h64 : h 64 2 = (nb : Int) + 1) (W : WQ X.1) (R : CNX h nb X) : Cl l (d + 5) M_X4_readCurve [(2, 65)] SHP h (fun r sh' h' => r = 0 ∧ sh' = SHP ∧ Fnt nb h h' ∧ ((orF (cvU s n X.1 X.2.1 i) (snU s n (i + 7 + cvM s n i) 59) = 0 ∧ h' 1 8 = h 1 8 ∧ CuC h' s n (i + 7 + cvM s n i + 1) ∧ CNX h' nb (cvX s n X i)) ∨ (orF (cvU s n X.1 X.2.1 i) (snU s n (i + 7 + cvM s n i) 59) ≠ 0 ∧ h' 1 8 = orF (cvU s n X.1 X.2.1 i) (snU s n (i + 7 + cvM s n i) 59)))) := by
  refine Cl_hide (fun Q hQ => ?_)
  obtain ⟨row, nm, Lw⟩ := X
  dsimp only [cvX] at hQ W R ⊢
  obtain ⟨RX, Rc, Rn, Ro, Rf, Rl⟩ := R
  dsimp only at RX Rc Rn Ro Rf Rl
  obtain ⟨⟨⟨w1, w2⟩, w34, w56⟩, wc, wn, wf⟩ := id W
  have W0' := W.1
  obtain ⟨U, hU⟩ : ∃ U, U = orF (cvU s n row nm i) (snU s n (i + 7 + cvM s n i) 59) := ⟨_, rfl⟩
  rw [← hU] at hQ
  have ec : cvU s n row nm i = 0 → _ := cvU_z
  have uc := hU
  unfold cvU at uc
  obtain ⟨c, hc⟩ : ∃ c : Nat, c = (row 0).toNat := ⟨_, rfl⟩
  have hr : row 0 = (c : Int) := by omega
  obtain ⟨M, hM⟩ : ∃ M, M = cvM s n i := ⟨_, rfl⟩
  rw [← hM] at uc hQ
  obtain ⟨cb, hcb⟩ : ∃ cb, cb = nb + 18 + 2 * c := ⟨_, rfl⟩
  have t0 := ly_64_0 T.1
  have o := (net_sh hn).1
  have x11 : h nb 11 = (c : Int) := by rw [RX.1.1]; exact hr
  have ixn : ((nb : Int) + 1).toNat - 1 = nb := by omega
  show V l (d + 5) 0 0 M_X4_readCurve 0 0 0 Q [(2, 65), (9, 0), (9, 0), (9, 0)] [] SHP h
  refine S_X4_readCurve_0 _ _ _ _ ?_; simp (disch := omega) only [B_X4_readCurve_0, bi_0, x_ic, x_lc, x_ld, x_st, x_sl, x_inc, x_b32, x_b64, x_d32, x_d64, x_s64, x_un, x_lcmp, x_dup, x_pop, x_dup2, x_if, x_cmp, x_sw, swk, x_ald, x_ast, x_alen, x_getf, x_putf, x_inv, x_mm, x_copy, x_iret, x_lret, x_vret, ok1, pu, ct, rcv, rcs, ent0, List.getElem?_cons_zero, List.getElem?_cons_succ, List.getElem?_nil, List.set_cons_zero, List.set_cons_succ, List.take_succ_cons, List.take_zero, List.drop_succ_cons, List.drop_zero, List.reverse_cons, List.reverse_nil, List.nil_append, List.cons_append, List.length_cons, List.length_nil, true_and, and_true, and_self, ne_eq, not_true_eq_false, not_false_eq_true, reduceIte, true_or, or_true, false_or, or_false, Nat.reduceAdd, Nat.reduceSub, Nat.reduceMul, Nat.reduceLeDiff, Nat.reduceEqDiff, Nat.reduceLT, Nat.le_refl, Nat.zero_le, Int.reduceToNat, Int.reduceAdd, Int.reduceSub, Int.reduceMul, Int.reduceNeg, Int.reduceLT, Int.reduceLE, Int.reduceEq, Nat.zero_add, Nat.add_zero, Nat.reduceBEq, Nat.one_ne_zero, Nat.zero_ne_one, Nat.lt_irrefl, Nat.succ_ne_zero, w32_id, ixc, ixc2, Int.toNat_natCast, ob_64, t0, h64, ob_1, o, ixn, x11]
  refine ⟨fun z => ?_, fun z => ?_⟩
  rotate_left
  · refine Cl.app (c_wrong (l := l) (d := d + 3) T C (w := 5) (by decide)) ?_
    (try simp (disch := omega) only [bi_0, x_ic, x_lc, x_ld, x_st, x_sl, x_inc, x_b32, x_b64, x_d32, x_d64, x_s64, x_un, x_lcmp, x_dup, x_pop, x_dup2, x_if, x_cmp, x_sw, swk, x_ald, x_ast, x_alen, x_getf, x_putf, x_inv, x_mm, x_copy, x_iret, x_lret, x_vret, ok1, pu, ct, rcv, rcs, ent0, List.getElem?_cons_zero, List.getElem?_cons_succ, List.getElem?_nil, List.set_cons_zero, List.set_cons_succ, List.take_succ_cons, List.take_zero, List.drop_succ_cons, List.drop_zero, List.reverse_cons, List.reverse_nil, List.nil_append, List.cons_append, List.length_cons, List.length_nil, true_and, and_true, and_self, ne_eq, not_true_eq_false, not_false_eq_true, reduceIte, true_or, or_true, false_or, or_false, Nat.reduceAdd, Nat.reduceSub, Nat.reduceMul, Nat.reduceLeDiff, Nat.reduceEqDiff, Nat.reduceLT, Nat.le_refl, Nat.zero_le, Int.reduceToNat, Int.reduceAdd, Int.reduceSub, Int.reduceMul, Int.reduceNeg, Int.reduceLT, Int.reduceLE, Int.reduceEq, Nat.zero_add, Nat.add_zero, Nat.reduceBEq, Nat.one_ne_zero, Nat.zero_ne_one, Nat.lt_irrefl, Nat.succ_ne_zero, w32_id, ixc, ixc2, Int.toNat_natCast])
    have b := flt_b (s := s) (n := n) (i := i) (w := 5) (by decide)
    have e : U = flt s n i 5 := by
      rw [uc]
      unfold nmU
      rw [iF_t (show row 0 = 6 by omega)]
      simp only [orF_n (show flt s n i 5 ≠ 0 by omega)]
    exact hQ _ _ _ ⟨rfl, rfl, Fnt_8 hn, Or.inr ⟨by omega, by rw [e]; exact up_at⟩⟩
  have c6 : c < 6 := by omega
  have nu := nnU_nm (s := s) (n := n) (i := i) (row := row) (nm := nm) (many := row 0) (most := 6) (by omega)
  rw [nu] at uc
  obtain ⟨k1, k2⟩ := net_c T.1 hn c6
  rw [← hcb] at k1
  have sh5 := (net_sh hn).2
  have p0 := net_p T.1 hn
  have ix1 : ((nb : Int) + 2).toNat - 1 = nb + 1 := by omega
  -- behind a fault
  have bad : ∀ (m : Mem) (f : Int), f ≠ 0 → U = f → Fnt nb h m → m 1 8 = f → V l (d + 5) 0 0 M_X4_readCurve 0 0 135 Q [(2, 65), (0, (c : Int)), (2, (cb : Int) + 1), (9, 0)] [] SHP m := by
    intro m f hf e F e8
    refine S_X4_readCurve_135 _ _ _ _ ?_; simp (disch := omega) only [B_X4_readCurve_135, bi_0, x_ic, x_lc, x_ld, x_st, x_sl, x_inc, x_b32, x_b64, x_d32, x_d64, x_s64, x_un, x_lcmp, x_dup, x_pop, x_dup2, x_if, x_cmp, x_sw, swk, x_ald, x_ast, x_alen, x_getf, x_putf, x_inv, x_mm, x_copy, x_iret, x_lret, x_vret, ok1, pu, ct, rcv, rcs, ent0, List.getElem?_cons_zero, List.getElem?_cons_succ, List.getElem?_nil, List.set_cons_zero, List.set_cons_succ, List.take_succ_cons, List.take_zero, List.drop_succ_cons, List.drop_zero, List.reverse_cons, List.reverse_nil, List.nil_append, List.cons_append, List.length_cons, List.length_nil, true_and, and_true, and_self, ne_eq, not_true_eq_false, not_false_eq_true, reduceIte, true_or, or_true, false_or, or_false, Nat.reduceAdd, Nat.reduceSub, Nat.reduceMul, Nat.reduceLeDiff, Nat.reduceEqDiff, Nat.reduceLT, Nat.le_refl, Nat.zero_le, Int.reduceToNat, Int.reduceAdd, Int.reduceSub, Int.reduceMul, Int.reduceNeg, Int.reduceLT, Int.reduceLE, Int.reduceEq, Nat.zero_add, Nat.add_zero, Nat.reduceBEq, Nat.one_ne_zero, Nat.zero_ne_one, Nat.lt_irrefl, Nat.succ_ne_zero, w32_id, ixc, ixc2, Int.toNat_natCast]
    refine S_X4_readCurve_136 _ _ _ _ ?_; simp (disch := omega) only [B_X4_readCurve_136, bi_0, x_ic, x_lc, x_ld, x_st, x_sl, x_inc, x_b32, x_b64, x_d32, x_d64, x_s64, x_un, x_lcmp, x_dup, x_pop, x_dup2, x_if, x_cmp, x_sw, swk, x_ald, x_ast, x_alen, x_getf, x_putf, x_inv, x_mm, x_copy, x_iret, x_lret, x_vret, ok1, pu, ct, rcv, rcs, ent0, List.getElem?_cons_zero, List.getElem?_cons_succ, List.getElem?_nil, List.set_cons_zero, List.set_cons_succ, List.take_succ_cons, List.take_zero, List.drop_succ_cons, List.drop_zero, List.reverse_cons, List.reverse_nil, List.nil_append, List.cons_append, List.length_cons, List.length_nil, true_and, and_true, and_self, ne_eq, not_true_eq_false, not_false_eq_true, reduceIte, true_or, or_true, false_or, or_false, Nat.reduceAdd, Nat.reduceSub, Nat.reduceMul, Nat.reduceLeDiff, Nat.reduceEqDiff, Nat.reduceLT, Nat.le_refl, Nat.zero_le, Int.reduceToNat, Int.reduceAdd, Int.reduceSub, Int.reduceMul, Int.reduceNeg, Int.reduceLT, Int.reduceLE, Int.reduceEq, Nat.zero_add, Nat.add_zero, Nat.reduceBEq, Nat.one_ne_zero, Nat.zero_ne_one, Nat.lt_irrefl, Nat.succ_ne_zero, w32_id, ixc, ixc2, Int.toNat_natCast]
    refine ⟨fun _ => ?_, fun y => y.elim⟩
    refine S_X4_readCurve_154 _ _ _ _ ?_; simp (disch := omega) only [B_X4_readCurve_154, bi_0, x_ic, x_lc, x_ld, x_st, x_sl, x_inc, x_b32, x_b64, x_d32, x_d64, x_s64, x_un, x_lcmp, x_dup, x_pop, x_dup2, x_if, x_cmp, x_sw, swk, x_ald, x_ast, x_alen, x_getf, x_putf, x_inv, x_mm, x_copy, x_iret, x_lret, x_vret, ok1, pu, ct, rcv, rcs, ent0, List.getElem?_cons_zero, List.getElem?_cons_succ, List.getElem?_nil, List.set_cons_zero, List.set_cons_succ, List.take_succ_cons, List.take_zero, List.drop_succ_cons, List.drop_zero, List.reverse_cons, List.reverse_nil, List.nil_append, List.cons_append, List.length_cons, List.length_nil, true_and, and_true, and_self, ne_eq, not_true_eq_false, not_false_eq_true, reduceIte, true_or, or_true, false_or, or_false, Nat.reduceAdd, Nat.reduceSub, Nat.reduceMul, Nat.reduceLeDiff, Nat.reduceEqDiff, Nat.reduceLT, Nat.le_refl, Nat.zero_le, Int.reduceToNat, Int.reduceAdd, Int.reduceSub, Int.reduceMul, Int.reduceNeg, Int.reduceLT, Int.reduceLE, Int.reduceEq, Nat.zero_add, Nat.add_zero, Nat.reduceBEq, Nat.one_ne_zero, Nat.zero_ne_one, Nat.lt_irrefl, Nat.succ_ne_zero, w32_id, ixc, ixc2, Int.toNat_natCast]
    exact hQ _ _ _ ⟨rfl, rfl, F, Or.inr ⟨by omega, by rw [e8, e]⟩⟩
  refine S_X4_readCurve_24 _ _ _ _ ?_; simp (disch := omega) only [B_X4_readCurve_24, bi_0, x_ic, x_lc, x_ld, x_st, x_sl, x_inc, x_b32, x_b64, x_d32, x_d64, x_s64, x_un, x_lcmp, x_dup, x_pop, x_dup2, x_if, x_cmp, x_sw, swk, x_ald, x_ast, x_alen, x_getf, x_putf, x_inv, x_mm, x_copy, x_iret, x_lret, x_vret, ok1, pu, ct, rcv, rcs, ent0, List.getElem?_cons_zero, List.getElem?_cons_succ, List.getElem?_nil, List.set_cons_zero, List.set_cons_succ, List.take_succ_cons, List.take_zero, List.drop_succ_cons, List.drop_zero, List.reverse_cons, List.reverse_nil, List.nil_append, List.cons_append, List.length_cons, List.length_nil, true_and, and_true, and_self, ne_eq, not_true_eq_false, not_false_eq_true, reduceIte, true_or, or_true, false_or, or_false, Nat.reduceAdd, Nat.reduceSub, Nat.reduceMul, Nat.reduceLeDiff, Nat.reduceEqDiff, Nat.reduceLT, Nat.le_refl, Nat.zero_le, Int.reduceToNat, Int.reduceAdd, Int.reduceSub, Int.reduceMul, Int.reduceNeg, Int.reduceLT, Int.reduceLE, Int.reduceEq, Nat.zero_add, Nat.add_zero, Nat.reduceBEq, Nat.one_ne_zero, Nat.zero_ne_one, Nat.lt_irrefl, Nat.succ_ne_zero, w32_id, ixc, ixc2, Int.toNat_natCast, ob_64, t0, h64, ob_1, o, ixn, p0, sh5, ix1, k1]
  refine ⟨by omega, ?_⟩
  refine Cl.imp (c_next (l := l) (d := d + 1) T C) (fun r sh' m1 q => ?_)
  obtain ⟨rfl, rfl, F1, C1⟩ := q
  have T1 := T.fs F1
  have h1 : m1 64 2 = (nb : Int) + 1 := by rw [F1.1 64 (by decide)]; exact h64
  have RX1 : NmX m1 nb row nm := RX.fr (F1.1 _ (by omega)) (F1.1 _ (by omega)) (F1.1 _ (by omega)) (F1.1 _ (by omega))
  (try simp (disch := omega) only [bi_0, x_ic, x_lc, x_ld, x_st, x_sl, x_inc, x_b32, x_b64, x_d32, x_d64, x_s64, x_un, x_lcmp, x_dup, x_pop, x_dup2, x_if, x_cmp, x_sw, swk, x_ald, x_ast, x_alen, x_getf, x_putf, x_inv, x_mm, x_copy, x_iret, x_lret, x_vret, ok1, pu, ct, rcv, rcs, ent0, List.getElem?_cons_zero, List.getElem?_cons_succ, List.getElem?_nil, List.set_cons_zero, List.set_cons_succ, List.take_succ_cons, List.take_zero, List.drop_succ_cons, List.drop_zero, List.reverse_cons, List.reverse_nil, List.nil_append, List.cons_append, List.length_cons, List.length_nil, true_and, and_true, and_self, ne_eq, not_true_eq_false, not_false_eq_true, reduceIte, true_or, or_true, false_or, or_false, Nat.reduceAdd, Nat.reduceSub, Nat.reduceMul, Nat.reduceLeDiff, Nat.reduceEqDiff, Nat.reduceLT, Nat.le_refl, Nat.zero_le, Int.reduceToNat, Int.reduceAdd, Int.reduceSub, Int.reduceMul, Int.reduceNeg, Int.reduceLT, Int.reduceLE, Int.reduceEq, Nat.zero_add, Nat.add_zero, Nat.reduceBEq, Nat.one_ne_zero, Nat.zero_ne_one, Nat.lt_irrefl, Nat.succ_ne_zero, w32_id, ixc, ixc2, Int.toNat_natCast, ob_64, h1, o, ixn, nf1 T1.1 hn])
  refine Cl.imp (c_newName (l := l) (d := d) T1 C1 hn h1 W0' RX1 (x := nb + 2) (k := c) (z := 6) (by omega) (nln2 hn) (by omega) (by decide)) (fun r sh' m2 q => ?_)
  obtain ⟨rfl, q⟩ := q
  rcases q with ⟨q1, rfl, q2, F2, C2⟩ | ⟨q1, rfl, e2⟩
  rotate_left
  · (try simp (disch := omega) only [bi_0, x_ic, x_lc, x_ld, x_st, x_sl, x_inc, x_b32, x_b64, x_d32, x_d64, x_s64, x_un, x_lcmp, x_dup, x_pop, x_dup2, x_if, x_cmp, x_sw, swk, x_ald, x_ast, x_alen, x_getf, x_putf, x_inv, x_mm, x_copy, x_iret, x_lret, x_vret, ok1, pu, ct, rcv, rcs, ent0, List.getElem?_cons_zero, List.getElem?_cons_succ, List.getElem?_nil, List.set_cons_zero, List.set_cons_succ, List.take_succ_cons, List.take_zero, List.drop_succ_cons, List.drop_zero, List.reverse_cons, List.reverse_nil, List.nil_append, List.cons_append, List.length_cons, List.length_nil, true_and, and_true, and_self, ne_eq, not_true_eq_false, not_false_eq_true, reduceIte, true_or, or_true, false_or, or_false, Nat.reduceAdd, Nat.reduceSub, Nat.reduceMul, Nat.reduceLeDiff, Nat.reduceEqDiff, Nat.reduceLT, Nat.le_refl, Nat.zero_le, Int.reduceToNat, Int.reduceAdd, Int.reduceSub, Int.reduceMul, Int.reduceNeg, Int.reduceLT, Int.reduceLE, Int.reduceEq, Nat.zero_add, Nat.add_zero, Nat.reduceBEq, Nat.one_ne_zero, Nat.zero_ne_one, Nat.lt_irrefl, Nat.succ_ne_zero, w32_id, ixc, ixc2, Int.toNat_natCast])
    refine ⟨fun _ => ?_, fun y => y.elim⟩
    simp only [orF_n q1] at uc
    exact bad m2 _ q1 uc ((F1.nt hn).trans (by rw [e2]; exact Fnt_8 hn)) (by rw [e2]; exact up_at)
  rw [q1, orF_0] at uc
  obtain ⟨u, hu⟩ : ∃ u, u = m1 1 7 := ⟨_, rfl⟩
  rw [← hu] at q2 F2
  have N2 : Fnt nb h m2 := (F1.nt hn).trans ((Fnt_up hn (by unfold ntW; omega)).trans (F2.nt hn))
  have T2 := N2.tx hn T
  have t2 := ly_64_0 T2.1
  have g2 : ∀ a, a ≠ 1 → a ≠ nb + 2 → m2 a = h a := fun a p q => by rw [F2.1 a p, up_ne q, F1.1 a p]
  have g2b : ∀ a, m2 (nb + 2) a = if a = c then u else h (nb + 2) a := fun a => by
    rw [F2.1 (nb + 2) (by omega)]
    by_cases x : a = c
    · rw [if_pos x, x, up_at]
    · rw [if_neg x, up_nj x, F1.1 (nb + 2) (by omega)]
  have g28 : m2 1 8 = h 1 8 := by rw [F2.2 8 (Or.inr rfl), up_ne (by omega), F1.2 8 (Or.inr rfl)]
  (try simp (disch := omega) only [bi_0, x_ic, x_lc, x_ld, x_st, x_sl, x_inc, x_b32, x_b64, x_d32, x_d64, x_s64, x_un, x_lcmp, x_dup, x_pop, x_dup2, x_if, x_cmp, x_sw, swk, x_ald, x_ast, x_alen, x_getf, x_putf, x_inv, x_mm, x_copy, x_iret, x_lret, x_vret, ok1, pu, ct, rcv, rcs, ent0, List.getElem?_cons_zero, List.getElem?_cons_succ, List.getElem?_nil, List.set_cons_zero, List.set_cons_succ, List.take_succ_cons, List.take_zero, List.drop_succ_cons, List.drop_zero, List.reverse_cons, List.reverse_nil, List.nil_append, List.cons_append, List.length_cons, List.length_nil, true_and, and_true, and_self, ne_eq, not_true_eq_false, not_false_eq_true, reduceIte, true_or, or_true, false_or, or_false, Nat.reduceAdd, Nat.reduceSub, Nat.reduceMul, Nat.reduceLeDiff, Nat.reduceEqDiff, Nat.reduceLT, Nat.le_refl, Nat.zero_le, Int.reduceToNat, Int.reduceAdd, Int.reduceSub, Int.reduceMul, Int.reduceNeg, Int.reduceLT, Int.reduceLE, Int.reduceEq, Nat.zero_add, Nat.add_zero, Nat.reduceBEq, Nat.one_ne_zero, Nat.zero_ne_one, Nat.lt_irrefl, Nat.succ_ne_zero, w32_id, ixc, ixc2, Int.toNat_natCast, ob_64, t2, ob_1])
  refine ⟨fun y => y.elim, fun _ => ?_⟩
  refine Cl.imp (c_takeW (l := l) (d := d) T2 C2 (w := 1) (by decide) rfl) (fun r sh' m3 q => ?_)
  obtain ⟨rfl, q⟩ := q
  rcases q with ⟨q3, rfl, F3, C3⟩ | ⟨q3, rfl, e3⟩
  rotate_left
  · (try simp (disch := omega) only [bi_0, x_ic, x_lc, x_ld, x_st, x_sl, x_inc, x_b32, x_b64, x_d32, x_d64, x_s64, x_un, x_lcmp, x_dup, x_pop, x_dup2, x_if, x_cmp, x_sw, swk, x_ald, x_ast, x_alen, x_getf, x_putf, x_inv, x_mm, x_copy, x_iret, x_lret, x_vret, ok1, pu, ct, rcv, rcs, ent0, List.getElem?_cons_zero, List.getElem?_cons_succ, List.getElem?_nil, List.set_cons_zero, List.set_cons_succ, List.take_succ_cons, List.take_zero, List.drop_succ_cons, List.drop_zero, List.reverse_cons, List.reverse_nil, List.nil_append, List.cons_append, List.length_cons, List.length_nil, true_and, and_true, and_self, ne_eq, not_true_eq_false, not_false_eq_true, reduceIte, true_or, or_true, false_or, or_false, Nat.reduceAdd, Nat.reduceSub, Nat.reduceMul, Nat.reduceLeDiff, Nat.reduceEqDiff, Nat.reduceLT, Nat.le_refl, Nat.zero_le, Int.reduceToNat, Int.reduceAdd, Int.reduceSub, Int.reduceMul, Int.reduceNeg, Int.reduceLT, Int.reduceLE, Int.reduceEq, Nat.zero_add, Nat.add_zero, Nat.reduceBEq, Nat.one_ne_zero, Nat.zero_ne_one, Nat.lt_irrefl, Nat.succ_ne_zero, w32_id, ixc, ixc2, Int.toNat_natCast])
    refine ⟨fun _ => ?_, fun y => y.elim⟩
    simp only [orF_n q3] at uc
    exact bad m3 _ q3 uc (N2.trans (by rw [e3]; exact Fnt_8 hn)) (by rw [e3]; exact up_at)
  rw [q3, orF_0] at uc
  have N3 := N2.trans (F3.nt hn)
  have T3 := N3.tx hn T
  (try simp (disch := omega) only [bi_0, x_ic, x_lc, x_ld, x_st, x_sl, x_inc, x_b32, x_b64, x_d32, x_d64, x_s64, x_un, x_lcmp, x_dup, x_pop, x_dup2, x_if, x_cmp, x_sw, swk, x_ald, x_ast, x_alen, x_getf, x_putf, x_inv, x_mm, x_copy, x_iret, x_lret, x_vret, ok1, pu, ct, rcv, rcs, ent0, List.getElem?_cons_zero, List.getElem?_cons_succ, List.getElem?_nil, List.set_cons_zero, List.set_cons_succ, List.take_succ_cons, List.take_zero, List.drop_succ_cons, List.drop_zero, List.reverse_cons, List.reverse_nil, List.nil_append, List.cons_append, List.length_cons, List.length_nil, true_and, and_true, and_self, ne_eq, not_true_eq_false, not_false_eq_true, reduceIte, true_or, or_true, false_or, or_false, Nat.reduceAdd, Nat.reduceSub, Nat.reduceMul, Nat.reduceLeDiff, Nat.reduceEqDiff, Nat.reduceLT, Nat.le_refl, Nat.zero_le, Int.reduceToNat, Int.reduceAdd, Int.reduceSub, Int.reduceMul, Int.reduceNeg, Int.reduceLT, Int.reduceLE, Int.reduceEq, Nat.zero_add, Nat.add_zero, Nat.reduceBEq, Nat.one_ne_zero, Nat.zero_ne_one, Nat.lt_irrefl, Nat.succ_ne_zero, w32_id, ixc, ixc2, Int.toNat_natCast, ob_64])
  refine ⟨fun y => y.elim, fun _ => ?_⟩
  refine Cl.imp (c_readValues (l := l) (d := d) T3 C3 hn hcb c6) (fun r sh' m4 q => ?_)
  obtain ⟨rfl, q⟩ := q
  rcases q with ⟨q4, rfl, F4, C4, v1, v2⟩ | ⟨q4, rfl, N4, e4⟩
  rotate_left
  · (try simp (disch := omega) only [bi_0, x_ic, x_lc, x_ld, x_st, x_sl, x_inc, x_b32, x_b64, x_d32, x_d64, x_s64, x_un, x_lcmp, x_dup, x_pop, x_dup2, x_if, x_cmp, x_sw, swk, x_ald, x_ast, x_alen, x_getf, x_putf, x_inv, x_mm, x_copy, x_iret, x_lret, x_vret, ok1, pu, ct, rcv, rcs, ent0, List.getElem?_cons_zero, List.getElem?_cons_succ, List.getElem?_nil, List.set_cons_zero, List.set_cons_succ, List.take_succ_cons, List.take_zero, List.drop_succ_cons, List.drop_zero, List.reverse_cons, List.reverse_nil, List.nil_append, List.cons_append, List.length_cons, List.length_nil, true_and, and_true, and_self, ne_eq, not_true_eq_false, not_false_eq_true, reduceIte, true_or, or_true, false_or, or_false, Nat.reduceAdd, Nat.reduceSub, Nat.reduceMul, Nat.reduceLeDiff, Nat.reduceEqDiff, Nat.reduceLT, Nat.le_refl, Nat.zero_le, Int.reduceToNat, Int.reduceAdd, Int.reduceSub, Int.reduceMul, Int.reduceNeg, Int.reduceLT, Int.reduceLE, Int.reduceEq, Nat.zero_add, Nat.add_zero, Nat.reduceBEq, Nat.one_ne_zero, Nat.zero_ne_one, Nat.lt_irrefl, Nat.succ_ne_zero, w32_id, ixc, ixc2, Int.toNat_natCast])
    refine ⟨fun _ => ?_, fun y => y.elim⟩
    simp only [orF_n q4] at uc
    exact bad m4 _ q4 uc (N3.trans N4) e4
  rw [q4, orF_0] at uc
  rw [show (vlF s n (i + 1 + 1 + 1) 9 0).2 = M by rw [hM]; rfl] at C4 v1 v2
  have okv := vlF_ok (s := s) (n := n) (i := i + 3) 9 0 rfl (by decide) q4
  rw [show (vlF s n (i + 3) 9 0).2 = M by rw [hM]; rfl] at okv
  have N4 := N3.trans (F4.nt hn hcb c6)
  have T4 := N4.tx hn T
  have t4 := ly_64_0 T4.1
  (try simp (disch := omega) only [bi_0, x_ic, x_lc, x_ld, x_st, x_sl, x_inc, x_b32, x_b64, x_d32, x_d64, x_s64, x_un, x_lcmp, x_dup, x_pop, x_dup2, x_if, x_cmp, x_sw, swk, x_ald, x_ast, x_alen, x_getf, x_putf, x_inv, x_mm, x_copy, x_iret, x_lret, x_vret, ok1, pu, ct, rcv, rcs, ent0, List.getElem?_cons_zero, List.getElem?_cons_succ, List.getElem?_nil, List.set_cons_zero, List.set_cons_succ, List.take_succ_cons, List.take_zero, List.drop_succ_cons, List.drop_zero, List.reverse_cons, List.reverse_nil, List.nil_append, List.cons_append, List.length_cons, List.length_nil, true_and, and_true, and_self, ne_eq, not_true_eq_false, not_false_eq_true, reduceIte, true_or, or_true, false_or, or_false, Nat.reduceAdd, Nat.reduceSub, Nat.reduceMul, Nat.reduceLeDiff, Nat.reduceEqDiff, Nat.reduceLT, Nat.le_refl, Nat.zero_le, Int.reduceToNat, Int.reduceAdd, Int.reduceSub, Int.reduceMul, Int.reduceNeg, Int.reduceLT, Int.reduceLE, Int.reduceEq, Nat.zero_add, Nat.add_zero, Nat.reduceBEq, Nat.one_ne_zero, Nat.zero_ne_one, Nat.lt_irrefl, Nat.succ_ne_zero, w32_id, ixc, ixc2, Int.toNat_natCast, ob_64, t4, ob_1])
  refine ⟨fun y => y.elim, fun _ => ?_⟩
  refine Cl.imp (c_takeW (l := l) (d := d) T4 C4 (w := 2) (by decide) rfl) (fun r sh' m5 q => ?_)
  obtain ⟨rfl, q⟩ := q
  rw [show i + 1 + 1 + 1 + M = i + 3 + M by omega] at q
  rcases q with ⟨q5, rfl, F5, C5⟩ | ⟨q5, rfl, e5⟩
  rotate_left
  · (try simp (disch := omega) only [bi_0, x_ic, x_lc, x_ld, x_st, x_sl, x_inc, x_b32, x_b64, x_d32, x_d64, x_s64, x_un, x_lcmp, x_dup, x_pop, x_dup2, x_if, x_cmp, x_sw, swk, x_ald, x_ast, x_alen, x_getf, x_putf, x_inv, x_mm, x_copy, x_iret, x_lret, x_vret, ok1, pu, ct, rcv, rcs, ent0, List.getElem?_cons_zero, List.getElem?_cons_succ, List.getElem?_nil, List.set_cons_zero, List.set_cons_succ, List.take_succ_cons, List.take_zero, List.drop_succ_cons, List.drop_zero, List.reverse_cons, List.reverse_nil, List.nil_append, List.cons_append, List.length_cons, List.length_nil, true_and, and_true, and_self, ne_eq, not_true_eq_false, not_false_eq_true, reduceIte, true_or, or_true, false_or, or_false, Nat.reduceAdd, Nat.reduceSub, Nat.reduceMul, Nat.reduceLeDiff, Nat.reduceEqDiff, Nat.reduceLT, Nat.le_refl, Nat.zero_le, Int.reduceToNat, Int.reduceAdd, Int.reduceSub, Int.reduceMul, Int.reduceNeg, Int.reduceLT, Int.reduceLE, Int.reduceEq, Nat.zero_add, Nat.add_zero, Nat.reduceBEq, Nat.one_ne_zero, Nat.zero_ne_one, Nat.lt_irrefl, Nat.succ_ne_zero, w32_id, ixc, ixc2, Int.toNat_natCast])
    refine ⟨fun _ => ?_, fun y => y.elim⟩
    simp only [orF_n q5] at uc
    exact bad m5 _ q5 uc (N4.trans (by rw [e5]; exact Fnt_8 hn)) (by rw [e5]; exact up_at)
  rw [q5, orF_0] at uc
  have F45 := F4.trans (F5.cv (cb := cb) (by omega))
  have N5 := N3.trans (F45.nt hn hcb c6)
  have T5 := N5.tx hn T
  have v15 : m5 cb 1 = (M : Int) := by rw [F5.1 cb (by omega)]; exact v1
  have v25 : ∀ j, j < M → m5 (cb + 1) j = tkVa s n (i + 3 + j) := fun j hj => by rw [F5.1 (cb + 1) (by omega)]; exact v2 j hj
  rw [show i + 3 + M + 1 = i + 4 + M by omega] at C5
  (try simp (disch := omega) only [bi_0, x_ic, x_lc, x_ld, x_st, x_sl, x_inc, x_b32, x_b64, x_d32, x_d64, x_s64, x_un, x_lcmp, x_dup, x_pop, x_dup2, x_if, x_cmp, x_sw, swk, x_ald, x_ast, x_alen, x_getf, x_putf, x_inv, x_mm, x_copy, x_iret, x_lret, x_vret, ok1, pu, ct, rcv, rcs, ent0, List.getElem?_cons_zero, List.getElem?_cons_succ, List.getElem?_nil, List.set_cons_zero, List.set_cons_succ, List.take_succ_cons, List.take_zero, List.drop_succ_cons, List.drop_zero, List.reverse_cons, List.reverse_nil, List.nil_append, List.cons_append, List.length_cons, List.length_nil, true_and, and_true, and_self, ne_eq, not_true_eq_false, not_false_eq_true, reduceIte, true_or, or_true, false_or, or_false, Nat.reduceAdd, Nat.reduceSub, Nat.reduceMul, Nat.reduceLeDiff, Nat.reduceEqDiff, Nat.reduceLT, Nat.le_refl, Nat.zero_le, Int.reduceToNat, Int.reduceAdd, Int.reduceSub, Int.reduceMul, Int.reduceNeg, Int.reduceLT, Int.reduceLE, Int.reduceEq, Nat.zero_add, Nat.add_zero, Nat.reduceBEq, Nat.one_ne_zero, Nat.zero_ne_one, Nat.lt_irrefl, Nat.succ_ne_zero, w32_id, ixc, ixc2, Int.toNat_natCast, ob_64])
  refine ⟨fun y => y.elim, fun _ => ?_⟩
  refine Cl.imp (c_readAgain (l := l) (d := d) T5 C5 hn hcb c6 v15) (fun r sh' m6 q => ?_)
  obtain ⟨rfl, q⟩ := q
  rcases q with ⟨q6, rfl, F6, C6⟩ | ⟨q6, rfl, e6⟩
  rotate_left
  · (try simp (disch := omega) only [bi_0, x_ic, x_lc, x_ld, x_st, x_sl, x_inc, x_b32, x_b64, x_d32, x_d64, x_s64, x_un, x_lcmp, x_dup, x_pop, x_dup2, x_if, x_cmp, x_sw, swk, x_ald, x_ast, x_alen, x_getf, x_putf, x_inv, x_mm, x_copy, x_iret, x_lret, x_vret, ok1, pu, ct, rcv, rcs, ent0, List.getElem?_cons_zero, List.getElem?_cons_succ, List.getElem?_nil, List.set_cons_zero, List.set_cons_succ, List.take_succ_cons, List.take_zero, List.drop_succ_cons, List.drop_zero, List.reverse_cons, List.reverse_nil, List.nil_append, List.cons_append, List.length_cons, List.length_nil, true_and, and_true, and_self, ne_eq, not_true_eq_false, not_false_eq_true, reduceIte, true_or, or_true, false_or, or_false, Nat.reduceAdd, Nat.reduceSub, Nat.reduceMul, Nat.reduceLeDiff, Nat.reduceEqDiff, Nat.reduceLT, Nat.le_refl, Nat.zero_le, Int.reduceToNat, Int.reduceAdd, Int.reduceSub, Int.reduceMul, Int.reduceNeg, Int.reduceLT, Int.reduceLE, Int.reduceEq, Nat.zero_add, Nat.add_zero, Nat.reduceBEq, Nat.one_ne_zero, Nat.zero_ne_one, Nat.lt_irrefl, Nat.succ_ne_zero, w32_id, ixc, ixc2, Int.toNat_natCast])
    refine ⟨fun _ => ?_, fun y => y.elim⟩
    simp only [orF_n q6] at uc
    exact bad m6 _ q6 uc (N5.trans (by rw [e6]; exact Fnt_8 hn)) (by rw [e6]; exact up_at)
  rw [q6, orF_0] at uc
  have zu := nuU_z q6
  obtain ⟨a, ha⟩ : ∃ a : Nat, a = (tkVa s n (i + 4 + M)).toNat := ⟨_, rfl⟩
  have ea : tkVa s n (i + 4 + M) = (a : Int) := by omega
  rw [ea] at zu F6
  rw [← ha] at uc
  have F46 := F45.trans ((Fcv_f (j := 2) (v := (a : Int)) (by omega) (by decide)).trans (F6.cv (cb := cb) (by omega)))
  have N6 := N3.trans (F46.nt hn hcb c6)
  have T6 := N6.tx hn T
  have t6 := ly_64_0 T6.1
  (try simp (disch := omega) only [bi_0, x_ic, x_lc, x_ld, x_st, x_sl, x_inc, x_b32, x_b64, x_d32, x_d64, x_s64, x_un, x_lcmp, x_dup, x_pop, x_dup2, x_if, x_cmp, x_sw, swk, x_ald, x_ast, x_alen, x_getf, x_putf, x_inv, x_mm, x_copy, x_iret, x_lret, x_vret, ok1, pu, ct, rcv, rcs, ent0, List.getElem?_cons_zero, List.getElem?_cons_succ, List.getElem?_nil, List.set_cons_zero, List.set_cons_succ, List.take_succ_cons, List.take_zero, List.drop_succ_cons, List.drop_zero, List.reverse_cons, List.reverse_nil, List.nil_append, List.cons_append, List.length_cons, List.length_nil, true_and, and_true, and_self, ne_eq, not_true_eq_false, not_false_eq_true, reduceIte, true_or, or_true, false_or, or_false, Nat.reduceAdd, Nat.reduceSub, Nat.reduceMul, Nat.reduceLeDiff, Nat.reduceEqDiff, Nat.reduceLT, Nat.le_refl, Nat.zero_le, Int.reduceToNat, Int.reduceAdd, Int.reduceSub, Int.reduceMul, Int.reduceNeg, Int.reduceLT, Int.reduceLE, Int.reduceEq, Nat.zero_add, Nat.add_zero, Nat.reduceBEq, Nat.one_ne_zero, Nat.zero_ne_one, Nat.lt_irrefl, Nat.succ_ne_zero, w32_id, ixc, ixc2, Int.toNat_natCast, ob_64, t6, ob_1])
  refine ⟨fun y => y.elim, fun _ => ?_⟩
  refine Cl.imp (c_takeW (l := l) (d := d) T6 C6 (w := 3) (by decide) rfl) (fun r sh' m7 q => ?_)
  obtain ⟨rfl, q⟩ := q
  rw [show i + 4 + M + 1 = i + 5 + M by omega] at q
  rcases q with ⟨q7, rfl, F7, C7⟩ | ⟨q7, rfl, e7⟩
  rotate_left
  · (try simp (disch := omega) only [bi_0, x_ic, x_lc, x_ld, x_st, x_sl, x_inc, x_b32, x_b64, x_d32, x_d64, x_s64, x_un, x_lcmp, x_dup, x_pop, x_dup2, x_if, x_cmp, x_sw, swk, x_ald, x_ast, x_alen, x_getf, x_putf, x_inv, x_mm, x_copy, x_iret, x_lret, x_vret, ok1, pu, ct, rcv, rcs, ent0, List.getElem?_cons_zero, List.getElem?_cons_succ, List.getElem?_nil, List.set_cons_zero, List.set_cons_succ, List.take_succ_cons, List.take_zero, List.drop_succ_cons, List.drop_zero, List.reverse_cons, List.reverse_nil, List.nil_append, List.cons_append, List.length_cons, List.length_nil, true_and, and_true, and_self, ne_eq, not_true_eq_false, not_false_eq_true, reduceIte, true_or, or_true, false_or, or_false, Nat.reduceAdd, Nat.reduceSub, Nat.reduceMul, Nat.reduceLeDiff, Nat.reduceEqDiff, Nat.reduceLT, Nat.le_refl, Nat.zero_le, Int.reduceToNat, Int.reduceAdd, Int.reduceSub, Int.reduceMul, Int.reduceNeg, Int.reduceLT, Int.reduceLE, Int.reduceEq, Nat.zero_add, Nat.add_zero, Nat.reduceBEq, Nat.one_ne_zero, Nat.zero_ne_one, Nat.lt_irrefl, Nat.succ_ne_zero, w32_id, ixc, ixc2, Int.toNat_natCast])
    refine ⟨fun _ => ?_, fun y => y.elim⟩
    simp only [orF_n q7] at uc
    exact bad m7 _ q7 uc (N6.trans (by rw [e7]; exact Fnt_8 hn)) (by rw [e7]; exact up_at)
  rw [q7, orF_0] at uc
  have F47 := F46.trans (F7.cv (cb := cb) (by omega))
  have N7 := N3.trans (F47.nt hn hcb c6)
  have T7 := N7.tx hn T
  have s6 : ∀ p, m7 cb p = if p = 2 then (a : Int) else m5 cb p := fun p => by
    rw [F7.1 cb (by omega), F6.1 cb (by omega)]
    by_cases x : p = 2
    · rw [if_pos x, x, up_at]
    · rw [if_neg x, up_nj x]
  have v17 : m7 cb 1 = (M : Int) := by rw [s6, if_neg (by decide)]; exact v15
  have a17 : m7 cb 2 = (a : Int) := by rw [s6, if_pos rfl]
  have v27 : ∀ j, j < M → m7 (cb + 1) j = tkVa s n (i + 3 + j) := fun j hj => by rw [F7.1 (cb + 1) (by omega), F6.1 (cb + 1) (by omega), up_ne (by omega)]; exact v25 j hj
  have vb : ∀ j, j < M → 0 ≤ tkVa s n (i + 3 + j) ∧ tkVa s n (i + 3 + j) ≤ 99 := fun j hj => by
    have x := nuU_z (okv.2 j (Nat.zero_le _) hj)
    have y := tkVa_n x.1
    omega
  rw [show i + 5 + M + 1 = i + 6 + M by omega] at C7
  (try simp (disch := omega) only [bi_0, x_ic, x_lc, x_ld, x_st, x_sl, x_inc, x_b32, x_b64, x_d32, x_d64, x_s64, x_un, x_lcmp, x_dup, x_pop, x_dup2, x_if, x_cmp, x_sw, swk, x_ald, x_ast, x_alen, x_getf, x_putf, x_inv, x_mm, x_copy, x_iret, x_lret, x_vret, ok1, pu, ct, rcv, rcs, ent0, List.getElem?_cons_zero, List.getElem?_cons_succ, List.getElem?_nil, List.set_cons_zero, List.set_cons_succ, List.take_succ_cons, List.take_zero, List.drop_succ_cons, List.drop_zero, List.reverse_cons, List.reverse_nil, List.nil_append, List.cons_append, List.length_cons, List.length_nil, true_and, and_true, and_self, ne_eq, not_true_eq_false, not_false_eq_true, reduceIte, true_or, or_true, false_or, or_false, Nat.reduceAdd, Nat.reduceSub, Nat.reduceMul, Nat.reduceLeDiff, Nat.reduceEqDiff, Nat.reduceLT, Nat.le_refl, Nat.zero_le, Int.reduceToNat, Int.reduceAdd, Int.reduceSub, Int.reduceMul, Int.reduceNeg, Int.reduceLT, Int.reduceLE, Int.reduceEq, Nat.zero_add, Nat.add_zero, Nat.reduceBEq, Nat.one_ne_zero, Nat.zero_ne_one, Nat.lt_irrefl, Nat.succ_ne_zero, w32_id, ixc, ixc2, Int.toNat_natCast, ob_64])
  refine ⟨fun y => y.elim, fun _ => ?_⟩
  refine Cl.imp (c_readAdds (l := l) (d := d) T7 C7 hn hcb c6 v17 a17 (by omega) okv.1.2 (v27 (M - 1) (by omega)) (v27 (M - a) (by omega)) (vb _ (by omega)) (vb _ (by omega))) (fun r sh' m8 q => ?_)
  obtain ⟨rfl, q⟩ := q
  rw [show i + 3 + (M - 1) = i + 2 + M by omega, show i + 3 + (M - a) = i + 3 + M - a by omega] at q
  rcases q with ⟨q8, rfl, F8, C8⟩ | ⟨q8, rfl, e8⟩
  rotate_left
  · (try simp (disch := omega) only [bi_0, x_ic, x_lc, x_ld, x_st, x_sl, x_inc, x_b32, x_b64, x_d32, x_d64, x_s64, x_un, x_lcmp, x_dup, x_pop, x_dup2, x_if, x_cmp, x_sw, swk, x_ald, x_ast, x_alen, x_getf, x_putf, x_inv, x_mm, x_copy, x_iret, x_lret, x_vret, ok1, pu, ct, rcv, rcs, ent0, List.getElem?_cons_zero, List.getElem?_cons_succ, List.getElem?_nil, List.set_cons_zero, List.set_cons_succ, List.take_succ_cons, List.take_zero, List.drop_succ_cons, List.drop_zero, List.reverse_cons, List.reverse_nil, List.nil_append, List.cons_append, List.length_cons, List.length_nil, true_and, and_true, and_self, ne_eq, not_true_eq_false, not_false_eq_true, reduceIte, true_or, or_true, false_or, or_false, Nat.reduceAdd, Nat.reduceSub, Nat.reduceMul, Nat.reduceLeDiff, Nat.reduceEqDiff, Nat.reduceLT, Nat.le_refl, Nat.zero_le, Int.reduceToNat, Int.reduceAdd, Int.reduceSub, Int.reduceMul, Int.reduceNeg, Int.reduceLT, Int.reduceLE, Int.reduceEq, Nat.zero_add, Nat.add_zero, Nat.reduceBEq, Nat.one_ne_zero, Nat.zero_ne_one, Nat.lt_irrefl, Nat.succ_ne_zero, w32_id, ixc, ixc2, Int.toNat_natCast])
    refine ⟨fun _ => ?_, fun y => y.elim⟩
    simp only [orF_n q8] at uc
    exact bad m8 _ q8 uc (N7.trans (by rw [e8]; exact Fnt_8 hn)) (by rw [e8]; exact up_at)
  rw [q8, orF_0] at uc
  have F48 := F47.trans ((Fcv_f (j := 3) (v := tkVa s n (i + 6 + M)) (by omega) (by decide)).trans (F8.cv (cb := cb) (by omega)))
  have N8 := N3.trans (F48.nt hn hcb c6)
  have T8 := N8.tx hn T
  have t8 := ly_64_0 T8.1
  (try simp (disch := omega) only [bi_0, x_ic, x_lc, x_ld, x_st, x_sl, x_inc, x_b32, x_b64, x_d32, x_d64, x_s64, x_un, x_lcmp, x_dup, x_pop, x_dup2, x_if, x_cmp, x_sw, swk, x_ald, x_ast, x_alen, x_getf, x_putf, x_inv, x_mm, x_copy, x_iret, x_lret, x_vret, ok1, pu, ct, rcv, rcs, ent0, List.getElem?_cons_zero, List.getElem?_cons_succ, List.getElem?_nil, List.set_cons_zero, List.set_cons_succ, List.take_succ_cons, List.take_zero, List.drop_succ_cons, List.drop_zero, List.reverse_cons, List.reverse_nil, List.nil_append, List.cons_append, List.length_cons, List.length_nil, true_and, and_true, and_self, ne_eq, not_true_eq_false, not_false_eq_true, reduceIte, true_or, or_true, false_or, or_false, Nat.reduceAdd, Nat.reduceSub, Nat.reduceMul, Nat.reduceLeDiff, Nat.reduceEqDiff, Nat.reduceLT, Nat.le_refl, Nat.zero_le, Int.reduceToNat, Int.reduceAdd, Int.reduceSub, Int.reduceMul, Int.reduceNeg, Int.reduceLT, Int.reduceLE, Int.reduceEq, Nat.zero_add, Nat.add_zero, Nat.reduceBEq, Nat.one_ne_zero, Nat.zero_ne_one, Nat.lt_irrefl, Nat.succ_ne_zero, w32_id, ixc, ixc2, Int.toNat_natCast, ob_64, t8, ob_1])
  refine ⟨fun y => y.elim, fun _ => ?_⟩
  refine Cl.imp (c_takeS (l := l) (d := d) T8 C8 sg59) (fun r sh' m9 q => ?_)
  obtain ⟨rfl, q⟩ := q
  rw [show i + 6 + M + 1 = i + 7 + M by omega] at q
  rcases q with ⟨q9, rfl, F9, C9⟩ | ⟨q9, rfl, e9⟩
  rotate_left
  · (try simp (disch := omega) only [bi_0, x_ic, x_lc, x_ld, x_st, x_sl, x_inc, x_b32, x_b64, x_d32, x_d64, x_s64, x_un, x_lcmp, x_dup, x_pop, x_dup2, x_if, x_cmp, x_sw, swk, x_ald, x_ast, x_alen, x_getf, x_putf, x_inv, x_mm, x_copy, x_iret, x_lret, x_vret, ok1, pu, ct, rcv, rcs, ent0, List.getElem?_cons_zero, List.getElem?_cons_succ, List.getElem?_nil, List.set_cons_zero, List.set_cons_succ, List.take_succ_cons, List.take_zero, List.drop_succ_cons, List.drop_zero, List.reverse_cons, List.reverse_nil, List.nil_append, List.cons_append, List.length_cons, List.length_nil, true_and, and_true, and_self, ne_eq, not_true_eq_false, not_false_eq_true, reduceIte, true_or, or_true, false_or, or_false, Nat.reduceAdd, Nat.reduceSub, Nat.reduceMul, Nat.reduceLeDiff, Nat.reduceEqDiff, Nat.reduceLT, Nat.le_refl, Nat.zero_le, Int.reduceToNat, Int.reduceAdd, Int.reduceSub, Int.reduceMul, Int.reduceNeg, Int.reduceLT, Int.reduceLE, Int.reduceEq, Nat.zero_add, Nat.add_zero, Nat.reduceBEq, Nat.one_ne_zero, Nat.zero_ne_one, Nat.lt_irrefl, Nat.succ_ne_zero, w32_id, ixc, ixc2, Int.toNat_natCast])
    refine ⟨fun _ => ?_, fun y => y.elim⟩
    exact bad m9 _ q9 uc (N8.trans (by rw [e9]; exact Fnt_8 hn)) (by rw [e9]; exact up_at)
  rw [q9] at uc
  have F49 := F48.trans (F9.cv (cb := cb) (by omega))
  have N9 := N3.trans (F49.nt hn hcb c6)
  have h9 : m9 64 2 = (nb : Int) + 1 := by rw [N9.1 64 (by decide) (by omega)]; exact h64
  have nb9 : m9 nb = h nb := by rw [F49.1 nb (by omega) (by omega) (by omega), F3.1 nb (by omega), g2 nb (by omega) (by omega)]
  have x119 : m9 nb 11 = (c : Int) := by rw [nb9]; exact x11
  (try simp (disch := omega) only [bi_0, x_ic, x_lc, x_ld, x_st, x_sl, x_inc, x_b32, x_b64, x_d32, x_d64, x_s64, x_un, x_lcmp, x_dup, x_pop, x_dup2, x_if, x_cmp, x_sw, swk, x_ald, x_ast, x_alen, x_getf, x_putf, x_inv, x_mm, x_copy, x_iret, x_lret, x_vret, ok1, pu, ct, rcv, rcs, ent0, List.getElem?_cons_zero, List.getElem?_cons_succ, List.getElem?_nil, List.set_cons_zero, List.set_cons_succ, List.take_succ_cons, List.take_zero, List.drop_succ_cons, List.drop_zero, List.reverse_cons, List.reverse_nil, List.nil_append, List.cons_append, List.length_cons, List.length_nil, true_and, and_true, and_self, ne_eq, not_true_eq_false, not_false_eq_true, reduceIte, true_or, or_true, false_or, or_false, Nat.reduceAdd, Nat.reduceSub, Nat.reduceMul, Nat.reduceLeDiff, Nat.reduceEqDiff, Nat.reduceLT, Nat.le_refl, Nat.zero_le, Int.reduceToNat, Int.reduceAdd, Int.reduceSub, Int.reduceMul, Int.reduceNeg, Int.reduceLT, Int.reduceLE, Int.reduceEq, Nat.zero_add, Nat.add_zero, Nat.reduceBEq, Nat.one_ne_zero, Nat.zero_ne_one, Nat.lt_irrefl, Nat.succ_ne_zero, w32_id, ixc, ixc2, Int.toNat_natCast])
  refine ⟨fun y => y.elim, fun _ => ?_⟩
  refine S_X4_readCurve_136 _ _ _ _ ?_; simp (disch := omega) only [B_X4_readCurve_136, bi_0, x_ic, x_lc, x_ld, x_st, x_sl, x_inc, x_b32, x_b64, x_d32, x_d64, x_s64, x_un, x_lcmp, x_dup, x_pop, x_dup2, x_if, x_cmp, x_sw, swk, x_ald, x_ast, x_alen, x_getf, x_putf, x_inv, x_mm, x_copy, x_iret, x_lret, x_vret, ok1, pu, ct, rcv, rcs, ent0, List.getElem?_cons_zero, List.getElem?_cons_succ, List.getElem?_nil, List.set_cons_zero, List.set_cons_succ, List.take_succ_cons, List.take_zero, List.drop_succ_cons, List.drop_zero, List.reverse_cons, List.reverse_nil, List.nil_append, List.cons_append, List.length_cons, List.length_nil, true_and, and_true, and_self, ne_eq, not_true_eq_false, not_false_eq_true, reduceIte, true_or, or_true, false_or, or_false, Nat.reduceAdd, Nat.reduceSub, Nat.reduceMul, Nat.reduceLeDiff, Nat.reduceEqDiff, Nat.reduceLT, Nat.le_refl, Nat.zero_le, Int.reduceToNat, Int.reduceAdd, Int.reduceSub, Int.reduceMul, Int.reduceNeg, Int.reduceLT, Int.reduceLE, Int.reduceEq, Nat.zero_add, Nat.add_zero, Nat.reduceBEq, Nat.one_ne_zero, Nat.zero_ne_one, Nat.lt_irrefl, Nat.succ_ne_zero, w32_id, ixc, ixc2, Int.toNat_natCast, ob_64, h9, o, ixn, x119]
  refine ⟨fun y => y.elim, fun _ => ?_⟩
  refine S_X4_readCurve_154 _ _ _ _ ?_; simp (disch := omega) only [B_X4_readCurve_154, bi_0, x_ic, x_lc, x_ld, x_st, x_sl, x_inc, x_b32, x_b64, x_d32, x_d64, x_s64, x_un, x_lcmp, x_dup, x_pop, x_dup2, x_if, x_cmp, x_sw, swk, x_ald, x_ast, x_alen, x_getf, x_putf, x_inv, x_mm, x_copy, x_iret, x_lret, x_vret, ok1, pu, ct, rcv, rcs, ent0, List.getElem?_cons_zero, List.getElem?_cons_succ, List.getElem?_nil, List.set_cons_zero, List.set_cons_succ, List.take_succ_cons, List.take_zero, List.drop_succ_cons, List.drop_zero, List.reverse_cons, List.reverse_nil, List.nil_append, List.cons_append, List.length_cons, List.length_nil, true_and, and_true, and_self, ne_eq, not_true_eq_false, not_false_eq_true, reduceIte, true_or, or_true, false_or, or_false, Nat.reduceAdd, Nat.reduceSub, Nat.reduceMul, Nat.reduceLeDiff, Nat.reduceEqDiff, Nat.reduceLT, Nat.le_refl, Nat.zero_le, Int.reduceToNat, Int.reduceAdd, Int.reduceSub, Int.reduceMul, Int.reduceNeg, Int.reduceLT, Int.reduceLE, Int.reduceEq, Nat.zero_add, Nat.add_zero, Nat.reduceBEq, Nat.one_ne_zero, Nat.zero_ne_one, Nat.lt_irrefl, Nat.succ_ne_zero, w32_id, ixc, ixc2, Int.toNat_natCast]
  have zU : cvU s n row nm i = 0 := (orF_z.mp (hU.symm.trans uc)).1
  obtain ⟨z1, z2, z3, z4, z5⟩ := cvU_z zU
  obtain ⟨r1, r2, r3, r4⟩ := cvRow_at (s := s) (n := n) (i := i) hc z2.2
  rw [← hM] at r1 r2 r3 r4 z2
  have ne : ∀ q, q ≠ 0 → q < 4 + 11 * c ∨ 15 + 11 * c ≤ q → cvRow s n row i q = row q := fun q a b => cvRow_ne a (by omega) (by omega)
  have e0 : cvRow s n row i 0 = row 0 + 1 := cvRow_0
  have s8 : ∀ p, m9 cb p = if p = 3 then tkVa s n (i + 6 + M) else m7 cb p := fun p => by
    rw [F9.1 cb (by omega), F8.1 cb (by omega)]
    by_cases x : p = 3
    · rw [if_pos x, x, up_at]
    · rw [if_neg x, up_nj x]
  have v29 : ∀ j, j < M → m9 (cb + 1) j = tkVa s n (i + 3 + j) := fun j hj => by rw [F9.1 (cb + 1) (by omega), F8.1 (cb + 1) (by omega), up_ne (by omega)]; exact v27 j hj
  have oth : ∀ a, a ≠ 1 → a ≠ nb → a ≠ nb + 2 → a ≠ cb → a ≠ cb + 1 → up m9 nb 11 ((c : Int) + 1) a = h a := fun a p1 p2 p3 p4 p5 => by rw [up_ne p2, F49.1 a p1 p4 p5, F3.1 a p1, g2 a p1 p3]
  refine hQ _ _ _ ⟨rfl, rfl, N9.trans (Fnt_up hn (by unfold ntW; omega)), Or.inl ⟨uc, ?_, C9.fr (up_ne (by omega)), ?_⟩⟩
  · rw [up_ne (by omega), F49.2.1 8 (Or.inr rfl), F3.2 8 (Or.inr rfl)]; exact g28
  · refine ⟨⟨⟨?_, ?_, ?_⟩, ?_, ?_, ?_⟩, fun c' hc' => ?_, fun q hq => ?_, fun q hq => ?_, fun f hf => ?_, ?_⟩
    · dsimp only; rw [up_at, e0, hr]
    · dsimp only; rw [up_nj (by decide), nb9, ne 1 (by decide) (by omega)]; exact RX.1.2.1
    · dsimp only; rw [up_nj (by decide), nb9, ne 2 (by decide) (by omega)]; exact RX.1.2.2
    · dsimp only
      rw [e0, hr, show ((c : Int) + 1).toNat = c + 1 by omega]
      have := NaL_add (cl' := up m9 nb 11 ((c : Int) + 1) (nb + 2)) (v := tkVa s n (i + 1)) (u := u) (by have := RX.2.1; rw [← hc] at this; exact this) q2 (fun x => z1.2.2 (Or.inl (by rw [← hc]; exact x))) (fun k hk => ?_) ?_
      · rw [Nat.zero_add] at this; exact this
      · rw [up_ne (by omega), F49.1 _ (by omega) (by omega) (by omega), F3.1 _ (by omega), g2b, if_neg (by omega)]
      · rw [up_ne (by omega), F49.1 _ (by omega) (by omega) (by omega), F3.1 _ (by omega), g2b, if_pos rfl]
    · dsimp only
      rw [oth (nb + 3) (by omega) (by omega) (by omega) (by omega) (by omega), ne 1 (by decide) (by omega)]
      exact NaL_fr RX.2.2.1 (by omega)
    · dsimp only
      rw [oth (nb + 4) (by omega) (by omega) (by omega) (by omega) (by omega), ne 2 (by decide) (by omega)]
      exact NaL_fr RX.2.2.2 (by omega)
    · dsimp only at hc' ⊢
      by_cases x : c' = c
      · rw [x, ← hcb, r1, r2, r3, up_ne (by omega), show nb + 19 + 2 * c = cb + 1 by omega, up_ne (by omega), s8 1, s8 2, s8 3, if_neg (by decide), if_neg (by decide), if_pos rfl]
        exact ⟨v17, by rw [a17, ea], rfl, fun j hj => by rw [r4 j (by omega)]; exact v29 j (by omega)⟩
      · have := Rc c' (by omega)
        have w := wc c' (by omega)
        rw [oth (nb + 18 + 2 * c') (by omega) (by omega) (by omega) (by omega) (by omega), oth (nb + 19 + 2 * c') (by omega) (by omega) (by omega) (by omega) (by omega), ne _ (by omega) (by omega), ne _ (by omega) (by omega), ne _ (by omega) (by omega)]
        exact ⟨this.1, this.2.1, this.2.2.1, fun j hj => by rw [ne _ (by omega) (by have := w.1.2; omega)]; exact this.2.2.2 j hj⟩
    · dsimp only at hq ⊢
      rw [ne 1 (by decide) (by omega)] at hq
      rw [oth (nb + 5) (by omega) (by omega) (by omega) (by omega) (by omega), oth (nb + 6) (by omega) (by omega) (by omega) (by omega) (by omega)]
      unfold kd cu
      rw [ne _ (by omega) (by omega), ne _ (by omega) (by omega)]
      exact Rn q hq
    · dsimp only
      rw [oth (nb + 14) (by omega) (by omega) (by omega) (by omega) (by omega), ovr_cg W (ne 2 (by decide) (by omega)) (fun j a b => ne j (by omega) (by omega))]
      exact Ro q hq
    · dsimp only at hf ⊢
      rw [ne 2 (by decide) (by omega)] at hf
      have := Rf f hf
      have w := wf f hf
      rw [oth (nb + 7) (by omega) (by omega) (by omega) (by omega) (by omega), oth (nb + 8) (by omega) (by omega) (by omega) (by omega) (by omega), oth (nb + 10 + f) (by omega) (by omega) (by omega) (by omega) (by omega)]
      unfold sby hp nd
      rw [ne _ (by omega) (by omega), ne _ (by omega) (by omega)]
      exact ⟨this.1, this.2.1, fun k hk => by rw [ne _ (by omega) (by omega)]; exact this.2.2 k hk⟩
    · dsimp only
      rw [ne 3 (by decide) (by omega)]
      exact Rl.fr (by rw [up_nj (by decide), nb9]) (oth _ (by omega) (by omega) (by omega) (by omega) (by omega)) (oth _ (by omega) (by omega) (by omega) (by omega) (by omega))
end CCN

/-! the class: one line of a run -/
section CL2
variable {l : Launch} {d : Nat} {h : Mem} {s : Nat → Int} {n i nb sb k nf : Nat} {nm : Nat → Int}
theorem c_readLine (T : TxC h s n) (C : CuC h s n i) (hs : sb = 66 ∨ sb = 69) (hnb : nb = 4 ∨ nb = 34) (hk : h sb 2 = (k : Int)) (hk40 : k ≤ 40) (hf : h nb 13 = (nf : Int)) (hf4 : nf ≤ 4) (Na : NaL nm (h (nb + 4)) 10 nf) : Cl l (d + 5) M_X5_readLine [(2, (sb : Int) + 1), (2, 2), (2, (nb : Int) + 1)] SHP h (fun r sh' h' => sh' = SHP ∧ Fsc sb h h' ∧ (((rnL s n nm nf i k).1 = 0 ∧ r = 1 ∧ CuC h' s n (rnL s n nm nf i k).2.1 ∧ h' sb 2 = ((k + 1 : Nat) : Int) ∧ (h' (sb + 1) k = (rnL s n nm nf i k).2.2.1 ∧ ((rnL s n nm nf i k).2.2.1 ≠ -1 → h' (sb + 2) k = (rnL s n nm nf i k).2.2.2)) ∧ ∀ j, j ≠ k → h' (sb + 1) j = h (sb + 1) j ∧ h' (sb + 2) j = h (sb + 2) j) ∨ ((rnL s n nm nf i k).1 ≠ 0 ∧ r = 0 ∧ h' 1 8 = (rnL s n nm nf i k).1))) := by
  refine Cl_hide (fun Q hQ => ?_)
  have o := sc_ob hs
  have f0 := sc_f T.1 hs
  have w10 := kd_w C (w := 10) (by decide)
  have w11 := kd_w C (w := 11) (by decide)
  unfold rnL at hQ
  have sg59 : isSg 59 := by unfold isSg; omega
  obtain ⟨kd, hkd⟩ : ∃ kd, kd = h 1 5 := ⟨_, rfl⟩
  have hkd2 : h 1 5 = kd := hkd.symm
  rw [hkd2] at w10 w11
  have w10 : kd = 138 ↔ isWd s n i 10 := w10
  have w11 : kd = 139 ↔ isWd s n i 11 := w11
  -- the end of a line
  have fin : ∀ (m : Mem) (i2 : Nat) (r1 r2 : Int), Fsc sb h m → CuC m s n i2 → m sb 2 = (k : Int) → k < 40 → m (sb + 1) k = r1 → (r1 ≠ -1 → m (sb + 2) k = r2) → (∀ j, j ≠ k → m (sb + 1) j = h (sb + 1) j ∧ m (sb + 2) j = h (sb + 2) j) → (∀ r sh h_1, (sh = SHP ∧ Fsc sb h h_1 ∧ (((iF (isSn s n i2 59) ((0 : Int), i2 + 1, r1, r2) (flt s n i2 1, i, (0 : Int), (0 : Int))).1 = 0 ∧ r = 1 ∧ CuC h_1 s n (iF (isSn s n i2 59) ((0 : Int), i2 + 1, r1, r2) (flt s n i2 1, i, (0 : Int), (0 : Int))).2.1 ∧ h_1 sb 2 = ((k + 1 : Nat) : Int) ∧ (h_1 (sb + 1) k = (iF (isSn s n i2 59) ((0 : Int), i2 + 1, r1, r2) (flt s n i2 1, i, (0 : Int), (0 : Int))).2.2.1 ∧ ((iF (isSn s n i2 59) ((0 : Int), i2 + 1, r1, r2) (flt s n i2 1, i, (0 : Int), (0 : Int))).2.2.1 ≠ -1 → h_1 (sb + 2) k = (iF (isSn s n i2 59) ((0 : Int), i2 + 1, r1, r2) (flt s n i2 1, i, (0 : Int), (0 : Int))).2.2.2)) ∧ ∀ j, j ≠ k → h_1 (sb + 1) j = h (sb + 1) j ∧ h_1 (sb + 2) j = h (sb + 2) j) ∨ ((iF (isSn s n i2 59) ((0 : Int), i2 + 1, r1, r2) (flt s n i2 1, i, (0 : Int), (0 : Int))).1 ≠ 0 ∧ r = 0 ∧ h_1 1 8 = (iF (isSn s n i2 59) ((0 : Int), i2 + 1, r1, r2) (flt s n i2 1, i, (0 : Int), (0 : Int))).1))) → Q r sh h_1) → V l (d + 5) 0 0 M_X5_readLine 0 0 72 Q [(2, (sb : Int) + 1), (2, 2), (2, (nb : Int) + 1), (0, kd)] [] SHP m := by
    intro m i2 r1 r2 F C2 k2 hk4 e1 e2 e3 hQ2
    have T2 := F.tx hs T
    refine S_X5_readLine_72 _ _ _ _ ?_; simp (disch := omega) only [B_X5_readLine_72, bi_0, x_ic, x_lc, x_ld, x_st, x_sl, x_inc, x_b32, x_b64, x_d32, x_d64, x_s64, x_un, x_lcmp, x_dup, x_pop, x_dup2, x_if, x_cmp, x_sw, swk, x_ald, x_ast, x_alen, x_getf, x_putf, x_inv, x_mm, x_copy, x_iret, x_lret, x_vret, ok1, pu, ct, rcv, rcs, ent0, List.getElem?_cons_zero, List.getElem?_cons_succ, List.getElem?_nil, List.set_cons_zero, List.set_cons_succ, List.take_succ_cons, List.take_zero, List.drop_succ_cons, List.drop_zero, List.reverse_cons, List.reverse_nil, List.nil_append, List.cons_append, List.length_cons, List.length_nil, true_and, and_true, and_self, ne_eq, not_true_eq_false, not_false_eq_true, reduceIte, true_or, or_true, false_or, or_false, Nat.reduceAdd, Nat.reduceSub, Nat.reduceMul, Nat.reduceLeDiff, Nat.reduceEqDiff, Nat.reduceLT, Nat.le_refl, Nat.zero_le, Int.reduceToNat, Int.reduceAdd, Int.reduceSub, Int.reduceMul, Int.reduceNeg, Int.reduceLT, Int.reduceLE, Int.reduceEq, Nat.zero_add, Nat.add_zero, Nat.reduceBEq, Nat.one_ne_zero, Nat.zero_ne_one, Nat.lt_irrefl, Nat.succ_ne_zero, w32_id, ixc, ixc2, Int.toNat_natCast, ob_1]
    refine Cl.imp (c_take (l := l) (d := d) T2 C2 (q := 59) (kd_s C2 sg59)) (fun r sh' m3 q => ?_)
    obtain ⟨rfl, q⟩ := q
    rcases q with ⟨q1, rfl, F3, C3⟩ | ⟨q1, rfl, rfl⟩
    · (try simp (disch := omega) only [bi_0, x_ic, x_lc, x_ld, x_st, x_sl, x_inc, x_b32, x_b64, x_d32, x_d64, x_s64, x_un, x_lcmp, x_dup, x_pop, x_dup2, x_if, x_cmp, x_sw, swk, x_ald, x_ast, x_alen, x_getf, x_putf, x_inv, x_mm, x_copy, x_iret, x_lret, x_vret, ok1, pu, ct, rcv, rcs, ent0, List.getElem?_cons_zero, List.getElem?_cons_succ, List.getElem?_nil, List.set_cons_zero, List.set_cons_succ, List.take_succ_cons, List.take_zero, List.drop_succ_cons, List.drop_zero, List.reverse_cons, List.reverse_nil, List.nil_append, List.cons_append, List.length_cons, List.length_nil, true_and, and_true, and_self, ne_eq, not_true_eq_false, not_false_eq_true, reduceIte, true_or, or_true, false_or, or_false, Nat.reduceAdd, Nat.reduceSub, Nat.reduceMul, Nat.reduceLeDiff, Nat.reduceEqDiff, Nat.reduceLT, Nat.le_refl, Nat.zero_le, Int.reduceToNat, Int.reduceAdd, Int.reduceSub, Int.reduceMul, Int.reduceNeg, Int.reduceLT, Int.reduceLE, Int.reduceEq, Nat.zero_add, Nat.add_zero, Nat.reduceBEq, Nat.one_ne_zero, Nat.zero_ne_one, Nat.lt_irrefl, Nat.succ_ne_zero, w32_id, ixc, ixc2, Int.toNat_natCast])
      refine ⟨fun y => y.elim, fun _ => ?_⟩
      rw [iF_t q1] at hQ2
      have k3 : m3 sb 2 = (k : Int) := by rw [F3.1 sb (by omega)]; exact k2
      refine S_X5_readLine_83 _ _ _ _ ?_; simp (disch := omega) only [B_X5_readLine_83, bi_0, x_ic, x_lc, x_ld, x_st, x_sl, x_inc, x_b32, x_b64, x_d32, x_d64, x_s64, x_un, x_lcmp, x_dup, x_pop, x_dup2, x_if, x_cmp, x_sw, swk, x_ald, x_ast, x_alen, x_getf, x_putf, x_inv, x_mm, x_copy, x_iret, x_lret, x_vret, ok1, pu, ct, rcv, rcs, ent0, List.getElem?_cons_zero, List.getElem?_cons_succ, List.getElem?_nil, List.set_cons_zero, List.set_cons_succ, List.take_succ_cons, List.take_zero, List.drop_succ_cons, List.drop_zero, List.reverse_cons, List.reverse_nil, List.nil_append, List.cons_append, List.length_cons, List.length_nil, true_and, and_true, and_self, ne_eq, not_true_eq_false, not_false_eq_true, reduceIte, true_or, or_true, false_or, or_false, Nat.reduceAdd, Nat.reduceSub, Nat.reduceMul, Nat.reduceLeDiff, Nat.reduceEqDiff, Nat.reduceLT, Nat.le_refl, Nat.zero_le, Int.reduceToNat, Int.reduceAdd, Int.reduceSub, Int.reduceMul, Int.reduceNeg, Int.reduceLT, Int.reduceLE, Int.reduceEq, Nat.zero_add, Nat.add_zero, Nat.reduceBEq, Nat.one_ne_zero, Nat.zero_ne_one, Nat.lt_irrefl, Nat.succ_ne_zero, w32_id, ixc, ixc2, Int.toNat_natCast, o, k3]
      refine hQ2 _ _ _ ⟨rfl, (F.trans (F3.sc hs)).trans (Fsc_f hs), Or.inl ⟨rfl, rfl, C3.fr (up_ne (by omega)), up_at, ⟨?_, fun x => ?_⟩, fun j hj => ?_⟩⟩
      · rw [up_ne (by omega), F3.1 (sb + 1) (by omega)]; exact e1
      · rw [up_ne (by omega), F3.1 (sb + 2) (by omega)]; exact e2 x
      · rw [up_ne (by omega), up_ne (by omega), F3.1 (sb + 1) (by omega), F3.1 (sb + 2) (by omega)]; exact e3 j hj
    · (try simp (disch := omega) only [bi_0, x_ic, x_lc, x_ld, x_st, x_sl, x_inc, x_b32, x_b64, x_d32, x_d64, x_s64, x_un, x_lcmp, x_dup, x_pop, x_dup2, x_if, x_cmp, x_sw, swk, x_ald, x_ast, x_alen, x_getf, x_putf, x_inv, x_mm, x_copy, x_iret, x_lret, x_vret, ok1, pu, ct, rcv, rcs, ent0, List.getElem?_cons_zero, List.getElem?_cons_succ, List.getElem?_nil, List.set_cons_zero, List.set_cons_succ, List.take_succ_cons, List.take_zero, List.drop_succ_cons, List.drop_zero, List.reverse_cons, List.reverse_nil, List.nil_append, List.cons_append, List.length_cons, List.length_nil, true_and, and_true, and_self, ne_eq, not_true_eq_false, not_false_eq_true, reduceIte, true_or, or_true, false_or, or_false, Nat.reduceAdd, Nat.reduceSub, Nat.reduceMul, Nat.reduceLeDiff, Nat.reduceEqDiff, Nat.reduceLT, Nat.le_refl, Nat.zero_le, Int.reduceToNat, Int.reduceAdd, Int.reduceSub, Int.reduceMul, Int.reduceNeg, Int.reduceLT, Int.reduceLE, Int.reduceEq, Nat.zero_add, Nat.add_zero, Nat.reduceBEq, Nat.one_ne_zero, Nat.zero_ne_one, Nat.lt_irrefl, Nat.succ_ne_zero, w32_id, ixc, ixc2, Int.toNat_natCast])
      refine ⟨fun _ => ?_, fun y => y.elim⟩
      rw [iF_f q1] at hQ2
      have b := flt_b (s := s) (n := n) (i := i2) (w := 1) (by decide)
      exact hQ2 _ _ _ ⟨rfl, F.trans (Fsc_8 hs), Or.inr ⟨by dsimp only; omega, rfl, up_at⟩⟩
  have go : (isWd s n i 10 ∨ isWd s n i 11) → V l (d + 5) 0 0 M_X5_readLine 0 0 25 Q [(2, (sb : Int) + 1), (2, 2), (2, (nb : Int) + 1), (0, kd)] [] SHP h := by
    intro hw
    rw [iF_f (fun q => hw.elim q.1 q.2)] at hQ
    refine S_X5_readLine_25 _ _ _ _ ?_; simp (disch := omega) only [B_X5_readLine_25, bi_0, x_ic, x_lc, x_ld, x_st, x_sl, x_inc, x_b32, x_b64, x_d32, x_d64, x_s64, x_un, x_lcmp, x_dup, x_pop, x_dup2, x_if, x_cmp, x_sw, swk, x_ald, x_ast, x_alen, x_getf, x_putf, x_inv, x_mm, x_copy, x_iret, x_lret, x_vret, ok1, pu, ct, rcv, rcs, ent0, List.getElem?_cons_zero, List.getElem?_cons_succ, List.getElem?_nil, List.set_cons_zero, List.set_cons_succ, List.take_succ_cons, List.take_zero, List.drop_succ_cons, List.drop_zero, List.reverse_cons, List.reverse_nil, List.nil_append, List.cons_append, List.length_cons, List.length_nil, true_and, and_true, and_self, ne_eq, not_true_eq_false, not_false_eq_true, reduceIte, true_or, or_true, false_or, or_false, Nat.reduceAdd, Nat.reduceSub, Nat.reduceMul, Nat.reduceLeDiff, Nat.reduceEqDiff, Nat.reduceLT, Nat.le_refl, Nat.zero_le, Int.reduceToNat, Int.reduceAdd, Int.reduceSub, Int.reduceMul, Int.reduceNeg, Int.reduceLT, Int.reduceLE, Int.reduceEq, Nat.zero_add, Nat.add_zero, Nat.reduceBEq, Nat.one_ne_zero, Nat.zero_ne_one, Nat.lt_irrefl, Nat.succ_ne_zero, w32_id, ixc, ixc2, Int.toNat_natCast, o, hk, ob_1]
    refine ⟨fun z => ?_, fun z => ?_⟩
    · rw [iF_f (show ¬ k = 40 by omega)] at hQ
      refine S_X5_readLine_40 _ _ _ _ ?_; simp (disch := omega) only [B_X5_readLine_40, bi_0, x_ic, x_lc, x_ld, x_st, x_sl, x_inc, x_b32, x_b64, x_d32, x_d64, x_s64, x_un, x_lcmp, x_dup, x_pop, x_dup2, x_if, x_cmp, x_sw, swk, x_ald, x_ast, x_alen, x_getf, x_putf, x_inv, x_mm, x_copy, x_iret, x_lret, x_vret, ok1, pu, ct, rcv, rcs, ent0, List.getElem?_cons_zero, List.getElem?_cons_succ, List.getElem?_nil, List.set_cons_zero, List.set_cons_succ, List.take_succ_cons, List.take_zero, List.drop_succ_cons, List.drop_zero, List.reverse_cons, List.reverse_nil, List.nil_append, List.cons_append, List.length_cons, List.length_nil, true_and, and_true, and_self, ne_eq, not_true_eq_false, not_false_eq_true, reduceIte, true_or, or_true, false_or, or_false, Nat.reduceAdd, Nat.reduceSub, Nat.reduceMul, Nat.reduceLeDiff, Nat.reduceEqDiff, Nat.reduceLT, Nat.le_refl, Nat.zero_le, Int.reduceToNat, Int.reduceAdd, Int.reduceSub, Int.reduceMul, Int.reduceNeg, Int.reduceLT, Int.reduceLE, Int.reduceEq, Nat.zero_add, Nat.add_zero, Nat.reduceBEq, Nat.one_ne_zero, Nat.zero_ne_one, Nat.lt_irrefl, Nat.succ_ne_zero, w32_id, ixc, ixc2, Int.toNat_natCast, ob_1]
      refine Cl.imp (c_next (l := l) (d := d + 1) T C) (fun r sh' m q => ?_)
      obtain ⟨rfl, rfl, F, C2⟩ := q
      have T2 := T.fs F
      have g0 := (sc_f T2.1 hs).1
      have k2 : m sb 2 = (k : Int) := by rw [F.1 sb (by omega)]; exact hk
      obtain ⟨m1, hm1⟩ : ∃ m1, m1 = up m (sb + 1) k (-1) := ⟨_, rfl⟩
      have em : up m (sb + 1) k (-1) = m1 := hm1.symm
      have F1 : Fsc sb h m1 := by rw [hm1]; exact (F.sc hs).trans (Fsc_a hs (Or.inl rfl))
      have C1 : CuC m1 s n (i + 1) := C2.fr (by rw [hm1]; exact up_ne (by omega))
      have k1 : m1 sb 2 = (k : Int) := by rw [hm1, up_ne (by omega)]; exact k2
      have e3 : ∀ j, j ≠ k → m1 (sb + 1) j = h (sb + 1) j ∧ m1 (sb + 2) j = h (sb + 2) j := fun j hj => by
        rw [hm1, up_nj hj, up_ne (by omega), F.1 (sb + 1) (by omega), F.1 (sb + 2) (by omega)]; exact ⟨rfl, rfl⟩
      (try simp (disch := omega) only [bi_0, x_ic, x_lc, x_ld, x_st, x_sl, x_inc, x_b32, x_b64, x_d32, x_d64, x_s64, x_un, x_lcmp, x_dup, x_pop, x_dup2, x_if, x_cmp, x_sw, swk, x_ald, x_ast, x_alen, x_getf, x_putf, x_inv, x_mm, x_copy, x_iret, x_lret, x_vret, ok1, pu, ct, rcv, rcs, ent0, List.getElem?_cons_zero, List.getElem?_cons_succ, List.getElem?_nil, List.set_cons_zero, List.set_cons_succ, List.take_succ_cons, List.take_zero, List.drop_succ_cons, List.drop_zero, List.reverse_cons, List.reverse_nil, List.nil_append, List.cons_append, List.length_cons, List.length_nil, true_and, and_true, and_self, ne_eq, not_true_eq_false, not_false_eq_true, reduceIte, true_or, or_true, false_or, or_false, Nat.reduceAdd, Nat.reduceSub, Nat.reduceMul, Nat.reduceLeDiff, Nat.reduceEqDiff, Nat.reduceLT, Nat.le_refl, Nat.zero_le, Int.reduceToNat, Int.reduceAdd, Int.reduceSub, Int.reduceMul, Int.reduceNeg, Int.reduceLT, Int.reduceLE, Int.reduceEq, Nat.zero_add, Nat.add_zero, Nat.reduceBEq, Nat.one_ne_zero, Nat.zero_ne_one, Nat.lt_irrefl, Nat.succ_ne_zero, w32_id, ixc, ixc2, Int.toNat_natCast, o, g0, k2, (sc_l hs).1, em])
      refine ⟨by omega, fun y => ?_, fun y => ?_⟩
      · have n10 : ¬ isWd s n i 10 := fun q => by have := w10.mpr q; omega
        rw [iF_f n10] at hQ
        refine Cl.imp (c_readPut (l := l) (d := d) (F1.tx hs T) C1 hs hnb k1 (by omega) (by rw [F1.1 nb (by omega) (by omega) (by omega) (by omega)]; exact hf) hf4 (by rw [F1.1 (nb + 4) (by omega) (by omega) (by omega) (by omega)]; exact Na)) (fun r sh' m2 q => ?_)
        obtain ⟨rfl, F2, q⟩ := q
        have F12 := F1.trans F2
        obtain ⟨pv, P⟩ : ∃ pv, pv = ptL s n nm nf (i + 1) := ⟨_, rfl⟩
        rw [← P] at q
        unfold ptL at P
        -- a fault in it
        have bad : ∀ f : Int, 1 ≤ f → pv = f → (∀ r sh h_1, (sh = SHP ∧ Fsc sb h h_1 ∧ r = 0 ∧ h_1 1 8 = f) → Q r sh h_1) → (r = 0 → Q 0 SHP m2) ∧ (¬ r = 0 → V l (d + 5) 0 0 M_X5_readLine 0 0 72 Q [(2, (sb : Int) + 1), (2, 2), (2, (nb : Int) + 1), (0, kd)] [] SHP m2) := by
          intro f hf1 hp hQ3
          rcases q with ⟨q1, _⟩ | ⟨q1, q2, q3⟩
          · omega
          · exact ⟨fun _ => hQ3 _ _ _ ⟨rfl, F12, rfl, by rw [q3, hp]⟩, fun x => absurd q2 x⟩
        (try simp (disch := omega) only [bi_0, x_ic, x_lc, x_ld, x_st, x_sl, x_inc, x_b32, x_b64, x_d32, x_d64, x_s64, x_un, x_lcmp, x_dup, x_pop, x_dup2, x_if, x_cmp, x_sw, swk, x_ald, x_ast, x_alen, x_getf, x_putf, x_inv, x_mm, x_copy, x_iret, x_lret, x_vret, ok1, pu, ct, rcv, rcs, ent0, List.getElem?_cons_zero, List.getElem?_cons_succ, List.getElem?_nil, List.set_cons_zero, List.set_cons_succ, List.take_succ_cons, List.take_zero, List.drop_succ_cons, List.drop_zero, List.reverse_cons, List.reverse_nil, List.nil_append, List.cons_append, List.length_cons, List.length_nil, true_and, and_true, and_self, ne_eq, not_true_eq_false, not_false_eq_true, reduceIte, true_or, or_true, false_or, or_false, Nat.reduceAdd, Nat.reduceSub, Nat.reduceMul, Nat.reduceLeDiff, Nat.reduceEqDiff, Nat.reduceLT, Nat.le_refl, Nat.zero_le, Int.reduceToNat, Int.reduceAdd, Int.reduceSub, Int.reduceMul, Int.reduceNeg, Int.reduceLT, Int.reduceLE, Int.reduceEq, Nat.zero_add, Nat.add_zero, Nat.reduceBEq, Nat.one_ne_zero, Nat.zero_ne_one, Nat.lt_irrefl, Nat.succ_ne_zero, w32_id, ixc, ixc2, Int.toNat_natCast])
        by_cases a1 : isNm s n (i + 1)
        · rw [iF_f (fun x => x a1)] at hQ P
          by_cases a2 : naF nm (tkVa s n (i + 1)) 10 nf < 0
          · rw [iF_t a2] at hQ P
            have b := flt_b (s := s) (n := n) (i := i + 1) (w := 2) (by decide)
            exact bad _ b P (fun r sh h_1 x => hQ r sh h_1 ⟨x.1, x.2.1, Or.inr ⟨by dsimp only; omega, x.2.2.1, x.2.2.2⟩⟩)
          · rw [iF_f a2] at hQ P
            by_cases a3 : tkSo s n (i + 2) = 2
            · rw [iF_f (fun x => x a3)] at hQ P
              by_cases a4 : 1 ≤ tkVa s n (i + 2) ∧ tkVa s n (i + 2) ≤ 9
              · rw [iF_f (fun x => x a4)] at hQ P
                rcases q with ⟨q1, rfl, q3, q4, q5, q6⟩ | ⟨q1, _⟩
                · refine ⟨fun x => absurd x (by decide), fun _ => ?_⟩
                  refine fin m2 (i + 3) (naF nm (tkVa s n (i + 1)) 10 nf) (tkVa s n (i + 2)) F12 q3 q4 (by omega) q5.1 (fun _ => q5.2) (fun j hj => ?_) hQ
                  rw [(q6 j hj).1, (q6 j hj).2]; exact e3 j hj
                · exact absurd P q1
              · rw [iF_t a4] at hQ P
                have b := flt_b (s := s) (n := n) (i := i + 2) (w := 4) (by decide)
                exact bad _ b P (fun r sh h_1 x => hQ r sh h_1 ⟨x.1, x.2.1, Or.inr ⟨by dsimp only; omega, x.2.2.1, x.2.2.2⟩⟩)
            · rw [iF_t a3] at hQ P
              have b := flt_b (s := s) (n := n) (i := i + 2) (w := 1) (by decide)
              exact bad _ b P (fun r sh h_1 x => hQ r sh h_1 ⟨x.1, x.2.1, Or.inr ⟨by dsimp only; omega, x.2.2.1, x.2.2.2⟩⟩)
        · rw [iF_t a1] at hQ P
          have b := flt_b (s := s) (n := n) (i := i + 1) (w := 1) (by decide)
          exact bad _ b P (fun r sh h_1 x => hQ r sh h_1 ⟨x.1, x.2.1, Or.inr ⟨by dsimp only; omega, x.2.2.1, x.2.2.2⟩⟩)
      · have h10 : isWd s n i 10 := by
          rcases hw with q | q
          · exact q
          · exact absurd (w11.mpr q) y
        rw [iF_t h10] at hQ
        exact fin m1 (i + 1) (-1) 0 F1 C1 k1 (by omega) (by rw [hm1, up_at]) (fun x => absurd rfl x) e3 hQ
    · rw [iF_t (show k = 40 by omega)] at hQ
      refine Cl.app (c_wrong (l := l) (d := d + 3) T C (w := 5) (by decide)) ?_
      (try simp (disch := omega) only [bi_0, x_ic, x_lc, x_ld, x_st, x_sl, x_inc, x_b32, x_b64, x_d32, x_d64, x_s64, x_un, x_lcmp, x_dup, x_pop, x_dup2, x_if, x_cmp, x_sw, swk, x_ald, x_ast, x_alen, x_getf, x_putf, x_inv, x_mm, x_copy, x_iret, x_lret, x_vret, ok1, pu, ct, rcv, rcs, ent0, List.getElem?_cons_zero, List.getElem?_cons_succ, List.getElem?_nil, List.set_cons_zero, List.set_cons_succ, List.take_succ_cons, List.take_zero, List.drop_succ_cons, List.drop_zero, List.reverse_cons, List.reverse_nil, List.nil_append, List.cons_append, List.length_cons, List.length_nil, true_and, and_true, and_self, ne_eq, not_true_eq_false, not_false_eq_true, reduceIte, true_or, or_true, false_or, or_false, Nat.reduceAdd, Nat.reduceSub, Nat.reduceMul, Nat.reduceLeDiff, Nat.reduceEqDiff, Nat.reduceLT, Nat.le_refl, Nat.zero_le, Int.reduceToNat, Int.reduceAdd, Int.reduceSub, Int.reduceMul, Int.reduceNeg, Int.reduceLT, Int.reduceLE, Int.reduceEq, Nat.zero_add, Nat.add_zero, Nat.reduceBEq, Nat.one_ne_zero, Nat.zero_ne_one, Nat.lt_irrefl, Nat.succ_ne_zero, w32_id, ixc, ixc2, Int.toNat_natCast])
      have b := flt_b (s := s) (n := n) (i := i) (w := 5) (by decide)
      exact hQ _ _ _ ⟨rfl, Fsc_8 hs, Or.inr ⟨by dsimp only; omega, rfl, up_at⟩⟩
  show V l (d + 5) 0 0 M_X5_readLine 0 0 0 Q [(2, (sb : Int) + 1), (2, 2), (2, (nb : Int) + 1), (9, 0)] [] SHP h
  refine S_X5_readLine_0 _ _ _ _ ?_; simp (disch := omega) only [B_X5_readLine_0, bi_0, x_ic, x_lc, x_ld, x_st, x_sl, x_inc, x_b32, x_b64, x_d32, x_d64, x_s64, x_un, x_lcmp, x_dup, x_pop, x_dup2, x_if, x_cmp, x_sw, swk, x_ald, x_ast, x_alen, x_getf, x_putf, x_inv, x_mm, x_copy, x_iret, x_lret, x_vret, ok1, pu, ct, rcv, rcs, ent0, List.getElem?_cons_zero, List.getElem?_cons_succ, List.getElem?_nil, List.set_cons_zero, List.set_cons_succ, List.take_succ_cons, List.take_zero, List.drop_succ_cons, List.drop_zero, List.reverse_cons, List.reverse_nil, List.nil_append, List.cons_append, List.length_cons, List.length_nil, true_and, and_true, and_self, ne_eq, not_true_eq_false, not_false_eq_true, reduceIte, true_or, or_true, false_or, or_false, Nat.reduceAdd, Nat.reduceSub, Nat.reduceMul, Nat.reduceLeDiff, Nat.reduceEqDiff, Nat.reduceLT, Nat.le_refl, Nat.zero_le, Int.reduceToNat, Int.reduceAdd, Int.reduceSub, Int.reduceMul, Int.reduceNeg, Int.reduceLT, Int.reduceLE, Int.reduceEq, Nat.zero_add, Nat.add_zero, Nat.reduceBEq, Nat.one_ne_zero, Nat.zero_ne_one, Nat.lt_irrefl, Nat.succ_ne_zero, w32_id, ixc, ixc2, Int.toNat_natCast, ob_1, hkd2]
  refine ⟨fun z => go (Or.inl (w10.mp z)), fun z => ⟨fun y => go (Or.inr (w11.mp y)), fun y => ?_⟩⟩
  rw [iF_t ⟨fun q => z (w10.mpr q), fun q => y (w11.mpr q)⟩] at hQ
  refine Cl.app (c_wrong (l := l) (d := d + 3) T C (w := 1) (by decide)) ?_
  (try simp (disch := omega) only [bi_0, x_ic, x_lc, x_ld, x_st, x_sl, x_inc, x_b32, x_b64, x_d32, x_d64, x_s64, x_un, x_lcmp, x_dup, x_pop, x_dup2, x_if, x_cmp, x_sw, swk, x_ald, x_ast, x_alen, x_getf, x_putf, x_inv, x_mm, x_copy, x_iret, x_lret, x_vret, ok1, pu, ct, rcv, rcs, ent0, List.getElem?_cons_zero, List.getElem?_cons_succ, List.getElem?_nil, List.set_cons_zero, List.set_cons_succ, List.take_succ_cons, List.take_zero, List.drop_succ_cons, List.drop_zero, List.reverse_cons, List.reverse_nil, List.nil_append, List.cons_append, List.length_cons, List.length_nil, true_and, and_true, and_self, ne_eq, not_true_eq_false, not_false_eq_true, reduceIte, true_or, or_true, false_or, or_false, Nat.reduceAdd, Nat.reduceSub, Nat.reduceMul, Nat.reduceLeDiff, Nat.reduceEqDiff, Nat.reduceLT, Nat.le_refl, Nat.zero_le, Int.reduceToNat, Int.reduceAdd, Int.reduceSub, Int.reduceMul, Int.reduceNeg, Int.reduceLT, Int.reduceLE, Int.reduceEq, Nat.zero_add, Nat.add_zero, Nat.reduceBEq, Nat.one_ne_zero, Nat.zero_ne_one, Nat.lt_irrefl, Nat.succ_ne_zero, w32_id, ixc, ixc2, Int.toNat_natCast])
  have b := flt_b (s := s) (n := n) (i := i) (w := 1) (by decide)
  exact hQ _ _ _ ⟨rfl, Fsc_8 hs, Or.inr ⟨by dsimp only; omega, rfl, up_at⟩⟩
end CL2

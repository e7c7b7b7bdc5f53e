/-! the class: a run's lines, draws -/
def ScR (h : Mem) (sb : Nat) : Prop := h sb 2 = h 223 0 ∧ ∀ i : Nat, (i : Int) < h 223 0 → h (sb + 1) i = h 223 (1 + 2 * i) ∧ (h 223 (1 + 2 * i) ≠ -1 → h (sb + 2) i = h 223 (2 + 2 * i))
theorem sc_ob {sb : Nat} (hs : sb = 66 ∨ sb = 69) : ob SHP 5 ((sb : Int) + 1) := by
  rcases hs with rfl | rfl
  · exact ob_66
  · exact ob_69
theorem sc_f {h : Mem} {sb : Nat} (L : Lay h) (hs : sb = 66 ∨ sb = 69) : h sb 0 = ((sb + 1 : Nat) : Int) + 1 ∧ h sb 1 = ((sb + 2 : Nat) : Int) + 1 := by
  rcases hs with rfl | rfl
  · exact ⟨ly_66_0 L, ly_66_1 L⟩
  · exact ⟨ly_69_0 L, ly_69_1 L⟩
theorem sc_l {sb : Nat} (hs : sb = 66 ∨ sb = 69) : ln SHP 0 (((sb + 1 : Nat) : Int) + 1) = 40 ∧ ln SHP 0 (((sb + 2 : Nat) : Int) + 1) = 40 := by
  rcases hs with rfl | rfl
  · exact ⟨ln_67, ln_68⟩
  · exact ⟨ln_70, ln_71⟩
section CP
variable {l : Launch} {d : Nat} {h : Mem} {tb nb sb : Nat} {T : TS}
theorem c_play (L : Lay h) (ht : Trf tb) (hnb : nb = 4 ∨ nb = 34) (hs : sb = 66 ∨ sb = 69) (R : RN h nb) (W : WN (h 220)) (M : Mono (h 220)) {P : Nat → Wd} {n : Nat} (Lc : LwC h nb P n) (S : ScR h sb) (hL : LnW (h 220) (h 223)) : Cl l (d + 5) M_X9_play [(2, (tb : Int) + 1), (2, (nb : Int) + 1), (2, (sb : Int) + 1)] SHP h (fun r sh' h' => r = (lnS (h 220) P n (h 223) (h 223 0).toNat).2 ∧ sh' = SHP ∧ Fy tb nb h h' ∧ CS h' tb (lnS (h 220) P n (h 223) (h 223 0).toNat).1) := by
  have o := tf_ob ht
  have os := sc_ob hs
  have htb : 72 ≤ tb ∧ tb ≤ 148 := by unfold Trf at ht; omega
  refine Cl_hide (fun Q hQ => ?_)
  obtain ⟨nt, ent⟩ : ∃ nt, nt = h 220 := ⟨_, rfl⟩
  obtain ⟨lv, elv⟩ : ∃ lv, lv = h 223 := ⟨_, rfl⟩
  rw [← ent, ← elv] at hQ hL
  rw [← ent] at W M
  unfold ScR at S
  rw [← elv] at S
  have nf := W.nf
  have kn : ∀ {m}, Fy tb nb h m → Lay m ∧ m 220 = nt ∧ m sb 2 = lv 0 ∧ (∀ i : Nat, (i : Int) < lv 0 → m (sb + 1) i = lv (1 + 2 * i) ∧ (lv (1 + 2 * i) ≠ -1 → m (sb + 2) i = lv (2 + 2 * i))) ∧ RN m nb ∧ LwC m nb P n := fun {m} F => by
    refine ⟨F.lay ht hnb L, by rw [ent]; exact F.n220 ht hnb, ?_, ?_, F.rn ht hnb R (by rw [← ent]; exact W), F.lw ht hnb Lc⟩
    · rw [F.1 sb (by omega) (by omega)]; exact S.1
    · rw [F.1 (sb + 1) (by omega) (by omega), F.1 (sb + 2) (by omega) (by omega)]; exact S.2
  obtain ⟨ln, hln⟩ : ∃ ln : Nat, lv 0 = (ln : Int) := ⟨(lv 0).toNat, by have := hL.1; omega⟩
  have hl40 : ln ≤ 40 := by have := hL.1; omega
  rw [hln, Int.toNat_natCast] at hQ
  have key : ∀ (g i : Nat), i + g = ln → ∀ (m : Mem), Fy tb nb h m → CS m tb (lnS nt P n lv i).1 → V l (d + 5) 0 0 M_X9_play 0 0 9 Q [(2, (tb : Int) + 1), (2, (nb : Int) + 1), (2, (sb : Int) + 1), (0, (lnS nt P n lv i).2), (0, (i : Int)), (9, 0), (9, 0)] [] SHP m := by
    intro g
    induction g with
    | zero =>
      intro i hi m F C
      obtain ⟨Lm, e220, s2, _⟩ := kn F
      refine S_X9_play_9 _ _ _ _ ?_; simp (disch := omega) only [B_X9_play_9, bi_0, x_ic, x_lc, x_ld, x_st, x_sl, x_inc, x_b32, x_b64, x_d32, x_d64, x_s64, x_un, x_lcmp, x_dup, x_pop, x_dup2, x_if, x_cmp, x_sw, swk, x_ald, x_ast, x_alen, x_getf, x_putf, x_inv, x_mm, x_copy, x_iret, x_lret, x_vret, ok1, pu, ct, rcv, rcs, ent0, List.getElem?_cons_zero, List.getElem?_cons_succ, List.getElem?_nil, List.set_cons_zero, List.set_cons_succ, List.take_succ_cons, List.take_zero, List.drop_succ_cons, List.drop_zero, List.reverse_cons, List.reverse_nil, List.nil_append, List.cons_append, List.length_cons, List.length_nil, true_and, and_true, and_self, ne_eq, not_true_eq_false, not_false_eq_true, reduceIte, true_or, or_true, false_or, or_false, Nat.reduceAdd, Nat.reduceSub, Nat.reduceMul, Nat.reduceLeDiff, Nat.reduceEqDiff, Nat.reduceLT, Nat.le_refl, Nat.zero_le, Int.reduceToNat, Int.reduceAdd, Int.reduceSub, Int.reduceMul, Int.reduceNeg, Int.reduceLT, Int.reduceLE, Int.reduceEq, Nat.zero_add, Nat.add_zero, Nat.reduceBEq, Nat.one_ne_zero, Nat.zero_ne_one, Nat.lt_irrefl, Nat.succ_ne_zero, w32_id, ixc, ixc2, Int.toNat_natCast, os, s2, hln]
      refine ⟨fun _ => ?_, fun z => absurd z (by omega)⟩
      refine S_X9_play_90 _ _ _ _ ?_; simp (disch := omega) only [B_X9_play_90, bi_0, x_ic, x_lc, x_ld, x_st, x_sl, x_inc, x_b32, x_b64, x_d32, x_d64, x_s64, x_un, x_lcmp, x_dup, x_pop, x_dup2, x_if, x_cmp, x_sw, swk, x_ald, x_ast, x_alen, x_getf, x_putf, x_inv, x_mm, x_copy, x_iret, x_lret, x_vret, ok1, pu, ct, rcv, rcs, ent0, List.getElem?_cons_zero, List.getElem?_cons_succ, List.getElem?_nil, List.set_cons_zero, List.set_cons_succ, List.take_succ_cons, List.take_zero, List.drop_succ_cons, List.drop_zero, List.reverse_cons, List.reverse_nil, List.nil_append, List.cons_append, List.length_cons, List.length_nil, true_and, and_true, and_self, ne_eq, not_true_eq_false, not_false_eq_true, reduceIte, true_or, or_true, false_or, or_false, Nat.reduceAdd, Nat.reduceSub, Nat.reduceMul, Nat.reduceLeDiff, Nat.reduceEqDiff, Nat.reduceLT, Nat.le_refl, Nat.zero_le, Int.reduceToNat, Int.reduceAdd, Int.reduceSub, Int.reduceMul, Int.reduceNeg, Int.reduceLT, Int.reduceLE, Int.reduceEq, Nat.zero_add, Nat.add_zero, Nat.reduceBEq, Nat.one_ne_zero, Nat.zero_ne_one, Nat.lt_irrefl, Nat.succ_ne_zero, w32_id, ixc, ixc2, Int.toNat_natCast]
      rw [show i = ln by omega] at C ⊢
      exact hQ _ _ _ ⟨rfl, rfl, F, C⟩
    | succ g ih =>
      intro i hi m F C
      obtain ⟨Lm, e220, s2, s3, Rm, Lm2⟩ := kn F
      obtain ⟨s4, s5⟩ := s3 i (by omega)
      have ih := ih (i + 1) (by omega)
      rw [lnS] at ih
      have lw := lnS_w (P := P) (n := n) (ln := lv) W i
      have hc := hL.2 i (by omega)
      obtain ⟨X, hX⟩ : ∃ X, X = lnS nt P n lv i := ⟨_, rfl⟩
      rw [← hX] at ih C lw ⊢
      have f1 := sc_f Lm hs
      refine S_X9_play_9 _ _ _ _ ?_; simp (disch := omega) only [B_X9_play_9, bi_0, x_ic, x_lc, x_ld, x_st, x_sl, x_inc, x_b32, x_b64, x_d32, x_d64, x_s64, x_un, x_lcmp, x_dup, x_pop, x_dup2, x_if, x_cmp, x_sw, swk, x_ald, x_ast, x_alen, x_getf, x_putf, x_inv, x_mm, x_copy, x_iret, x_lret, x_vret, ok1, pu, ct, rcv, rcs, ent0, List.getElem?_cons_zero, List.getElem?_cons_succ, List.getElem?_nil, List.set_cons_zero, List.set_cons_succ, List.take_succ_cons, List.take_zero, List.drop_succ_cons, List.drop_zero, List.reverse_cons, List.reverse_nil, List.nil_append, List.cons_append, List.length_cons, List.length_nil, true_and, and_true, and_self, ne_eq, not_true_eq_false, not_false_eq_true, reduceIte, true_or, or_true, false_or, or_false, Nat.reduceAdd, Nat.reduceSub, Nat.reduceMul, Nat.reduceLeDiff, Nat.reduceEqDiff, Nat.reduceLT, Nat.le_refl, Nat.zero_le, Int.reduceToNat, Int.reduceAdd, Int.reduceSub, Int.reduceMul, Int.reduceNeg, Int.reduceLT, Int.reduceLE, Int.reduceEq, Nat.zero_add, Nat.add_zero, Nat.reduceBEq, Nat.one_ne_zero, Nat.zero_ne_one, Nat.lt_irrefl, Nat.succ_ne_zero, w32_id, ixc, ixc2, Int.toNat_natCast, os, s2, hln, f1.1, (sc_l hs).1, s4]
      refine ⟨fun z => absurd z (by omega), fun _ => ⟨by omega, fun z => ?_, fun z => ?_⟩⟩
      · have zl : lv (1 + 2 * i) < 0 := by omega
        rw [iF_t zl] at ih
        refine S_X9_play_34 _ _ _ _ ?_; simp (disch := omega) only [B_X9_play_34, bi_0, x_ic, x_lc, x_ld, x_st, x_sl, x_inc, x_b32, x_b64, x_d32, x_d64, x_s64, x_un, x_lcmp, x_dup, x_pop, x_dup2, x_if, x_cmp, x_sw, swk, x_ald, x_ast, x_alen, x_getf, x_putf, x_inv, x_mm, x_copy, x_iret, x_lret, x_vret, ok1, pu, ct, rcv, rcs, ent0, List.getElem?_cons_zero, List.getElem?_cons_succ, List.getElem?_nil, List.set_cons_zero, List.set_cons_succ, List.take_succ_cons, List.take_zero, List.drop_succ_cons, List.drop_zero, List.reverse_cons, List.reverse_nil, List.nil_append, List.cons_append, List.length_cons, List.length_nil, true_and, and_true, and_self, ne_eq, not_true_eq_false, not_false_eq_true, reduceIte, true_or, or_true, false_or, or_false, Nat.reduceAdd, Nat.reduceSub, Nat.reduceMul, Nat.reduceLeDiff, Nat.reduceEqDiff, Nat.reduceLT, Nat.le_refl, Nat.zero_le, Int.reduceToNat, Int.reduceAdd, Int.reduceSub, Int.reduceMul, Int.reduceNeg, Int.reduceLT, Int.reduceLE, Int.reduceEq, Nat.zero_add, Nat.add_zero, Nat.reduceBEq, Nat.one_ne_zero, Nat.zero_ne_one, Nat.lt_irrefl, Nat.succ_ne_zero, w32_id, ixc, ixc2, Int.toNat_natCast, o]
        refine ⟨fun y => y.elim, fun _ => ?_⟩
        refine Cl.imp (c_passOn (l := l) (d := d) Lm ht hnb Rm (by rw [e220]; exact W) (by rw [e220]; exact M) C (by rw [e220]; exact lw.1)) (fun r sh' m2 q => ?_)
        obtain ⟨rfl, F2, q⟩ := q
        rw [e220] at q
        have F3 := F.trans F2.y
        (try simp (disch := omega) only [bi_0, x_ic, x_lc, x_ld, x_st, x_sl, x_inc, x_b32, x_b64, x_d32, x_d64, x_s64, x_un, x_lcmp, x_dup, x_pop, x_dup2, x_if, x_cmp, x_sw, swk, x_ald, x_ast, x_alen, x_getf, x_putf, x_inv, x_mm, x_copy, x_iret, x_lret, x_vret, ok1, pu, ct, rcv, rcs, ent0, List.getElem?_cons_zero, List.getElem?_cons_succ, List.getElem?_nil, List.set_cons_zero, List.set_cons_succ, List.take_succ_cons, List.take_zero, List.drop_succ_cons, List.drop_zero, List.reverse_cons, List.reverse_nil, List.nil_append, List.cons_append, List.length_cons, List.length_nil, true_and, and_true, and_self, ne_eq, not_true_eq_false, not_false_eq_true, reduceIte, true_or, or_true, false_or, or_false, Nat.reduceAdd, Nat.reduceSub, Nat.reduceMul, Nat.reduceLeDiff, Nat.reduceEqDiff, Nat.reduceLT, Nat.le_refl, Nat.zero_le, Int.reduceToNat, Int.reduceAdd, Int.reduceSub, Int.reduceMul, Int.reduceNeg, Int.reduceLT, Int.reduceLE, Int.reduceEq, Nat.zero_add, Nat.add_zero, Nat.reduceBEq, Nat.one_ne_zero, Nat.zero_ne_one, Nat.lt_irrefl, Nat.succ_ne_zero, w32_id, ixc, ixc2, Int.toNat_natCast])
        rcases q with ⟨q1, q2, q3⟩ | ⟨q1, q2, q3⟩
        · rw [iF_f (by omega)] at ih
          subst q2 q3
          refine S_X9_play_68 _ _ _ _ ?_; simp (disch := omega) only [B_X9_play_68, bi_0, x_ic, x_lc, x_ld, x_st, x_sl, x_inc, x_b32, x_b64, x_d32, x_d64, x_s64, x_un, x_lcmp, x_dup, x_pop, x_dup2, x_if, x_cmp, x_sw, swk, x_ald, x_ast, x_alen, x_getf, x_putf, x_inv, x_mm, x_copy, x_iret, x_lret, x_vret, ok1, pu, ct, rcv, rcs, ent0, List.getElem?_cons_zero, List.getElem?_cons_succ, List.getElem?_nil, List.set_cons_zero, List.set_cons_succ, List.take_succ_cons, List.take_zero, List.drop_succ_cons, List.drop_zero, List.reverse_cons, List.reverse_nil, List.nil_append, List.cons_append, List.length_cons, List.length_nil, true_and, and_true, and_self, ne_eq, not_true_eq_false, not_false_eq_true, reduceIte, true_or, or_true, false_or, or_false, Nat.reduceAdd, Nat.reduceSub, Nat.reduceMul, Nat.reduceLeDiff, Nat.reduceEqDiff, Nat.reduceLT, Nat.le_refl, Nat.zero_le, Int.reduceToNat, Int.reduceAdd, Int.reduceSub, Int.reduceMul, Int.reduceNeg, Int.reduceLT, Int.reduceLE, Int.reduceEq, Nat.zero_add, Nat.add_zero, Nat.reduceBEq, Nat.one_ne_zero, Nat.zero_ne_one, Nat.lt_irrefl, Nat.succ_ne_zero, w32_id, ixc, ixc2, Int.toNat_natCast]
          refine ⟨fun _ => ⟨fun y => ?_, fun y => ?_⟩, fun y => y.elim⟩
          · rw [if_pos (by omega)] at ih
            refine S_X9_play_84 _ _ _ _ ?_; simp (disch := omega) only [B_X9_play_84, bi_0, x_ic, x_lc, x_ld, x_st, x_sl, x_inc, x_b32, x_b64, x_d32, x_d64, x_s64, x_un, x_lcmp, x_dup, x_pop, x_dup2, x_if, x_cmp, x_sw, swk, x_ald, x_ast, x_alen, x_getf, x_putf, x_inv, x_mm, x_copy, x_iret, x_lret, x_vret, ok1, pu, ct, rcv, rcs, ent0, List.getElem?_cons_zero, List.getElem?_cons_succ, List.getElem?_nil, List.set_cons_zero, List.set_cons_succ, List.take_succ_cons, List.take_zero, List.drop_succ_cons, List.drop_zero, List.reverse_cons, List.reverse_nil, List.nil_append, List.cons_append, List.length_cons, List.length_nil, true_and, and_true, and_self, ne_eq, not_true_eq_false, not_false_eq_true, reduceIte, true_or, or_true, false_or, or_false, Nat.reduceAdd, Nat.reduceSub, Nat.reduceMul, Nat.reduceLeDiff, Nat.reduceEqDiff, Nat.reduceLT, Nat.le_refl, Nat.zero_le, Int.reduceToNat, Int.reduceAdd, Int.reduceSub, Int.reduceMul, Int.reduceNeg, Int.reduceLT, Int.reduceLE, Int.reduceEq, Nat.zero_add, Nat.add_zero, Nat.reduceBEq, Nat.one_ne_zero, Nat.zero_ne_one, Nat.lt_irrefl, Nat.succ_ne_zero, w32_id, ixc, ixc2, Int.toNat_natCast]
            exact V_fg [5, 6] (ih _ F C)
          · rw [if_neg (by omega)] at ih
            refine S_X9_play_84 _ _ _ _ ?_; simp (disch := omega) only [B_X9_play_84, bi_0, x_ic, x_lc, x_ld, x_st, x_sl, x_inc, x_b32, x_b64, x_d32, x_d64, x_s64, x_un, x_lcmp, x_dup, x_pop, x_dup2, x_if, x_cmp, x_sw, swk, x_ald, x_ast, x_alen, x_getf, x_putf, x_inv, x_mm, x_copy, x_iret, x_lret, x_vret, ok1, pu, ct, rcv, rcs, ent0, List.getElem?_cons_zero, List.getElem?_cons_succ, List.getElem?_nil, List.set_cons_zero, List.set_cons_succ, List.take_succ_cons, List.take_zero, List.drop_succ_cons, List.drop_zero, List.reverse_cons, List.reverse_nil, List.nil_append, List.cons_append, List.length_cons, List.length_nil, true_and, and_true, and_self, ne_eq, not_true_eq_false, not_false_eq_true, reduceIte, true_or, or_true, false_or, or_false, Nat.reduceAdd, Nat.reduceSub, Nat.reduceMul, Nat.reduceLeDiff, Nat.reduceEqDiff, Nat.reduceLT, Nat.le_refl, Nat.zero_le, Int.reduceToNat, Int.reduceAdd, Int.reduceSub, Int.reduceMul, Int.reduceNeg, Int.reduceLT, Int.reduceLE, Int.reduceEq, Nat.zero_add, Nat.add_zero, Nat.reduceBEq, Nat.one_ne_zero, Nat.zero_ne_one, Nat.lt_irrefl, Nat.succ_ne_zero, w32_id, ixc, ixc2, Int.toNat_natCast]
            exact V_fg [5, 6] (ih _ F C)
        · rw [iF_t q1] at ih
          have tb0 := tkG_b (nt := nt) (T := X.1)
          refine S_X9_play_68 _ _ _ _ ?_; simp (disch := omega) only [B_X9_play_68, bi_0, x_ic, x_lc, x_ld, x_st, x_sl, x_inc, x_b32, x_b64, x_d32, x_d64, x_s64, x_un, x_lcmp, x_dup, x_pop, x_dup2, x_if, x_cmp, x_sw, swk, x_ald, x_ast, x_alen, x_getf, x_putf, x_inv, x_mm, x_copy, x_iret, x_lret, x_vret, ok1, pu, ct, rcv, rcs, ent0, List.getElem?_cons_zero, List.getElem?_cons_succ, List.getElem?_nil, List.set_cons_zero, List.set_cons_succ, List.take_succ_cons, List.take_zero, List.drop_succ_cons, List.drop_zero, List.reverse_cons, List.reverse_nil, List.nil_append, List.cons_append, List.length_cons, List.length_nil, true_and, and_true, and_self, ne_eq, not_true_eq_false, not_false_eq_true, reduceIte, true_or, or_true, false_or, or_false, Nat.reduceAdd, Nat.reduceSub, Nat.reduceMul, Nat.reduceLeDiff, Nat.reduceEqDiff, Nat.reduceLT, Nat.le_refl, Nat.zero_le, Int.reduceToNat, Int.reduceAdd, Int.reduceSub, Int.reduceMul, Int.reduceNeg, Int.reduceLT, Int.reduceLE, Int.reduceEq, Nat.zero_add, Nat.add_zero, Nat.reduceBEq, Nat.one_ne_zero, Nat.zero_ne_one, Nat.lt_irrefl, Nat.succ_ne_zero, w32_id, ixc, ixc2, Int.toNat_natCast]
          refine ⟨fun y => absurd y (by omega), fun y => ?_⟩
          refine S_X9_play_84 _ _ _ _ ?_; simp (disch := omega) only [B_X9_play_84, bi_0, x_ic, x_lc, x_ld, x_st, x_sl, x_inc, x_b32, x_b64, x_d32, x_d64, x_s64, x_un, x_lcmp, x_dup, x_pop, x_dup2, x_if, x_cmp, x_sw, swk, x_ald, x_ast, x_alen, x_getf, x_putf, x_inv, x_mm, x_copy, x_iret, x_lret, x_vret, ok1, pu, ct, rcv, rcs, ent0, List.getElem?_cons_zero, List.getElem?_cons_succ, List.getElem?_nil, List.set_cons_zero, List.set_cons_succ, List.take_succ_cons, List.take_zero, List.drop_succ_cons, List.drop_zero, List.reverse_cons, List.reverse_nil, List.nil_append, List.cons_append, List.length_cons, List.length_nil, true_and, and_true, and_self, ne_eq, not_true_eq_false, not_false_eq_true, reduceIte, true_or, or_true, false_or, or_false, Nat.reduceAdd, Nat.reduceSub, Nat.reduceMul, Nat.reduceLeDiff, Nat.reduceEqDiff, Nat.reduceLT, Nat.le_refl, Nat.zero_le, Int.reduceToNat, Int.reduceAdd, Int.reduceSub, Int.reduceMul, Int.reduceNeg, Int.reduceLT, Int.reduceLE, Int.reduceEq, Nat.zero_add, Nat.add_zero, Nat.reduceBEq, Nat.one_ne_zero, Nat.zero_ne_one, Nat.lt_irrefl, Nat.succ_ne_zero, w32_id, ixc, ixc2, Int.toNat_natCast]
          exact V_fg [5, 6] (ih _ F3 q3)
      · rcases hc with hc | hc
        · exact absurd hc z
        have s5 := s5 z
        rw [iF_f (by omega)] at ih
        obtain ⟨fn, hfn⟩ : ∃ fn : Nat, lv (1 + 2 * i) = (fn : Int) := ⟨(lv (1 + 2 * i)).toNat, by omega⟩
        obtain ⟨kn2, hkn⟩ : ∃ kn2 : Nat, lv (2 + 2 * i) = (kn2 : Int) := ⟨(lv (2 + 2 * i)).toNat, by omega⟩
        rw [hfn, hkn] at ih hc
        rw [hfn] at s4
        rw [hkn] at s5
        refine S_X9_play_33 _ _ _ _ ?_; simp (disch := omega) only [B_X9_play_33, bi_0, x_ic, x_lc, x_ld, x_st, x_sl, x_inc, x_b32, x_b64, x_d32, x_d64, x_s64, x_un, x_lcmp, x_dup, x_pop, x_dup2, x_if, x_cmp, x_sw, swk, x_ald, x_ast, x_alen, x_getf, x_putf, x_inv, x_mm, x_copy, x_iret, x_lret, x_vret, ok1, pu, ct, rcv, rcs, ent0, List.getElem?_cons_zero, List.getElem?_cons_succ, List.getElem?_nil, List.set_cons_zero, List.set_cons_succ, List.take_succ_cons, List.take_zero, List.drop_succ_cons, List.drop_zero, List.reverse_cons, List.reverse_nil, List.nil_append, List.cons_append, List.length_cons, List.length_nil, true_and, and_true, and_self, ne_eq, not_true_eq_false, not_false_eq_true, reduceIte, true_or, or_true, false_or, or_false, Nat.reduceAdd, Nat.reduceSub, Nat.reduceMul, Nat.reduceLeDiff, Nat.reduceEqDiff, Nat.reduceLT, Nat.le_refl, Nat.zero_le, Int.reduceToNat, Int.reduceAdd, Int.reduceSub, Int.reduceMul, Int.reduceNeg, Int.reduceLT, Int.reduceLE, Int.reduceEq, Nat.zero_add, Nat.add_zero, Nat.reduceBEq, Nat.one_ne_zero, Nat.zero_ne_one, Nat.lt_irrefl, Nat.succ_ne_zero, w32_id, ixc, ixc2, Int.toNat_natCast]
        refine S_X9_play_34 _ _ _ _ ?_; simp (disch := omega) only [B_X9_play_34, bi_0, x_ic, x_lc, x_ld, x_st, x_sl, x_inc, x_b32, x_b64, x_d32, x_d64, x_s64, x_un, x_lcmp, x_dup, x_pop, x_dup2, x_if, x_cmp, x_sw, swk, x_ald, x_ast, x_alen, x_getf, x_putf, x_inv, x_mm, x_copy, x_iret, x_lret, x_vret, ok1, pu, ct, rcv, rcs, ent0, List.getElem?_cons_zero, List.getElem?_cons_succ, List.getElem?_nil, List.set_cons_zero, List.set_cons_succ, List.take_succ_cons, List.take_zero, List.drop_succ_cons, List.drop_zero, List.reverse_cons, List.reverse_nil, List.nil_append, List.cons_append, List.length_cons, List.length_nil, true_and, and_true, and_self, ne_eq, not_true_eq_false, not_false_eq_true, reduceIte, true_or, or_true, false_or, or_false, Nat.reduceAdd, Nat.reduceSub, Nat.reduceMul, Nat.reduceLeDiff, Nat.reduceEqDiff, Nat.reduceLT, Nat.le_refl, Nat.zero_le, Int.reduceToNat, Int.reduceAdd, Int.reduceSub, Int.reduceMul, Int.reduceNeg, Int.reduceLT, Int.reduceLE, Int.reduceEq, Nat.zero_add, Nat.add_zero, Nat.reduceBEq, Nat.one_ne_zero, Nat.zero_ne_one, Nat.lt_irrefl, Nat.succ_ne_zero, w32_id, ixc, ixc2, Int.toNat_natCast]
        refine ⟨fun _ => ?_, fun y => y.elim⟩
        refine S_X9_play_49 _ _ _ _ ?_; simp (disch := omega) only [B_X9_play_49, bi_0, x_ic, x_lc, x_ld, x_st, x_sl, x_inc, x_b32, x_b64, x_d32, x_d64, x_s64, x_un, x_lcmp, x_dup, x_pop, x_dup2, x_if, x_cmp, x_sw, swk, x_ald, x_ast, x_alen, x_getf, x_putf, x_inv, x_mm, x_copy, x_iret, x_lret, x_vret, ok1, pu, ct, rcv, rcs, ent0, List.getElem?_cons_zero, List.getElem?_cons_succ, List.getElem?_nil, List.set_cons_zero, List.set_cons_succ, List.take_succ_cons, List.take_zero, List.drop_succ_cons, List.drop_zero, List.reverse_cons, List.reverse_nil, List.nil_append, List.cons_append, List.length_cons, List.length_nil, true_and, and_true, and_self, ne_eq, not_true_eq_false, not_false_eq_true, reduceIte, true_or, or_true, false_or, or_false, Nat.reduceAdd, Nat.reduceSub, Nat.reduceMul, Nat.reduceLeDiff, Nat.reduceEqDiff, Nat.reduceLT, Nat.le_refl, Nat.zero_le, Int.reduceToNat, Int.reduceAdd, Int.reduceSub, Int.reduceMul, Int.reduceNeg, Int.reduceLT, Int.reduceLE, Int.reduceEq, Nat.zero_add, Nat.add_zero, Nat.reduceBEq, Nat.one_ne_zero, Nat.zero_ne_one, Nat.lt_irrefl, Nat.succ_ne_zero, w32_id, ixc, ixc2, Int.toNat_natCast, o, os, f1.1, f1.2, (sc_l hs).1, (sc_l hs).2, s4, s5]
        (repeat' (first | assumption | (with_reducible refine And.intro ?_ ?_) | (refine im (fun hq => ?_); (try (exfalso; omega; done))) | omega))
        refine Cl.imp (c_admit (l := l) (d := d + 1) Lm ht hnb Rm (by rw [e220]; exact W) C (by rw [e220]; exact lw.1) Lm2 (f := fn) (k := kn2) (by rw [e220]; omega) (by omega)) (fun r sh' m2 q => ?_)
        obtain ⟨rfl, F2, q⟩ := q
        rw [e220] at q
        have F3 := F.trans F2
        (try simp (disch := omega) only [bi_0, x_ic, x_lc, x_ld, x_st, x_sl, x_inc, x_b32, x_b64, x_d32, x_d64, x_s64, x_un, x_lcmp, x_dup, x_pop, x_dup2, x_if, x_cmp, x_sw, swk, x_ald, x_ast, x_alen, x_getf, x_putf, x_inv, x_mm, x_copy, x_iret, x_lret, x_vret, ok1, pu, ct, rcv, rcs, ent0, List.getElem?_cons_zero, List.getElem?_cons_succ, List.getElem?_nil, List.set_cons_zero, List.set_cons_succ, List.take_succ_cons, List.take_zero, List.drop_succ_cons, List.drop_zero, List.reverse_cons, List.reverse_nil, List.nil_append, List.cons_append, List.length_cons, List.length_nil, true_and, and_true, and_self, ne_eq, not_true_eq_false, not_false_eq_true, reduceIte, true_or, or_true, false_or, or_false, Nat.reduceAdd, Nat.reduceSub, Nat.reduceMul, Nat.reduceLeDiff, Nat.reduceEqDiff, Nat.reduceLT, Nat.le_refl, Nat.zero_le, Int.reduceToNat, Int.reduceAdd, Int.reduceSub, Int.reduceMul, Int.reduceNeg, Int.reduceLT, Int.reduceLE, Int.reduceEq, Nat.zero_add, Nat.add_zero, Nat.reduceBEq, Nat.one_ne_zero, Nat.zero_ne_one, Nat.lt_irrefl, Nat.succ_ne_zero, w32_id, ixc, ixc2, Int.toNat_natCast])
        unfold putT putC at ih
        rcases q with ⟨q1, q2, q3⟩ | ⟨q1, q2, q3⟩
        · rw [iF_f (by omega)] at ih
          subst q2 q3
          refine S_X9_play_68 _ _ _ _ ?_; simp (disch := omega) only [B_X9_play_68, bi_0, x_ic, x_lc, x_ld, x_st, x_sl, x_inc, x_b32, x_b64, x_d32, x_d64, x_s64, x_un, x_lcmp, x_dup, x_pop, x_dup2, x_if, x_cmp, x_sw, swk, x_ald, x_ast, x_alen, x_getf, x_putf, x_inv, x_mm, x_copy, x_iret, x_lret, x_vret, ok1, pu, ct, rcv, rcs, ent0, List.getElem?_cons_zero, List.getElem?_cons_succ, List.getElem?_nil, List.set_cons_zero, List.set_cons_succ, List.take_succ_cons, List.take_zero, List.drop_succ_cons, List.drop_zero, List.reverse_cons, List.reverse_nil, List.nil_append, List.cons_append, List.length_cons, List.length_nil, true_and, and_true, and_self, ne_eq, not_true_eq_false, not_false_eq_true, reduceIte, true_or, or_true, false_or, or_false, Nat.reduceAdd, Nat.reduceSub, Nat.reduceMul, Nat.reduceLeDiff, Nat.reduceEqDiff, Nat.reduceLT, Nat.le_refl, Nat.zero_le, Int.reduceToNat, Int.reduceAdd, Int.reduceSub, Int.reduceMul, Int.reduceNeg, Int.reduceLT, Int.reduceLE, Int.reduceEq, Nat.zero_add, Nat.add_zero, Nat.reduceBEq, Nat.one_ne_zero, Nat.zero_ne_one, Nat.lt_irrefl, Nat.succ_ne_zero, w32_id, ixc, ixc2, Int.toNat_natCast]
          refine ⟨fun _ => ⟨fun y => ?_, fun y => ?_⟩, fun y => y.elim⟩
          · rw [if_pos (by omega)] at ih
            refine S_X9_play_84 _ _ _ _ ?_; simp (disch := omega) only [B_X9_play_84, bi_0, x_ic, x_lc, x_ld, x_st, x_sl, x_inc, x_b32, x_b64, x_d32, x_d64, x_s64, x_un, x_lcmp, x_dup, x_pop, x_dup2, x_if, x_cmp, x_sw, swk, x_ald, x_ast, x_alen, x_getf, x_putf, x_inv, x_mm, x_copy, x_iret, x_lret, x_vret, ok1, pu, ct, rcv, rcs, ent0, List.getElem?_cons_zero, List.getElem?_cons_succ, List.getElem?_nil, List.set_cons_zero, List.set_cons_succ, List.take_succ_cons, List.take_zero, List.drop_succ_cons, List.drop_zero, List.reverse_cons, List.reverse_nil, List.nil_append, List.cons_append, List.length_cons, List.length_nil, true_and, and_true, and_self, ne_eq, not_true_eq_false, not_false_eq_true, reduceIte, true_or, or_true, false_or, or_false, Nat.reduceAdd, Nat.reduceSub, Nat.reduceMul, Nat.reduceLeDiff, Nat.reduceEqDiff, Nat.reduceLT, Nat.le_refl, Nat.zero_le, Int.reduceToNat, Int.reduceAdd, Int.reduceSub, Int.reduceMul, Int.reduceNeg, Int.reduceLT, Int.reduceLE, Int.reduceEq, Nat.zero_add, Nat.add_zero, Nat.reduceBEq, Nat.one_ne_zero, Nat.zero_ne_one, Nat.lt_irrefl, Nat.succ_ne_zero, w32_id, ixc, ixc2, Int.toNat_natCast]
            exact V_fg [5, 6] (ih _ F C)
          · rw [if_neg (by omega)] at ih
            refine S_X9_play_84 _ _ _ _ ?_; simp (disch := omega) only [B_X9_play_84, bi_0, x_ic, x_lc, x_ld, x_st, x_sl, x_inc, x_b32, x_b64, x_d32, x_d64, x_s64, x_un, x_lcmp, x_dup, x_pop, x_dup2, x_if, x_cmp, x_sw, swk, x_ald, x_ast, x_alen, x_getf, x_putf, x_inv, x_mm, x_copy, x_iret, x_lret, x_vret, ok1, pu, ct, rcv, rcs, ent0, List.getElem?_cons_zero, List.getElem?_cons_succ, List.getElem?_nil, List.set_cons_zero, List.set_cons_succ, List.take_succ_cons, List.take_zero, List.drop_succ_cons, List.drop_zero, List.reverse_cons, List.reverse_nil, List.nil_append, List.cons_append, List.length_cons, List.length_nil, true_and, and_true, and_self, ne_eq, not_true_eq_false, not_false_eq_true, reduceIte, true_or, or_true, false_or, or_false, Nat.reduceAdd, Nat.reduceSub, Nat.reduceMul, Nat.reduceLeDiff, Nat.reduceEqDiff, Nat.reduceLT, Nat.le_refl, Nat.zero_le, Int.reduceToNat, Int.reduceAdd, Int.reduceSub, Int.reduceMul, Int.reduceNeg, Int.reduceLT, Int.reduceLE, Int.reduceEq, Nat.zero_add, Nat.add_zero, Nat.reduceBEq, Nat.one_ne_zero, Nat.zero_ne_one, Nat.lt_irrefl, Nat.succ_ne_zero, w32_id, ixc, ixc2, Int.toNat_natCast]
            exact V_fg [5, 6] (ih _ F C)
        · have qc : (((0 : Int) ≤ (fn : Int) ∧ (fn : Int) < nt 2) ∧ (1 : Int) ≤ (kn2 : Int) ∧ (kn2 : Int) ≤ 9) ∧ ((tmT X.1 : Int) < 60 ∧ ((usT X.1).length : Int) + (kn2 : Int) ≤ 40) := by omega
          rw [iF_t qc, iF_t qc, Int.toNat_natCast, Int.toNat_natCast] at ih
          have pb := puN_b (nt := nt) (P := P) (n := n) (f := fn) (T := X.1) (k := kn2)
          refine S_X9_play_68 _ _ _ _ ?_; simp (disch := omega) only [B_X9_play_68, bi_0, x_ic, x_lc, x_ld, x_st, x_sl, x_inc, x_b32, x_b64, x_d32, x_d64, x_s64, x_un, x_lcmp, x_dup, x_pop, x_dup2, x_if, x_cmp, x_sw, swk, x_ald, x_ast, x_alen, x_getf, x_putf, x_inv, x_mm, x_copy, x_iret, x_lret, x_vret, ok1, pu, ct, rcv, rcs, ent0, List.getElem?_cons_zero, List.getElem?_cons_succ, List.getElem?_nil, List.set_cons_zero, List.set_cons_succ, List.take_succ_cons, List.take_zero, List.drop_succ_cons, List.drop_zero, List.reverse_cons, List.reverse_nil, List.nil_append, List.cons_append, List.length_cons, List.length_nil, true_and, and_true, and_self, ne_eq, not_true_eq_false, not_false_eq_true, reduceIte, true_or, or_true, false_or, or_false, Nat.reduceAdd, Nat.reduceSub, Nat.reduceMul, Nat.reduceLeDiff, Nat.reduceEqDiff, Nat.reduceLT, Nat.le_refl, Nat.zero_le, Int.reduceToNat, Int.reduceAdd, Int.reduceSub, Int.reduceMul, Int.reduceNeg, Int.reduceLT, Int.reduceLE, Int.reduceEq, Nat.zero_add, Nat.add_zero, Nat.reduceBEq, Nat.one_ne_zero, Nat.zero_ne_one, Nat.lt_irrefl, Nat.succ_ne_zero, w32_id, ixc, ixc2, Int.toNat_natCast]
          refine ⟨fun y => absurd y (by omega), fun y => ?_⟩
          refine S_X9_play_84 _ _ _ _ ?_; simp (disch := omega) only [B_X9_play_84, bi_0, x_ic, x_lc, x_ld, x_st, x_sl, x_inc, x_b32, x_b64, x_d32, x_d64, x_s64, x_un, x_lcmp, x_dup, x_pop, x_dup2, x_if, x_cmp, x_sw, swk, x_ald, x_ast, x_alen, x_getf, x_putf, x_inv, x_mm, x_copy, x_iret, x_lret, x_vret, ok1, pu, ct, rcv, rcs, ent0, List.getElem?_cons_zero, List.getElem?_cons_succ, List.getElem?_nil, List.set_cons_zero, List.set_cons_succ, List.take_succ_cons, List.take_zero, List.drop_succ_cons, List.drop_zero, List.reverse_cons, List.reverse_nil, List.nil_append, List.cons_append, List.length_cons, List.length_nil, true_and, and_true, and_self, ne_eq, not_true_eq_false, not_false_eq_true, reduceIte, true_or, or_true, false_or, or_false, Nat.reduceAdd, Nat.reduceSub, Nat.reduceMul, Nat.reduceLeDiff, Nat.reduceEqDiff, Nat.reduceLT, Nat.le_refl, Nat.zero_le, Int.reduceToNat, Int.reduceAdd, Int.reduceSub, Int.reduceMul, Int.reduceNeg, Int.reduceLT, Int.reduceLE, Int.reduceEq, Nat.zero_add, Nat.add_zero, Nat.reduceBEq, Nat.one_ne_zero, Nat.zero_ne_one, Nat.lt_irrefl, Nat.succ_ne_zero, w32_id, ixc, ixc2, Int.toNat_natCast]
          exact V_fg [5, 6] (ih _ F3 q3)
  show V l (d + 5) 0 0 M_X9_play 0 0 0 Q [(2, (tb : Int) + 1), (2, (nb : Int) + 1), (2, (sb : Int) + 1), (9, 0), (9, 0), (9, 0), (9, 0)] [] SHP h
  refine S_X9_play_0 _ _ _ _ ?_; simp (disch := omega) only [B_X9_play_0, bi_0, x_ic, x_lc, x_ld, x_st, x_sl, x_inc, x_b32, x_b64, x_d32, x_d64, x_s64, x_un, x_lcmp, x_dup, x_pop, x_dup2, x_if, x_cmp, x_sw, swk, x_ald, x_ast, x_alen, x_getf, x_putf, x_inv, x_mm, x_copy, x_iret, x_lret, x_vret, ok1, pu, ct, rcv, rcs, ent0, List.getElem?_cons_zero, List.getElem?_cons_succ, List.getElem?_nil, List.set_cons_zero, List.set_cons_succ, List.take_succ_cons, List.take_zero, List.drop_succ_cons, List.drop_zero, List.reverse_cons, List.reverse_nil, List.nil_append, List.cons_append, List.length_cons, List.length_nil, true_and, and_true, and_self, ne_eq, not_true_eq_false, not_false_eq_true, reduceIte, true_or, or_true, false_or, or_false, Nat.reduceAdd, Nat.reduceSub, Nat.reduceMul, Nat.reduceLeDiff, Nat.reduceEqDiff, Nat.reduceLT, Nat.le_refl, Nat.zero_le, Int.reduceToNat, Int.reduceAdd, Int.reduceSub, Int.reduceMul, Int.reduceNeg, Int.reduceLT, Int.reduceLE, Int.reduceEq, Nat.zero_add, Nat.add_zero, Nat.reduceBEq, Nat.one_ne_zero, Nat.zero_ne_one, Nat.lt_irrefl, Nat.succ_ne_zero, w32_id, ixc, ixc2, Int.toNat_natCast, o]
  refine Cl.imp (c_reset (l := l) (d := d + 3) L ht) (fun r sh' m q => ?_)
  obtain ⟨rfl, rfl, F, C⟩ := q
  (try simp (disch := omega) only [bi_0, x_ic, x_lc, x_ld, x_st, x_sl, x_inc, x_b32, x_b64, x_d32, x_d64, x_s64, x_un, x_lcmp, x_dup, x_pop, x_dup2, x_if, x_cmp, x_sw, swk, x_ald, x_ast, x_alen, x_getf, x_putf, x_inv, x_mm, x_copy, x_iret, x_lret, x_vret, ok1, pu, ct, rcv, rcs, ent0, List.getElem?_cons_zero, List.getElem?_cons_succ, List.getElem?_nil, List.set_cons_zero, List.set_cons_succ, List.take_succ_cons, List.take_zero, List.drop_succ_cons, List.drop_zero, List.reverse_cons, List.reverse_nil, List.nil_append, List.cons_append, List.length_cons, List.length_nil, true_and, and_true, and_self, ne_eq, not_true_eq_false, not_false_eq_true, reduceIte, true_or, or_true, false_or, or_false, Nat.reduceAdd, Nat.reduceSub, Nat.reduceMul, Nat.reduceLeDiff, Nat.reduceEqDiff, Nat.reduceLT, Nat.le_refl, Nat.zero_le, Int.reduceToNat, Int.reduceAdd, Int.reduceSub, Int.reduceMul, Int.reduceNeg, Int.reduceLT, Int.reduceLE, Int.reduceEq, Nat.zero_add, Nat.add_zero, Nat.reduceBEq, Nat.one_ne_zero, Nat.zero_ne_one, Nat.lt_irrefl, Nat.succ_ne_zero, w32_id, ixc, ixc2, Int.toNat_natCast])
  exact key ln 0 (by omega) m F.y C
/-- a draw's number told -/
theorem Fy_9 {tb nb : Nat} {a m : Mem} {w : Int} (F : Fy tb nb a m) : Fy tb nb (up a tb 9 w) (up m tb 9 w) := by
  refine ⟨fun i q r => ?_, fun j p => ?_, fun i q => ?_⟩
  · rw [up_ne (by omega), up_ne (by omega)]; exact F.1 i q r
  · by_cases e : j = 9
    · rw [e, up_at, up_at]
    · rw [up_nj e, up_nj e]; exact F.2.1 j p
  · rw [up_ne (by omega), up_ne (by omega)]; exact F.2.2 i q
theorem up_up {h : Mem} {a j : Nat} {v w : Int} : up (up h a j v) a j w = up h a j w := by
  funext i q; unfold up; by_cases e : i = a <;> by_cases e2 : q = j <;> simp [e, e2]
theorem c_playDraws (L : Lay h) (ht : Trf tb) (hnb : nb = 4 ∨ nb = 34) (R : RN h nb) (W : WN (h 220)) (M : Mono (h 220)) {P : Nat → Wd} {n : Nat} (Lc : LwC h nb P n) (C : CS h tb T) (Tw : TW (h 220) T) {s : Int} (hs : 0 ≤ s ∧ s ≤ 9999) {k : Nat} (hk : k ≤ 60) : Cl l (d + 5) M_X9_playDraws [(2, (tb : Int) + 1), (2, (nb : Int) + 1), (0, s), (0, (k : Int))] SHP h (fun r sh' h' => r = (drS (h 220) P n T s k).2.1 ∧ sh' = SHP ∧ Lay h' ∧ (∀ i, i < tb ∨ tb + 22 ≤ i → i ≠ nb + 17 → h' i = h i) ∧ CS h' tb (drS (h 220) P n T s k).1) := by
  have o := tf_ob ht
  have s1 := (net_sh hnb).1
  have htb : 72 ≤ tb ∧ tb ≤ 148 := by unfold Trf at ht; omega
  refine Cl_hide (fun Q hQ => ?_)
  obtain ⟨nt, ent⟩ : ∃ nt, nt = h 220 := ⟨_, rfl⟩
  rw [← ent] at W M hQ Tw
  have nf := W.nf
  have L9 : ∀ v, Lay (up h tb 9 v) := fun v => by rcases ht with rfl | rfl | rfl | rfl <;> exact Lay_upf L (by decide +kernel)
  have R9 : ∀ v, RN (up h tb 9 v) nb := fun v => R.fr (by rw [← ent]; exact W) (fun i hi => up_ne (by omega))
  have kn : ∀ {m v}, Fy tb nb (up h tb 9 v) m → Lay m ∧ m 220 = nt ∧ m nb 13 = nt 2 ∧ RN m nb ∧ LwC m nb P n := fun {m v} F => by
    have e9 : up h tb 9 v 220 = nt := by rw [ent]; exact up_ne (by omega)
    have Rm := F.rn ht hnb (R9 v) (by rw [e9]; exact W)
    have e := F.n220 ht hnb
    rw [e9] at e
    refine ⟨F.lay ht hnb (L9 v), e, ?_, Rm, F.lw ht hnb ?_⟩
    · rw [Rm.2.1.2, e]
    · unfold LwC; rw [up_ne (by omega), up_ne (by omega)]; exact Lc
  have up9 : ∀ {m : Mem} {X : TS} {v : Int}, CS m tb X → CS (up m tb 9 v) tb X := fun {m X v} C => by
    obtain ⟨c1, c2, c3, c4, c5⟩ := C
    have ne : ∀ i, i ≠ tb → up m tb 9 v i = m i := fun i hi => up_ne hi
    refine ⟨by rw [up_nj (by decide)]; exact c1, fun n' hn' => ?_, fun n' hn' => by rw [ne _ (by omega)]; exact c3 n' hn', fun f hf => by rw [ne _ (by omega), ne _ (by omega), ne _ (by omega)]; exact c4 f hf, fun f t hf ht' => by rw [ne _ (by omega)]; exact c5 f t hf ht'⟩
    rw [ne 220 (by omega)]
    exact ⟨by rw [ne _ (by omega)]; exact (c2 n' hn').1, by rw [ne _ (by omega)]; exact (c2 n' hn').2⟩
  have fu9 : ∀ {m : Mem} {v w : Int}, Fy tb nb (up h tb 9 v) m → Fy tb nb (up h tb 9 w) (up m tb 9 w) := fun {m v w} F => by
    have := Fy_9 (w := w) F
    rw [up_up] at this
    exact this
  have outF : ∀ {m : Mem} {v : Int}, Fy tb nb (up h tb 9 v) m → ∀ i, i < tb ∨ tb + 22 ≤ i → i ≠ nb + 17 → m i = h i := fun {m v} F i q r => by
    rw [F.1 i q r, up_ne (by omega)]
  have stop : ∀ i j : Nat, i ≤ j → ¬ tmT (drS nt P n T s i).1 < 60 → drS nt P n T s j = drS nt P n T s i := fun i j hij hs => by
    induction j with
    | zero => rw [show i = 0 by omega]
    | succ j ih =>
      by_cases e : i = j + 1
      · rw [e]
      · have ih := ih (by omega)
        rw [drS, ih, iF_f hs]
  have key : ∀ (g i : Nat), i + g = k → ∀ (m : Mem), Fy tb nb (up h tb 9 (drS nt P n T s i).2.2) m → CS m tb (drS nt P n T s i).1 → V l (d + 5) 0 0 M_X9_playDraws 0 0 12 Q [(2, (tb : Int) + 1), (2, (nb : Int) + 1), (0, s), (0, (k : Int)), (0, (drS nt P n T s i).2.1), (0, (i : Int)), (9, 0), (9, 0)] [] SHP m := by
    intro g
    induction g with
    | zero =>
      intro i hi m F C
      refine S_X9_playDraws_12 _ _ _ _ ?_; simp (disch := omega) only [B_X9_playDraws_12, bi_0, x_ic, x_lc, x_ld, x_st, x_sl, x_inc, x_b32, x_b64, x_d32, x_d64, x_s64, x_un, x_lcmp, x_dup, x_pop, x_dup2, x_if, x_cmp, x_sw, swk, x_ald, x_ast, x_alen, x_getf, x_putf, x_inv, x_mm, x_copy, x_iret, x_lret, x_vret, ok1, pu, ct, rcv, rcs, ent0, List.getElem?_cons_zero, List.getElem?_cons_succ, List.getElem?_nil, List.set_cons_zero, List.set_cons_succ, List.take_succ_cons, List.take_zero, List.drop_succ_cons, List.drop_zero, List.reverse_cons, List.reverse_nil, List.nil_append, List.cons_append, List.length_cons, List.length_nil, true_and, and_true, and_self, ne_eq, not_true_eq_false, not_false_eq_true, reduceIte, true_or, or_true, false_or, or_false, Nat.reduceAdd, Nat.reduceSub, Nat.reduceMul, Nat.reduceLeDiff, Nat.reduceEqDiff, Nat.reduceLT, Nat.le_refl, Nat.zero_le, Int.reduceToNat, Int.reduceAdd, Int.reduceSub, Int.reduceMul, Int.reduceNeg, Int.reduceLT, Int.reduceLE, Int.reduceEq, Nat.zero_add, Nat.add_zero, Nat.reduceBEq, Nat.one_ne_zero, Nat.zero_ne_one, Nat.lt_irrefl, Nat.succ_ne_zero, w32_id, ixc, ixc2, Int.toNat_natCast]
      refine ⟨fun _ => ?_, fun z => absurd z (by omega)⟩
      refine S_X9_playDraws_82 _ _ _ _ ?_; simp (disch := omega) only [B_X9_playDraws_82, bi_0, x_ic, x_lc, x_ld, x_st, x_sl, x_inc, x_b32, x_b64, x_d32, x_d64, x_s64, x_un, x_lcmp, x_dup, x_pop, x_dup2, x_if, x_cmp, x_sw, swk, x_ald, x_ast, x_alen, x_getf, x_putf, x_inv, x_mm, x_copy, x_iret, x_lret, x_vret, ok1, pu, ct, rcv, rcs, ent0, List.getElem?_cons_zero, List.getElem?_cons_succ, List.getElem?_nil, List.set_cons_zero, List.set_cons_succ, List.take_succ_cons, List.take_zero, List.drop_succ_cons, List.drop_zero, List.reverse_cons, List.reverse_nil, List.nil_append, List.cons_append, List.length_cons, List.length_nil, true_and, and_true, and_self, ne_eq, not_true_eq_false, not_false_eq_true, reduceIte, true_or, or_true, false_or, or_false, Nat.reduceAdd, Nat.reduceSub, Nat.reduceMul, Nat.reduceLeDiff, Nat.reduceEqDiff, Nat.reduceLT, Nat.le_refl, Nat.zero_le, Int.reduceToNat, Int.reduceAdd, Int.reduceSub, Int.reduceMul, Int.reduceNeg, Int.reduceLT, Int.reduceLE, Int.reduceEq, Nat.zero_add, Nat.add_zero, Nat.reduceBEq, Nat.one_ne_zero, Nat.zero_ne_one, Nat.lt_irrefl, Nat.succ_ne_zero, w32_id, ixc, ixc2, Int.toNat_natCast]
      rw [show i = k by omega] at C ⊢
      exact hQ _ _ _ ⟨rfl, rfl, (kn F).1, outF F, C⟩
    | succ g ih =>
      intro i hi m F C
      obtain ⟨Lm, e220, f13, Rm, Lcm⟩ := kn F
      have ih := ih (i + 1) (by omega)
      have st := stop i k (by omega)
      rw [drS] at ih
      have dw := drS_w (P := P) (n := n) (seed := s) W Tw (by omega) i
      obtain ⟨X, hX⟩ : ∃ X, X = drS nt P n T s i := ⟨_, rfl⟩
      rw [← hX] at ih C dw st F ⊢
      have h9 : m tb 9 = X.2.2 := by rw [F.2.1 9 (by decide), up_at]
      obtain ⟨c1, c2, c3, c4, c5⟩ := id C
      have dp := drP_w (P := P) (n := n) W dw.1 X.2.2
      have rest : ∀ (m : Mem) (a b : PV), tmT X.1 < 60 → Fy tb nb (up h tb 9 (drG nt X.2.2)) m → CS m tb (drP nt P n X.1 X.2.2) → V l (d + 5) 0 0 M_X9_playDraws 0 0 66 Q [(2, (tb : Int) + 1), (2, (nb : Int) + 1), (0, s), (0, (k : Int)), (0, X.2.1), (0, (i : Int)), a, b] [] SHP m := by
        intro m a b z F C
        obtain ⟨Lm, e220, f13, Rm, Lcm⟩ := kn F
        rw [iF_t z] at ih
        refine S_X9_playDraws_66 _ _ _ _ ?_; simp (disch := omega) only [B_X9_playDraws_66, bi_0, x_ic, x_lc, x_ld, x_st, x_sl, x_inc, x_b32, x_b64, x_d32, x_d64, x_s64, x_un, x_lcmp, x_dup, x_pop, x_dup2, x_if, x_cmp, x_sw, swk, x_ald, x_ast, x_alen, x_getf, x_putf, x_inv, x_mm, x_copy, x_iret, x_lret, x_vret, ok1, pu, ct, rcv, rcs, ent0, List.getElem?_cons_zero, List.getElem?_cons_succ, List.getElem?_nil, List.set_cons_zero, List.set_cons_succ, List.take_succ_cons, List.take_zero, List.drop_succ_cons, List.drop_zero, List.reverse_cons, List.reverse_nil, List.nil_append, List.cons_append, List.length_cons, List.length_nil, true_and, and_true, and_self, ne_eq, not_true_eq_false, not_false_eq_true, reduceIte, true_or, or_true, false_or, or_false, Nat.reduceAdd, Nat.reduceSub, Nat.reduceMul, Nat.reduceLeDiff, Nat.reduceEqDiff, Nat.reduceLT, Nat.le_refl, Nat.zero_le, Int.reduceToNat, Int.reduceAdd, Int.reduceSub, Int.reduceMul, Int.reduceNeg, Int.reduceLT, Int.reduceLE, Int.reduceEq, Nat.zero_add, Nat.add_zero, Nat.reduceBEq, Nat.one_ne_zero, Nat.zero_ne_one, Nat.lt_irrefl, Nat.succ_ne_zero, w32_id, ixc, ixc2, Int.toNat_natCast, o]
        refine Cl.imp (c_passOn (l := l) (d := d) Lm ht hnb Rm (by rw [e220]; exact W) (by rw [e220]; exact M) C (by rw [e220]; exact dp.1)) (fun r sh' m2 q => ?_)
        obtain ⟨rfl, F2, q⟩ := q
        rw [e220] at q
        rcases q with ⟨q1, q2, q3⟩ | ⟨q1, q2, q3⟩
        · omega
        subst q2
        (try simp (disch := omega) only [bi_0, x_ic, x_lc, x_ld, x_st, x_sl, x_inc, x_b32, x_b64, x_d32, x_d64, x_s64, x_un, x_lcmp, x_dup, x_pop, x_dup2, x_if, x_cmp, x_sw, swk, x_ald, x_ast, x_alen, x_getf, x_putf, x_inv, x_mm, x_copy, x_iret, x_lret, x_vret, ok1, pu, ct, rcv, rcs, ent0, List.getElem?_cons_zero, List.getElem?_cons_succ, List.getElem?_nil, List.set_cons_zero, List.set_cons_succ, List.take_succ_cons, List.take_zero, List.drop_succ_cons, List.drop_zero, List.reverse_cons, List.reverse_nil, List.nil_append, List.cons_append, List.length_cons, List.length_nil, true_and, and_true, and_self, ne_eq, not_true_eq_false, not_false_eq_true, reduceIte, true_or, or_true, false_or, or_false, Nat.reduceAdd, Nat.reduceSub, Nat.reduceMul, Nat.reduceLeDiff, Nat.reduceEqDiff, Nat.reduceLT, Nat.le_refl, Nat.zero_le, Int.reduceToNat, Int.reduceAdd, Int.reduceSub, Int.reduceMul, Int.reduceNeg, Int.reduceLT, Int.reduceLE, Int.reduceEq, Nat.zero_add, Nat.add_zero, Nat.reduceBEq, Nat.one_ne_zero, Nat.zero_ne_one, Nat.lt_irrefl, Nat.succ_ne_zero, w32_id, ixc, ixc2, Int.toNat_natCast])
        refine V_fg [6, 7] ?_
        exact ih _ (F.trans F2.y) q3
      refine S_X9_playDraws_12 _ _ _ _ ?_; simp (disch := omega) only [B_X9_playDraws_12, bi_0, x_ic, x_lc, x_ld, x_st, x_sl, x_inc, x_b32, x_b64, x_d32, x_d64, x_s64, x_un, x_lcmp, x_dup, x_pop, x_dup2, x_if, x_cmp, x_sw, swk, x_ald, x_ast, x_alen, x_getf, x_putf, x_inv, x_mm, x_copy, x_iret, x_lret, x_vret, ok1, pu, ct, rcv, rcs, ent0, List.getElem?_cons_zero, List.getElem?_cons_succ, List.getElem?_nil, List.set_cons_zero, List.set_cons_succ, List.take_succ_cons, List.take_zero, List.drop_succ_cons, List.drop_zero, List.reverse_cons, List.reverse_nil, List.nil_append, List.cons_append, List.length_cons, List.length_nil, true_and, and_true, and_self, ne_eq, not_true_eq_false, not_false_eq_true, reduceIte, true_or, or_true, false_or, or_false, Nat.reduceAdd, Nat.reduceSub, Nat.reduceMul, Nat.reduceLeDiff, Nat.reduceEqDiff, Nat.reduceLT, Nat.le_refl, Nat.zero_le, Int.reduceToNat, Int.reduceAdd, Int.reduceSub, Int.reduceMul, Int.reduceNeg, Int.reduceLT, Int.reduceLE, Int.reduceEq, Nat.zero_add, Nat.add_zero, Nat.reduceBEq, Nat.one_ne_zero, Nat.zero_ne_one, Nat.lt_irrefl, Nat.succ_ne_zero, w32_id, ixc, ixc2, Int.toNat_natCast, o, c1, s1, f13]
      refine ⟨fun z => absurd z (by omega), fun _ => ⟨fun z => ?_, fun z => ⟨fun y => ?_, fun y => ?_⟩⟩⟩
      · refine S_X9_playDraws_82 _ _ _ _ ?_; simp (disch := omega) only [B_X9_playDraws_82, bi_0, x_ic, x_lc, x_ld, x_st, x_sl, x_inc, x_b32, x_b64, x_d32, x_d64, x_s64, x_un, x_lcmp, x_dup, x_pop, x_dup2, x_if, x_cmp, x_sw, swk, x_ald, x_ast, x_alen, x_getf, x_putf, x_inv, x_mm, x_copy, x_iret, x_lret, x_vret, ok1, pu, ct, rcv, rcs, ent0, List.getElem?_cons_zero, List.getElem?_cons_succ, List.getElem?_nil, List.set_cons_zero, List.set_cons_succ, List.take_succ_cons, List.take_zero, List.drop_succ_cons, List.drop_zero, List.reverse_cons, List.reverse_nil, List.nil_append, List.cons_append, List.length_cons, List.length_nil, true_and, and_true, and_self, ne_eq, not_true_eq_false, not_false_eq_true, reduceIte, true_or, or_true, false_or, or_false, Nat.reduceAdd, Nat.reduceSub, Nat.reduceMul, Nat.reduceLeDiff, Nat.reduceEqDiff, Nat.reduceLT, Nat.le_refl, Nat.zero_le, Int.reduceToNat, Int.reduceAdd, Int.reduceSub, Int.reduceMul, Int.reduceNeg, Int.reduceLT, Int.reduceLE, Int.reduceEq, Nat.zero_add, Nat.add_zero, Nat.reduceBEq, Nat.one_ne_zero, Nat.zero_ne_one, Nat.lt_irrefl, Nat.succ_ne_zero, w32_id, ixc, ixc2, Int.toNat_natCast]
        have st := st (by omega)
        rw [st] at hQ
        exact hQ _ _ _ ⟨rfl, rfl, Lm, outF F, C⟩
      · refine rest m _ _ (by omega) ?_ ?_
        · unfold drG; rw [iF_f (by omega)]; exact F
        · unfold drP; rw [iF_f (by omega)]; exact C
      · have e0 : 0 < nt 2 := by omega
        have db := drw_b X.2.2
        have db2 := drw_b (drw X.2.2)
        have m1 := Int.emod_lt_of_pos (drw X.2.2 / 65536) e0
        have m2 := Int.emod_nonneg (drw X.2.2 / 65536) (show nt 2 ≠ 0 by omega)
        have m3 := Int.emod_lt_of_pos (drw (drw X.2.2) / 65536) (show (0 : Int) < 4 by decide)
        have m4 := Int.emod_nonneg (drw (drw X.2.2) / 65536) (show (4 : Int) ≠ 0 by decide)
        have F1 := fu9 (w := drw X.2.2) F
        have F2 := fu9 (w := drw (drw X.2.2)) F1
        rw [up_up] at F2
        have C2 := up9 (v := drw (drw X.2.2)) C
        have g1 : drG nt X.2.2 = drw (drw X.2.2) := iF_t e0
        have p1 : drP nt P n X.1 X.2.2 = (putT nt P n X.1 (drw X.2.2 / 65536 % nt 2) (drw (drw X.2.2) / 65536 % 4)).1 := iF_t e0
        refine Cl.app (c_draw (l := l) (d := d + 3) ht h9 dw.2 (by omega)) ?_
        (try simp (disch := omega) only [bi_0, x_ic, x_lc, x_ld, x_st, x_sl, x_inc, x_b32, x_b64, x_d32, x_d64, x_s64, x_un, x_lcmp, x_dup, x_pop, x_dup2, x_if, x_cmp, x_sw, swk, x_ald, x_ast, x_alen, x_getf, x_putf, x_inv, x_mm, x_copy, x_iret, x_lret, x_vret, ok1, pu, ct, rcv, rcs, ent0, List.getElem?_cons_zero, List.getElem?_cons_succ, List.getElem?_nil, List.set_cons_zero, List.set_cons_succ, List.take_succ_cons, List.take_zero, List.drop_succ_cons, List.drop_zero, List.reverse_cons, List.reverse_nil, List.nil_append, List.cons_append, List.length_cons, List.length_nil, true_and, and_true, and_self, ne_eq, not_true_eq_false, not_false_eq_true, reduceIte, true_or, or_true, false_or, or_false, Nat.reduceAdd, Nat.reduceSub, Nat.reduceMul, Nat.reduceLeDiff, Nat.reduceEqDiff, Nat.reduceLT, Nat.le_refl, Nat.zero_le, Int.reduceToNat, Int.reduceAdd, Int.reduceSub, Int.reduceMul, Int.reduceNeg, Int.reduceLT, Int.reduceLE, Int.reduceEq, Nat.zero_add, Nat.add_zero, Nat.reduceBEq, Nat.one_ne_zero, Nat.zero_ne_one, Nat.lt_irrefl, Nat.succ_ne_zero, w32_id, ixc, ixc2, Int.toNat_natCast, o])
        refine Cl.app (c_draw (l := l) (d := d + 3) (m := 4) ht up_at db (by omega)) ?_
        rw [up_up]
        (try simp (disch := omega) only [bi_0, x_ic, x_lc, x_ld, x_st, x_sl, x_inc, x_b32, x_b64, x_d32, x_d64, x_s64, x_un, x_lcmp, x_dup, x_pop, x_dup2, x_if, x_cmp, x_sw, swk, x_ald, x_ast, x_alen, x_getf, x_putf, x_inv, x_mm, x_copy, x_iret, x_lret, x_vret, ok1, pu, ct, rcv, rcs, ent0, List.getElem?_cons_zero, List.getElem?_cons_succ, List.getElem?_nil, List.set_cons_zero, List.set_cons_succ, List.take_succ_cons, List.take_zero, List.drop_succ_cons, List.drop_zero, List.reverse_cons, List.reverse_nil, List.nil_append, List.cons_append, List.length_cons, List.length_nil, true_and, and_true, and_self, ne_eq, not_true_eq_false, not_false_eq_true, reduceIte, true_or, or_true, false_or, or_false, Nat.reduceAdd, Nat.reduceSub, Nat.reduceMul, Nat.reduceLeDiff, Nat.reduceEqDiff, Nat.reduceLT, Nat.le_refl, Nat.zero_le, Int.reduceToNat, Int.reduceAdd, Int.reduceSub, Int.reduceMul, Int.reduceNeg, Int.reduceLT, Int.reduceLE, Int.reduceEq, Nat.zero_add, Nat.add_zero, Nat.reduceBEq, Nat.one_ne_zero, Nat.zero_ne_one, Nat.lt_irrefl, Nat.succ_ne_zero, w32_id, ixc, ixc2, Int.toNat_natCast, o])
        rw [g1, p1] at rest
        unfold putT putC at rest
        obtain ⟨fn, hfn⟩ : ∃ fn : Nat, drw X.2.2 / 65536 % nt 2 = (fn : Int) := ⟨(drw X.2.2 / 65536 % nt 2).toNat, by omega⟩
        obtain ⟨kn2, hkn⟩ : ∃ kn2 : Nat, drw (drw X.2.2) / 65536 % 4 = (kn2 : Int) := ⟨(drw (drw X.2.2) / 65536 % 4).toNat, by omega⟩
        rw [hfn] at m1 m2 rest ⊢
        rw [hkn] at m3 m4 rest ⊢
        refine ⟨fun x => ?_, fun x => ?_⟩
        · rw [iF_f (by omega)] at rest
          exact rest _ _ _ (by omega) F2 C2
        obtain ⟨Lm3, e3, f3, Rm3, Lcm3⟩ := kn F2
        refine Cl.imp (c_admit (l := l) (d := d + 1) Lm3 ht hnb Rm3 (by rw [e3]; exact W) C2 (by rw [e3]; exact dw.1) Lcm3 (f := fn) (k := kn2) (by rw [e3]; omega) (by omega)) (fun r sh' m2 q => ?_)
        obtain ⟨rfl, F4, q⟩ := q
        rw [e3] at q
        (try simp (disch := omega) only [bi_0, x_ic, x_lc, x_ld, x_st, x_sl, x_inc, x_b32, x_b64, x_d32, x_d64, x_s64, x_un, x_lcmp, x_dup, x_pop, x_dup2, x_if, x_cmp, x_sw, swk, x_ald, x_ast, x_alen, x_getf, x_putf, x_inv, x_mm, x_copy, x_iret, x_lret, x_vret, ok1, pu, ct, rcv, rcs, ent0, List.getElem?_cons_zero, List.getElem?_cons_succ, List.getElem?_nil, List.set_cons_zero, List.set_cons_succ, List.take_succ_cons, List.take_zero, List.drop_succ_cons, List.drop_zero, List.reverse_cons, List.reverse_nil, List.nil_append, List.cons_append, List.length_cons, List.length_nil, true_and, and_true, and_self, ne_eq, not_true_eq_false, not_false_eq_true, reduceIte, true_or, or_true, false_or, or_false, Nat.reduceAdd, Nat.reduceSub, Nat.reduceMul, Nat.reduceLeDiff, Nat.reduceEqDiff, Nat.reduceLT, Nat.le_refl, Nat.zero_le, Int.reduceToNat, Int.reduceAdd, Int.reduceSub, Int.reduceMul, Int.reduceNeg, Int.reduceLT, Int.reduceLE, Int.reduceEq, Nat.zero_add, Nat.add_zero, Nat.reduceBEq, Nat.one_ne_zero, Nat.zero_ne_one, Nat.lt_irrefl, Nat.succ_ne_zero, w32_id, ixc, ixc2, Int.toNat_natCast])
        rcases q with ⟨q1, q2, q3⟩ | ⟨q1, q2, q3⟩
        · rw [iF_f (by omega)] at rest
          subst q3
          exact rest _ _ _ (by omega) F2 C2
        · rw [iF_t (by omega), Int.toNat_natCast, Int.toNat_natCast] at rest
          exact rest _ _ _ (by omega) (F2.trans F4) q3
  show V l (d + 5) 0 0 M_X9_playDraws 0 0 0 Q [(2, (tb : Int) + 1), (2, (nb : Int) + 1), (0, s), (0, (k : Int)), (9, 0), (9, 0), (9, 0), (9, 0)] [] SHP h
  refine S_X9_playDraws_0 _ _ _ _ ?_; simp (disch := omega) only [B_X9_playDraws_0, bi_0, x_ic, x_lc, x_ld, x_st, x_sl, x_inc, x_b32, x_b64, x_d32, x_d64, x_s64, x_un, x_lcmp, x_dup, x_pop, x_dup2, x_if, x_cmp, x_sw, swk, x_ald, x_ast, x_alen, x_getf, x_putf, x_inv, x_mm, x_copy, x_iret, x_lret, x_vret, ok1, pu, ct, rcv, rcs, ent0, List.getElem?_cons_zero, List.getElem?_cons_succ, List.getElem?_nil, List.set_cons_zero, List.set_cons_succ, List.take_succ_cons, List.take_zero, List.drop_succ_cons, List.drop_zero, List.reverse_cons, List.reverse_nil, List.nil_append, List.cons_append, List.length_cons, List.length_nil, true_and, and_true, and_self, ne_eq, not_true_eq_false, not_false_eq_true, reduceIte, true_or, or_true, false_or, or_false, Nat.reduceAdd, Nat.reduceSub, Nat.reduceMul, Nat.reduceLeDiff, Nat.reduceEqDiff, Nat.reduceLT, Nat.le_refl, Nat.zero_le, Int.reduceToNat, Int.reduceAdd, Int.reduceSub, Int.reduceMul, Int.reduceNeg, Int.reduceLT, Int.reduceLE, Int.reduceEq, Nat.zero_add, Nat.add_zero, Nat.reduceBEq, Nat.one_ne_zero, Nat.zero_ne_one, Nat.lt_irrefl, Nat.succ_ne_zero, w32_id, ixc, ixc2, Int.toNat_natCast, o]
  exact key k 0 (by omega) _ Fx.rfl.y (up9 C)
end CP

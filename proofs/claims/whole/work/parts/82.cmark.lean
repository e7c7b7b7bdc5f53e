/-! the class: marks -/
theorem mk_l {h : Mem} (L : Lay h) {m : Nat} (hm : m < 2) : h 120 m = ((122 + 26 * m : Nat) : Int) + 1 ∧ h 121 m = ((144 + 26 * m : Nat) : Int) + 1 ∧ Trf (122 + 26 * m) ∧ Sgt (144 + 26 * m) := by
  rcases (show m = 0 ∨ m = 1 by omega) with rfl | rfl
  · exact ⟨ly_120_0 L, ly_121_0 L, Or.inr (Or.inr (Or.inl rfl)), Or.inr (Or.inl rfl)⟩
  · exact ⟨ly_120_1 L, ly_121_1 L, Or.inr (Or.inr (Or.inr rfl)), Or.inr (Or.inr rfl)⟩
theorem SnR.fr {h h' : Mem} {gb : Nat} {s : Nat → Int} (S : SnR h gb s) (hf : ∀ i, gb ≤ i ∧ i < gb + 4 → h' i = h i) : SnR h' gb s := by
  unfold SnR
  rw [hf gb (by omega), hf (gb + 1) (by omega), hf (gb + 2) (by omega), hf (gb + 3) (by omega)]
  exact S
section CM
variable {l : Launch} {d : Nat} {h : Mem} {T : TS} {s : Nat → Int}
theorem c_mark (L : Lay h) (C : CS h 72 T) (hT : (usT T).length ≤ 40) (S : SnR h 116 s) (Sw : SeW s) {Tm : Nat → TS} {sm : Nat → Nat → Int} (hk : ∀ i, i < 2 → h 174 i = 0 ∨ h 174 i = 1) (hm : ∀ i, i < 2 → h 174 i = 1 → CS h (122 + 26 * i) (Tm i) ∧ (usT (Tm i)).length ≤ 40 ∧ SnR h (144 + 26 * i) (sm i) ∧ SeW (sm i)) {m o : Int} (ho : o = 0 ∨ o = 1) : Cl l (d + 3) M_X10_mark [(2, 1), (0, m), (0, o)] SHP h (fun r sh' h' => r = bI (mrkC (h 174) m o) ∧ sh' = SHP ∧ Lay h' ∧ (¬ mrkC (h 174) m o → h' = h) ∧ (mrkC (h 174) m o → o = 0 → CS h' (122 + 26 * m.toNat) T ∧ SnR h' (144 + 26 * m.toNat) s ∧ (∀ i, i < 122 + 26 * m.toNat ∨ 148 + 26 * m.toNat ≤ i → i ≠ 174 → h' i = h i) ∧ ∀ j, h' 174 j = if j = m.toNat then 1 else h 174 j) ∧ (mrkC (h 174) m o → ¬ o = 0 → h 174 m.toNat = 1 ∧ CS h' 72 (Tm m.toNat) ∧ SnR h' 116 (sm m.toNat) ∧ ∀ i, (i < 72 ∨ 94 ≤ i) → (i < 116 ∨ 120 ≤ i) → h' i = h i)) := by
  have a6 := ly_0_6 L
  have a8 := ly_0_8 L
  have a9 := ly_0_9 L
  have a10 := ly_0_10 L
  have a11 := ly_0_11 L
  refine Cl_hide (fun Q hQ => ?_)
  unfold mrkC at hQ
  have no : ¬ ((0 ≤ m ∧ m ≤ 1) ∧ ¬ (¬ o = 0 ∧ h 174 m.toNat = 0)) → V l (d + 3) 0 0 M_X10_mark 0 0 22 Q [(2, 1), (0, m), (0, o)] [] SHP h := by
    intro z
    refine S_X10_mark_22 _ _ _ _ ?_; simp (disch := omega) only [B_X10_mark_22, bi_0, x_ic, x_lc, x_ld, x_st, x_sl, x_inc, x_b32, x_b64, x_d32, x_d64, x_s64, x_un, x_lcmp, x_dup, x_pop, x_dup2, x_if, x_cmp, x_sw, swk, x_ald, x_ast, x_alen, x_getf, x_putf, x_inv, x_mm, x_copy, x_iret, x_lret, x_vret, ok1, pu, ct, rcv, rcs, ent0, List.getElem?_cons_zero, List.getElem?_cons_succ, List.getElem?_nil, List.set_cons_zero, List.set_cons_succ, List.take_succ_cons, List.take_zero, List.drop_succ_cons, List.drop_zero, List.reverse_cons, List.reverse_nil, List.nil_append, List.cons_append, List.length_cons, List.length_nil, true_and, and_true, and_self, ne_eq, not_true_eq_false, not_false_eq_true, reduceIte, true_or, or_true, false_or, or_false, Nat.reduceAdd, Nat.reduceSub, Nat.reduceMul, Nat.reduceLeDiff, Nat.reduceEqDiff, Nat.reduceLT, Nat.le_refl, Nat.zero_le, Int.reduceToNat, Int.reduceAdd, Int.reduceSub, Int.reduceMul, Int.reduceNeg, Int.reduceLT, Int.reduceLE, Int.reduceEq, Nat.zero_add, Nat.add_zero, Nat.reduceBEq, Nat.one_ne_zero, Nat.zero_ne_one, Nat.lt_irrefl, Nat.succ_ne_zero, w32_id, ixc, ixc2, Int.toNat_natCast]
    exact hQ _ _ _ ⟨(bI_f z).symm, rfl, L, fun _ => rfl, fun y => absurd y z, fun y => absurd y z⟩
  have yes : (0 ≤ m ∧ m ≤ 1) → ¬ (¬ o = 0 ∧ h 174 m.toNat = 0) → V l (d + 3) 0 0 M_X10_mark 0 0 24 Q [(2, 1), (0, m), (0, o)] [] SHP h := by
    intro z y
    obtain ⟨k, rfl⟩ : ∃ k : Nat, m = (k : Int) := ⟨m.toNat, by omega⟩
    rw [Int.toNat_natCast] at y hQ
    have hk2 : k < 2 := by omega
    obtain ⟨k1, k2, k3, k4⟩ := mk_l L hk2
    have far : Trf 72 ∧ Sgt 116 := ⟨Or.inl rfl, Or.inl rfl⟩
    refine S_X10_mark_24 _ _ _ _ ?_; simp (disch := omega) only [B_X10_mark_24, bi_0, x_ic, x_lc, x_ld, x_st, x_sl, x_inc, x_b32, x_b64, x_d32, x_d64, x_s64, x_un, x_lcmp, x_dup, x_pop, x_dup2, x_if, x_cmp, x_sw, swk, x_ald, x_ast, x_alen, x_getf, x_putf, x_inv, x_mm, x_copy, x_iret, x_lret, x_vret, ok1, pu, ct, rcv, rcs, ent0, List.getElem?_cons_zero, List.getElem?_cons_succ, List.getElem?_nil, List.set_cons_zero, List.set_cons_succ, List.take_succ_cons, List.take_zero, List.drop_succ_cons, List.drop_zero, List.reverse_cons, List.reverse_nil, List.nil_append, List.cons_append, List.length_cons, List.length_nil, true_and, and_true, and_self, ne_eq, not_true_eq_false, not_false_eq_true, reduceIte, true_or, or_true, false_or, or_false, Nat.reduceAdd, Nat.reduceSub, Nat.reduceMul, Nat.reduceLeDiff, Nat.reduceEqDiff, Nat.reduceLT, Nat.le_refl, Nat.zero_le, Int.reduceToNat, Int.reduceAdd, Int.reduceSub, Int.reduceMul, Int.reduceNeg, Int.reduceLT, Int.reduceLE, Int.reduceEq, Nat.zero_add, Nat.add_zero, Nat.reduceBEq, Nat.one_ne_zero, Nat.zero_ne_one, Nat.lt_irrefl, Nat.succ_ne_zero, w32_id, ixc, ixc2, Int.toNat_natCast]
    refine ⟨fun w => ?_, fun w => ?_⟩
    · refine S_X10_mark_57 _ _ _ _ ?_; simp (disch := omega) only [B_X10_mark_57, bi_0, x_ic, x_lc, x_ld, x_st, x_sl, x_inc, x_b32, x_b64, x_d32, x_d64, x_s64, x_un, x_lcmp, x_dup, x_pop, x_dup2, x_if, x_cmp, x_sw, swk, x_ald, x_ast, x_alen, x_getf, x_putf, x_inv, x_mm, x_copy, x_iret, x_lret, x_vret, ok1, pu, ct, rcv, rcs, ent0, List.getElem?_cons_zero, List.getElem?_cons_succ, List.getElem?_nil, List.set_cons_zero, List.set_cons_succ, List.take_succ_cons, List.take_zero, List.drop_succ_cons, List.drop_zero, List.reverse_cons, List.reverse_nil, List.nil_append, List.cons_append, List.length_cons, List.length_nil, true_and, and_true, and_self, ne_eq, not_true_eq_false, not_false_eq_true, reduceIte, true_or, or_true, false_or, or_false, Nat.reduceAdd, Nat.reduceSub, Nat.reduceMul, Nat.reduceLeDiff, Nat.reduceEqDiff, Nat.reduceLT, Nat.le_refl, Nat.zero_le, Int.reduceToNat, Int.reduceAdd, Int.reduceSub, Int.reduceMul, Int.reduceNeg, Int.reduceLT, Int.reduceLE, Int.reduceEq, Nat.zero_add, Nat.add_zero, Nat.reduceBEq, Nat.one_ne_zero, Nat.zero_ne_one, Nat.lt_irrefl, Nat.succ_ne_zero, w32_id, ixc, ixc2, Int.toNat_natCast, ob_0, a6, a9, k1, ln_120, tf_ob k3]
      refine ⟨by omega, ?_⟩
      refine Cl.imp (c_copy (l := l) (d := d) (tb := 122 + 26 * k) (fb := 72) L k3 far.1 (by omega) C hT) (fun r sh' h1 q => ?_)
      obtain ⟨rfl, rfl, F1, C1⟩ := q
      have L1 := F1.lay k3 L
      have a8 := ly_0_8 L1
      have a10 := ly_0_10 L1
      obtain ⟨_, k2', _, _⟩ := mk_l L1 hk2
      have S1 : SnR h1 116 s := S.fr (fun i hi => F1.1 i (by omega))
      (try simp (disch := omega) only [bi_0, x_ic, x_lc, x_ld, x_st, x_sl, x_inc, x_b32, x_b64, x_d32, x_d64, x_s64, x_un, x_lcmp, x_dup, x_pop, x_dup2, x_if, x_cmp, x_sw, swk, x_ald, x_ast, x_alen, x_getf, x_putf, x_inv, x_mm, x_copy, x_iret, x_lret, x_vret, ok1, pu, ct, rcv, rcs, ent0, List.getElem?_cons_zero, List.getElem?_cons_succ, List.getElem?_nil, List.set_cons_zero, List.set_cons_succ, List.take_succ_cons, List.take_zero, List.drop_succ_cons, List.drop_zero, List.reverse_cons, List.reverse_nil, List.nil_append, List.cons_append, List.length_cons, List.length_nil, true_and, and_true, and_self, ne_eq, not_true_eq_false, not_false_eq_true, reduceIte, true_or, or_true, false_or, or_false, Nat.reduceAdd, Nat.reduceSub, Nat.reduceMul, Nat.reduceLeDiff, Nat.reduceEqDiff, Nat.reduceLT, Nat.le_refl, Nat.zero_le, Int.reduceToNat, Int.reduceAdd, Int.reduceSub, Int.reduceMul, Int.reduceNeg, Int.reduceLT, Int.reduceLE, Int.reduceEq, Nat.zero_add, Nat.add_zero, Nat.reduceBEq, Nat.one_ne_zero, Nat.zero_ne_one, Nat.lt_irrefl, Nat.succ_ne_zero, w32_id, ixc, ixc2, Int.toNat_natCast, ob_0, a8, a10, k2', ln_121, sg_ob k4])
      refine ⟨by omega, ?_⟩
      refine Cl.imp (c_scopy (l := l) (d := d + 1) (gb := 144 + 26 * k) (fb := 116) L1 k4 far.2 (by omega) S1 Sw) (fun r sh' h2 q => ?_)
      obtain ⟨rfl, rfl, F2, S2⟩ := q
      have L2 := F2.lay k4 L1
      have a11 := ly_0_11 L2
      have n1 : nz 1 = 1 := rfl
      (try simp (disch := omega) only [bi_0, x_ic, x_lc, x_ld, x_st, x_sl, x_inc, x_b32, x_b64, x_d32, x_d64, x_s64, x_un, x_lcmp, x_dup, x_pop, x_dup2, x_if, x_cmp, x_sw, swk, x_ald, x_ast, x_alen, x_getf, x_putf, x_inv, x_mm, x_copy, x_iret, x_lret, x_vret, ok1, pu, ct, rcv, rcs, ent0, List.getElem?_cons_zero, List.getElem?_cons_succ, List.getElem?_nil, List.set_cons_zero, List.set_cons_succ, List.take_succ_cons, List.take_zero, List.drop_succ_cons, List.drop_zero, List.reverse_cons, List.reverse_nil, List.nil_append, List.cons_append, List.length_cons, List.length_nil, true_and, and_true, and_self, ne_eq, not_true_eq_false, not_false_eq_true, reduceIte, true_or, or_true, false_or, or_false, Nat.reduceAdd, Nat.reduceSub, Nat.reduceMul, Nat.reduceLeDiff, Nat.reduceEqDiff, Nat.reduceLT, Nat.le_refl, Nat.zero_le, Int.reduceToNat, Int.reduceAdd, Int.reduceSub, Int.reduceMul, Int.reduceNeg, Int.reduceLT, Int.reduceLE, Int.reduceEq, Nat.zero_add, Nat.add_zero, Nat.reduceBEq, Nat.one_ne_zero, Nat.zero_ne_one, Nat.lt_irrefl, Nat.succ_ne_zero, w32_id, ixc, ixc2, Int.toNat_natCast, ob_0, a11, ln_174, n1])
      refine ⟨by omega, ?_⟩
      refine S_X10_mark_90 _ _ _ _ ?_; simp (disch := omega) only [B_X10_mark_90, bi_0, x_ic, x_lc, x_ld, x_st, x_sl, x_inc, x_b32, x_b64, x_d32, x_d64, x_s64, x_un, x_lcmp, x_dup, x_pop, x_dup2, x_if, x_cmp, x_sw, swk, x_ald, x_ast, x_alen, x_getf, x_putf, x_inv, x_mm, x_copy, x_iret, x_lret, x_vret, ok1, pu, ct, rcv, rcs, ent0, List.getElem?_cons_zero, List.getElem?_cons_succ, List.getElem?_nil, List.set_cons_zero, List.set_cons_succ, List.take_succ_cons, List.take_zero, List.drop_succ_cons, List.drop_zero, List.reverse_cons, List.reverse_nil, List.nil_append, List.cons_append, List.length_cons, List.length_nil, true_and, and_true, and_self, ne_eq, not_true_eq_false, not_false_eq_true, reduceIte, true_or, or_true, false_or, or_false, Nat.reduceAdd, Nat.reduceSub, Nat.reduceMul, Nat.reduceLeDiff, Nat.reduceEqDiff, Nat.reduceLT, Nat.le_refl, Nat.zero_le, Int.reduceToNat, Int.reduceAdd, Int.reduceSub, Int.reduceMul, Int.reduceNeg, Int.reduceLT, Int.reduceLE, Int.reduceEq, Nat.zero_add, Nat.add_zero, Nat.reduceBEq, Nat.one_ne_zero, Nat.zero_ne_one, Nat.lt_irrefl, Nat.succ_ne_zero, w32_id, ixc, ixc2, Int.toNat_natCast]
      have L3 : Lay (up h2 174 k 1) := by
        refine Lay_fr L2 (fun q hq => ?_)
        have hn : LAYL.all (fun q => !(q.1 == 174)) = true := by decide +kernel
        have h1 := List.all_eq_true.mp hn q hq
        rw [up_ne (by simpa using h1)]
      refine hQ _ _ _ ⟨(bI_t ⟨z, y⟩).symm, rfl, L3, fun x => absurd ⟨z, y⟩ x, fun _ _ => ⟨?_, ?_, fun i hi hi2 => ?_, fun j => ?_⟩, fun _ x => absurd w x⟩
      · exact C1.fr (fun i hi => by rw [up_ne (by omega), F2.1 i (by omega)])
      · exact S2.fr (fun i hi => by rw [up_ne (by omega)])
      · rw [up_ne hi2, F2.1 i (by omega), F1.1 i (by omega)]
      · by_cases e : j = k
        · rw [e, up_at, if_pos rfl]
        · rw [up_nj e, if_neg e, F2.1 174 (by omega), F1.1 174 (by omega)]
    · have k5 : h 174 k = 1 := by
        have := hk k hk2
        rcases this with e | e
        · exact absurd ⟨w, e⟩ y
        · exact e
      obtain ⟨m1, m2, m3, m4⟩ := hm k hk2 k5
      (try simp (disch := omega) only [bi_0, x_ic, x_lc, x_ld, x_st, x_sl, x_inc, x_b32, x_b64, x_d32, x_d64, x_s64, x_un, x_lcmp, x_dup, x_pop, x_dup2, x_if, x_cmp, x_sw, swk, x_ald, x_ast, x_alen, x_getf, x_putf, x_inv, x_mm, x_copy, x_iret, x_lret, x_vret, ok1, pu, ct, rcv, rcs, ent0, List.getElem?_cons_zero, List.getElem?_cons_succ, List.getElem?_nil, List.set_cons_zero, List.set_cons_succ, List.take_succ_cons, List.take_zero, List.drop_succ_cons, List.drop_zero, List.reverse_cons, List.reverse_nil, List.nil_append, List.cons_append, List.length_cons, List.length_nil, true_and, and_true, and_self, ne_eq, not_true_eq_false, not_false_eq_true, reduceIte, true_or, or_true, false_or, or_false, Nat.reduceAdd, Nat.reduceSub, Nat.reduceMul, Nat.reduceLeDiff, Nat.reduceEqDiff, Nat.reduceLT, Nat.le_refl, Nat.zero_le, Int.reduceToNat, Int.reduceAdd, Int.reduceSub, Int.reduceMul, Int.reduceNeg, Int.reduceLT, Int.reduceLE, Int.reduceEq, Nat.zero_add, Nat.add_zero, Nat.reduceBEq, Nat.one_ne_zero, Nat.zero_ne_one, Nat.lt_irrefl, Nat.succ_ne_zero, w32_id, ixc, ixc2, Int.toNat_natCast, ob_0, a6, a9, k1, ln_120, ob_72])
      refine ⟨by omega, ?_⟩
      refine Cl.imp (c_copy (l := l) (d := d) (tb := 72) (fb := 122 + 26 * k) L far.1 k3 (by omega) m1 m2) (fun r sh' h1 q => ?_)
      obtain ⟨rfl, rfl, F1, C1⟩ := q
      have L1 := F1.lay far.1 L
      have a8 := ly_0_8 L1
      have a10 := ly_0_10 L1
      obtain ⟨_, k2', _, _⟩ := mk_l L1 hk2
      have S1 : SnR h1 (144 + 26 * k) (sm k) := m3.fr (fun i hi => F1.1 i (by omega))
      (try simp (disch := omega) only [bi_0, x_ic, x_lc, x_ld, x_st, x_sl, x_inc, x_b32, x_b64, x_d32, x_d64, x_s64, x_un, x_lcmp, x_dup, x_pop, x_dup2, x_if, x_cmp, x_sw, swk, x_ald, x_ast, x_alen, x_getf, x_putf, x_inv, x_mm, x_copy, x_iret, x_lret, x_vret, ok1, pu, ct, rcv, rcs, ent0, List.getElem?_cons_zero, List.getElem?_cons_succ, List.getElem?_nil, List.set_cons_zero, List.set_cons_succ, List.take_succ_cons, List.take_zero, List.drop_succ_cons, List.drop_zero, List.reverse_cons, List.reverse_nil, List.nil_append, List.cons_append, List.length_cons, List.length_nil, true_and, and_true, and_self, ne_eq, not_true_eq_false, not_false_eq_true, reduceIte, true_or, or_true, false_or, or_false, Nat.reduceAdd, Nat.reduceSub, Nat.reduceMul, Nat.reduceLeDiff, Nat.reduceEqDiff, Nat.reduceLT, Nat.le_refl, Nat.zero_le, Int.reduceToNat, Int.reduceAdd, Int.reduceSub, Int.reduceMul, Int.reduceNeg, Int.reduceLT, Int.reduceLE, Int.reduceEq, Nat.zero_add, Nat.add_zero, Nat.reduceBEq, Nat.one_ne_zero, Nat.zero_ne_one, Nat.lt_irrefl, Nat.succ_ne_zero, w32_id, ixc, ixc2, Int.toNat_natCast, ob_0, a8, a10, k2', ln_121, ob_116])
      refine ⟨by omega, ?_⟩
      refine Cl.imp (c_scopy (l := l) (d := d + 1) (gb := 116) (fb := 144 + 26 * k) L1 far.2 k4 (by omega) S1 m4) (fun r sh' h2 q => ?_)
      obtain ⟨rfl, rfl, F2, S2⟩ := q
      have L2 := F2.lay far.2 L1
      (try simp (disch := omega) only [bi_0, x_ic, x_lc, x_ld, x_st, x_sl, x_inc, x_b32, x_b64, x_d32, x_d64, x_s64, x_un, x_lcmp, x_dup, x_pop, x_dup2, x_if, x_cmp, x_sw, swk, x_ald, x_ast, x_alen, x_getf, x_putf, x_inv, x_mm, x_copy, x_iret, x_lret, x_vret, ok1, pu, ct, rcv, rcs, ent0, List.getElem?_cons_zero, List.getElem?_cons_succ, List.getElem?_nil, List.set_cons_zero, List.set_cons_succ, List.take_succ_cons, List.take_zero, List.drop_succ_cons, List.drop_zero, List.reverse_cons, List.reverse_nil, List.nil_append, List.cons_append, List.length_cons, List.length_nil, true_and, and_true, and_self, ne_eq, not_true_eq_false, not_false_eq_true, reduceIte, true_or, or_true, false_or, or_false, Nat.reduceAdd, Nat.reduceSub, Nat.reduceMul, Nat.reduceLeDiff, Nat.reduceEqDiff, Nat.reduceLT, Nat.le_refl, Nat.zero_le, Int.reduceToNat, Int.reduceAdd, Int.reduceSub, Int.reduceMul, Int.reduceNeg, Int.reduceLT, Int.reduceLE, Int.reduceEq, Nat.zero_add, Nat.add_zero, Nat.reduceBEq, Nat.one_ne_zero, Nat.zero_ne_one, Nat.lt_irrefl, Nat.succ_ne_zero, w32_id, ixc, ixc2, Int.toNat_natCast])
      refine S_X10_mark_90 _ _ _ _ ?_; simp (disch := omega) only [B_X10_mark_90, bi_0, x_ic, x_lc, x_ld, x_st, x_sl, x_inc, x_b32, x_b64, x_d32, x_d64, x_s64, x_un, x_lcmp, x_dup, x_pop, x_dup2, x_if, x_cmp, x_sw, swk, x_ald, x_ast, x_alen, x_getf, x_putf, x_inv, x_mm, x_copy, x_iret, x_lret, x_vret, ok1, pu, ct, rcv, rcs, ent0, List.getElem?_cons_zero, List.getElem?_cons_succ, List.getElem?_nil, List.set_cons_zero, List.set_cons_succ, List.take_succ_cons, List.take_zero, List.drop_succ_cons, List.drop_zero, List.reverse_cons, List.reverse_nil, List.nil_append, List.cons_append, List.length_cons, List.length_nil, true_and, and_true, and_self, ne_eq, not_true_eq_false, not_false_eq_true, reduceIte, true_or, or_true, false_or, or_false, Nat.reduceAdd, Nat.reduceSub, Nat.reduceMul, Nat.reduceLeDiff, Nat.reduceEqDiff, Nat.reduceLT, Nat.le_refl, Nat.zero_le, Int.reduceToNat, Int.reduceAdd, Int.reduceSub, Int.reduceMul, Int.reduceNeg, Int.reduceLT, Int.reduceLE, Int.reduceEq, Nat.zero_add, Nat.add_zero, Nat.reduceBEq, Nat.one_ne_zero, Nat.zero_ne_one, Nat.lt_irrefl, Nat.succ_ne_zero, w32_id, ixc, ixc2, Int.toNat_natCast]
      refine hQ _ _ _ ⟨(bI_t ⟨z, y⟩).symm, rfl, L2, fun x => absurd ⟨z, y⟩ x, fun _ x => absurd x w, fun _ _ => ⟨k5, ?_, S2, fun i hi hi2 => ?_⟩⟩
      · exact C1.fr (fun i hi => F2.1 i (by omega))
      · rw [F2.1 i hi2, F1.1 i hi]
  show V l (d + 3) 0 0 M_X10_mark 0 0 0 Q [(2, 1), (0, m), (0, o)] [] SHP h
  refine S_X10_mark_0 _ _ _ _ ?_; simp (disch := omega) only [B_X10_mark_0, bi_0, x_ic, x_lc, x_ld, x_st, x_sl, x_inc, x_b32, x_b64, x_d32, x_d64, x_s64, x_un, x_lcmp, x_dup, x_pop, x_dup2, x_if, x_cmp, x_sw, swk, x_ald, x_ast, x_alen, x_getf, x_putf, x_inv, x_mm, x_copy, x_iret, x_lret, x_vret, ok1, pu, ct, rcv, rcs, ent0, List.getElem?_cons_zero, List.getElem?_cons_succ, List.getElem?_nil, List.set_cons_zero, List.set_cons_succ, List.take_succ_cons, List.take_zero, List.drop_succ_cons, List.drop_zero, List.reverse_cons, List.reverse_nil, List.nil_append, List.cons_append, List.length_cons, List.length_nil, true_and, and_true, and_self, ne_eq, not_true_eq_false, not_false_eq_true, reduceIte, true_or, or_true, false_or, or_false, Nat.reduceAdd, Nat.reduceSub, Nat.reduceMul, Nat.reduceLeDiff, Nat.reduceEqDiff, Nat.reduceLT, Nat.le_refl, Nat.zero_le, Int.reduceToNat, Int.reduceAdd, Int.reduceSub, Int.reduceMul, Int.reduceNeg, Int.reduceLT, Int.reduceLE, Int.reduceEq, Nat.zero_add, Nat.add_zero, Nat.reduceBEq, Nat.one_ne_zero, Nat.zero_ne_one, Nat.lt_irrefl, Nat.succ_ne_zero, w32_id, ixc, ixc2, Int.toNat_natCast, ob_0, a11, ln_174]
  refine ⟨fun z => no (fun q => by omega), fun z => ⟨fun y => no (fun q => by omega), fun y => ⟨fun x => yes (by omega) (fun q => q.1 x), fun x => ⟨by omega, fun w => no (fun q => q.2 ⟨x, w⟩), fun w => yes (by omega) (fun q => w q.2)⟩⟩⟩⟩
end CM

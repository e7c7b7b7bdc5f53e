/-! the class: a name among some -/
/-- the same names in both, each once -/
def NaL (nm cl : Nat → Int) (a m : Nat) : Prop := (∀ k, k < m → NmR (nm (a + k)) (cl k)) ∧ ∀ j k, j < m → k < m → nm (a + j) = nm (a + k) → j = k
theorem naF_no {nm : Nat → Int} {v : Int} {a : Nat} : ∀ {m : Nat}, (∀ k, k < m → nm (a + k) ≠ v) → naF nm v a m = -1
  | 0, _ => rfl
  | m + 1, h => by rw [naF, if_neg (h m (by omega)), naF_no (fun k hk => h k (by omega))]
theorem naF_at {nm : Nat → Int} {v : Int} {a : Nat} : ∀ {m : Nat}, (∀ j k, j < m → k < m → nm (a + j) = nm (a + k) → j = k) → ∀ {k : Nat}, k < m → nm (a + k) = v → naF nm v a m = (k : Int)
  | 0, _, k, hk, _ => absurd hk (by omega)
  | m + 1, hd, k, hk, e => by
    rw [naF]
    by_cases q : nm (a + m) = v
    · rw [if_pos q, hd k m hk (by omega) (by rw [e, q])]
    · rw [if_neg q]
      have : k ≠ m := fun x => q (by rw [← x]; exact e)
      exact naF_at (fun j k hj hk => hd j k (by omega) (by omega)) (by omega) e
theorem naF_nn {nm : Nat → Int} {v : Int} {a : Nat} : ∀ {m : Nat}, naF nm v a m < 0 ↔ ∀ k, k < m → nm (a + k) ≠ v
  | 0 => ⟨fun _ k hk => absurd hk (by omega), fun _ => show (-1 : Int) < 0 by decide⟩
  | m + 1 => by
    have ih := naF_nn (nm := nm) (v := v) (a := a) (m := m)
    rw [naF]
    by_cases q : nm (a + m) = v
    · rw [if_pos q]; exact ⟨fun x => absurd x (by omega), fun x => absurd q (x m (by omega))⟩
    · rw [if_neg q, ih]
      refine ⟨fun x k hk => ?_, fun x k hk => x k (by omega)⟩
      by_cases e : k = m
      · rw [e]; exact q
      · exact x k (by omega)
section CF
variable {l : Launch} {d : Nat} {h : Mem}
theorem c_find {x a m z : Nat} {nm : Nat → Int} (hx : ln SHP 1 ((x : Int) + 1) = (z : Int)) (hm : m ≤ z) (hz : z ≤ 6) (Na : NaL nm (h x) a m) {v u : Int} (hv : NmR v u) : Cl l (d + 1) M_X3_find [(2, (x : Int) + 1), (0, (m : Int)), (1, u)] SHP h (Rt (naF nm v a m) SHP h) := by
  refine Cl_hide (fun Q hQ => ?_)
  show V l (d + 1) 0 0 M_X3_find 0 0 0 Q [(2, (x : Int) + 1), (0, (m : Int)), (1, u), (9, 0), (9, 0)] [] SHP h
  refine S_X3_find_0 _ _ _ _ ?_; simp (disch := omega) only [B_X3_find_0, bi_0, x_ic, x_lc, x_ld, x_st, x_sl, x_inc, x_b32, x_b64, x_d32, x_d64, x_s64, x_un, x_lcmp, x_dup, x_pop, x_dup2, x_if, x_cmp, x_sw, swk, x_ald, x_ast, x_alen, x_getf, x_putf, x_inv, x_mm, x_copy, x_iret, x_lret, x_vret, ok1, pu, ct, rcv, rcs, ent0, List.getElem?_cons_zero, List.getElem?_cons_succ, List.getElem?_nil, List.set_cons_zero, List.set_cons_succ, List.take_succ_cons, List.take_zero, List.drop_succ_cons, List.drop_zero, List.reverse_cons, List.reverse_nil, List.nil_append, List.cons_append, List.length_cons, List.length_nil, true_and, and_true, and_self, ne_eq, not_true_eq_false, not_false_eq_true, reduceIte, true_or, or_true, false_or, or_false, Nat.reduceAdd, Nat.reduceSub, Nat.reduceMul, Nat.reduceLeDiff, Nat.reduceEqDiff, Nat.reduceLT, Nat.le_refl, Nat.zero_le, Int.reduceToNat, Int.reduceAdd, Int.reduceSub, Int.reduceMul, Int.reduceNeg, Int.reduceLT, Int.reduceLE, Int.reduceEq, Nat.zero_add, Nat.add_zero, Nat.reduceBEq, Nat.one_ne_zero, Nat.zero_ne_one, Nat.lt_irrefl, Nat.succ_ne_zero, w32_id, ixc, ixc2, Int.toNat_natCast]
  have key : ∀ (g i : Nat), i + g = m → (∀ k, k < i → nm (a + k) ≠ v) → V l (d + 1) 0 0 M_X3_find 0 0 3 Q [(2, (x : Int) + 1), (0, (m : Int)), (1, u), (9, 0), (0, (i : Int))] [] SHP h := by
    intro g
    induction g with
    | zero =>
      intro i hi hn
      have out : V l (d + 1) 0 0 M_X3_find 0 0 34 Q [(2, (x : Int) + 1), (0, (m : Int)), (1, u), (9, 0), (0, (i : Int))] [] SHP h := by
        refine S_X3_find_34 _ _ _ _ ?_; simp (disch := omega) only [B_X3_find_34, bi_0, x_ic, x_lc, x_ld, x_st, x_sl, x_inc, x_b32, x_b64, x_d32, x_d64, x_s64, x_un, x_lcmp, x_dup, x_pop, x_dup2, x_if, x_cmp, x_sw, swk, x_ald, x_ast, x_alen, x_getf, x_putf, x_inv, x_mm, x_copy, x_iret, x_lret, x_vret, ok1, pu, ct, rcv, rcs, ent0, List.getElem?_cons_zero, List.getElem?_cons_succ, List.getElem?_nil, List.set_cons_zero, List.set_cons_succ, List.take_succ_cons, List.take_zero, List.drop_succ_cons, List.drop_zero, List.reverse_cons, List.reverse_nil, List.nil_append, List.cons_append, List.length_cons, List.length_nil, true_and, and_true, and_self, ne_eq, not_true_eq_false, not_false_eq_true, reduceIte, true_or, or_true, false_or, or_false, Nat.reduceAdd, Nat.reduceSub, Nat.reduceMul, Nat.reduceLeDiff, Nat.reduceEqDiff, Nat.reduceLT, Nat.le_refl, Nat.zero_le, Int.reduceToNat, Int.reduceAdd, Int.reduceSub, Int.reduceMul, Int.reduceNeg, Int.reduceLT, Int.reduceLE, Int.reduceEq, Nat.zero_add, Nat.add_zero, Nat.reduceBEq, Nat.one_ne_zero, Nat.zero_ne_one, Nat.lt_irrefl, Nat.succ_ne_zero, w32_id, ixc, ixc2, Int.toNat_natCast]
        exact hQ _ _ _ (Rt_mk (naF_no (fun k hk => hn k (by omega))).symm)
      refine S_X3_find_3 _ _ _ _ ?_; simp (disch := omega) only [B_X3_find_3, bi_0, x_ic, x_lc, x_ld, x_st, x_sl, x_inc, x_b32, x_b64, x_d32, x_d64, x_s64, x_un, x_lcmp, x_dup, x_pop, x_dup2, x_if, x_cmp, x_sw, swk, x_ald, x_ast, x_alen, x_getf, x_putf, x_inv, x_mm, x_copy, x_iret, x_lret, x_vret, ok1, pu, ct, rcv, rcs, ent0, List.getElem?_cons_zero, List.getElem?_cons_succ, List.getElem?_nil, List.set_cons_zero, List.set_cons_succ, List.take_succ_cons, List.take_zero, List.drop_succ_cons, List.drop_zero, List.reverse_cons, List.reverse_nil, List.nil_append, List.cons_append, List.length_cons, List.length_nil, true_and, and_true, and_self, ne_eq, not_true_eq_false, not_false_eq_true, reduceIte, true_or, or_true, false_or, or_false, Nat.reduceAdd, Nat.reduceSub, Nat.reduceMul, Nat.reduceLeDiff, Nat.reduceEqDiff, Nat.reduceLT, Nat.le_refl, Nat.zero_le, Int.reduceToNat, Int.reduceAdd, Int.reduceSub, Int.reduceMul, Int.reduceNeg, Int.reduceLT, Int.reduceLE, Int.reduceEq, Nat.zero_add, Nat.add_zero, Nat.reduceBEq, Nat.one_ne_zero, Nat.zero_ne_one, Nat.lt_irrefl, Nat.succ_ne_zero, w32_id, ixc, ixc2, Int.toNat_natCast, hx]
      exact ⟨fun _ => out, fun q => absurd q (by omega)⟩
    | succ g ih =>
      intro i hi hn
      have ij := (Na.1 i (by omega)).inj hv
      refine S_X3_find_3 _ _ _ _ ?_; simp (disch := omega) only [B_X3_find_3, bi_0, x_ic, x_lc, x_ld, x_st, x_sl, x_inc, x_b32, x_b64, x_d32, x_d64, x_s64, x_un, x_lcmp, x_dup, x_pop, x_dup2, x_if, x_cmp, x_sw, swk, x_ald, x_ast, x_alen, x_getf, x_putf, x_inv, x_mm, x_copy, x_iret, x_lret, x_vret, ok1, pu, ct, rcv, rcs, ent0, List.getElem?_cons_zero, List.getElem?_cons_succ, List.getElem?_nil, List.set_cons_zero, List.set_cons_succ, List.take_succ_cons, List.take_zero, List.drop_succ_cons, List.drop_zero, List.reverse_cons, List.reverse_nil, List.nil_append, List.cons_append, List.length_cons, List.length_nil, true_and, and_true, and_self, ne_eq, not_true_eq_false, not_false_eq_true, reduceIte, true_or, or_true, false_or, or_false, Nat.reduceAdd, Nat.reduceSub, Nat.reduceMul, Nat.reduceLeDiff, Nat.reduceEqDiff, Nat.reduceLT, Nat.le_refl, Nat.zero_le, Int.reduceToNat, Int.reduceAdd, Int.reduceSub, Int.reduceMul, Int.reduceNeg, Int.reduceLT, Int.reduceLE, Int.reduceEq, Nat.zero_add, Nat.add_zero, Nat.reduceBEq, Nat.one_ne_zero, Nat.zero_ne_one, Nat.lt_irrefl, Nat.succ_ne_zero, w32_id, ixc, ixc2, Int.toNat_natCast, hx, lcm_0]
      refine ⟨fun q => absurd q (by omega), fun _ => ?_⟩
      refine ⟨by omega, fun q => absurd q (by omega), fun _ => ⟨by omega, fun q => ?_, fun q => ?_⟩⟩
      · exact hQ _ _ _ (Rt_mk (naF_at Na.2 (by omega) (ij.mpr q)).symm)
      · refine S_X3_find_28 _ _ _ _ ?_; simp (disch := omega) only [B_X3_find_28, bi_0, x_ic, x_lc, x_ld, x_st, x_sl, x_inc, x_b32, x_b64, x_d32, x_d64, x_s64, x_un, x_lcmp, x_dup, x_pop, x_dup2, x_if, x_cmp, x_sw, swk, x_ald, x_ast, x_alen, x_getf, x_putf, x_inv, x_mm, x_copy, x_iret, x_lret, x_vret, ok1, pu, ct, rcv, rcs, ent0, List.getElem?_cons_zero, List.getElem?_cons_succ, List.getElem?_nil, List.set_cons_zero, List.set_cons_succ, List.take_succ_cons, List.take_zero, List.drop_succ_cons, List.drop_zero, List.reverse_cons, List.reverse_nil, List.nil_append, List.cons_append, List.length_cons, List.length_nil, true_and, and_true, and_self, ne_eq, not_true_eq_false, not_false_eq_true, reduceIte, true_or, or_true, false_or, or_false, Nat.reduceAdd, Nat.reduceSub, Nat.reduceMul, Nat.reduceLeDiff, Nat.reduceEqDiff, Nat.reduceLT, Nat.le_refl, Nat.zero_le, Int.reduceToNat, Int.reduceAdd, Int.reduceSub, Int.reduceMul, Int.reduceNeg, Int.reduceLT, Int.reduceLE, Int.reduceEq, Nat.zero_add, Nat.add_zero, Nat.reduceBEq, Nat.one_ne_zero, Nat.zero_ne_one, Nat.lt_irrefl, Nat.succ_ne_zero, w32_id, ixc, ixc2, Int.toNat_natCast]
        refine ih (i + 1) (by omega) (fun k hk => ?_)
        by_cases e : k = i
        · rw [e]; exact fun y => q (ij.mp y)
        · exact hn k (by omega)
  exact key m 0 (by omega) (fun k hk => absurd hk (by omega))
end CF

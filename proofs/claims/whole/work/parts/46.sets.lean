/-! small sets as numbers -/
def v6 (b : Nat → Bool) : Int := (if b 0 then 1 else 0) + (if b 1 then 2 else 0) + (if b 2 then 4 else 0) + (if b 3 then 8 else 0) + (if b 4 then 16 else 0) + (if b 5 then 32 else 0)
def pop6 (b : Nat → Bool) : Int := (if b 0 then 1 else 0) + (if b 1 then 1 else 0) + (if b 2 then 1 else 0) + (if b 3 then 1 else 0) + (if b 4 then 1 else 0) + (if b 5 then 1 else 0)
theorem v6_cong {b c : Nat → Bool} (e : ∀ i, i < 6 → b i = c i) : v6 b = v6 c := by
  unfold v6; rw [e 0 (by decide), e 1 (by decide), e 2 (by decide), e 3 (by decide), e 4 (by decide), e 5 (by decide)]
theorem pop6_cong {b c : Nat → Bool} (e : ∀ i, i < 6 → b i = c i) : pop6 b = pop6 c := by
  unfold pop6; rw [e 0 (by decide), e 1 (by decide), e 2 (by decide), e 3 (by decide), e 4 (by decide), e 5 (by decide)]
theorem v6_b (b : Nat → Bool) : 0 ≤ v6 b ∧ v6 b ≤ 63 := by
  unfold v6
  generalize b 0 = b0; generalize b 1 = b1; generalize b 2 = b2; generalize b 3 = b3; generalize b 4 = b4; generalize b 5 = b5
  revert b0 b1 b2 b3 b4 b5; decide +kernel
theorem v6_bit (b : Nat → Bool) {f : Nat} (hf : f < 6) : o32 (fun x y => x &&& y) (o32 (fun x y => x >>> (y &&& 31)) (v6 b) (f : Int)) 1 = if b f then 1 else 0 := by
  unfold v6
  rcases (show f = 0 ∨ f = 1 ∨ f = 2 ∨ f = 3 ∨ f = 4 ∨ f = 5 by omega) with rfl | rfl | rfl | rfl | rfl | rfl
  all_goals (generalize b 0 = b0; generalize b 1 = b1; generalize b 2 = b2; generalize b 3 = b3; generalize b 4 = b4; generalize b 5 = b5)
  all_goals (revert b0 b1 b2 b3 b4 b5; decide +kernel)
theorem v6_or_d : ∀ f : Fin 6, ∀ b0 b1 b2 b3 b4 b5 : Bool, o32 (fun x y => x ||| y) ((if b0 then 1 else 0) + (if b1 then 2 else 0) + (if b2 then 4 else 0) + (if b3 then 8 else 0) + (if b4 then 16 else 0) + (if b5 then 32 else 0)) (o32 (fun x y => x <<< (y &&& 31)) 1 ((f : Nat) : Int)) = ((if (b0 || 0 == (f : Nat)) then 1 else 0) + (if (b1 || 1 == (f : Nat)) then 2 else 0) + (if (b2 || 2 == (f : Nat)) then 4 else 0) + (if (b3 || 3 == (f : Nat)) then 8 else 0) + (if (b4 || 4 == (f : Nat)) then 16 else 0) + (if (b5 || 5 == (f : Nat)) then 32 else 0)) := by decide +kernel
theorem v6_or (b : Nat → Bool) {f : Nat} (hf : f < 6) : o32 (fun x y => x ||| y) (v6 b) (o32 (fun x y => x <<< (y &&& 31)) 1 (f : Int)) = v6 (fun i => b i || i == f) := v6_or_d ⟨f, hf⟩ (b 0) (b 1) (b 2) (b 3) (b 4) (b 5)
theorem v6_or0 (b : Nat → Bool) : o32 (fun x y => x ||| y) (v6 b) 0 = v6 b := by
  unfold v6
  generalize b 0 = b0; generalize b 1 = b1; generalize b 2 = b2; generalize b 3 = b3; generalize b 4 = b4; generalize b 5 = b5
  revert b0 b1 b2 b3 b4 b5; decide +kernel
theorem v6_but_d : ∀ f : Fin 6, ∀ b0 b1 b2 b3 b4 b5 : Bool, o32 (fun x y => x &&& y) ((if b0 then 1 else 0) + (if b1 then 2 else 0) + (if b2 then 4 else 0) + (if b3 then 8 else 0) + (if b4 then 16 else 0) + (if b5 then 32 else 0)) (o32 (fun x y => x ^^^ y) (o32 (fun x y => x <<< (y &&& 31)) 1 ((f : Nat) : Int)) (-1)) = ((if (b0 && !(0 == (f : Nat))) then 1 else 0) + (if (b1 && !(1 == (f : Nat))) then 2 else 0) + (if (b2 && !(2 == (f : Nat))) then 4 else 0) + (if (b3 && !(3 == (f : Nat))) then 8 else 0) + (if (b4 && !(4 == (f : Nat))) then 16 else 0) + (if (b5 && !(5 == (f : Nat))) then 32 else 0)) := by decide +kernel
theorem v6_but (b : Nat → Bool) {f : Nat} (hf : f < 6) : o32 (fun x y => x &&& y) (v6 b) (o32 (fun x y => x ^^^ y) (o32 (fun x y => x <<< (y &&& 31)) 1 (f : Int)) (-1)) = v6 (fun i => b i && !(i == f)) := v6_but_d ⟨f, hf⟩ (b 0) (b 1) (b 2) (b 3) (b 4) (b 5)
theorem v6_below_d : ∀ f : Fin 6, ∀ b0 b1 b2 b3 b4 b5 : Bool, o32 (fun x y => x &&& y) ((if b0 then 1 else 0) + (if b1 then 2 else 0) + (if b2 then 4 else 0) + (if b3 then 8 else 0) + (if b4 then 16 else 0) + (if b5 then 32 else 0)) (w32 (o32 (fun x y => x <<< (y &&& 31)) 1 ((f : Nat) : Int) - 1)) = ((if (b0 && decide (0 < (f : Nat))) then 1 else 0) + (if (b1 && decide (1 < (f : Nat))) then 2 else 0) + (if (b2 && decide (2 < (f : Nat))) then 4 else 0) + (if (b3 && decide (3 < (f : Nat))) then 8 else 0) + (if (b4 && decide (4 < (f : Nat))) then 16 else 0) + (if (b5 && decide (5 < (f : Nat))) then 32 else 0)) := by decide +kernel
theorem v6_below (b : Nat → Bool) {f : Nat} (hf : f < 6) : o32 (fun x y => x &&& y) (v6 b) (w32 (o32 (fun x y => x <<< (y &&& 31)) 1 (f : Int) - 1)) = v6 (fun i => b i && decide (i < f)) := v6_below_d ⟨f, hf⟩ (b 0) (b 1) (b 2) (b 3) (b 4) (b 5)
/-- bits counted one by one -/
def cnB (s : Int) : Nat → Int
  | 0 => 0
  | k + 1 => cnB s k + o32 (fun x y => x &&& y) (o32 (fun x y => x >>> (y &&& 31)) s (k : Int)) 1
theorem cnB_pop (b : Nat → Bool) : cnB (v6 b) 30 = pop6 b := by
  unfold v6 pop6
  generalize b 0 = b0; generalize b 1 = b1; generalize b 2 = b2; generalize b 3 = b3; generalize b 4 = b4; generalize b 5 = b5
  revert b0 b1 b2 b3 b4 b5; decide +kernel
theorem cnB_d : ∀ k : Fin 30, ∀ b0 b1 b2 b3 b4 b5 : Bool, 0 ≤ o32 (fun x y => x &&& y) (o32 (fun x y => x >>> (y &&& 31)) ((if b0 then 1 else 0) + (if b1 then 2 else 0) + (if b2 then 4 else 0) + (if b3 then 8 else 0) + (if b4 then 16 else 0) + (if b5 then 32 else 0)) ((k : Nat) : Int)) 1 ∧ o32 (fun x y => x &&& y) (o32 (fun x y => x >>> (y &&& 31)) ((if b0 then 1 else 0) + (if b1 then 2 else 0) + (if b2 then 4 else 0) + (if b3 then 8 else 0) + (if b4 then 16 else 0) + (if b5 then 32 else 0)) ((k : Nat) : Int)) 1 ≤ 1 := by decide +kernel
theorem cnB_s (b : Nat → Bool) {k : Nat} (hk : k < 30) : 0 ≤ o32 (fun x y => x &&& y) (o32 (fun x y => x >>> (y &&& 31)) (v6 b) (k : Int)) 1 ∧ o32 (fun x y => x &&& y) (o32 (fun x y => x >>> (y &&& 31)) (v6 b) (k : Int)) 1 ≤ 1 := cnB_d ⟨k, hk⟩ (b 0) (b 1) (b 2) (b 3) (b 4) (b 5)
theorem cnB_b (b : Nat → Bool) : ∀ {k : Nat}, k ≤ 30 → 0 ≤ cnB (v6 b) k ∧ cnB (v6 b) k ≤ k
  | 0, _ => ⟨Int.le_refl 0, Int.le_refl 0⟩
  | k + 1, h => by
    have := cnB_b b (k := k) (by omega)
    have := cnB_s b (k := k) (by omega)
    unfold cnB; omega
theorem pop6_b (b : Nat → Bool) : 0 ≤ pop6 b ∧ pop6 b ≤ 6 := by
  unfold pop6
  generalize b 0 = b0; generalize b 1 = b1; generalize b 2 = b2; generalize b 3 = b3; generalize b 4 = b4; generalize b 5 = b5
  revert b0 b1 b2 b3 b4 b5; decide +kernel
theorem pop6_pos {b : Nat → Bool} {f : Nat} (hf : f < 6) (h : b f = true) : 1 ≤ pop6 b := by
  unfold pop6
  rcases (show f = 0 ∨ f = 1 ∨ f = 2 ∨ f = 3 ∨ f = 4 ∨ f = 5 by omega) with rfl | rfl | rfl | rfl | rfl | rfl
  all_goals (rw [h])
  all_goals (repeat' split)
  all_goals (first | omega | contradiction)
section BT
variable {l : Launch} {d : Nat} {h : Mem} {sh : Shp}
theorem r_bits (b : Nat → Bool) : Cl l (d + 1) M_X11_bits [(0, v6 b)] SHP h (Rt (pop6 b) SHP h) := by
  show V l (d + 1) 0 0 M_X11_bits 0 0 0 _ [(0, v6 b), (9, 0), (9, 0)] [] SHP h
  refine S_X11_bits_0 _ _ _ _ ?_; simp (disch := omega) only [B_X11_bits_0, bi_0, x_ic, x_lc, x_ld, x_st, x_sl, x_inc, x_b32, x_b64, x_d32, x_d64, x_s64, x_un, x_lcmp, x_dup, x_pop, x_dup2, x_if, x_cmp, x_sw, swk, x_ald, x_ast, x_alen, x_getf, x_putf, x_inv, x_mm, x_copy, x_iret, x_lret, x_vret, ok1, pu, ct, rcv, rcs, ent0, List.getElem?_cons_zero, List.getElem?_cons_succ, List.getElem?_nil, List.set_cons_zero, List.set_cons_succ, List.take_succ_cons, List.take_zero, List.drop_succ_cons, List.drop_zero, List.reverse_cons, List.reverse_nil, List.nil_append, List.cons_append, List.length_cons, List.length_nil, true_and, and_true, and_self, ne_eq, not_true_eq_false, not_false_eq_true, reduceIte, true_or, or_true, false_or, or_false, Nat.reduceAdd, Nat.reduceSub, Nat.reduceMul, Nat.reduceLeDiff, Nat.reduceEqDiff, Nat.reduceLT, Nat.le_refl, Nat.zero_le, Int.reduceToNat, Int.reduceAdd, Int.reduceSub, Int.reduceMul, Int.reduceNeg, Int.reduceLT, Int.reduceLE, Int.reduceEq, Nat.zero_add, Nat.add_zero, Nat.reduceBEq, Nat.one_ne_zero, Nat.zero_ne_one, Nat.lt_irrefl, Nat.succ_ne_zero, w32_id, ixc, ixc2, Int.toNat_natCast]
  refine V_it (pc := 4) (fun k => [(0, v6 b), (0, cnB (v6 b) k), (0, (k : Int))]) (fun _ => h) 30 (fun k hk ih => ?_) ?_
  · have h1 := cnB_b b (k := k) (by omega)
    have h2 := cnB_s b hk
    refine S_X11_bits_4 _ _ _ _ ?_; simp (disch := omega) only [B_X11_bits_4, bi_0, x_ic, x_lc, x_ld, x_st, x_sl, x_inc, x_b32, x_b64, x_d32, x_d64, x_s64, x_un, x_lcmp, x_dup, x_pop, x_dup2, x_if, x_cmp, x_sw, swk, x_ald, x_ast, x_alen, x_getf, x_putf, x_inv, x_mm, x_copy, x_iret, x_lret, x_vret, ok1, pu, ct, rcv, rcs, ent0, List.getElem?_cons_zero, List.getElem?_cons_succ, List.getElem?_nil, List.set_cons_zero, List.set_cons_succ, List.take_succ_cons, List.take_zero, List.drop_succ_cons, List.drop_zero, List.reverse_cons, List.reverse_nil, List.nil_append, List.cons_append, List.length_cons, List.length_nil, true_and, and_true, and_self, ne_eq, not_true_eq_false, not_false_eq_true, reduceIte, true_or, or_true, false_or, or_false, Nat.reduceAdd, Nat.reduceSub, Nat.reduceMul, Nat.reduceLeDiff, Nat.reduceEqDiff, Nat.reduceLT, Nat.le_refl, Nat.zero_le, Int.reduceToNat, Int.reduceAdd, Int.reduceSub, Int.reduceMul, Int.reduceNeg, Int.reduceLT, Int.reduceLE, Int.reduceEq, Nat.zero_add, Nat.add_zero, Nat.reduceBEq, Nat.one_ne_zero, Nat.zero_ne_one, Nat.lt_irrefl, Nat.succ_ne_zero, w32_id, ixc, ixc2, Int.toNat_natCast]
    refine ⟨fun z => absurd z (by omega), fun _ => ?_⟩
    exact ih
  · refine S_X11_bits_4 _ _ _ _ ?_; simp (disch := omega) only [B_X11_bits_4, bi_0, x_ic, x_lc, x_ld, x_st, x_sl, x_inc, x_b32, x_b64, x_d32, x_d64, x_s64, x_un, x_lcmp, x_dup, x_pop, x_dup2, x_if, x_cmp, x_sw, swk, x_ald, x_ast, x_alen, x_getf, x_putf, x_inv, x_mm, x_copy, x_iret, x_lret, x_vret, ok1, pu, ct, rcv, rcs, ent0, List.getElem?_cons_zero, List.getElem?_cons_succ, List.getElem?_nil, List.set_cons_zero, List.set_cons_succ, List.take_succ_cons, List.take_zero, List.drop_succ_cons, List.drop_zero, List.reverse_cons, List.reverse_nil, List.nil_append, List.cons_append, List.length_cons, List.length_nil, true_and, and_true, and_self, ne_eq, not_true_eq_false, not_false_eq_true, reduceIte, true_or, or_true, false_or, or_false, Nat.reduceAdd, Nat.reduceSub, Nat.reduceMul, Nat.reduceLeDiff, Nat.reduceEqDiff, Nat.reduceLT, Nat.le_refl, Nat.zero_le, Int.reduceToNat, Int.reduceAdd, Int.reduceSub, Int.reduceMul, Int.reduceNeg, Int.reduceLT, Int.reduceLE, Int.reduceEq, Nat.zero_add, Nat.add_zero, Nat.reduceBEq, Nat.one_ne_zero, Nat.zero_ne_one, Nat.lt_irrefl, Nat.succ_ne_zero, w32_id, ixc, ixc2, Int.toNat_natCast]
    refine ⟨fun _ => ?_, fun z => absurd z (by omega)⟩
    refine S_X11_bits_24 _ _ _ _ ?_; simp (disch := omega) only [B_X11_bits_24, bi_0, x_ic, x_lc, x_ld, x_st, x_sl, x_inc, x_b32, x_b64, x_d32, x_d64, x_s64, x_un, x_lcmp, x_dup, x_pop, x_dup2, x_if, x_cmp, x_sw, swk, x_ald, x_ast, x_alen, x_getf, x_putf, x_inv, x_mm, x_copy, x_iret, x_lret, x_vret, ok1, pu, ct, rcv, rcs, ent0, List.getElem?_cons_zero, List.getElem?_cons_succ, List.getElem?_nil, List.set_cons_zero, List.set_cons_succ, List.take_succ_cons, List.take_zero, List.drop_succ_cons, List.drop_zero, List.reverse_cons, List.reverse_nil, List.nil_append, List.cons_append, List.length_cons, List.length_nil, true_and, and_true, and_self, ne_eq, not_true_eq_false, not_false_eq_true, reduceIte, true_or, or_true, false_or, or_false, Nat.reduceAdd, Nat.reduceSub, Nat.reduceMul, Nat.reduceLeDiff, Nat.reduceEqDiff, Nat.reduceLT, Nat.le_refl, Nat.zero_le, Int.reduceToNat, Int.reduceAdd, Int.reduceSub, Int.reduceMul, Int.reduceNeg, Int.reduceLT, Int.reduceLE, Int.reduceEq, Nat.zero_add, Nat.add_zero, Nat.reduceBEq, Nat.one_ne_zero, Nat.zero_ne_one, Nat.lt_irrefl, Nat.succ_ne_zero, w32_id, ixc, ixc2, Int.toNat_natCast]
    exact Rt_mk (cnB_pop b)
theorem j_bitCount (b : Nat → Bool) : Cl l (d + 1) M_J6_bitCount_0f7a4 [(0, v6 b)] sh h (Rt (pop6 b) sh h) := by
  show V l (d + 1) 0 0 M_J6_bitCount_0f7a4 0 0 0 _ [(0, v6 b)] [] sh h
  refine S_J6_bitCount_0f7a4_0 _ _ _ _ ?_; simp (disch := omega) only [B_J6_bitCount_0f7a4_0, bi_0, x_ic, x_lc, x_ld, x_st, x_sl, x_inc, x_b32, x_b64, x_d32, x_d64, x_s64, x_un, x_lcmp, x_dup, x_pop, x_dup2, x_if, x_cmp, x_sw, swk, x_ald, x_ast, x_alen, x_getf, x_putf, x_inv, x_mm, x_copy, x_iret, x_lret, x_vret, ok1, pu, ct, rcv, rcs, ent0, List.getElem?_cons_zero, List.getElem?_cons_succ, List.getElem?_nil, List.set_cons_zero, List.set_cons_succ, List.take_succ_cons, List.take_zero, List.drop_succ_cons, List.drop_zero, List.reverse_cons, List.reverse_nil, List.nil_append, List.cons_append, List.length_cons, List.length_nil, true_and, and_true, and_self, ne_eq, not_true_eq_false, not_false_eq_true, reduceIte, true_or, or_true, false_or, or_false, Nat.reduceAdd, Nat.reduceSub, Nat.reduceMul, Nat.reduceLeDiff, Nat.reduceEqDiff, Nat.reduceLT, Nat.le_refl, Nat.zero_le, Int.reduceToNat, Int.reduceAdd, Int.reduceSub, Int.reduceMul, Int.reduceNeg, Int.reduceLT, Int.reduceLE, Int.reduceEq, Nat.zero_add, Nat.add_zero, Nat.reduceBEq, Nat.one_ne_zero, Nat.zero_ne_one, Nat.lt_irrefl, Nat.succ_ne_zero, w32_id, ixc, ixc2, Int.toNat_natCast]
  refine Rt_mk ?_
  unfold v6 pop6
  generalize b 0 = b0; generalize b 1 = b1; generalize b 2 = b2; generalize b 3 = b3; generalize b 4 = b4; generalize b 5 = b5
  revert b0 b1 b2 b3 b4 b5; decide +kernel
end BT

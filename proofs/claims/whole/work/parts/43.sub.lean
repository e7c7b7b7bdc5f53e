/-! sub: both sides -/
noncomputable def bI (p : Prop) : Int := @bi p (Classical.propDecidable p)
theorem bI_0 {p : Prop} : (bI p = 0) = ¬ p := @bi_0 p (Classical.propDecidable p)
theorem bI_b {p : Prop} : 0 ≤ bI p ∧ bI p ≤ 1 := @bi_b p (Classical.propDecidable p)
theorem bI_t {p : Prop} (h : p) : bI p = 1 := @bi_t p (Classical.propDecidable p) h
theorem bI_f {p : Prop} (h : ¬ p) : bI p = 0 := @bi_f p (Classical.propDecidable p) h
theorem bI_iff {p q : Prop} (h : p ↔ q) : bI p = bI q := by rw [propext h]
theorem bi_bI {p : Prop} [Decidable p] : bi p = bI p := by
  by_cases h : p
  · rw [bi_t h, bI_t h]
  · rw [bi_f h, bI_f h]
def SubP (f : Nat → Int) : Prop := ∀ a b : Nat, 1 ≤ a → 1 ≤ b → a + b ≤ 60 → f (a + b) ≤ f a + f b
def SubTo (f : Nat → Int) (s : Nat) : Prop := ∀ a b : Nat, 1 ≤ a → a < s → 1 ≤ b → a + b ≤ 60 → f (a + b) ≤ f a + f b
section SB
variable {l : Launch} {d : Nat} {h : Mem} {nb : Nat}
theorem r_sub (L : Lay h) (W : WC (h 220)) (c : Int) : Cl l (d + 3) M_X11_sub [(2, 215), (0, c)] SHP h (Rt (bI ((0 ≤ c ∧ c < h 220 0) ∧ SubP (fun t => vOf (h 220) c t))) SHP (up h 214 0 0)) := by
  have L1 : Lay (up h 214 0 0) := Lay_upf L (by decide +kernel)
  have e1 : up h 214 0 0 220 = h 220 := up_ne (by decide)
  generalize hC : (0 ≤ c ∧ c < h 220 0) = Cc
  generalize hf : (fun t : Nat => vOf (h 220) c t) = f
  have fb : Cc → ∀ t : Nat, t ≤ 60 → 0 ≤ f t ∧ f t ≤ 20000 := fun z t ht => by
    rw [← hC] at z
    have := vOf_b (W.2 c z.1 z.2) (t := (t : Int)) (by omega) (by omega)
    rw [← hf]; exact ⟨this.1, by show vOf (h 220) c t ≤ 20000; omega⟩
  have vv : Cc → ∀ t : Nat, t ≤ 60 → Cl l (d + 2) M_X11_valueOf [(2, 215), (0, c), (0, (t : Int))] SHP (up h 214 0 0) (Rt (f t) SHP (up h 214 0 0)) := fun z t ht => by
    rw [← hC] at z
    have := r_valueOf (l := l) (d := d + 1) L1 (c := c) (t := (t : Int)) (by rw [e1]; exact W.2 c z.1 z.2) (by omega) (by omega)
    rw [e1] at this
    rw [← hf]; exact this
  have inner : ∀ (Q : Int → Shp → Mem → Prop) (s : Nat), 1 ≤ s → s ≤ 59 → ∀ j t, s + t + j = 61 → 1 ≤ t → (V l (d + 3) 0 0 M_X11_sub 0 0 77 Q [(2, 215), (0, c), (0, bI (Cc ∧ SubTo f (s + 1))), (0, (s : Int)), (9, 0)] [] SHP (up h 214 0 0)) → V l (d + 3) 0 0 M_X11_sub 0 0 26 Q [(2, 215), (0, c), (0, bI ((Cc ∧ SubTo f s) ∧ ∀ b : Nat, 1 ≤ b → b < t → f (s + b) ≤ f s + f b)), (0, (s : Int)), (0, (t : Int))] [] SHP (up h 214 0 0) := by
    intro Q s hs1 hs2 j
    induction j with
    | zero =>
      intro t ht h1 hv
      refine S_X11_sub_26 _ _ _ _ ?_
      simp (disch := omega) only [B_X11_sub_26, bi_0, x_ic, x_lc, x_ld, x_st, x_sl, x_inc, x_b32, x_b64, x_d32, x_d64, x_s64, x_un, x_lcmp, x_dup, x_pop, x_dup2, x_if, x_cmp, x_sw, swk, x_ald, x_ast, x_alen, x_getf, x_putf, x_inv, x_mm, x_copy, x_iret, x_lret, x_vret, ok1, pu, ct, rcv, rcs, ent0, List.getElem?_cons_zero, List.getElem?_cons_succ, List.getElem?_nil, List.set_cons_zero, List.set_cons_succ, List.take_succ_cons, List.take_zero, List.drop_succ_cons, List.drop_zero, List.reverse_cons, List.reverse_nil, List.nil_append, List.cons_append, List.length_cons, List.length_nil, true_and, and_true, and_self, ne_eq, not_true_eq_false, not_false_eq_true, reduceIte, true_or, or_true, false_or, or_false, Nat.reduceAdd, Nat.reduceSub, Nat.reduceMul, Nat.reduceLeDiff, Nat.reduceEqDiff, Nat.reduceLT, Nat.le_refl, Nat.zero_le, Int.reduceToNat, Int.reduceAdd, Int.reduceSub, Int.reduceMul, Int.reduceNeg, Int.reduceLT, Int.reduceLE, Int.reduceEq, Nat.zero_add, Nat.add_zero, Nat.reduceBEq, Nat.one_ne_zero, Nat.zero_ne_one, Nat.lt_irrefl, Nat.succ_ne_zero, ob_214, w32_id]
      refine ⟨fun _ => ?_, fun z => absurd z (by omega)⟩
      refine V_fg [4] ?_
      rw [bI_iff (q := (Cc ∧ SubTo f s) ∧ ∀ b : Nat, 1 ≤ b → b < t → f (s + b) ≤ f s + f b) ⟨fun z => ⟨⟨z.1, fun a b q1 q2 q3 q4 => z.2 a b q1 (by omega) q3 q4⟩, fun b q1 q2 => z.2 s b hs1 (by omega) q1 (by omega)⟩, fun z => ⟨z.1.1, fun a b q1 q2 q3 q4 => by
        by_cases e : a = s
        · subst e; exact z.2 b q3 (by omega)
        · exact z.1.2 a b q1 (by omega) q3 q4⟩⟩] at hv
      exact hv
    | succ j ih =>
      intro t ht h1 hv
      have ih := ih (t + 1) (by omega) (by omega) hv
      refine S_X11_sub_26 _ _ _ _ ?_
      simp (disch := omega) only [B_X11_sub_26, bi_0, x_ic, x_lc, x_ld, x_st, x_sl, x_inc, x_b32, x_b64, x_d32, x_d64, x_s64, x_un, x_lcmp, x_dup, x_pop, x_dup2, x_if, x_cmp, x_sw, swk, x_ald, x_ast, x_alen, x_getf, x_putf, x_inv, x_mm, x_copy, x_iret, x_lret, x_vret, ok1, pu, ct, rcv, rcs, ent0, List.getElem?_cons_zero, List.getElem?_cons_succ, List.getElem?_nil, List.set_cons_zero, List.set_cons_succ, List.take_succ_cons, List.take_zero, List.drop_succ_cons, List.drop_zero, List.reverse_cons, List.reverse_nil, List.nil_append, List.cons_append, List.length_cons, List.length_nil, true_and, and_true, and_self, ne_eq, not_true_eq_false, not_false_eq_true, reduceIte, true_or, or_true, false_or, or_false, Nat.reduceAdd, Nat.reduceSub, Nat.reduceMul, Nat.reduceLeDiff, Nat.reduceEqDiff, Nat.reduceLT, Nat.le_refl, Nat.zero_le, Int.reduceToNat, Int.reduceAdd, Int.reduceSub, Int.reduceMul, Int.reduceNeg, Int.reduceLT, Int.reduceLE, Int.reduceEq, Nat.zero_add, Nat.add_zero, Nat.reduceBEq, Nat.one_ne_zero, Nat.zero_ne_one, Nat.lt_irrefl, Nat.succ_ne_zero, ob_214, w32_id, bI_0]
      refine ⟨fun z => absurd z (by omega), fun _ => ⟨fun z => ?_, fun z => ?_⟩⟩
      · refine S_X11_sub_69 _ _ _ _ ?_
        simp (disch := omega) only [B_X11_sub_69, bi_0, x_ic, x_lc, x_ld, x_st, x_sl, x_inc, x_b32, x_b64, x_d32, x_d64, x_s64, x_un, x_lcmp, x_dup, x_pop, x_dup2, x_if, x_cmp, x_sw, swk, x_ald, x_ast, x_alen, x_getf, x_putf, x_inv, x_mm, x_copy, x_iret, x_lret, x_vret, ok1, pu, ct, rcv, rcs, ent0, List.getElem?_cons_zero, List.getElem?_cons_succ, List.getElem?_nil, List.set_cons_zero, List.set_cons_succ, List.take_succ_cons, List.take_zero, List.drop_succ_cons, List.drop_zero, List.reverse_cons, List.reverse_nil, List.nil_append, List.cons_append, List.length_cons, List.length_nil, true_and, and_true, and_self, ne_eq, not_true_eq_false, not_false_eq_true, reduceIte, true_or, or_true, false_or, or_false, Nat.reduceAdd, Nat.reduceSub, Nat.reduceMul, Nat.reduceLeDiff, Nat.reduceEqDiff, Nat.reduceLT, Nat.le_refl, Nat.zero_le, Int.reduceToNat, Int.reduceAdd, Int.reduceSub, Int.reduceMul, Int.reduceNeg, Int.reduceLT, Int.reduceLE, Int.reduceEq, Nat.zero_add, Nat.add_zero, Nat.reduceBEq, Nat.one_ne_zero, Nat.zero_ne_one, Nat.lt_irrefl, Nat.succ_ne_zero]
        refine S_X11_sub_70 _ _ _ _ ?_
        simp (disch := omega) only [B_X11_sub_70, bi_0, x_ic, x_lc, x_ld, x_st, x_sl, x_inc, x_b32, x_b64, x_d32, x_d64, x_s64, x_un, x_lcmp, x_dup, x_pop, x_dup2, x_if, x_cmp, x_sw, swk, x_ald, x_ast, x_alen, x_getf, x_putf, x_inv, x_mm, x_copy, x_iret, x_lret, x_vret, ok1, pu, ct, rcv, rcs, ent0, List.getElem?_cons_zero, List.getElem?_cons_succ, List.getElem?_nil, List.set_cons_zero, List.set_cons_succ, List.take_succ_cons, List.take_zero, List.drop_succ_cons, List.drop_zero, List.reverse_cons, List.reverse_nil, List.nil_append, List.cons_append, List.length_cons, List.length_nil, true_and, and_true, and_self, ne_eq, not_true_eq_false, not_false_eq_true, reduceIte, true_or, or_true, false_or, or_false, Nat.reduceAdd, Nat.reduceSub, Nat.reduceMul, Nat.reduceLeDiff, Nat.reduceEqDiff, Nat.reduceLT, Nat.le_refl, Nat.zero_le, Int.reduceToNat, Int.reduceAdd, Int.reduceSub, Int.reduceMul, Int.reduceNeg, Int.reduceLT, Int.reduceLE, Int.reduceEq, Nat.zero_add, Nat.add_zero, Nat.reduceBEq, Nat.one_ne_zero, Nat.zero_ne_one, Nat.lt_irrefl, Nat.succ_ne_zero, w32_id]
        rw [bI_f (fun y => z ⟨y.1, fun b q1 q2 => y.2 b q1 (by omega)⟩)] at ih
        simpa using ih
      · have z := Classical.not_not.mp z
        have hc := z.1.1
        have b1 := fb hc s (by omega)
        have b2 := fb hc t (by omega)
        refine Cl.app (vv hc s (by omega)) ?_
        simp (disch := omega) only [bi_0, x_ic, x_lc, x_ld, x_st, x_sl, x_inc, x_b32, x_b64, x_d32, x_d64, x_s64, x_un, x_lcmp, x_dup, x_pop, x_dup2, x_if, x_cmp, x_sw, swk, x_ald, x_ast, x_alen, x_getf, x_putf, x_inv, x_mm, x_copy, x_iret, x_lret, x_vret, ok1, pu, ct, rcv, rcs, ent0, List.getElem?_cons_zero, List.getElem?_cons_succ, List.getElem?_nil, List.set_cons_zero, List.set_cons_succ, List.take_succ_cons, List.take_zero, List.drop_succ_cons, List.drop_zero, List.reverse_cons, List.reverse_nil, List.nil_append, List.cons_append, List.length_cons, List.length_nil, true_and, and_true, and_self, ne_eq, not_true_eq_false, not_false_eq_true, reduceIte, true_or, or_true, false_or, or_false, Nat.reduceAdd, Nat.reduceSub, Nat.reduceMul, Nat.reduceLeDiff, Nat.reduceEqDiff, Nat.reduceLT, Nat.le_refl, Nat.zero_le, Int.reduceToNat, Int.reduceAdd, Int.reduceSub, Int.reduceMul, Int.reduceNeg, Int.reduceLT, Int.reduceLE, Int.reduceEq, Nat.zero_add, Nat.add_zero, Nat.reduceBEq, Nat.one_ne_zero, Nat.zero_ne_one, Nat.lt_irrefl, Nat.succ_ne_zero, ob_214]
        refine Cl.app (vv hc t (by omega)) ?_
        simp (disch := omega) only [bi_0, x_ic, x_lc, x_ld, x_st, x_sl, x_inc, x_b32, x_b64, x_d32, x_d64, x_s64, x_un, x_lcmp, x_dup, x_pop, x_dup2, x_if, x_cmp, x_sw, swk, x_ald, x_ast, x_alen, x_getf, x_putf, x_inv, x_mm, x_copy, x_iret, x_lret, x_vret, ok1, pu, ct, rcv, rcs, ent0, List.getElem?_cons_zero, List.getElem?_cons_succ, List.getElem?_nil, List.set_cons_zero, List.set_cons_succ, List.take_succ_cons, List.take_zero, List.drop_succ_cons, List.drop_zero, List.reverse_cons, List.reverse_nil, List.nil_append, List.cons_append, List.length_cons, List.length_nil, true_and, and_true, and_self, ne_eq, not_true_eq_false, not_false_eq_true, reduceIte, true_or, or_true, false_or, or_false, Nat.reduceAdd, Nat.reduceSub, Nat.reduceMul, Nat.reduceLeDiff, Nat.reduceEqDiff, Nat.reduceLT, Nat.le_refl, Nat.zero_le, Int.reduceToNat, Int.reduceAdd, Int.reduceSub, Int.reduceMul, Int.reduceNeg, Int.reduceLT, Int.reduceLE, Int.reduceEq, Nat.zero_add, Nat.add_zero, Nat.reduceBEq, Nat.one_ne_zero, Nat.zero_ne_one, Nat.lt_irrefl, Nat.succ_ne_zero, ob_214, w32_id]
        rw [show ((s : Int) + (t : Int)) = ((s + t : Nat) : Int) by omega]
        refine Cl.app (vv hc (s + t) (by omega)) ?_
        refine ⟨fun q => ?_, fun q => ?_⟩
        · refine S_X11_sub_69 _ _ _ _ ?_
          simp (disch := omega) only [B_X11_sub_69, bi_0, x_ic, x_lc, x_ld, x_st, x_sl, x_inc, x_b32, x_b64, x_d32, x_d64, x_s64, x_un, x_lcmp, x_dup, x_pop, x_dup2, x_if, x_cmp, x_sw, swk, x_ald, x_ast, x_alen, x_getf, x_putf, x_inv, x_mm, x_copy, x_iret, x_lret, x_vret, ok1, pu, ct, rcv, rcs, ent0, List.getElem?_cons_zero, List.getElem?_cons_succ, List.getElem?_nil, List.set_cons_zero, List.set_cons_succ, List.take_succ_cons, List.take_zero, List.drop_succ_cons, List.drop_zero, List.reverse_cons, List.reverse_nil, List.nil_append, List.cons_append, List.length_cons, List.length_nil, true_and, and_true, and_self, ne_eq, not_true_eq_false, not_false_eq_true, reduceIte, true_or, or_true, false_or, or_false, Nat.reduceAdd, Nat.reduceSub, Nat.reduceMul, Nat.reduceLeDiff, Nat.reduceEqDiff, Nat.reduceLT, Nat.le_refl, Nat.zero_le, Int.reduceToNat, Int.reduceAdd, Int.reduceSub, Int.reduceMul, Int.reduceNeg, Int.reduceLT, Int.reduceLE, Int.reduceEq, Nat.zero_add, Nat.add_zero, Nat.reduceBEq, Nat.one_ne_zero, Nat.zero_ne_one, Nat.lt_irrefl, Nat.succ_ne_zero]
          refine S_X11_sub_70 _ _ _ _ ?_
          simp (disch := omega) only [B_X11_sub_70, bi_0, x_ic, x_lc, x_ld, x_st, x_sl, x_inc, x_b32, x_b64, x_d32, x_d64, x_s64, x_un, x_lcmp, x_dup, x_pop, x_dup2, x_if, x_cmp, x_sw, swk, x_ald, x_ast, x_alen, x_getf, x_putf, x_inv, x_mm, x_copy, x_iret, x_lret, x_vret, ok1, pu, ct, rcv, rcs, ent0, List.getElem?_cons_zero, List.getElem?_cons_succ, List.getElem?_nil, List.set_cons_zero, List.set_cons_succ, List.take_succ_cons, List.take_zero, List.drop_succ_cons, List.drop_zero, List.reverse_cons, List.reverse_nil, List.nil_append, List.cons_append, List.length_cons, List.length_nil, true_and, and_true, and_self, ne_eq, not_true_eq_false, not_false_eq_true, reduceIte, true_or, or_true, false_or, or_false, Nat.reduceAdd, Nat.reduceSub, Nat.reduceMul, Nat.reduceLeDiff, Nat.reduceEqDiff, Nat.reduceLT, Nat.le_refl, Nat.zero_le, Int.reduceToNat, Int.reduceAdd, Int.reduceSub, Int.reduceMul, Int.reduceNeg, Int.reduceLT, Int.reduceLE, Int.reduceEq, Nat.zero_add, Nat.add_zero, Nat.reduceBEq, Nat.one_ne_zero, Nat.zero_ne_one, Nat.lt_irrefl, Nat.succ_ne_zero, w32_id]
          rw [bI_f (fun y => by have := y.2 t h1 (by omega); omega)] at ih
          simpa using ih
        · refine S_X11_sub_70 _ _ _ _ ?_
          simp (disch := omega) only [B_X11_sub_70, bi_0, x_ic, x_lc, x_ld, x_st, x_sl, x_inc, x_b32, x_b64, x_d32, x_d64, x_s64, x_un, x_lcmp, x_dup, x_pop, x_dup2, x_if, x_cmp, x_sw, swk, x_ald, x_ast, x_alen, x_getf, x_putf, x_inv, x_mm, x_copy, x_iret, x_lret, x_vret, ok1, pu, ct, rcv, rcs, ent0, List.getElem?_cons_zero, List.getElem?_cons_succ, List.getElem?_nil, List.set_cons_zero, List.set_cons_succ, List.take_succ_cons, List.take_zero, List.drop_succ_cons, List.drop_zero, List.reverse_cons, List.reverse_nil, List.nil_append, List.cons_append, List.length_cons, List.length_nil, true_and, and_true, and_self, ne_eq, not_true_eq_false, not_false_eq_true, reduceIte, true_or, or_true, false_or, or_false, Nat.reduceAdd, Nat.reduceSub, Nat.reduceMul, Nat.reduceLeDiff, Nat.reduceEqDiff, Nat.reduceLT, Nat.le_refl, Nat.zero_le, Int.reduceToNat, Int.reduceAdd, Int.reduceSub, Int.reduceMul, Int.reduceNeg, Int.reduceLT, Int.reduceLE, Int.reduceEq, Nat.zero_add, Nat.add_zero, Nat.reduceBEq, Nat.one_ne_zero, Nat.zero_ne_one, Nat.lt_irrefl, Nat.succ_ne_zero, w32_id]
          rw [bI_t ⟨z.1, fun b q1 q2 => by
            by_cases e : b = t
            · subst e; omega
            · exact z.2 b q1 (by omega)⟩] at ih
          simpa using ih
  have outer : ∀ j s, s + j = 60 → 1 ≤ s → V l (d + 3) 0 0 M_X11_sub 0 0 13 (Rt (bI (Cc ∧ SubP f)) SHP (up h 214 0 0)) [(2, 215), (0, c), (0, bI (Cc ∧ SubTo f s)), (0, (s : Int)), (9, 0)] [] SHP (up h 214 0 0) := by
    intro j
    induction j with
    | zero =>
      intro s hs h1
      refine S_X11_sub_13 _ _ _ _ ?_
      simp (disch := omega) only [B_X11_sub_13, bi_0, x_ic, x_lc, x_ld, x_st, x_sl, x_inc, x_b32, x_b64, x_d32, x_d64, x_s64, x_un, x_lcmp, x_dup, x_pop, x_dup2, x_if, x_cmp, x_sw, swk, x_ald, x_ast, x_alen, x_getf, x_putf, x_inv, x_mm, x_copy, x_iret, x_lret, x_vret, ok1, pu, ct, rcv, rcs, ent0, List.getElem?_cons_zero, List.getElem?_cons_succ, List.getElem?_nil, List.set_cons_zero, List.set_cons_succ, List.take_succ_cons, List.take_zero, List.drop_succ_cons, List.drop_zero, List.reverse_cons, List.reverse_nil, List.nil_append, List.cons_append, List.length_cons, List.length_nil, true_and, and_true, and_self, ne_eq, not_true_eq_false, not_false_eq_true, reduceIte, true_or, or_true, false_or, or_false, Nat.reduceAdd, Nat.reduceSub, Nat.reduceMul, Nat.reduceLeDiff, Nat.reduceEqDiff, Nat.reduceLT, Nat.le_refl, Nat.zero_le, Int.reduceToNat, Int.reduceAdd, Int.reduceSub, Int.reduceMul, Int.reduceNeg, Int.reduceLT, Int.reduceLE, Int.reduceEq, Nat.zero_add, Nat.add_zero, Nat.reduceBEq, Nat.one_ne_zero, Nat.zero_ne_one, Nat.lt_irrefl, Nat.succ_ne_zero]
      refine ⟨fun _ => ?_, fun z => absurd z (by omega)⟩
      refine S_X11_sub_83 _ _ _ _ ?_
      simp (disch := omega) only [B_X11_sub_83, bi_0, x_ic, x_lc, x_ld, x_st, x_sl, x_inc, x_b32, x_b64, x_d32, x_d64, x_s64, x_un, x_lcmp, x_dup, x_pop, x_dup2, x_if, x_cmp, x_sw, swk, x_ald, x_ast, x_alen, x_getf, x_putf, x_inv, x_mm, x_copy, x_iret, x_lret, x_vret, ok1, pu, ct, rcv, rcs, ent0, List.getElem?_cons_zero, List.getElem?_cons_succ, List.getElem?_nil, List.set_cons_zero, List.set_cons_succ, List.take_succ_cons, List.take_zero, List.drop_succ_cons, List.drop_zero, List.reverse_cons, List.reverse_nil, List.nil_append, List.cons_append, List.length_cons, List.length_nil, true_and, and_true, and_self, ne_eq, not_true_eq_false, not_false_eq_true, reduceIte, true_or, or_true, false_or, or_false, Nat.reduceAdd, Nat.reduceSub, Nat.reduceMul, Nat.reduceLeDiff, Nat.reduceEqDiff, Nat.reduceLT, Nat.le_refl, Nat.zero_le, Int.reduceToNat, Int.reduceAdd, Int.reduceSub, Int.reduceMul, Int.reduceNeg, Int.reduceLT, Int.reduceLE, Int.reduceEq, Nat.zero_add, Nat.add_zero, Nat.reduceBEq, Nat.one_ne_zero, Nat.zero_ne_one, Nat.lt_irrefl, Nat.succ_ne_zero]
      refine ⟨bI_b, Rt_mk (bI_iff ⟨fun z => ⟨z.1, fun a b q1 q2 q3 => z.2 a b q1 (by omega) q2 q3⟩, fun z => ⟨z.1, fun a b q1 _ q2 q3 => z.2 a b q1 q2 q3⟩⟩)⟩
    | succ j ih =>
      intro s hs h1
      refine S_X11_sub_13 _ _ _ _ ?_
      simp (disch := omega) only [B_X11_sub_13, bi_0, x_ic, x_lc, x_ld, x_st, x_sl, x_inc, x_b32, x_b64, x_d32, x_d64, x_s64, x_un, x_lcmp, x_dup, x_pop, x_dup2, x_if, x_cmp, x_sw, swk, x_ald, x_ast, x_alen, x_getf, x_putf, x_inv, x_mm, x_copy, x_iret, x_lret, x_vret, ok1, pu, ct, rcv, rcs, ent0, List.getElem?_cons_zero, List.getElem?_cons_succ, List.getElem?_nil, List.set_cons_zero, List.set_cons_succ, List.take_succ_cons, List.take_zero, List.drop_succ_cons, List.drop_zero, List.reverse_cons, List.reverse_nil, List.nil_append, List.cons_append, List.length_cons, List.length_nil, true_and, and_true, and_self, ne_eq, not_true_eq_false, not_false_eq_true, reduceIte, true_or, or_true, false_or, or_false, Nat.reduceAdd, Nat.reduceSub, Nat.reduceMul, Nat.reduceLeDiff, Nat.reduceEqDiff, Nat.reduceLT, Nat.le_refl, Nat.zero_le, Int.reduceToNat, Int.reduceAdd, Int.reduceSub, Int.reduceMul, Int.reduceNeg, Int.reduceLT, Int.reduceLE, Int.reduceEq, Nat.zero_add, Nat.add_zero, Nat.reduceBEq, Nat.one_ne_zero, Nat.zero_ne_one, Nat.lt_irrefl, Nat.succ_ne_zero, bI_0]
      refine ⟨fun z => absurd z (by omega), fun _ => ⟨fun z => ?_, fun z => ?_⟩⟩
      · refine S_X11_sub_83 _ _ _ _ ?_
        simp (disch := omega) only [B_X11_sub_83, bi_0, x_ic, x_lc, x_ld, x_st, x_sl, x_inc, x_b32, x_b64, x_d32, x_d64, x_s64, x_un, x_lcmp, x_dup, x_pop, x_dup2, x_if, x_cmp, x_sw, swk, x_ald, x_ast, x_alen, x_getf, x_putf, x_inv, x_mm, x_copy, x_iret, x_lret, x_vret, ok1, pu, ct, rcv, rcs, ent0, List.getElem?_cons_zero, List.getElem?_cons_succ, List.getElem?_nil, List.set_cons_zero, List.set_cons_succ, List.take_succ_cons, List.take_zero, List.drop_succ_cons, List.drop_zero, List.reverse_cons, List.reverse_nil, List.nil_append, List.cons_append, List.length_cons, List.length_nil, true_and, and_true, and_self, ne_eq, not_true_eq_false, not_false_eq_true, reduceIte, true_or, or_true, false_or, or_false, Nat.reduceAdd, Nat.reduceSub, Nat.reduceMul, Nat.reduceLeDiff, Nat.reduceEqDiff, Nat.reduceLT, Nat.le_refl, Nat.zero_le, Int.reduceToNat, Int.reduceAdd, Int.reduceSub, Int.reduceMul, Int.reduceNeg, Int.reduceLT, Int.reduceLE, Int.reduceEq, Nat.zero_add, Nat.add_zero, Nat.reduceBEq, Nat.one_ne_zero, Nat.zero_ne_one, Nat.lt_irrefl, Nat.succ_ne_zero]
        refine ⟨bI_b, Rt_mk ?_⟩
        rw [bI_f z, bI_f (fun y => z ⟨y.1, fun a b q1 _ q2 q3 => y.2 a b q1 q2 q3⟩)]
      · have := inner (Rt (bI (Cc ∧ SubP f)) SHP (up h 214 0 0)) s h1 (by omega) (60 - s) 1 (by omega) (by omega) ?_
        · rw [bI_iff (p := (Cc ∧ SubTo f s) ∧ ∀ b : Nat, 1 ≤ b → b < 1 → f (s + b) ≤ f s + f b) (q := Cc ∧ SubTo f s) ⟨fun y => y.1, fun y => ⟨y, fun b q1 q2 => by omega⟩⟩] at this
          exact this
        · refine S_X11_sub_77 _ _ _ _ ?_
          simp (disch := omega) only [B_X11_sub_77, bi_0, x_ic, x_lc, x_ld, x_st, x_sl, x_inc, x_b32, x_b64, x_d32, x_d64, x_s64, x_un, x_lcmp, x_dup, x_pop, x_dup2, x_if, x_cmp, x_sw, swk, x_ald, x_ast, x_alen, x_getf, x_putf, x_inv, x_mm, x_copy, x_iret, x_lret, x_vret, ok1, pu, ct, rcv, rcs, ent0, List.getElem?_cons_zero, List.getElem?_cons_succ, List.getElem?_nil, List.set_cons_zero, List.set_cons_succ, List.take_succ_cons, List.take_zero, List.drop_succ_cons, List.drop_zero, List.reverse_cons, List.reverse_nil, List.nil_append, List.cons_append, List.length_cons, List.length_nil, true_and, and_true, and_self, ne_eq, not_true_eq_false, not_false_eq_true, reduceIte, true_or, or_true, false_or, or_false, Nat.reduceAdd, Nat.reduceSub, Nat.reduceMul, Nat.reduceLeDiff, Nat.reduceEqDiff, Nat.reduceLT, Nat.le_refl, Nat.zero_le, Int.reduceToNat, Int.reduceAdd, Int.reduceSub, Int.reduceMul, Int.reduceNeg, Int.reduceLT, Int.reduceLE, Int.reduceEq, Nat.zero_add, Nat.add_zero, Nat.reduceBEq, Nat.one_ne_zero, Nat.zero_ne_one, Nat.lt_irrefl, Nat.succ_ne_zero, w32_id]
          simpa using ih (s + 1) (by omega) (by omega)
  show V l (d + 3) 0 0 M_X11_sub 0 0 0 _ [(2, 215), (0, c), (9, 0), (9, 0), (9, 0)] [] SHP h
  refine S_X11_sub_0 _ _ _ _ ?_
  simp (disch := omega) only [B_X11_sub_0, bi_0, x_ic, x_lc, x_ld, x_st, x_sl, x_inc, x_b32, x_b64, x_d32, x_d64, x_s64, x_un, x_lcmp, x_dup, x_pop, x_dup2, x_if, x_cmp, x_sw, swk, x_ald, x_ast, x_alen, x_getf, x_putf, x_inv, x_mm, x_copy, x_iret, x_lret, x_vret, ok1, pu, ct, rcv, rcs, ent0, List.getElem?_cons_zero, List.getElem?_cons_succ, List.getElem?_nil, List.set_cons_zero, List.set_cons_succ, List.take_succ_cons, List.take_zero, List.drop_succ_cons, List.drop_zero, List.reverse_cons, List.reverse_nil, List.nil_append, List.cons_append, List.length_cons, List.length_nil, true_and, and_true, and_self, ne_eq, not_true_eq_false, not_false_eq_true, reduceIte, true_or, or_true, false_or, or_false, Nat.reduceAdd, Nat.reduceSub, Nat.reduceMul, Nat.reduceLeDiff, Nat.reduceEqDiff, Nat.reduceLT, Nat.le_refl, Nat.zero_le, Int.reduceToNat, Int.reduceAdd, Int.reduceSub, Int.reduceMul, Int.reduceNeg, Int.reduceLT, Int.reduceLE, Int.reduceEq, Nat.zero_add, Nat.add_zero, Nat.reduceBEq, Nat.one_ne_zero, Nat.zero_ne_one, Nat.lt_irrefl, Nat.succ_ne_zero, ob_214]
  refine Cl.app (r_isCurve L1 _) ?_
  simp (disch := omega) only [bi_0, x_ic, x_lc, x_ld, x_st, x_sl, x_inc, x_b32, x_b64, x_d32, x_d64, x_s64, x_un, x_lcmp, x_dup, x_pop, x_dup2, x_if, x_cmp, x_sw, swk, x_ald, x_ast, x_alen, x_getf, x_putf, x_inv, x_mm, x_copy, x_iret, x_lret, x_vret, ok1, pu, ct, rcv, rcs, ent0, List.getElem?_cons_zero, List.getElem?_cons_succ, List.getElem?_nil, List.set_cons_zero, List.set_cons_succ, List.take_succ_cons, List.take_zero, List.drop_succ_cons, List.drop_zero, List.reverse_cons, List.reverse_nil, List.nil_append, List.cons_append, List.length_cons, List.length_nil, true_and, and_true, and_self, ne_eq, not_true_eq_false, not_false_eq_true, reduceIte, true_or, or_true, false_or, or_false, Nat.reduceAdd, Nat.reduceSub, Nat.reduceMul, Nat.reduceLeDiff, Nat.reduceEqDiff, Nat.reduceLT, Nat.le_refl, Nat.zero_le, Int.reduceToNat, Int.reduceAdd, Int.reduceSub, Int.reduceMul, Int.reduceNeg, Int.reduceLT, Int.reduceLE, Int.reduceEq, Nat.zero_add, Nat.add_zero, Nat.reduceBEq, Nat.one_ne_zero, Nat.zero_ne_one, Nat.lt_irrefl, Nat.succ_ne_zero, e1]
  have := outer 59 1 rfl (by omega)
  rw [bI_iff (p := Cc ∧ SubTo f 1) (q := Cc) ⟨fun y => y.1, fun y => ⟨y, fun a b q1 q2 => by omega⟩⟩] at this
  subst hC
  rw [← bi_bI (p := 0 ≤ c ∧ c < h 220 0)] at this
  exact this
/-- by the sum: all pairs below it keep to it -/
def SubB (f : Nat → Int) (b : Nat) : Prop := ∀ x y : Nat, 1 ≤ x → 1 ≤ y → x + y < b → f (x + y) ≤ f x + f y
theorem c_sub (L : Lay h) (T : Td h nb) (R : RC h nb) (W : WC (h 220)) (c : Int) : Cl l (d + 3) M_X10_sub [(2, 1), (0, c)] SHP h (Rf (bI ((0 ≤ c ∧ c < h 220 0) ∧ SubP (fun t => vOf (h 220) c t))) [211] h) := by
  have s1 := (net_sh T.1).1
  have s2 := (net_sh T.1).2
  have p0 := net_p L T.1
  have t1 := T.2
  have w6 := W.1.2
  have q14 := ly_0_14 L
  show V l (d + 3) 0 0 M_X10_sub 0 0 0 _ [(2, 1), (0, c), (9, 0), (9, 0), (9, 0)] [] SHP h
  refine S_X10_sub_0 _ _ _ _ ?_
  simp (disch := omega) only [B_X10_sub_0, bi_0, x_ic, x_lc, x_ld, x_st, x_sl, x_inc, x_b32, x_b64, x_d32, x_d64, x_s64, x_un, x_lcmp, x_dup, x_pop, x_dup2, x_if, x_cmp, x_sw, swk, x_ald, x_ast, x_alen, x_getf, x_putf, x_inv, x_mm, x_copy, x_iret, x_lret, x_vret, ok1, pu, ct, rcv, rcs, ent0, List.getElem?_cons_zero, List.getElem?_cons_succ, List.getElem?_nil, List.set_cons_zero, List.set_cons_succ, List.take_succ_cons, List.take_zero, List.drop_succ_cons, List.drop_zero, List.reverse_cons, List.reverse_nil, List.nil_append, List.cons_append, List.length_cons, List.length_nil, true_and, and_true, and_self, ne_eq, not_true_eq_false, not_false_eq_true, reduceIte, true_or, or_true, false_or, or_false, Nat.reduceAdd, Nat.reduceSub, Nat.reduceMul, Nat.reduceLeDiff, Nat.reduceEqDiff, Nat.reduceLT, Nat.le_refl, Nat.zero_le, Int.reduceToNat, Int.reduceAdd, Int.reduceSub, Int.reduceMul, Int.reduceNeg, Int.reduceLT, Int.reduceLE, Int.reduceEq, Nat.zero_add, Nat.add_zero, Nat.reduceBEq, Nat.one_ne_zero, Nat.zero_ne_one, Nat.lt_irrefl, Nat.succ_ne_zero, ob_0]
  refine Cl.app (c_isCurve T R _) ?_
  simp (disch := omega) only [bi_0, x_ic, x_lc, x_ld, x_st, x_sl, x_inc, x_b32, x_b64, x_d32, x_d64, x_s64, x_un, x_lcmp, x_dup, x_pop, x_dup2, x_if, x_cmp, x_sw, swk, x_ald, x_ast, x_alen, x_getf, x_putf, x_inv, x_mm, x_copy, x_iret, x_lret, x_vret, ok1, pu, ct, rcv, rcs, ent0, List.getElem?_cons_zero, List.getElem?_cons_succ, List.getElem?_nil, List.set_cons_zero, List.set_cons_succ, List.take_succ_cons, List.take_zero, List.drop_succ_cons, List.drop_zero, List.reverse_cons, List.reverse_nil, List.nil_append, List.cons_append, List.length_cons, List.length_nil, true_and, and_true, and_self, ne_eq, not_true_eq_false, not_false_eq_true, reduceIte, true_or, or_true, false_or, or_false, Nat.reduceAdd, Nat.reduceSub, Nat.reduceMul, Nat.reduceLeDiff, Nat.reduceEqDiff, Nat.reduceLT, Nat.le_refl, Nat.zero_le, Int.reduceToNat, Int.reduceAdd, Int.reduceSub, Int.reduceMul, Int.reduceNeg, Int.reduceLT, Int.reduceLE, Int.reduceEq, Nat.zero_add, Nat.add_zero, Nat.reduceBEq, Nat.one_ne_zero, Nat.zero_ne_one, Nat.lt_irrefl, Nat.succ_ne_zero]
  refine ⟨fun hn => Rf_mk (bI_f (fun y => hn y.1)).symm Fr.rfl, fun hn => ?_⟩
  have hc := Classical.not_not.mp hn
  obtain ⟨cn, rfl⟩ : ∃ cn : Nat, c = (cn : Int) := ⟨c.toNat, by omega⟩
  have hcn : (cn : Int) < h 220 0 := hc.2
  have nc := net_c L T.1 (show cn < 6 by omega)
  have vc := fun j : Nat => vOf_b (W.2 cn (by omega) hcn) (t := (j : Int)) (by omega)
  rw [bI_iff (q := SubP (fun t => vOf (h 220) cn t)) ⟨fun y => y.2, fun y => ⟨hc, y⟩⟩]
  obtain ⟨k1, -, L1, -, -, -⟩ := c_two (l := l) (d := d) L T R W hcn hcn
  refine S_X10_sub_10 _ _ _ _ ?_
  simp (disch := omega) only [B_X10_sub_10, bi_0, x_ic, x_lc, x_ld, x_st, x_sl, x_inc, x_b32, x_b64, x_d32, x_d64, x_s64, x_un, x_lcmp, x_dup, x_pop, x_dup2, x_if, x_cmp, x_sw, swk, x_ald, x_ast, x_alen, x_getf, x_putf, x_inv, x_mm, x_copy, x_iret, x_lret, x_vret, ok1, pu, ct, rcv, rcs, ent0, List.getElem?_cons_zero, List.getElem?_cons_succ, List.getElem?_nil, List.set_cons_zero, List.set_cons_succ, List.take_succ_cons, List.take_zero, List.drop_succ_cons, List.drop_zero, List.reverse_cons, List.reverse_nil, List.nil_append, List.cons_append, List.length_cons, List.length_nil, true_and, and_true, and_self, ne_eq, not_true_eq_false, not_false_eq_true, reduceIte, true_or, or_true, false_or, or_false, Nat.reduceAdd, Nat.reduceSub, Nat.reduceMul, Nat.reduceLeDiff, Nat.reduceEqDiff, Nat.reduceLT, Nat.le_refl, Nat.zero_le, Int.reduceToNat, Int.reduceAdd, Int.reduceSub, Int.reduceMul, Int.reduceNeg, Int.reduceLT, Int.reduceLE, Int.reduceEq, Nat.zero_add, Nat.add_zero, Nat.reduceBEq, Nat.one_ne_zero, Nat.zero_ne_one, Nat.lt_irrefl, Nat.succ_ne_zero, ob_0, t1, ixc, ixc2, p0, s2, q14]
  rw [show ((cn : Int)).toNat = cn by omega, nc.1]
  refine ⟨s1, by omega, nc.2.1.1, ?_⟩
  refine Cl.app k1 ?_
  have fr : Fr [211] h (row h 211 121 (fun t => vOf (h 220) cn ((t : Int) + 0))) := Fr.row Fr.rfl (by decide)
  have ef : ∀ j, j ≤ 120 → row h 211 121 (fun t => vOf (h 220) cn ((t : Int) + 0)) 211 j = vOf (h 220) cn j := fun j hj => by rw [row_at (by omega)]; simp
  generalize row h 211 121 (fun t => vOf (h 220) cn ((t : Int) + 0)) = h1 at fr ef ⊢
  generalize hf : (fun t : Nat => vOf (h 220) cn t) = f
  have ef2 : ∀ j, j ≤ 120 → h1 211 j = f j := fun j hj => by rw [ef j hj, ← hf]
  have fb : ∀ t : Nat, t ≤ 60 → 0 ≤ f t ∧ f t ≤ 20000 := fun t ht => by
    have := vc t (by omega)
    rw [← hf]; exact ⟨this.1, by show vOf (h 220) cn t ≤ 20000; omega⟩
  have inner : ∀ (b : Nat), 2 ≤ b → b ≤ 60 → SubB f b → (SubB f (b + 1) → V l (d + 3) 0 0 M_X10_sub 0 0 74 (Rf (bI (SubP f)) [211] h) [(2, 1), (0, (cn : Int)), (2, 212), (0, (b : Int)), (9, 0)] [] SHP h1) → ∀ j s, s + j = b → 1 ≤ s → (∀ x : Nat, 1 ≤ x → x < s → x + x ≤ b → f b ≤ f x + f (b - x)) → V l (d + 3) 0 0 M_X10_sub 0 0 40 (Rf (bI (SubP f)) [211] h) [(2, 1), (0, (cn : Int)), (2, 212), (0, (b : Int)), (0, (s : Int))] [] SHP h1 := by
    intro b hb1 hb2 hB hv j
    induction j with
    | zero =>
      intro s hs q1 hx
      refine S_X10_sub_40 _ _ _ _ ?_
      simp (disch := omega) only [B_X10_sub_40, bi_0, x_ic, x_lc, x_ld, x_st, x_sl, x_inc, x_b32, x_b64, x_d32, x_d64, x_s64, x_un, x_lcmp, x_dup, x_pop, x_dup2, x_if, x_cmp, x_sw, swk, x_ald, x_ast, x_alen, x_getf, x_putf, x_inv, x_mm, x_copy, x_iret, x_lret, x_vret, ok1, pu, ct, rcv, rcs, ent0, List.getElem?_cons_zero, List.getElem?_cons_succ, List.getElem?_nil, List.set_cons_zero, List.set_cons_succ, List.take_succ_cons, List.take_zero, List.drop_succ_cons, List.drop_zero, List.reverse_cons, List.reverse_nil, List.nil_append, List.cons_append, List.length_cons, List.length_nil, true_and, and_true, and_self, ne_eq, not_true_eq_false, not_false_eq_true, reduceIte, true_or, or_true, false_or, or_false, Nat.reduceAdd, Nat.reduceSub, Nat.reduceMul, Nat.reduceLeDiff, Nat.reduceEqDiff, Nat.reduceLT, Nat.le_refl, Nat.zero_le, Int.reduceToNat, Int.reduceAdd, Int.reduceSub, Int.reduceMul, Int.reduceNeg, Int.reduceLT, Int.reduceLE, Int.reduceEq, Nat.zero_add, Nat.add_zero, Nat.reduceBEq, Nat.one_ne_zero, Nat.zero_ne_one, Nat.lt_irrefl, Nat.succ_ne_zero, ln_211, w32_id]
      refine ⟨fun _ => V_fg [4] (hv (fun x y q2 q3 q4 => ?_)), fun z => absurd z (by omega)⟩
      by_cases e : x + y < b
      · exact hB x y q2 q3 e
      · by_cases e2 : x + x ≤ b
        · have := hx x q2 (by omega) e2
          rw [show b - x = y by omega, show b = x + y by omega] at this
          exact this
        · have := hx y q3 (by omega) (by omega)
          rw [show b - y = x by omega, show b = x + y by omega] at this
          omega
    | succ j ih =>
      intro s hs q1 hx
      refine S_X10_sub_40 _ _ _ _ ?_
      simp (disch := omega) only [B_X10_sub_40, bi_0, x_ic, x_lc, x_ld, x_st, x_sl, x_inc, x_b32, x_b64, x_d32, x_d64, x_s64, x_un, x_lcmp, x_dup, x_pop, x_dup2, x_if, x_cmp, x_sw, swk, x_ald, x_ast, x_alen, x_getf, x_putf, x_inv, x_mm, x_copy, x_iret, x_lret, x_vret, ok1, pu, ct, rcv, rcs, ent0, List.getElem?_cons_zero, List.getElem?_cons_succ, List.getElem?_nil, List.set_cons_zero, List.set_cons_succ, List.take_succ_cons, List.take_zero, List.drop_succ_cons, List.drop_zero, List.reverse_cons, List.reverse_nil, List.nil_append, List.cons_append, List.length_cons, List.length_nil, true_and, and_true, and_self, ne_eq, not_true_eq_false, not_false_eq_true, reduceIte, true_or, or_true, false_or, or_false, Nat.reduceAdd, Nat.reduceSub, Nat.reduceMul, Nat.reduceLeDiff, Nat.reduceEqDiff, Nat.reduceLT, Nat.le_refl, Nat.zero_le, Int.reduceToNat, Int.reduceAdd, Int.reduceSub, Int.reduceMul, Int.reduceNeg, Int.reduceLT, Int.reduceLE, Int.reduceEq, Nat.zero_add, Nat.add_zero, Nat.reduceBEq, Nat.one_ne_zero, Nat.zero_ne_one, Nat.lt_irrefl, Nat.succ_ne_zero, ln_211, w32_id]
      refine ⟨fun z => V_fg [4] (hv (fun x y q2 q3 q4 => ?_)), fun z => ?_⟩
      · by_cases e : x + y < b
        · exact hB x y q2 q3 e
        · by_cases e2 : x + x ≤ b
          · have := hx x q2 (by omega) e2
            rw [show b - x = y by omega, show b = x + y by omega] at this
            exact this
          · have := hx y q3 (by omega) (by omega)
            rw [show b - y = x by omega, show b = x + y by omega] at this
            omega
      · rw [show ((s : Int)).toNat = s by omega, show ((b : Int) - (s : Int)).toNat = b - s by omega, show ((b : Int)).toNat = b by omega, ef2 s (by omega), ef2 (b - s) (by omega), ef2 b (by omega)]
        have f1 := fb s (by omega)
        have f2 := fb (b - s) (by omega)
        rw [w32_id (by omega) (by omega)]
        refine ⟨by omega, by omega, by omega, fun hle => ?_, fun hgt => ?_⟩
        · refine S_X10_sub_68 _ _ _ _ ?_
          simp (disch := omega) only [B_X10_sub_68, bi_0, x_ic, x_lc, x_ld, x_st, x_sl, x_inc, x_b32, x_b64, x_d32, x_d64, x_s64, x_un, x_lcmp, x_dup, x_pop, x_dup2, x_if, x_cmp, x_sw, swk, x_ald, x_ast, x_alen, x_getf, x_putf, x_inv, x_mm, x_copy, x_iret, x_lret, x_vret, ok1, pu, ct, rcv, rcs, ent0, List.getElem?_cons_zero, List.getElem?_cons_succ, List.getElem?_nil, List.set_cons_zero, List.set_cons_succ, List.take_succ_cons, List.take_zero, List.drop_succ_cons, List.drop_zero, List.reverse_cons, List.reverse_nil, List.nil_append, List.cons_append, List.length_cons, List.length_nil, true_and, and_true, and_self, ne_eq, not_true_eq_false, not_false_eq_true, reduceIte, true_or, or_true, false_or, or_false, Nat.reduceAdd, Nat.reduceSub, Nat.reduceMul, Nat.reduceLeDiff, Nat.reduceEqDiff, Nat.reduceLT, Nat.le_refl, Nat.zero_le, Int.reduceToNat, Int.reduceAdd, Int.reduceSub, Int.reduceMul, Int.reduceNeg, Int.reduceLT, Int.reduceLE, Int.reduceEq, Nat.zero_add, Nat.add_zero, Nat.reduceBEq, Nat.one_ne_zero, Nat.zero_ne_one, Nat.lt_irrefl, Nat.succ_ne_zero, w32_id]
          have := ih (s + 1) (by omega) (by omega) (fun x q2 q3 q4 => by
            by_cases e : x = s
            · subst e; exact hle
            · exact hx x q2 (by omega) q4)
          simpa using this
        · refine Rf_mk (bI_f (fun y => ?_)).symm fr
          have := y s (b - s) q1 (by omega) (by omega)
          rw [show s + (b - s) = b by omega] at this
          omega
  have outer : ∀ j b, b + j = 61 → 2 ≤ b → SubB f b → V l (d + 3) 0 0 M_X10_sub 0 0 31 (Rf (bI (SubP f)) [211] h) [(2, 1), (0, (cn : Int)), (2, 212), (0, (b : Int)), (9, 0)] [] SHP h1 := by
    intro j
    induction j with
    | zero =>
      intro b hb q1 hB
      refine S_X10_sub_31 _ _ _ _ ?_
      simp (disch := omega) only [B_X10_sub_31, bi_0, x_ic, x_lc, x_ld, x_st, x_sl, x_inc, x_b32, x_b64, x_d32, x_d64, x_s64, x_un, x_lcmp, x_dup, x_pop, x_dup2, x_if, x_cmp, x_sw, swk, x_ald, x_ast, x_alen, x_getf, x_putf, x_inv, x_mm, x_copy, x_iret, x_lret, x_vret, ok1, pu, ct, rcv, rcs, ent0, List.getElem?_cons_zero, List.getElem?_cons_succ, List.getElem?_nil, List.set_cons_zero, List.set_cons_succ, List.take_succ_cons, List.take_zero, List.drop_succ_cons, List.drop_zero, List.reverse_cons, List.reverse_nil, List.nil_append, List.cons_append, List.length_cons, List.length_nil, true_and, and_true, and_self, ne_eq, not_true_eq_false, not_false_eq_true, reduceIte, true_or, or_true, false_or, or_false, Nat.reduceAdd, Nat.reduceSub, Nat.reduceMul, Nat.reduceLeDiff, Nat.reduceEqDiff, Nat.reduceLT, Nat.le_refl, Nat.zero_le, Int.reduceToNat, Int.reduceAdd, Int.reduceSub, Int.reduceMul, Int.reduceNeg, Int.reduceLT, Int.reduceLE, Int.reduceEq, Nat.zero_add, Nat.add_zero, Nat.reduceBEq, Nat.one_ne_zero, Nat.zero_ne_one, Nat.lt_irrefl, Nat.succ_ne_zero]
      refine ⟨fun _ => ?_, fun z => absurd z (by omega)⟩
      refine S_X10_sub_80 _ _ _ _ ?_
      simp (disch := omega) only [B_X10_sub_80, bi_0, x_ic, x_lc, x_ld, x_st, x_sl, x_inc, x_b32, x_b64, x_d32, x_d64, x_s64, x_un, x_lcmp, x_dup, x_pop, x_dup2, x_if, x_cmp, x_sw, swk, x_ald, x_ast, x_alen, x_getf, x_putf, x_inv, x_mm, x_copy, x_iret, x_lret, x_vret, ok1, pu, ct, rcv, rcs, ent0, List.getElem?_cons_zero, List.getElem?_cons_succ, List.getElem?_nil, List.set_cons_zero, List.set_cons_succ, List.take_succ_cons, List.take_zero, List.drop_succ_cons, List.drop_zero, List.reverse_cons, List.reverse_nil, List.nil_append, List.cons_append, List.length_cons, List.length_nil, true_and, and_true, and_self, ne_eq, not_true_eq_false, not_false_eq_true, reduceIte, true_or, or_true, false_or, or_false, Nat.reduceAdd, Nat.reduceSub, Nat.reduceMul, Nat.reduceLeDiff, Nat.reduceEqDiff, Nat.reduceLT, Nat.le_refl, Nat.zero_le, Int.reduceToNat, Int.reduceAdd, Int.reduceSub, Int.reduceMul, Int.reduceNeg, Int.reduceLT, Int.reduceLE, Int.reduceEq, Nat.zero_add, Nat.add_zero, Nat.reduceBEq, Nat.one_ne_zero, Nat.zero_ne_one, Nat.lt_irrefl, Nat.succ_ne_zero]
      exact Rf_mk (bI_t (fun x y q2 q3 q4 => hB x y q2 q3 (by omega))).symm fr
    | succ j ih =>
      intro b hb q1 hB
      refine S_X10_sub_31 _ _ _ _ ?_
      simp (disch := omega) only [B_X10_sub_31, bi_0, x_ic, x_lc, x_ld, x_st, x_sl, x_inc, x_b32, x_b64, x_d32, x_d64, x_s64, x_un, x_lcmp, x_dup, x_pop, x_dup2, x_if, x_cmp, x_sw, swk, x_ald, x_ast, x_alen, x_getf, x_putf, x_inv, x_mm, x_copy, x_iret, x_lret, x_vret, ok1, pu, ct, rcv, rcs, ent0, List.getElem?_cons_zero, List.getElem?_cons_succ, List.getElem?_nil, List.set_cons_zero, List.set_cons_succ, List.take_succ_cons, List.take_zero, List.drop_succ_cons, List.drop_zero, List.reverse_cons, List.reverse_nil, List.nil_append, List.cons_append, List.length_cons, List.length_nil, true_and, and_true, and_self, ne_eq, not_true_eq_false, not_false_eq_true, reduceIte, true_or, or_true, false_or, or_false, Nat.reduceAdd, Nat.reduceSub, Nat.reduceMul, Nat.reduceLeDiff, Nat.reduceEqDiff, Nat.reduceLT, Nat.le_refl, Nat.zero_le, Int.reduceToNat, Int.reduceAdd, Int.reduceSub, Int.reduceMul, Int.reduceNeg, Int.reduceLT, Int.reduceLE, Int.reduceEq, Nat.zero_add, Nat.add_zero, Nat.reduceBEq, Nat.one_ne_zero, Nat.zero_ne_one, Nat.lt_irrefl, Nat.succ_ne_zero]
      refine ⟨fun z => absurd z (by omega), fun _ => ?_⟩
      refine inner b q1 (by omega) hB (fun hB2 => ?_) (b - 1) 1 (by omega) (by omega) (fun x q2 q3 _ => by omega)
      refine S_X10_sub_74 _ _ _ _ ?_
      simp (disch := omega) only [B_X10_sub_74, bi_0, x_ic, x_lc, x_ld, x_st, x_sl, x_inc, x_b32, x_b64, x_d32, x_d64, x_s64, x_un, x_lcmp, x_dup, x_pop, x_dup2, x_if, x_cmp, x_sw, swk, x_ald, x_ast, x_alen, x_getf, x_putf, x_inv, x_mm, x_copy, x_iret, x_lret, x_vret, ok1, pu, ct, rcv, rcs, ent0, List.getElem?_cons_zero, List.getElem?_cons_succ, List.getElem?_nil, List.set_cons_zero, List.set_cons_succ, List.take_succ_cons, List.take_zero, List.drop_succ_cons, List.drop_zero, List.reverse_cons, List.reverse_nil, List.nil_append, List.cons_append, List.length_cons, List.length_nil, true_and, and_true, and_self, ne_eq, not_true_eq_false, not_false_eq_true, reduceIte, true_or, or_true, false_or, or_false, Nat.reduceAdd, Nat.reduceSub, Nat.reduceMul, Nat.reduceLeDiff, Nat.reduceEqDiff, Nat.reduceLT, Nat.le_refl, Nat.zero_le, Int.reduceToNat, Int.reduceAdd, Int.reduceSub, Int.reduceMul, Int.reduceNeg, Int.reduceLT, Int.reduceLE, Int.reduceEq, Nat.zero_add, Nat.add_zero, Nat.reduceBEq, Nat.one_ne_zero, Nat.zero_ne_one, Nat.lt_irrefl, Nat.succ_ne_zero, w32_id]
      simpa using ih (b + 1) (by omega) (by omega) hB2
  exact outer 59 2 rfl (by omega) (fun x y q2 q3 q4 => by omega)
end SB

/-! tokens: what they are; the reference cuts them all -/
def isSp (c : Int) : Prop := c = 10 ∨ c = 32
def isLt (c : Int) : Prop := 97 ≤ c ∧ c ≤ 122
def isDg (c : Int) : Prop := 48 ≤ c ∧ c ≤ 57
def isSg (c : Int) : Prop := c = 40 ∨ c = 41 ∨ c = 59 ∨ c = 61 ∨ c = 60 ∨ c = 43 ∨ c = 45 ∨ c = 42
def cdN (b o : Int) (s : Nat → Int) (p : Nat) : Nat → Int
  | 0 => 0
  | j + 1 => b * cdN b o s p j + (s (p + j) - o)
theorem cd37_b {s : Nat → Int} {p : Nat} : ∀ {j : Nat}, j ≤ 8 → (∀ i, i < j → isLt (s (p + i))) → 0 ≤ cdN 37 96 s p j ∧ cdN 37 96 s p j < 37 ^ j
  | 0, _, _ => ⟨Int.le_refl 0, show (0 : Int) < 1 by decide⟩
  | j + 1, hj, h => by
    have ih := cd37_b (s := s) (p := p) (j := j) (by omega) (fun i hi => h i (by omega))
    have := h j (by omega)
    unfold isLt at this
    rw [cdN, Int.pow_succ]
    omega
theorem cd10_b {s : Nat → Int} {p : Nat} : ∀ {j : Nat}, j ≤ 4 → (∀ i, i < j → isDg (s (p + i))) → 0 ≤ cdN 10 48 s p j ∧ cdN 10 48 s p j < 10 ^ j
  | 0, _, _ => ⟨Int.le_refl 0, show (0 : Int) < 1 by decide⟩
  | j + 1, hj, h => by
    have ih := cd10_b (s := s) (p := p) (j := j) (by omega) (fun i hi => h i (by omega))
    have := h j (by omega)
    unfold isDg at this
    rw [cdN, Int.pow_succ]
    omega
/-- a token behind k: at p, it ends before e, its sort and value -/
def Tok (s : Nat → Int) (n k p e : Nat) (st v : Int) : Prop :=
  (k ≤ p ∧ p ≤ n ∧ ∀ j, k ≤ j → j < p → isSp (s j)) ∧
  ((p = n ∧ st = 0 ∧ e = n) ∨
   (p < n ∧ isLt (s p) ∧ (p < e ∧ e ≤ n ∧ (∀ j, p ≤ j → j < e → isLt (s j)) ∧ (e < n → ¬ isLt (s e))) ∧ st = (if p + 8 < e then 4 else 1) ∧ (e ≤ p + 8 → v = cdN 37 96 s p (e - p))) ∨
   (p < n ∧ isDg (s p) ∧ (p < e ∧ e ≤ n ∧ (∀ j, p ≤ j → j < e → isDg (s j)) ∧ (e < n → ¬ isDg (s e))) ∧ st = (if p + 4 < e then 4 else 2) ∧ (e ≤ p + 4 → v = cdN 10 48 s p (e - p))) ∨
   (p < n ∧ (¬ isSp (s p) ∧ ¬ isLt (s p) ∧ ¬ isDg (s p)) ∧ e = p + 1 ∧ v = s p ∧ ((isSg (s p) ∧ st = 3) ∨ (¬ isSg (s p) ∧ st = 4))))
theorem Tok.p_un {s : Nat → Int} {n k p e p' e' : Nat} {st v st' v' : Int} (a : Tok s n k p e st v) (b : Tok s n k p' e' st' v') : p = p' := by
  have np : ∀ {p e : Nat} {st v : Int}, Tok s n k p e st v → p < n → ¬ isSp (s p) := fun {p e st v} t hp => by
    rcases t.2 with q | q | q | q
    · omega
    · have := q.2.1; unfold isLt at this; unfold isSp; omega
    · have := q.2.1; unfold isDg at this; unfold isSp; omega
    · exact q.2.1.1
  have a1 := a.1
  have b1 := b.1
  rcases Nat.lt_trichotomy p p' with h | h | h
  · exact absurd (b1.2.2 p a1.1 h) (np a (by omega))
  · exact h
  · exact absurd (a1.2.2 p' b1.1 h) (np b (by omega))
theorem run_un {s : Nat → Int} {P : Int → Prop} {n p e e' : Nat} (a : p < e ∧ e ≤ n ∧ (∀ j, p ≤ j → j < e → P (s j)) ∧ (e < n → ¬ P (s e))) (b : p < e' ∧ e' ≤ n ∧ (∀ j, p ≤ j → j < e' → P (s j)) ∧ (e' < n → ¬ P (s e'))) : e = e' := by
  rcases Nat.lt_trichotomy e e' with h | h | h
  · exact absurd (b.2.2.1 e (by omega) h) (a.2.2.2 (by omega))
  · exact h
  · exact absurd (a.2.2.1 e' (by omega) h) (b.2.2.2 (by omega))
theorem Tok.un {s : Nat → Int} {n k p e p' e' : Nat} {st v st' v' : Int} (a : Tok s n k p e st v) (b : Tok s n k p' e' st' v') : p = p' ∧ e = e' ∧ st = st' ∧ (st = 1 ∨ st = 2 ∨ st = 3 → v = v') := by
  have e := a.p_un b
  subst e
  refine ⟨rfl, ?_⟩
  rcases a.2 with q | q | q | q <;> rcases b.2 with r | r | r | r
  · exact ⟨by omega, by omega, fun x => by omega⟩
  · omega
  · omega
  · omega
  · omega
  · have e := run_un q.2.2.1 r.2.2.1
    subst e
    refine ⟨rfl, by rw [q.2.2.2.1, r.2.2.2.1], fun x => ?_⟩
    by_cases h : p + 8 < e
    · have := q.2.2.2.1; rw [if_pos h] at this; omega
    · rw [q.2.2.2.2 (by omega), r.2.2.2.2 (by omega)]
  · have := q.2.1; have := r.2.1; unfold isLt isDg at *; omega
  · exact absurd q.2.1 r.2.1.2.1
  · omega
  · have := q.2.1; have := r.2.1; unfold isLt isDg at *; omega
  · have e := run_un q.2.2.1 r.2.2.1
    subst e
    refine ⟨rfl, by rw [q.2.2.2.1, r.2.2.2.1], fun x => ?_⟩
    by_cases h : p + 4 < e
    · have := q.2.2.2.1; rw [if_pos h] at this; omega
    · rw [q.2.2.2.2 (by omega), r.2.2.2.2 (by omega)]
  · exact absurd q.2.1 r.2.1.2.2
  · omega
  · exact absurd r.2.1 q.2.1.2.1
  · exact absurd r.2.1 q.2.1.2.2
  · refine ⟨by omega, ?_, fun _ => by rw [q.2.2.2.1, r.2.2.2.1]⟩
    rcases q.2.2.2.2 with x | x <;> rcases r.2.2.2.2 with y | y
    · omega
    · exact absurd x.1 y.1
    · exact absurd y.1 x.1
    · omega
/-- the first tokens of a text lie in rows -/
def Cut (s : Nat → Int) (n : Nat) (pos : Nat → Nat) (pl so va : Nat → Int) (t : Nat) : Prop := pos 0 = 0 ∧ ∀ i, i < t → (∃ p : Nat, pl i = (p : Int) ∧ Tok s n (pos i) p (pos (i + 1)) (so i) (va i)) ∧ so i ≠ 0 ∧ pos i < pos (i + 1)
/-- all of them -/
def Cuts (s : Nat → Int) (n : Nat) (pos : Nat → Nat) (pl so va : Nat → Int) (t : Nat) : Prop := Cut s n pos pl so va t ∧ t ≤ n ∧ pl t = (n : Int) ∧ so t = 0 ∧ Tok s n (pos t) n n 0 0
theorem Cut.ext {s : Nat → Int} {n : Nat} {pos pos' : Nat → Nat} {pl so va pl' so' va' : Nat → Int} {t : Nat} (C : Cut s n pos pl so va t) (h0 : ∀ i, i ≤ t → pos' i = pos i) (h1 : ∀ i, i < t → pl' i = pl i ∧ so' i = so i ∧ va' i = va i) : Cut s n pos' pl' so' va' t := by
  refine ⟨by rw [h0 0 (by omega)]; exact C.1, fun i hi => ?_⟩
  rw [h0 i (by omega), h0 (i + 1) (by omega), (h1 i hi).1, (h1 i hi).2.1, (h1 i hi).2.2]
  exact C.2 i hi
theorem Cut.pos_ge {s : Nat → Int} {n : Nat} {pos : Nat → Nat} {pl so va : Nat → Int} {t : Nat} (C : Cut s n pos pl so va t) : ∀ i, i ≤ t → i ≤ pos i
  | 0, _ => by omega
  | i + 1, hi => by
    have := C.pos_ge i (by omega)
    have := (C.2 i (by omega)).2.2
    omega
section CT
variable {l : Launch} {d : Nat} {h : Mem}
theorem r_isLetter {sh : Shp} (c : Int) : Cl l (d + 1) M_X11_isLetter [(0, c)] sh h (Rt (bI (isLt c)) sh h) := by
  show V l (d + 1) 0 0 M_X11_isLetter 0 0 0 _ [(0, c)] [] sh h
  unfold isLt
  (repeat' (first | assumption | (refine S_X11_isLetter_0 _ _ _ _ ?_; simp only [B_X11_isLetter_0, bi_0, x_ic, x_lc, x_ld, x_st, x_sl, x_inc, x_b32, x_b64, x_d32, x_d64, x_s64, x_un, x_lcmp, x_dup, x_pop, x_dup2, x_if, x_cmp, x_sw, swk, x_ald, x_ast, x_alen, x_getf, x_putf, x_inv, x_mm, x_copy, x_iret, x_lret, x_vret, ok1, pu, ct, rcv, rcs, ent0, List.getElem?_cons_zero, List.getElem?_cons_succ, List.getElem?_nil, List.set_cons_zero, List.set_cons_succ, List.take_succ_cons, List.take_zero, List.drop_succ_cons, List.drop_zero, List.reverse_cons, List.reverse_nil, List.nil_append, List.cons_append, List.length_cons, List.length_nil, true_and, and_true, and_self, ne_eq, not_true_eq_false, not_false_eq_true, reduceIte, true_or, or_true, false_or, or_false, Nat.reduceAdd, Nat.reduceSub, Nat.reduceMul, Nat.reduceLeDiff, Nat.reduceEqDiff, Nat.reduceLT, Nat.le_refl, Nat.zero_le, Int.reduceToNat, Int.reduceAdd, Int.reduceSub, Int.reduceMul, Int.reduceNeg, Int.reduceLT, Int.reduceLE, Int.reduceEq, Nat.zero_add, Nat.add_zero, Nat.reduceBEq, Nat.one_ne_zero, Nat.zero_ne_one, Nat.lt_irrefl, Nat.succ_ne_zero]) | (refine S_X11_isLetter_16 _ _ _ _ ?_; simp only [B_X11_isLetter_16, bi_0, x_ic, x_lc, x_ld, x_st, x_sl, x_inc, x_b32, x_b64, x_d32, x_d64, x_s64, x_un, x_lcmp, x_dup, x_pop, x_dup2, x_if, x_cmp, x_sw, swk, x_ald, x_ast, x_alen, x_getf, x_putf, x_inv, x_mm, x_copy, x_iret, x_lret, x_vret, ok1, pu, ct, rcv, rcs, ent0, List.getElem?_cons_zero, List.getElem?_cons_succ, List.getElem?_nil, List.set_cons_zero, List.set_cons_succ, List.take_succ_cons, List.take_zero, List.drop_succ_cons, List.drop_zero, List.reverse_cons, List.reverse_nil, List.nil_append, List.cons_append, List.length_cons, List.length_nil, true_and, and_true, and_self, ne_eq, not_true_eq_false, not_false_eq_true, reduceIte, true_or, or_true, false_or, or_false, Nat.reduceAdd, Nat.reduceSub, Nat.reduceMul, Nat.reduceLeDiff, Nat.reduceEqDiff, Nat.reduceLT, Nat.le_refl, Nat.zero_le, Int.reduceToNat, Int.reduceAdd, Int.reduceSub, Int.reduceMul, Int.reduceNeg, Int.reduceLT, Int.reduceLE, Int.reduceEq, Nat.zero_add, Nat.add_zero, Nat.reduceBEq, Nat.one_ne_zero, Nat.zero_ne_one, Nat.lt_irrefl, Nat.succ_ne_zero]) | (refine S_X11_isLetter_17 _ _ _ _ ?_; simp only [B_X11_isLetter_17, bi_0, x_ic, x_lc, x_ld, x_st, x_sl, x_inc, x_b32, x_b64, x_d32, x_d64, x_s64, x_un, x_lcmp, x_dup, x_pop, x_dup2, x_if, x_cmp, x_sw, swk, x_ald, x_ast, x_alen, x_getf, x_putf, x_inv, x_mm, x_copy, x_iret, x_lret, x_vret, ok1, pu, ct, rcv, rcs, ent0, List.getElem?_cons_zero, List.getElem?_cons_succ, List.getElem?_nil, List.set_cons_zero, List.set_cons_succ, List.take_succ_cons, List.take_zero, List.drop_succ_cons, List.drop_zero, List.reverse_cons, List.reverse_nil, List.nil_append, List.cons_append, List.length_cons, List.length_nil, true_and, and_true, and_self, ne_eq, not_true_eq_false, not_false_eq_true, reduceIte, true_or, or_true, false_or, or_false, Nat.reduceAdd, Nat.reduceSub, Nat.reduceMul, Nat.reduceLeDiff, Nat.reduceEqDiff, Nat.reduceLT, Nat.le_refl, Nat.zero_le, Int.reduceToNat, Int.reduceAdd, Int.reduceSub, Int.reduceMul, Int.reduceNeg, Int.reduceLT, Int.reduceLE, Int.reduceEq, Nat.zero_add, Nat.add_zero, Nat.reduceBEq, Nat.one_ne_zero, Nat.zero_ne_one, Nat.lt_irrefl, Nat.succ_ne_zero]) | (refine Rt_mk ?_) | (refine Rt_mk3 ?_ ?_ ?_) | (with_reducible refine And.intro ?_ ?_) | (refine im (fun _ => ?_))))
  all_goals first | (exact (bI_t (by omega)).symm) | (exact (bI_f (by omega)).symm)
theorem r_isDigit {sh : Shp} (c : Int) : Cl l (d + 1) M_X11_isDigit [(0, c)] sh h (Rt (bI (isDg c)) sh h) := by
  show V l (d + 1) 0 0 M_X11_isDigit 0 0 0 _ [(0, c)] [] sh h
  unfold isDg
  (repeat' (first | assumption | (refine S_X11_isDigit_0 _ _ _ _ ?_; simp only [B_X11_isDigit_0, bi_0, x_ic, x_lc, x_ld, x_st, x_sl, x_inc, x_b32, x_b64, x_d32, x_d64, x_s64, x_un, x_lcmp, x_dup, x_pop, x_dup2, x_if, x_cmp, x_sw, swk, x_ald, x_ast, x_alen, x_getf, x_putf, x_inv, x_mm, x_copy, x_iret, x_lret, x_vret, ok1, pu, ct, rcv, rcs, ent0, List.getElem?_cons_zero, List.getElem?_cons_succ, List.getElem?_nil, List.set_cons_zero, List.set_cons_succ, List.take_succ_cons, List.take_zero, List.drop_succ_cons, List.drop_zero, List.reverse_cons, List.reverse_nil, List.nil_append, List.cons_append, List.length_cons, List.length_nil, true_and, and_true, and_self, ne_eq, not_true_eq_false, not_false_eq_true, reduceIte, true_or, or_true, false_or, or_false, Nat.reduceAdd, Nat.reduceSub, Nat.reduceMul, Nat.reduceLeDiff, Nat.reduceEqDiff, Nat.reduceLT, Nat.le_refl, Nat.zero_le, Int.reduceToNat, Int.reduceAdd, Int.reduceSub, Int.reduceMul, Int.reduceNeg, Int.reduceLT, Int.reduceLE, Int.reduceEq, Nat.zero_add, Nat.add_zero, Nat.reduceBEq, Nat.one_ne_zero, Nat.zero_ne_one, Nat.lt_irrefl, Nat.succ_ne_zero]) | (refine S_X11_isDigit_16 _ _ _ _ ?_; simp only [B_X11_isDigit_16, bi_0, x_ic, x_lc, x_ld, x_st, x_sl, x_inc, x_b32, x_b64, x_d32, x_d64, x_s64, x_un, x_lcmp, x_dup, x_pop, x_dup2, x_if, x_cmp, x_sw, swk, x_ald, x_ast, x_alen, x_getf, x_putf, x_inv, x_mm, x_copy, x_iret, x_lret, x_vret, ok1, pu, ct, rcv, rcs, ent0, List.getElem?_cons_zero, List.getElem?_cons_succ, List.getElem?_nil, List.set_cons_zero, List.set_cons_succ, List.take_succ_cons, List.take_zero, List.drop_succ_cons, List.drop_zero, List.reverse_cons, List.reverse_nil, List.nil_append, List.cons_append, List.length_cons, List.length_nil, true_and, and_true, and_self, ne_eq, not_true_eq_false, not_false_eq_true, reduceIte, true_or, or_true, false_or, or_false, Nat.reduceAdd, Nat.reduceSub, Nat.reduceMul, Nat.reduceLeDiff, Nat.reduceEqDiff, Nat.reduceLT, Nat.le_refl, Nat.zero_le, Int.reduceToNat, Int.reduceAdd, Int.reduceSub, Int.reduceMul, Int.reduceNeg, Int.reduceLT, Int.reduceLE, Int.reduceEq, Nat.zero_add, Nat.add_zero, Nat.reduceBEq, Nat.one_ne_zero, Nat.zero_ne_one, Nat.lt_irrefl, Nat.succ_ne_zero]) | (refine S_X11_isDigit_17 _ _ _ _ ?_; simp only [B_X11_isDigit_17, bi_0, x_ic, x_lc, x_ld, x_st, x_sl, x_inc, x_b32, x_b64, x_d32, x_d64, x_s64, x_un, x_lcmp, x_dup, x_pop, x_dup2, x_if, x_cmp, x_sw, swk, x_ald, x_ast, x_alen, x_getf, x_putf, x_inv, x_mm, x_copy, x_iret, x_lret, x_vret, ok1, pu, ct, rcv, rcs, ent0, List.getElem?_cons_zero, List.getElem?_cons_succ, List.getElem?_nil, List.set_cons_zero, List.set_cons_succ, List.take_succ_cons, List.take_zero, List.drop_succ_cons, List.drop_zero, List.reverse_cons, List.reverse_nil, List.nil_append, List.cons_append, List.length_cons, List.length_nil, true_and, and_true, and_self, ne_eq, not_true_eq_false, not_false_eq_true, reduceIte, true_or, or_true, false_or, or_false, Nat.reduceAdd, Nat.reduceSub, Nat.reduceMul, Nat.reduceLeDiff, Nat.reduceEqDiff, Nat.reduceLT, Nat.le_refl, Nat.zero_le, Int.reduceToNat, Int.reduceAdd, Int.reduceSub, Int.reduceMul, Int.reduceNeg, Int.reduceLT, Int.reduceLE, Int.reduceEq, Nat.zero_add, Nat.add_zero, Nat.reduceBEq, Nat.one_ne_zero, Nat.zero_ne_one, Nat.lt_irrefl, Nat.succ_ne_zero]) | (refine Rt_mk ?_) | (refine Rt_mk3 ?_ ?_ ?_) | (with_reducible refine And.intro ?_ ?_) | (refine im (fun _ => ?_))))
  all_goals first | (exact (bI_t (by omega)).symm) | (exact (bI_f (by omega)).symm)
theorem r_isSignOf {sh : Shp} (c : Int) : Cl l (d + 1) M_X11_isSignOf [(0, c)] sh h (Rt (bI (isSg c)) sh h) := by
  show V l (d + 1) 0 0 M_X11_isSignOf 0 0 0 _ [(0, c)] [] sh h
  unfold isSg
  (repeat' (first | assumption | (refine S_X11_isSignOf_0 _ _ _ _ ?_; simp only [B_X11_isSignOf_0, bi_0, x_ic, x_lc, x_ld, x_st, x_sl, x_inc, x_b32, x_b64, x_d32, x_d64, x_s64, x_un, x_lcmp, x_dup, x_pop, x_dup2, x_if, x_cmp, x_sw, swk, x_ald, x_ast, x_alen, x_getf, x_putf, x_inv, x_mm, x_copy, x_iret, x_lret, x_vret, ok1, pu, ct, rcv, rcs, ent0, List.getElem?_cons_zero, List.getElem?_cons_succ, List.getElem?_nil, List.set_cons_zero, List.set_cons_succ, List.take_succ_cons, List.take_zero, List.drop_succ_cons, List.drop_zero, List.reverse_cons, List.reverse_nil, List.nil_append, List.cons_append, List.length_cons, List.length_nil, true_and, and_true, and_self, ne_eq, not_true_eq_false, not_false_eq_true, reduceIte, true_or, or_true, false_or, or_false, Nat.reduceAdd, Nat.reduceSub, Nat.reduceMul, Nat.reduceLeDiff, Nat.reduceEqDiff, Nat.reduceLT, Nat.le_refl, Nat.zero_le, Int.reduceToNat, Int.reduceAdd, Int.reduceSub, Int.reduceMul, Int.reduceNeg, Int.reduceLT, Int.reduceLE, Int.reduceEq, Nat.zero_add, Nat.add_zero, Nat.reduceBEq, Nat.one_ne_zero, Nat.zero_ne_one, Nat.lt_irrefl, Nat.succ_ne_zero]) | (refine S_X11_isSignOf_48 _ _ _ _ ?_; simp only [B_X11_isSignOf_48, bi_0, x_ic, x_lc, x_ld, x_st, x_sl, x_inc, x_b32, x_b64, x_d32, x_d64, x_s64, x_un, x_lcmp, x_dup, x_pop, x_dup2, x_if, x_cmp, x_sw, swk, x_ald, x_ast, x_alen, x_getf, x_putf, x_inv, x_mm, x_copy, x_iret, x_lret, x_vret, ok1, pu, ct, rcv, rcs, ent0, List.getElem?_cons_zero, List.getElem?_cons_succ, List.getElem?_nil, List.set_cons_zero, List.set_cons_succ, List.take_succ_cons, List.take_zero, List.drop_succ_cons, List.drop_zero, List.reverse_cons, List.reverse_nil, List.nil_append, List.cons_append, List.length_cons, List.length_nil, true_and, and_true, and_self, ne_eq, not_true_eq_false, not_false_eq_true, reduceIte, true_or, or_true, false_or, or_false, Nat.reduceAdd, Nat.reduceSub, Nat.reduceMul, Nat.reduceLeDiff, Nat.reduceEqDiff, Nat.reduceLT, Nat.le_refl, Nat.zero_le, Int.reduceToNat, Int.reduceAdd, Int.reduceSub, Int.reduceMul, Int.reduceNeg, Int.reduceLT, Int.reduceLE, Int.reduceEq, Nat.zero_add, Nat.add_zero, Nat.reduceBEq, Nat.one_ne_zero, Nat.zero_ne_one, Nat.lt_irrefl, Nat.succ_ne_zero]) | (refine S_X11_isSignOf_52 _ _ _ _ ?_; simp only [B_X11_isSignOf_52, bi_0, x_ic, x_lc, x_ld, x_st, x_sl, x_inc, x_b32, x_b64, x_d32, x_d64, x_s64, x_un, x_lcmp, x_dup, x_pop, x_dup2, x_if, x_cmp, x_sw, swk, x_ald, x_ast, x_alen, x_getf, x_putf, x_inv, x_mm, x_copy, x_iret, x_lret, x_vret, ok1, pu, ct, rcv, rcs, ent0, List.getElem?_cons_zero, List.getElem?_cons_succ, List.getElem?_nil, List.set_cons_zero, List.set_cons_succ, List.take_succ_cons, List.take_zero, List.drop_succ_cons, List.drop_zero, List.reverse_cons, List.reverse_nil, List.nil_append, List.cons_append, List.length_cons, List.length_nil, true_and, and_true, and_self, ne_eq, not_true_eq_false, not_false_eq_true, reduceIte, true_or, or_true, false_or, or_false, Nat.reduceAdd, Nat.reduceSub, Nat.reduceMul, Nat.reduceLeDiff, Nat.reduceEqDiff, Nat.reduceLT, Nat.le_refl, Nat.zero_le, Int.reduceToNat, Int.reduceAdd, Int.reduceSub, Int.reduceMul, Int.reduceNeg, Int.reduceLT, Int.reduceLE, Int.reduceEq, Nat.zero_add, Nat.add_zero, Nat.reduceBEq, Nat.one_ne_zero, Nat.zero_ne_one, Nat.lt_irrefl, Nat.succ_ne_zero]) | (refine S_X11_isSignOf_53 _ _ _ _ ?_; simp only [B_X11_isSignOf_53, bi_0, x_ic, x_lc, x_ld, x_st, x_sl, x_inc, x_b32, x_b64, x_d32, x_d64, x_s64, x_un, x_lcmp, x_dup, x_pop, x_dup2, x_if, x_cmp, x_sw, swk, x_ald, x_ast, x_alen, x_getf, x_putf, x_inv, x_mm, x_copy, x_iret, x_lret, x_vret, ok1, pu, ct, rcv, rcs, ent0, List.getElem?_cons_zero, List.getElem?_cons_succ, List.getElem?_nil, List.set_cons_zero, List.set_cons_succ, List.take_succ_cons, List.take_zero, List.drop_succ_cons, List.drop_zero, List.reverse_cons, List.reverse_nil, List.nil_append, List.cons_append, List.length_cons, List.length_nil, true_and, and_true, and_self, ne_eq, not_true_eq_false, not_false_eq_true, reduceIte, true_or, or_true, false_or, or_false, Nat.reduceAdd, Nat.reduceSub, Nat.reduceMul, Nat.reduceLeDiff, Nat.reduceEqDiff, Nat.reduceLT, Nat.le_refl, Nat.zero_le, Int.reduceToNat, Int.reduceAdd, Int.reduceSub, Int.reduceMul, Int.reduceNeg, Int.reduceLT, Int.reduceLE, Int.reduceEq, Nat.zero_add, Nat.add_zero, Nat.reduceBEq, Nat.one_ne_zero, Nat.zero_ne_one, Nat.lt_irrefl, Nat.succ_ne_zero]) | (refine Rt_mk ?_) | (refine Rt_mk3 ?_ ?_ ?_) | (with_reducible refine And.intro ?_ ?_) | (refine im (fun _ => ?_))))
  all_goals first | (exact (bI_t (by omega)).symm) | (exact (bI_f (by omega)).symm)
theorem r_rank {c : Int} (hc : isLt c) : Cl l (d + 2) M_X11_rank [(0, c)] SHP h (Rt (c - 96) SHP h) := by
  show V l (d + 2) 0 0 M_X11_rank 0 0 0 _ [(0, c)] [] SHP h
  have hc2 := hc
  unfold isLt at hc2
  refine S_X11_rank_0 _ _ _ _ ?_; simp (disch := omega) only [B_X11_rank_0, bi_0, x_ic, x_lc, x_ld, x_st, x_sl, x_inc, x_b32, x_b64, x_d32, x_d64, x_s64, x_un, x_lcmp, x_dup, x_pop, x_dup2, x_if, x_cmp, x_sw, swk, x_ald, x_ast, x_alen, x_getf, x_putf, x_inv, x_mm, x_copy, x_iret, x_lret, x_vret, ok1, pu, ct, rcv, rcs, ent0, List.getElem?_cons_zero, List.getElem?_cons_succ, List.getElem?_nil, List.set_cons_zero, List.set_cons_succ, List.take_succ_cons, List.take_zero, List.drop_succ_cons, List.drop_zero, List.reverse_cons, List.reverse_nil, List.nil_append, List.cons_append, List.length_cons, List.length_nil, true_and, and_true, and_self, ne_eq, not_true_eq_false, not_false_eq_true, reduceIte, true_or, or_true, false_or, or_false, Nat.reduceAdd, Nat.reduceSub, Nat.reduceMul, Nat.reduceLeDiff, Nat.reduceEqDiff, Nat.reduceLT, Nat.le_refl, Nat.zero_le, Int.reduceToNat, Int.reduceAdd, Int.reduceSub, Int.reduceMul, Int.reduceNeg, Int.reduceLT, Int.reduceLE, Int.reduceEq, Nat.zero_add, Nat.add_zero, Nat.reduceBEq, Nat.one_ne_zero, Nat.zero_ne_one, Nat.lt_irrefl, Nat.succ_ne_zero, w32_id, ixc, ixc2, Int.toNat_natCast]
  refine Cl.app (r_isLetter c) ?_
  rw [bI_t hc]
  (try simp (disch := omega) only [bi_0, x_ic, x_lc, x_ld, x_st, x_sl, x_inc, x_b32, x_b64, x_d32, x_d64, x_s64, x_un, x_lcmp, x_dup, x_pop, x_dup2, x_if, x_cmp, x_sw, swk, x_ald, x_ast, x_alen, x_getf, x_putf, x_inv, x_mm, x_copy, x_iret, x_lret, x_vret, ok1, pu, ct, rcv, rcs, ent0, List.getElem?_cons_zero, List.getElem?_cons_succ, List.getElem?_nil, List.set_cons_zero, List.set_cons_succ, List.take_succ_cons, List.take_zero, List.drop_succ_cons, List.drop_zero, List.reverse_cons, List.reverse_nil, List.nil_append, List.cons_append, List.length_cons, List.length_nil, true_and, and_true, and_self, ne_eq, not_true_eq_false, not_false_eq_true, reduceIte, true_or, or_true, false_or, or_false, Nat.reduceAdd, Nat.reduceSub, Nat.reduceMul, Nat.reduceLeDiff, Nat.reduceEqDiff, Nat.reduceLT, Nat.le_refl, Nat.zero_le, Int.reduceToNat, Int.reduceAdd, Int.reduceSub, Int.reduceMul, Int.reduceNeg, Int.reduceLT, Int.reduceLE, Int.reduceEq, Nat.zero_add, Nat.add_zero, Nat.reduceBEq, Nat.one_ne_zero, Nat.zero_ne_one, Nat.lt_irrefl, Nat.succ_ne_zero, w32_id, ixc, ixc2, Int.toNat_natCast])
  (repeat' (first | assumption | (with_reducible refine And.intro ?_ ?_) | (refine im (fun hq => ?_); (try (exfalso; omega; done))) | omega))
  refine S_X11_rank_18 _ _ _ _ ?_; simp (disch := omega) only [B_X11_rank_18, bi_0, x_ic, x_lc, x_ld, x_st, x_sl, x_inc, x_b32, x_b64, x_d32, x_d64, x_s64, x_un, x_lcmp, x_dup, x_pop, x_dup2, x_if, x_cmp, x_sw, swk, x_ald, x_ast, x_alen, x_getf, x_putf, x_inv, x_mm, x_copy, x_iret, x_lret, x_vret, ok1, pu, ct, rcv, rcs, ent0, List.getElem?_cons_zero, List.getElem?_cons_succ, List.getElem?_nil, List.set_cons_zero, List.set_cons_succ, List.take_succ_cons, List.take_zero, List.drop_succ_cons, List.drop_zero, List.reverse_cons, List.reverse_nil, List.nil_append, List.cons_append, List.length_cons, List.length_nil, true_and, and_true, and_self, ne_eq, not_true_eq_false, not_false_eq_true, reduceIte, true_or, or_true, false_or, or_false, Nat.reduceAdd, Nat.reduceSub, Nat.reduceMul, Nat.reduceLeDiff, Nat.reduceEqDiff, Nat.reduceLT, Nat.le_refl, Nat.zero_le, Int.reduceToNat, Int.reduceAdd, Int.reduceSub, Int.reduceMul, Int.reduceNeg, Int.reduceLT, Int.reduceLE, Int.reduceEq, Nat.zero_add, Nat.add_zero, Nat.reduceBEq, Nat.one_ne_zero, Nat.zero_ne_one, Nat.lt_irrefl, Nat.succ_ne_zero, w32_id, ixc, ixc2, Int.toNat_natCast]
  exact Rt_mk rfl
end CT

/-! the reference: a run read -/
/-- as it was, but place, fault, and the lines being read -/
def Frn (h h' : Mem) : Prop := (∀ i, i ≠ 214 → i ≠ 223 → h' i = h i) ∧ (∀ j, j ≠ 7 → j ≠ 8 → h' 214 j = h 214 j) ∧ ∀ j, j < 85 → h' 223 j = h 223 j
theorem Frn.rfl {h : Mem} : Frn h h := ⟨fun _ _ _ => Eq.refl _, fun _ _ _ => Eq.refl _, fun _ _ => Eq.refl _⟩
theorem Frn.trans {h h1 h2 : Mem} (a : Frn h h1) (b : Frn h1 h2) : Frn h h2 := ⟨fun i p q => (b.1 i p q).trans (a.1 i p q), fun j p q => (b.2.1 j p q).trans (a.2.1 j p q), fun j p => (b.2.2 j p).trans (a.2.2 j p)⟩
theorem Frn_f {h : Mem} {j : Nat} {v : Int} (hj : j = 7 ∨ j = 8) : Frn h (up h 214 j v) := ⟨fun i p _ => up_ne p, fun q _ _ => up_nj (by omega), fun j _ => by rw [up_ne (by decide)]⟩
theorem Frn_l {h : Mem} {j : Nat} {v : Int} (hj : 85 ≤ j) : Frn h (up h 223 j v) := ⟨fun i _ p => up_ne p, fun q _ _ => by rw [up_ne (by decide)], fun q hq => up_nj (by omega)⟩
theorem Frn.lay {h h' : Mem} (f : Frn h h') (L : Lay h) : Lay h' := by
  refine Lay_fr L (fun q hq => ?_)
  have hn : LAYL.all (fun q => if q.1 = 214 then !(q.2.1 == 7) && !(q.2.1 == 8) else !(q.1 == 223)) = true := by decide +kernel
  have h1 := List.all_eq_true.mp hn q hq
  by_cases e : q.1 = 214
  · rw [if_pos e] at h1
    simp at h1
    rw [e]; exact f.2.1 _ h1.1 h1.2
  · rw [if_neg e] at h1
    rw [f.1 q.1 e (by simpa using h1)]
theorem Frn.kr {h h' : Mem} {s : Nat → Int} {n N : Nat} (f : Frn h h') (K : KR h s n N) : KR h' s n N := by
  obtain ⟨L, W, r⟩ := K
  refine ⟨f.lay L, ?_, ?_⟩
  · unfold WdR; rw [f.1 219 (by decide) (by decide)]; exact W
  · rw [f.1 216 (by decide) (by decide), f.1 217 (by decide) (by decide), f.1 218 (by decide) (by decide)]; exact r
theorem KR.lt {h : Mem} {s : Nat → Int} {n N i : Nat} (K : KR h s n N) (hi : i ≤ N) (h0 : tkSo s n i ≠ 0) : i < N := by
  have := K.2.2.2.2.2.2
  by_cases e : i = N
  · rw [e] at h0; exact absurd this h0
  · omega
theorem wh2 {s : Nat → Int} {n i : Nat} : (whF s n i 10 2 < 0 ↔ ¬ isWd s n i 10 ∧ ¬ isWd s n i 11) ∧ (whF s n i 10 2 = 0 ↔ isWd s n i 10) := by
  have d : isWd s n i 10 → isWd s n i 11 → False := fun a b => absurd (W37_d (i := 10) (j := 11) (by decide) (by decide) (by rw [← a.2, b.2])) (by decide)
  rw [show whF s n i 10 2 = iF (isWd s n i 11) ((1 : Nat) : Int) (iF (isWd s n i 10) ((0 : Nat) : Int) (-1)) from rfl]
  by_cases a : isWd s n i 11
  · rw [iF_t a]
    exact ⟨⟨fun x => absurd x (by decide), fun x => absurd a x.2⟩, ⟨fun x => absurd x (by decide), fun x => (d x a).elim⟩⟩
  · rw [iF_f a]
    by_cases b : isWd s n i 10
    · rw [iF_t b]
      exact ⟨⟨fun x => absurd x (by decide), fun x => absurd b x.1⟩, ⟨fun _ => b, fun _ => rfl⟩⟩
    · rw [iF_f b]
      exact ⟨⟨fun _ => ⟨b, a⟩, fun _ => by decide⟩, ⟨fun x => absurd x (by decide), fun x => absurd x b⟩⟩
section MRN
variable {l : Launch} {d : Nat} {h : Mem} {s : Nat → Int} {n N : Nat}
/-- behind a fault -/
theorem rn_bad {Q : Int → Shp → Mem → Prop} {m : Mem} {f : Int} (h0 : 0 < f) (hf : m 214 8 = f) (hQ : Q f SHP m) (a b : PV) : V l (d + 6) 0 0 M_X11_run 0 0 133 Q [(2, 215), a, b] [] SHP m := by
  refine S_X11_run_133 _ _ _ _ ?_; simp (disch := omega) only [B_X11_run_133, bi_0, x_ic, x_lc, x_ld, x_st, x_sl, x_inc, x_b32, x_b64, x_d32, x_d64, x_s64, x_un, x_lcmp, x_dup, x_pop, x_dup2, x_if, x_cmp, x_sw, swk, x_ald, x_ast, x_alen, x_getf, x_putf, x_inv, x_mm, x_copy, x_iret, x_lret, x_vret, ok1, pu, ct, rcv, rcs, ent0, List.getElem?_cons_zero, List.getElem?_cons_succ, List.getElem?_nil, List.set_cons_zero, List.set_cons_succ, List.take_succ_cons, List.take_zero, List.drop_succ_cons, List.drop_zero, List.reverse_cons, List.reverse_nil, List.nil_append, List.cons_append, List.length_cons, List.length_nil, true_and, and_true, and_self, ne_eq, not_true_eq_false, not_false_eq_true, reduceIte, true_or, or_true, false_or, or_false, Nat.reduceAdd, Nat.reduceSub, Nat.reduceMul, Nat.reduceLeDiff, Nat.reduceEqDiff, Nat.reduceLT, Nat.le_refl, Nat.zero_le, Int.reduceToNat, Int.reduceAdd, Int.reduceSub, Int.reduceMul, Int.reduceNeg, Int.reduceLT, Int.reduceLE, Int.reduceEq, Nat.zero_add, Nat.add_zero, Nat.reduceBEq, Nat.one_ne_zero, Nat.zero_ne_one, Nat.lt_irrefl, Nat.succ_ne_zero, w32_id, ixc, ixc2, Int.toNat_natCast, ob_214]
  refine Cl.app (r_takeSign1 (l := l) (d := d + 3) hf (by omega) 59) ?_
  (try simp (disch := omega) only [bi_0, x_ic, x_lc, x_ld, x_st, x_sl, x_inc, x_b32, x_b64, x_d32, x_d64, x_s64, x_un, x_lcmp, x_dup, x_pop, x_dup2, x_if, x_cmp, x_sw, swk, x_ald, x_ast, x_alen, x_getf, x_putf, x_inv, x_mm, x_copy, x_iret, x_lret, x_vret, ok1, pu, ct, rcv, rcs, ent0, List.getElem?_cons_zero, List.getElem?_cons_succ, List.getElem?_nil, List.set_cons_zero, List.set_cons_succ, List.take_succ_cons, List.take_zero, List.drop_succ_cons, List.drop_zero, List.reverse_cons, List.reverse_nil, List.nil_append, List.cons_append, List.length_cons, List.length_nil, true_and, and_true, and_self, ne_eq, not_true_eq_false, not_false_eq_true, reduceIte, true_or, or_true, false_or, or_false, Nat.reduceAdd, Nat.reduceSub, Nat.reduceMul, Nat.reduceLeDiff, Nat.reduceEqDiff, Nat.reduceLT, Nat.le_refl, Nat.zero_le, Int.reduceToNat, Int.reduceAdd, Int.reduceSub, Int.reduceMul, Int.reduceNeg, Int.reduceLT, Int.reduceLE, Int.reduceEq, Nat.zero_add, Nat.add_zero, Nat.reduceBEq, Nat.one_ne_zero, Nat.zero_ne_one, Nat.lt_irrefl, Nat.succ_ne_zero, w32_id, ixc, ixc2, Int.toNat_natCast])
  refine S_X11_run_11 _ _ _ _ ?_; simp (disch := omega) only [B_X11_run_11, bi_0, x_ic, x_lc, x_ld, x_st, x_sl, x_inc, x_b32, x_b64, x_d32, x_d64, x_s64, x_un, x_lcmp, x_dup, x_pop, x_dup2, x_if, x_cmp, x_sw, swk, x_ald, x_ast, x_alen, x_getf, x_putf, x_inv, x_mm, x_copy, x_iret, x_lret, x_vret, ok1, pu, ct, rcv, rcs, ent0, List.getElem?_cons_zero, List.getElem?_cons_succ, List.getElem?_nil, List.set_cons_zero, List.set_cons_succ, List.take_succ_cons, List.take_zero, List.drop_succ_cons, List.drop_zero, List.reverse_cons, List.reverse_nil, List.nil_append, List.cons_append, List.length_cons, List.length_nil, true_and, and_true, and_self, ne_eq, not_true_eq_false, not_false_eq_true, reduceIte, true_or, or_true, false_or, or_false, Nat.reduceAdd, Nat.reduceSub, Nat.reduceMul, Nat.reduceLeDiff, Nat.reduceEqDiff, Nat.reduceLT, Nat.le_refl, Nat.zero_le, Int.reduceToNat, Int.reduceAdd, Int.reduceSub, Int.reduceMul, Int.reduceNeg, Int.reduceLT, Int.reduceLE, Int.reduceEq, Nat.zero_add, Nat.add_zero, Nat.reduceBEq, Nat.one_ne_zero, Nat.zero_ne_one, Nat.lt_irrefl, Nat.succ_ne_zero, w32_id, ixc, ixc2, Int.toNat_natCast, ob_214, hf]
  refine ⟨fun y => absurd y (by omega), fun _ => ?_⟩
  refine S_X11_run_142 _ _ _ _ ?_; simp (disch := omega) only [B_X11_run_142, bi_0, x_ic, x_lc, x_ld, x_st, x_sl, x_inc, x_b32, x_b64, x_d32, x_d64, x_s64, x_un, x_lcmp, x_dup, x_pop, x_dup2, x_if, x_cmp, x_sw, swk, x_ald, x_ast, x_alen, x_getf, x_putf, x_inv, x_mm, x_copy, x_iret, x_lret, x_vret, ok1, pu, ct, rcv, rcs, ent0, List.getElem?_cons_zero, List.getElem?_cons_succ, List.getElem?_nil, List.set_cons_zero, List.set_cons_succ, List.take_succ_cons, List.take_zero, List.drop_succ_cons, List.drop_zero, List.reverse_cons, List.reverse_nil, List.nil_append, List.cons_append, List.length_cons, List.length_nil, true_and, and_true, and_self, ne_eq, not_true_eq_false, not_false_eq_true, reduceIte, true_or, or_true, false_or, or_false, Nat.reduceAdd, Nat.reduceSub, Nat.reduceMul, Nat.reduceLeDiff, Nat.reduceEqDiff, Nat.reduceLT, Nat.le_refl, Nat.zero_le, Int.reduceToNat, Int.reduceAdd, Int.reduceSub, Int.reduceMul, Int.reduceNeg, Int.reduceLT, Int.reduceLE, Int.reduceEq, Nat.zero_add, Nat.add_zero, Nat.reduceBEq, Nat.one_ne_zero, Nat.zero_ne_one, Nat.lt_irrefl, Nat.succ_ne_zero, w32_id, ixc, ixc2, Int.toNat_natCast, ob_214, hf]
  exact ⟨fun y => absurd y (by omega), fun _ => hQ⟩
end MRN

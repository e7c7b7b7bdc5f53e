/-! the reference: a run read -/
/-- as it was, but place, fault, and the lines being read -/
def Frn (h h' : Mem) : Prop := (∀ i, i ≠ 214 → i ≠ 223 → h' i = h i) ∧ (∀ j, j ≠ 7 → j ≠ 8 → h' 214 j = h 214 j) ∧ ∀ j, j < 85 → h' 223 j = h 223 j
theorem Frn.rfl {h : Mem} : Frn h h := ⟨fun _ _ _ => Eq.refl _, fun _ _ _ => Eq.refl _, fun _ _ => Eq.refl _⟩
theorem Frn.trans {h h1 h2 : Mem} (a : Frn h h1) (b : Frn h1 h2) : Frn h h2 := ⟨fun i p q => (b.1 i p q).trans (a.1 i p q), fun j p q => (b.2.1 j p q).trans (a.2.1 j p q), fun j p => (b.2.2 j p).trans (a.2.2 j p)⟩
theorem Frn_f {h : Mem} {j : Nat} {v : Int} (hj : j = 7 ∨ j = 8) : Frn h (up h 214 j v) := ⟨fun i p _ => up_ne p, fun q _ _ => up_nj (by omega), fun j _ => by rw [up_ne (by decide)]⟩
theorem Frn_l {h : Mem} {j : Nat} {v : Int} (hj : 85 ≤ j) : Frn h (up h 223 j v) := ⟨fun i _ p => up_ne p, fun q _ _ => by rw [up_ne (by decide)], fun q hq => up_nj (by omega)⟩
theorem Frn.lay {h h' : Mem} (f : Frn h h') (L : Lay h) : Lay h' := by
  refine Lay_fr L (fun q hq => ?_)
  have hn : LAYL.all (fun q => if q.1 = 214 then !(q.2.1 == 7) && !(q.2.1 == 8) else !(q.1 == 223)) = true := by decide +kernel
  have h1 := List.all_eq_true.mp hn q hq
  by_cases e : q.1 = 214
  · rw [if_pos e] at h1
    simp at h1
    rw [e]; exact f.2.1 _ h1.1 h1.2
  · rw [if_neg e] at h1
    rw [f.1 q.1 e (by simpa using h1)]
theorem Frn.kr {h h' : Mem} {s : Nat → Int} {n N : Nat} (f : Frn h h') (K : KR h s n N) : KR h' s n N := by
  obtain ⟨L, W, r⟩ := K
  refine ⟨f.lay L, ?_, ?_⟩
  · unfold WdR; rw [f.1 219 (by decide) (by decide)]; exact W
  · rw [f.1 216 (by decide) (by decide), f.1 217 (by decide) (by decide), f.1 218 (by decide) (by decide)]; exact r
theorem KR.lt {h : Mem} {s : Nat → Int} {n N i : Nat} (K : KR h s n N) (hi : i ≤ N) (h0 : tkSo s n i ≠ 0) : i < N := by
  have := K.2.2.2.2.2.2
  by_cases e : i = N
  · rw [e] at h0; exact absurd this h0
  · omega
theorem wh2 {s : Nat → Int} {n i : Nat} : (whF s n i 10 2 < 0 ↔ ¬ isWd s n i 10 ∧ ¬ isWd s n i 11) ∧ (whF s n i 10 2 = 0 ↔ isWd s n i 10) := by
  have d : isWd s n i 10 → isWd s n i 11 → False := fun a b => absurd (W37_d (i := 10) (j := 11) (by decide) (by decide) (by rw [← a.2, b.2])) (by decide)
  rw [show whF s n i 10 2 = iF (isWd s n i 11) ((1 : Nat) : Int) (iF (isWd s n i 10) ((0 : Nat) : Int) (-1)) from rfl]
  by_cases a : isWd s n i 11
  · rw [iF_t a]
    exact ⟨⟨fun x => absurd x (by decide), fun x => absurd a x.2⟩, ⟨fun x => absurd x (by decide), fun x => (d x a).elim⟩⟩
  · rw [iF_f a]
    by_cases b : isWd s n i 10
    · rw [iF_t b]
      exact ⟨⟨fun x => absurd x (by decide), fun x => absurd b x.1⟩, ⟨fun _ => b, fun _ => rfl⟩⟩
    · rw [iF_f b]
      exact ⟨⟨fun _ => ⟨b, a⟩, fun _ => by decide⟩, ⟨fun x => absurd x (by decide), fun x => absurd x b⟩⟩
section MRN
variable {l : Launch} {d : Nat} {h : Mem} {s : Nat → Int} {n N : Nat}
/-- behind a fault -/
theorem rn_bad {Q : Int → Shp → Mem → Prop} {m : Mem} {f : Int} (h0 : 0 < f) (hf : m 214 8 = f) (hQ : Q f SHP m) (a b : PV) : V l (d + 6) 0 0 M_X11_run 0 0 133 Q [(2, 215), a, b] [] SHP m := by
  refine S_X11_run_133 _ _ _ _ ?_; simp (disch := omega) only [B_X11_run_133, bi_0, x_ic, x_lc, x_ld, x_st, x_sl, x_inc, x_b32, x_b64, x_d32, x_d64, x_s64, x_un, x_lcmp, x_dup, x_pop, x_dup2, x_if, x_cmp, x_sw, swk, x_ald, x_ast, x_alen, x_getf, x_putf, x_inv, x_mm, x_copy, x_iret, x_lret, x_vret, ok1, pu, ct, rcv, rcs, ent0, List.getElem?_cons_zero, List.getElem?_cons_succ, List.getElem?_nil, List.set_cons_zero, List.set_cons_succ, List.take_succ_cons, List.take_zero, List.drop_succ_cons, List.drop_zero, List.reverse_cons, List.reverse_nil, List.nil_append, List.cons_append, List.length_cons, List.length_nil, true_and, and_true, and_self, ne_eq, not_true_eq_false, not_false_eq_true, reduceIte, true_or, or_true, false_or, or_false, Nat.reduceAdd, Nat.reduceSub, Nat.reduceMul, Nat.reduceLeDiff, Nat.reduceEqDiff, Nat.reduceLT, Nat.le_refl, Nat.zero_le, Int.reduceToNat, Int.reduceAdd, Int.reduceSub, Int.reduceMul, Int.reduceNeg, Int.reduceLT, Int.reduceLE, Int.reduceEq, Nat.zero_add, Nat.add_zero, Nat.reduceBEq, Nat.one_ne_zero, Nat.zero_ne_one, Nat.lt_irrefl, Nat.succ_ne_zero, w32_id, ixc, ixc2, Int.toNat_natCast, ob_214]
  refine Cl.app (r_takeSign1 (l := l) (d := d + 3) hf (by omega) 59) ?_
  (try simp (disch := omega) only [bi_0, x_ic, x_lc, x_ld, x_st, x_sl, x_inc, x_b32, x_b64, x_d32, x_d64, x_s64, x_un, x_lcmp, x_dup, x_pop, x_dup2, x_if, x_cmp, x_sw, swk, x_ald, x_ast, x_alen, x_getf, x_putf, x_inv, x_mm, x_copy, x_iret, x_lret, x_vret, ok1, pu, ct, rcv, rcs, ent0, List.getElem?_cons_zero, List.getElem?_cons_succ, List.getElem?_nil, List.set_cons_zero, List.set_cons_succ, List.take_succ_cons, List.take_zero, List.drop_succ_cons, List.drop_zero, List.reverse_cons, List.reverse_nil, List.nil_append, List.cons_append, List.length_cons, List.length_nil, true_and, and_true, and_self, ne_eq, not_true_eq_false, not_false_eq_true, reduceIte, true_or, or_true, false_or, or_false, Nat.reduceAdd, Nat.reduceSub, Nat.reduceMul, Nat.reduceLeDiff, Nat.reduceEqDiff, Nat.reduceLT, Nat.le_refl, Nat.zero_le, Int.reduceToNat, Int.reduceAdd, Int.reduceSub, Int.reduceMul, Int.reduceNeg, Int.reduceLT, Int.reduceLE, Int.reduceEq, Nat.zero_add, Nat.add_zero, Nat.reduceBEq, Nat.one_ne_zero, Nat.zero_ne_one, Nat.lt_irrefl, Nat.succ_ne_zero, w32_id, ixc, ixc2, Int.toNat_natCast])
  refine S_X11_run_11 _ _ _ _ ?_; simp (disch := omega) only [B_X11_run_11, bi_0, x_ic, x_lc, x_ld, x_st, x_sl, x_inc, x_b32, x_b64, x_d32, x_d64, x_s64, x_un, x_lcmp, x_dup, x_pop, x_dup2, x_if, x_cmp, x_sw, swk, x_ald, x_ast, x_alen, x_getf, x_putf, x_inv, x_mm, x_copy, x_iret, x_lret, x_vret, ok1, pu, ct, rcv, rcs, ent0, List.getElem?_cons_zero, List.getElem?_cons_succ, List.getElem?_nil, List.set_cons_zero, List.set_cons_succ, List.take_succ_cons, List.take_zero, List.drop_succ_cons, List.drop_zero, List.reverse_cons, List.reverse_nil, List.nil_append, List.cons_append, List.length_cons, List.length_nil, true_and, and_true, and_self, ne_eq, not_true_eq_false, not_false_eq_true, reduceIte, true_or, or_true, false_or, or_false, Nat.reduceAdd, Nat.reduceSub, Nat.reduceMul, Nat.reduceLeDiff, Nat.reduceEqDiff, Nat.reduceLT, Nat.le_refl, Nat.zero_le, Int.reduceToNat, Int.reduceAdd, Int.reduceSub, Int.reduceMul, Int.reduceNeg, Int.reduceLT, Int.reduceLE, Int.reduceEq, Nat.zero_add, Nat.add_zero, Nat.reduceBEq, Nat.one_ne_zero, Nat.zero_ne_one, Nat.lt_irrefl, Nat.succ_ne_zero, w32_id, ixc, ixc2, Int.toNat_natCast, ob_214, hf]
  refine ⟨fun y => absurd y (by omega), fun _ => ?_⟩
  refine S_X11_run_142 _ _ _ _ ?_; simp (disch := omega) only [B_X11_run_142, bi_0, x_ic, x_lc, x_ld, x_st, x_sl, x_inc, x_b32, x_b64, x_d32, x_d64, x_s64, x_un, x_lcmp, x_dup, x_pop, x_dup2, x_if, x_cmp, x_sw, swk, x_ald, x_ast, x_alen, x_getf, x_putf, x_inv, x_mm, x_copy, x_iret, x_lret, x_vret, ok1, pu, ct, rcv, rcs, ent0, List.getElem?_cons_zero, List.getElem?_cons_succ, List.getElem?_nil, List.set_cons_zero, List.set_cons_succ, List.take_succ_cons, List.take_zero, List.drop_succ_cons, List.drop_zero, List.reverse_cons, List.reverse_nil, List.nil_append, List.cons_append, List.length_cons, List.length_nil, true_and, and_true, and_self, ne_eq, not_true_eq_false, not_false_eq_true, reduceIte, true_or, or_true, false_or, or_false, Nat.reduceAdd, Nat.reduceSub, Nat.reduceMul, Nat.reduceLeDiff, Nat.reduceEqDiff, Nat.reduceLT, Nat.le_refl, Nat.zero_le, Int.reduceToNat, Int.reduceAdd, Int.reduceSub, Int.reduceMul, Int.reduceNeg, Int.reduceLT, Int.reduceLE, Int.reduceEq, Nat.zero_add, Nat.add_zero, Nat.reduceBEq, Nat.one_ne_zero, Nat.zero_ne_one, Nat.lt_irrefl, Nat.succ_ne_zero, w32_id, ixc, ixc2, Int.toNat_natCast, ob_214, hf]
  exact ⟨fun y => absurd y (by omega), fun _ => hQ⟩
/-- the end of a line: a stop or a fault -/
theorem rn_end {Q : Int → Shp → Mem → Prop} {m : Mem} {i : Nat} (K : KR m s n N) (A : AtR m N i 0) (a b : PV) (yes : isSn s n i 59 → V l (d + 6) 0 0 M_X11_run 0 0 11 Q [(2, 215), a, b] [] SHP (up m 214 7 ((i + 1 : Nat) : Int))) (no : ¬ isSn s n i 59 → Q (flt s n i 1) SHP (up m 214 8 (flt s n i 1))) : V l (d + 6) 0 0 M_X11_run 0 0 133 Q [(2, 215), a, b] [] SHP m := by
  have bb := flt_b (s := s) (n := n) (i := i) (w := 1) (by decide)
  refine S_X11_run_133 _ _ _ _ ?_; simp (disch := omega) only [B_X11_run_133, bi_0, x_ic, x_lc, x_ld, x_st, x_sl, x_inc, x_b32, x_b64, x_d32, x_d64, x_s64, x_un, x_lcmp, x_dup, x_pop, x_dup2, x_if, x_cmp, x_sw, swk, x_ald, x_ast, x_alen, x_getf, x_putf, x_inv, x_mm, x_copy, x_iret, x_lret, x_vret, ok1, pu, ct, rcv, rcs, ent0, List.getElem?_cons_zero, List.getElem?_cons_succ, List.getElem?_nil, List.set_cons_zero, List.set_cons_succ, List.take_succ_cons, List.take_zero, List.drop_succ_cons, List.drop_zero, List.reverse_cons, List.reverse_nil, List.nil_append, List.cons_append, List.length_cons, List.length_nil, true_and, and_true, and_self, ne_eq, not_true_eq_false, not_false_eq_true, reduceIte, true_or, or_true, false_or, or_false, Nat.reduceAdd, Nat.reduceSub, Nat.reduceMul, Nat.reduceLeDiff, Nat.reduceEqDiff, Nat.reduceLT, Nat.le_refl, Nat.zero_le, Int.reduceToNat, Int.reduceAdd, Int.reduceSub, Int.reduceMul, Int.reduceNeg, Int.reduceLT, Int.reduceLE, Int.reduceEq, Nat.zero_add, Nat.add_zero, Nat.reduceBEq, Nat.one_ne_zero, Nat.zero_ne_one, Nat.lt_irrefl, Nat.succ_ne_zero, w32_id, ixc, ixc2, Int.toNat_natCast, ob_214]
  refine Cl.imp (r_takeSign0 (l := l) (d := d + 3) K A 59) (fun r sh' m2 q => ?_)
  obtain ⟨rfl, rfl, q⟩ := q
  (try simp (disch := omega) only [bi_0, x_ic, x_lc, x_ld, x_st, x_sl, x_inc, x_b32, x_b64, x_d32, x_d64, x_s64, x_un, x_lcmp, x_dup, x_pop, x_dup2, x_if, x_cmp, x_sw, swk, x_ald, x_ast, x_alen, x_getf, x_putf, x_inv, x_mm, x_copy, x_iret, x_lret, x_vret, ok1, pu, ct, rcv, rcs, ent0, List.getElem?_cons_zero, List.getElem?_cons_succ, List.getElem?_nil, List.set_cons_zero, List.set_cons_succ, List.take_succ_cons, List.take_zero, List.drop_succ_cons, List.drop_zero, List.reverse_cons, List.reverse_nil, List.nil_append, List.cons_append, List.length_cons, List.length_nil, true_and, and_true, and_self, ne_eq, not_true_eq_false, not_false_eq_true, reduceIte, true_or, or_true, false_or, or_false, Nat.reduceAdd, Nat.reduceSub, Nat.reduceMul, Nat.reduceLeDiff, Nat.reduceEqDiff, Nat.reduceLT, Nat.le_refl, Nat.zero_le, Int.reduceToNat, Int.reduceAdd, Int.reduceSub, Int.reduceMul, Int.reduceNeg, Int.reduceLT, Int.reduceLE, Int.reduceEq, Nat.zero_add, Nat.add_zero, Nat.reduceBEq, Nat.one_ne_zero, Nat.zero_ne_one, Nat.lt_irrefl, Nat.succ_ne_zero, w32_id, ixc, ixc2, Int.toNat_natCast])
  rcases q with ⟨q1, rfl⟩ | ⟨q1, rfl⟩
  · exact yes q1
  · have g8 : up m 214 8 (flt s n i 1) 214 8 = flt s n i 1 := up_at
    refine S_X11_run_11 _ _ _ _ ?_; simp (disch := omega) only [B_X11_run_11, bi_0, x_ic, x_lc, x_ld, x_st, x_sl, x_inc, x_b32, x_b64, x_d32, x_d64, x_s64, x_un, x_lcmp, x_dup, x_pop, x_dup2, x_if, x_cmp, x_sw, swk, x_ald, x_ast, x_alen, x_getf, x_putf, x_inv, x_mm, x_copy, x_iret, x_lret, x_vret, ok1, pu, ct, rcv, rcs, ent0, List.getElem?_cons_zero, List.getElem?_cons_succ, List.getElem?_nil, List.set_cons_zero, List.set_cons_succ, List.take_succ_cons, List.take_zero, List.drop_succ_cons, List.drop_zero, List.reverse_cons, List.reverse_nil, List.nil_append, List.cons_append, List.length_cons, List.length_nil, true_and, and_true, and_self, ne_eq, not_true_eq_false, not_false_eq_true, reduceIte, true_or, or_true, false_or, or_false, Nat.reduceAdd, Nat.reduceSub, Nat.reduceMul, Nat.reduceLeDiff, Nat.reduceEqDiff, Nat.reduceLT, Nat.le_refl, Nat.zero_le, Int.reduceToNat, Int.reduceAdd, Int.reduceSub, Int.reduceMul, Int.reduceNeg, Int.reduceLT, Int.reduceLE, Int.reduceEq, Nat.zero_add, Nat.add_zero, Nat.reduceBEq, Nat.one_ne_zero, Nat.zero_ne_one, Nat.lt_irrefl, Nat.succ_ne_zero, w32_id, ixc, ixc2, Int.toNat_natCast, ob_214, g8]
    refine ⟨fun y => absurd y (by omega), fun _ => ?_⟩
    refine S_X11_run_142 _ _ _ _ ?_; simp (disch := omega) only [B_X11_run_142, bi_0, x_ic, x_lc, x_ld, x_st, x_sl, x_inc, x_b32, x_b64, x_d32, x_d64, x_s64, x_un, x_lcmp, x_dup, x_pop, x_dup2, x_if, x_cmp, x_sw, swk, x_ald, x_ast, x_alen, x_getf, x_putf, x_inv, x_mm, x_copy, x_iret, x_lret, x_vret, ok1, pu, ct, rcv, rcs, ent0, List.getElem?_cons_zero, List.getElem?_cons_succ, List.getElem?_nil, List.set_cons_zero, List.set_cons_succ, List.take_succ_cons, List.take_zero, List.drop_succ_cons, List.drop_zero, List.reverse_cons, List.reverse_nil, List.nil_append, List.cons_append, List.length_cons, List.length_nil, true_and, and_true, and_self, ne_eq, not_true_eq_false, not_false_eq_true, reduceIte, true_or, or_true, false_or, or_false, Nat.reduceAdd, Nat.reduceSub, Nat.reduceMul, Nat.reduceLeDiff, Nat.reduceEqDiff, Nat.reduceLT, Nat.le_refl, Nat.zero_le, Int.reduceToNat, Int.reduceAdd, Int.reduceSub, Int.reduceMul, Int.reduceNeg, Int.reduceLT, Int.reduceLE, Int.reduceEq, Nat.zero_add, Nat.add_zero, Nat.reduceBEq, Nat.one_ne_zero, Nat.zero_ne_one, Nat.lt_irrefl, Nat.succ_ne_zero, w32_id, ixc, ixc2, Int.toNat_natCast, ob_214, g8]
    exact ⟨fun y => absurd y (by omega), fun _ => no q1⟩
end MRN
theorem bit0 {v : Int} (h : 0 ≤ v ∧ v < 6) : ¬ bitP 0 v := by
  unfold bitP
  have : v = 0 ∨ v = 1 ∨ v = 2 ∨ v = 3 ∨ v = 4 ∨ v = 5 := by omega
  rcases this with rfl | rfl | rfl | rfl | rfl | rfl <;> decide
section MRN2
variable {l : Launch} {d : Nat} {h : Mem} {s : Nat → Int} {n N nf : Nat}
/-- the lines as they were read, from place a on -/
noncomputable def rnW (s : Nat → Int) (n : Nat) (nm : Nat → Int) (nf : Nat) (row : Nat → Int) (a k : Nat) : Prop := ∀ j, j < k → row (a + 2 * j) = (rnL s n nm nf (rnI s n nm nf j) j).2.2.1 ∧ row (a + 1 + 2 * j) = (rnL s n nm nf (rnI s n nm nf j) j).2.2.2
theorem rn_loop {Q : Int → Shp → Mem → Prop} (K : KR h s n N) (hf : h 220 2 = (nf : Int)) (hf4 : nf ≤ 4)
    (bad : ∀ k f m, Frn h m → RnE s n (h 222) nf k f → f ≠ 0 → Q f SHP m)
    (good : ∀ (k : Nat) m, k ≤ 40 → Frn h m → RnE s n (h 222) nf k 0 → rnW s n (h 222) nf (m 223) 85 k → m 214 8 = 0 → ∀ b, V l (d + 6) 0 0 M_X11_run 0 0 142 Q [(2, 215), (0, (k : Int)), b] [] SHP m) :
    ∀ (g k : Nat) (m : Mem), k + g = 41 → k ≤ 40 → Frn h m → AtR m N (rnI s n (h 222) nf k) 0 → RnK s n (h 222) nf k → rnW s n (h 222) nf (m 223) 85 k → ∀ b, V l (d + 6) 0 0 M_X11_run 0 0 11 Q [(2, 215), (0, (k : Int)), b] [] SHP m := by
  intro g
  induction g with
  | zero => intro k m hg hk; omega
  | succ g ih =>
    intro k m hg hk F A R W b
    have K2 := F.kr K
    generalize hi : rnI s n (h 222) nf k = i at A
    have r6 := K2.2.2.2.2.1 i A.2.1
    have q6 : m 216 i = 0 ↔ tkSo s n i = 0 := by rw [r6.2.1]
    have LN := K2.2.2.1
    have iN : i ≤ N := A.2.1
    have nN := K2.2.2.2.1
    have n3 : n ≤ 1000 := LN.1
    have a7 := A.1
    have a8 := A.2.2
    have bb1 := flt_b (s := s) (n := n) (i := i) (w := 1) (by decide)
    have m222 : m 222 = h 222 := F.1 222 (by decide) (by decide)
    have m220 : m 220 = h 220 := F.1 220 (by decide) (by decide)
    have nx : tkSo s n i = 1 → i + 1 ≤ N := fun x => K2.lt A.2.1 (by omega)
    have fail : ∀ (f : Int) (m2 : Mem), 1 ≤ f → Frn h m2 → m2 214 8 = f → tkSo s n i ≠ 0 → (rnL s n (h 222) nf i k).1 = f → ∀ a b, V l (d + 6) 0 0 M_X11_run 0 0 133 Q [(2, 215), a, b] [] SHP m2 := fun f m2 h0 F2 e8 nz er a b => rn_bad (by omega) e8 (bad k f m2 F2 ⟨R, Or.inr ⟨by omega, by rw [hi]; exact nz, by rw [hi]; exact er.symm⟩⟩ (by omega)) a b
    -- behind a fault in the flow's name
    have tail : ∀ (f : Int) (m2 : Mem) (v c : Int), 1 ≤ f → Frn h m2 → m2 214 8 = f → tkSo s n i ≠ 0 → k < 40 → (rnL s n (h 222) nf i k).1 = f → c ≠ 0 → V l (d + 6) 0 0 M_X11_run 0 0 103 Q [(2, 215), (0, (k : Int)), (0, c)] [(0, v), (0, 85 + 2 * (k : Int)), (2, 224)] SHP m2 := by
      intro f m2 v c h0 F2 e8 nz hk4 er hc
      have e14 : up m2 223 (85 + 2 * (k : Int)).toNat v 214 14 = 224 := by rw [up_ne (by decide)]; exact ly_214_14 (F2.lay K.1)
      refine S_X11_run_103 _ _ _ _ ?_; simp (disch := omega) only [B_X11_run_103, bi_0, x_ic, x_lc, x_ld, x_st, x_sl, x_inc, x_b32, x_b64, x_d32, x_d64, x_s64, x_un, x_lcmp, x_dup, x_pop, x_dup2, x_if, x_cmp, x_sw, swk, x_ald, x_ast, x_alen, x_getf, x_putf, x_inv, x_mm, x_copy, x_iret, x_lret, x_vret, ok1, pu, ct, rcv, rcs, ent0, List.getElem?_cons_zero, List.getElem?_cons_succ, List.getElem?_nil, List.set_cons_zero, List.set_cons_succ, List.take_succ_cons, List.take_zero, List.drop_succ_cons, List.drop_zero, List.reverse_cons, List.reverse_nil, List.nil_append, List.cons_append, List.length_cons, List.length_nil, true_and, and_true, and_self, ne_eq, not_true_eq_false, not_false_eq_true, reduceIte, true_or, or_true, false_or, or_false, Nat.reduceAdd, Nat.reduceSub, Nat.reduceMul, Nat.reduceLeDiff, Nat.reduceEqDiff, Nat.reduceLT, Nat.le_refl, Nat.zero_le, Int.reduceToNat, Int.reduceAdd, Int.reduceSub, Int.reduceMul, Int.reduceNeg, Int.reduceLT, Int.reduceLE, Int.reduceEq, Nat.zero_add, Nat.add_zero, Nat.reduceBEq, Nat.one_ne_zero, Nat.zero_ne_one, Nat.lt_irrefl, Nat.succ_ne_zero, w32_id, ixc, ixc2, Int.toNat_natCast, ob_214, ln_223, e14]
      refine ⟨by omega, fun y => absurd y hc, fun _ => ?_⟩
      have e9 : up m2 223 (85 + 2 * (k : Int)).toNat v 214 8 = f := by rw [up_ne (by decide)]; exact e8
      refine S_X11_run_122 _ _ _ _ ?_; simp (disch := omega) only [B_X11_run_122, bi_0, x_ic, x_lc, x_ld, x_st, x_sl, x_inc, x_b32, x_b64, x_d32, x_d64, x_s64, x_un, x_lcmp, x_dup, x_pop, x_dup2, x_if, x_cmp, x_sw, swk, x_ald, x_ast, x_alen, x_getf, x_putf, x_inv, x_mm, x_copy, x_iret, x_lret, x_vret, ok1, pu, ct, rcv, rcs, ent0, List.getElem?_cons_zero, List.getElem?_cons_succ, List.getElem?_nil, List.set_cons_zero, List.set_cons_succ, List.take_succ_cons, List.take_zero, List.drop_succ_cons, List.drop_zero, List.reverse_cons, List.reverse_nil, List.nil_append, List.cons_append, List.length_cons, List.length_nil, true_and, and_true, and_self, ne_eq, not_true_eq_false, not_false_eq_true, reduceIte, true_or, or_true, false_or, or_false, Nat.reduceAdd, Nat.reduceSub, Nat.reduceMul, Nat.reduceLeDiff, Nat.reduceEqDiff, Nat.reduceLT, Nat.le_refl, Nat.zero_le, Int.reduceToNat, Int.reduceAdd, Int.reduceSub, Int.reduceMul, Int.reduceNeg, Int.reduceLT, Int.reduceLE, Int.reduceEq, Nat.zero_add, Nat.add_zero, Nat.reduceBEq, Nat.one_ne_zero, Nat.zero_ne_one, Nat.lt_irrefl, Nat.succ_ne_zero, w32_id, ixc, ixc2, Int.toNat_natCast, ob_214]
      refine Cl.app (r_takeNumber1 (l := l) (d := d + 3) e9 (by omega) 1 9) ?_
      (try simp (disch := omega) only [bi_0, x_ic, x_lc, x_ld, x_st, x_sl, x_inc, x_b32, x_b64, x_d32, x_d64, x_s64, x_un, x_lcmp, x_dup, x_pop, x_dup2, x_if, x_cmp, x_sw, swk, x_ald, x_ast, x_alen, x_getf, x_putf, x_inv, x_mm, x_copy, x_iret, x_lret, x_vret, ok1, pu, ct, rcv, rcs, ent0, List.getElem?_cons_zero, List.getElem?_cons_succ, List.getElem?_nil, List.set_cons_zero, List.set_cons_succ, List.take_succ_cons, List.take_zero, List.drop_succ_cons, List.drop_zero, List.reverse_cons, List.reverse_nil, List.nil_append, List.cons_append, List.length_cons, List.length_nil, true_and, and_true, and_self, ne_eq, not_true_eq_false, not_false_eq_true, reduceIte, true_or, or_true, false_or, or_false, Nat.reduceAdd, Nat.reduceSub, Nat.reduceMul, Nat.reduceLeDiff, Nat.reduceEqDiff, Nat.reduceLT, Nat.le_refl, Nat.zero_le, Int.reduceToNat, Int.reduceAdd, Int.reduceSub, Int.reduceMul, Int.reduceNeg, Int.reduceLT, Int.reduceLE, Int.reduceEq, Nat.zero_add, Nat.add_zero, Nat.reduceBEq, Nat.one_ne_zero, Nat.zero_ne_one, Nat.lt_irrefl, Nat.succ_ne_zero, w32_id, ixc, ixc2, Int.toNat_natCast])
      refine S_X11_run_129 _ _ _ _ ?_; simp (disch := omega) only [B_X11_run_129, bi_0, x_ic, x_lc, x_ld, x_st, x_sl, x_inc, x_b32, x_b64, x_d32, x_d64, x_s64, x_un, x_lcmp, x_dup, x_pop, x_dup2, x_if, x_cmp, x_sw, swk, x_ald, x_ast, x_alen, x_getf, x_putf, x_inv, x_mm, x_copy, x_iret, x_lret, x_vret, ok1, pu, ct, rcv, rcs, ent0, List.getElem?_cons_zero, List.getElem?_cons_succ, List.getElem?_nil, List.set_cons_zero, List.set_cons_succ, List.take_succ_cons, List.take_zero, List.drop_succ_cons, List.drop_zero, List.reverse_cons, List.reverse_nil, List.nil_append, List.cons_append, List.length_cons, List.length_nil, true_and, and_true, and_self, ne_eq, not_true_eq_false, not_false_eq_true, reduceIte, true_or, or_true, false_or, or_false, Nat.reduceAdd, Nat.reduceSub, Nat.reduceMul, Nat.reduceLeDiff, Nat.reduceEqDiff, Nat.reduceLT, Nat.le_refl, Nat.zero_le, Int.reduceToNat, Int.reduceAdd, Int.reduceSub, Int.reduceMul, Int.reduceNeg, Int.reduceLT, Int.reduceLE, Int.reduceEq, Nat.zero_add, Nat.add_zero, Nat.reduceBEq, Nat.one_ne_zero, Nat.zero_ne_one, Nat.lt_irrefl, Nat.succ_ne_zero, w32_id, ixc, ixc2, Int.toNat_natCast, ln_223]
      refine ⟨by omega, ?_⟩
      exact fail f _ h0 (F2.trans ((Frn_l (by omega)).trans (Frn_l (by omega)))) (by rw [up_ne (by decide), up_ne (by decide)]; exact e8) nz er _ _
    refine S_X11_run_11 _ _ _ _ ?_; simp (disch := omega) only [B_X11_run_11, bi_0, x_ic, x_lc, x_ld, x_st, x_sl, x_inc, x_b32, x_b64, x_d32, x_d64, x_s64, x_un, x_lcmp, x_dup, x_pop, x_dup2, x_if, x_cmp, x_sw, swk, x_ald, x_ast, x_alen, x_getf, x_putf, x_inv, x_mm, x_copy, x_iret, x_lret, x_vret, ok1, pu, ct, rcv, rcs, ent0, List.getElem?_cons_zero, List.getElem?_cons_succ, List.getElem?_nil, List.set_cons_zero, List.set_cons_succ, List.take_succ_cons, List.take_zero, List.drop_succ_cons, List.drop_zero, List.reverse_cons, List.reverse_nil, List.nil_append, List.cons_append, List.length_cons, List.length_nil, true_and, and_true, and_self, ne_eq, not_true_eq_false, not_false_eq_true, reduceIte, true_or, or_true, false_or, or_false, Nat.reduceAdd, Nat.reduceSub, Nat.reduceMul, Nat.reduceLeDiff, Nat.reduceEqDiff, Nat.reduceLT, Nat.le_refl, Nat.zero_le, Int.reduceToNat, Int.reduceAdd, Int.reduceSub, Int.reduceMul, Int.reduceNeg, Int.reduceLT, Int.reduceLE, Int.reduceEq, Nat.zero_add, Nat.add_zero, Nat.reduceBEq, Nat.one_ne_zero, Nat.zero_ne_one, Nat.lt_irrefl, Nat.succ_ne_zero, w32_id, ixc, ixc2, Int.toNat_natCast, ob_214, a7, a8, ly_214_4 K2.1, ln_216]
    refine ⟨fun _ => ⟨by omega, fun z => ?_, fun z => ?_⟩, fun y => y.elim⟩
    · exact good k m hk F ⟨R, Or.inl ⟨rfl, by rw [hi]; exact q6.mp z⟩⟩ W a8 _
    have nz : tkSo s n i ≠ 0 := fun x => z (q6.mpr x)
    have wh := wh2 (s := s) (n := n) (i := i)
    have wb := whF_b (s := s) (n := n) (i := i) (w0 := 10) (k := 2)
    refine Cl.app (r_wordHere0 (l := l) (d := d + 3) K2 A (w0 := 10) (m := 2) (by decide)) ?_
    obtain ⟨c, hc⟩ : ∃ c, c = whF s n i 10 2 := ⟨_, rfl⟩
    rw [← hc] at wh wb ⊢
    (try simp (disch := omega) only [bi_0, x_ic, x_lc, x_ld, x_st, x_sl, x_inc, x_b32, x_b64, x_d32, x_d64, x_s64, x_un, x_lcmp, x_dup, x_pop, x_dup2, x_if, x_cmp, x_sw, swk, x_ald, x_ast, x_alen, x_getf, x_putf, x_inv, x_mm, x_copy, x_iret, x_lret, x_vret, ok1, pu, ct, rcv, rcs, ent0, List.getElem?_cons_zero, List.getElem?_cons_succ, List.getElem?_nil, List.set_cons_zero, List.set_cons_succ, List.take_succ_cons, List.take_zero, List.drop_succ_cons, List.drop_zero, List.reverse_cons, List.reverse_nil, List.nil_append, List.cons_append, List.length_cons, List.length_nil, true_and, and_true, and_self, ne_eq, not_true_eq_false, not_false_eq_true, reduceIte, true_or, or_true, false_or, or_false, Nat.reduceAdd, Nat.reduceSub, Nat.reduceMul, Nat.reduceLeDiff, Nat.reduceEqDiff, Nat.reduceLT, Nat.le_refl, Nat.zero_le, Int.reduceToNat, Int.reduceAdd, Int.reduceSub, Int.reduceMul, Int.reduceNeg, Int.reduceLT, Int.reduceLE, Int.reduceEq, Nat.zero_add, Nat.add_zero, Nat.reduceBEq, Nat.one_ne_zero, Nat.zero_ne_one, Nat.lt_irrefl, Nat.succ_ne_zero, w32_id, ixc, ixc2, Int.toNat_natCast, ob_214])
    refine ⟨fun y => ?_, fun y => ?_⟩
    · -- a line
      have nw : ¬ (¬ isWd s n i 10 ∧ ¬ isWd s n i 11) := fun x => absurd (wh.1.mpr x) (by omega)
      have so1 : tkSo s n i = 1 := by
        rcases Classical.not_and_iff_not_or_not.mp nw with x | x
        · exact (Classical.not_not.mp x).1
        · exact (Classical.not_not.mp x).1
      have iN1 := nx so1
      refine S_X11_run_50 _ _ _ _ ?_; simp (disch := omega) only [B_X11_run_50, bi_0, x_ic, x_lc, x_ld, x_st, x_sl, x_inc, x_b32, x_b64, x_d32, x_d64, x_s64, x_un, x_lcmp, x_dup, x_pop, x_dup2, x_if, x_cmp, x_sw, swk, x_ald, x_ast, x_alen, x_getf, x_putf, x_inv, x_mm, x_copy, x_iret, x_lret, x_vret, ok1, pu, ct, rcv, rcs, ent0, List.getElem?_cons_zero, List.getElem?_cons_succ, List.getElem?_nil, List.set_cons_zero, List.set_cons_succ, List.take_succ_cons, List.take_zero, List.drop_succ_cons, List.drop_zero, List.reverse_cons, List.reverse_nil, List.nil_append, List.cons_append, List.length_cons, List.length_nil, true_and, and_true, and_self, ne_eq, not_true_eq_false, not_false_eq_true, reduceIte, true_or, or_true, false_or, or_false, Nat.reduceAdd, Nat.reduceSub, Nat.reduceMul, Nat.reduceLeDiff, Nat.reduceEqDiff, Nat.reduceLT, Nat.le_refl, Nat.zero_le, Int.reduceToNat, Int.reduceAdd, Int.reduceSub, Int.reduceMul, Int.reduceNeg, Int.reduceLT, Int.reduceLE, Int.reduceEq, Nat.zero_add, Nat.add_zero, Nat.reduceBEq, Nat.one_ne_zero, Nat.zero_ne_one, Nat.lt_irrefl, Nat.succ_ne_zero, w32_id, ixc, ixc2, Int.toNat_natCast, ob_214]
      refine ⟨fun x => ?_, fun x => ?_⟩
      · refine Cl.app (r_wrong0 (l := l) (d := d + 4) K2 A (w := 5) (by decide)) ?_
        (try simp (disch := omega) only [bi_0, x_ic, x_lc, x_ld, x_st, x_sl, x_inc, x_b32, x_b64, x_d32, x_d64, x_s64, x_un, x_lcmp, x_dup, x_pop, x_dup2, x_if, x_cmp, x_sw, swk, x_ald, x_ast, x_alen, x_getf, x_putf, x_inv, x_mm, x_copy, x_iret, x_lret, x_vret, ok1, pu, ct, rcv, rcs, ent0, List.getElem?_cons_zero, List.getElem?_cons_succ, List.getElem?_nil, List.set_cons_zero, List.set_cons_succ, List.take_succ_cons, List.take_zero, List.drop_succ_cons, List.drop_zero, List.reverse_cons, List.reverse_nil, List.nil_append, List.cons_append, List.length_cons, List.length_nil, true_and, and_true, and_self, ne_eq, not_true_eq_false, not_false_eq_true, reduceIte, true_or, or_true, false_or, or_false, Nat.reduceAdd, Nat.reduceSub, Nat.reduceMul, Nat.reduceLeDiff, Nat.reduceEqDiff, Nat.reduceLT, Nat.le_refl, Nat.zero_le, Int.reduceToNat, Int.reduceAdd, Int.reduceSub, Int.reduceMul, Int.reduceNeg, Int.reduceLT, Int.reduceLE, Int.reduceEq, Nat.zero_add, Nat.add_zero, Nat.reduceBEq, Nat.one_ne_zero, Nat.zero_ne_one, Nat.lt_irrefl, Nat.succ_ne_zero, w32_id, ixc, ixc2, Int.toNat_natCast])
        refine fail (flt s n i 5) _ (flt_b (by decide)) (F.trans (Frn_f (Or.inr rfl))) up_at nz ?_ _ _
        unfold rnL
        rw [iF_f nw, iF_t (by omega)]
      have k4 : ¬ k = 40 := by omega
      obtain ⟨m1, hm1⟩ : ∃ m1, m1 = up m 214 7 ((i + 1 : Nat) : Int) := ⟨_, rfl⟩
      have em : up m 214 7 ((i : Int) + 1) = m1 := hm1.symm
      have A1 : AtR m1 N (i + 1) 0 := by rw [hm1]; exact ⟨up_at, iN1, by rw [up_nj (by decide)]; exact a8⟩
      have F1 : Frn h m1 := by rw [hm1]; exact F.trans (Frn_f (Or.inl rfl))
      have K1 := F1.kr K
      have W1 : rnW s n (h 222) nf (m1 223) 85 k := by rw [hm1, up_ne (by decide)]; exact W
      refine S_X11_run_64 _ _ _ _ ?_; simp (disch := omega) only [B_X11_run_64, bi_0, x_ic, x_lc, x_ld, x_st, x_sl, x_inc, x_b32, x_b64, x_d32, x_d64, x_s64, x_un, x_lcmp, x_dup, x_pop, x_dup2, x_if, x_cmp, x_sw, swk, x_ald, x_ast, x_alen, x_getf, x_putf, x_inv, x_mm, x_copy, x_iret, x_lret, x_vret, ok1, pu, ct, rcv, rcs, ent0, List.getElem?_cons_zero, List.getElem?_cons_succ, List.getElem?_nil, List.set_cons_zero, List.set_cons_succ, List.take_succ_cons, List.take_zero, List.drop_succ_cons, List.drop_zero, List.reverse_cons, List.reverse_nil, List.nil_append, List.cons_append, List.length_cons, List.length_nil, true_and, and_true, and_self, ne_eq, not_true_eq_false, not_false_eq_true, reduceIte, true_or, or_true, false_or, or_false, Nat.reduceAdd, Nat.reduceSub, Nat.reduceMul, Nat.reduceLeDiff, Nat.reduceEqDiff, Nat.reduceLT, Nat.le_refl, Nat.zero_le, Int.reduceToNat, Int.reduceAdd, Int.reduceSub, Int.reduceMul, Int.reduceNeg, Int.reduceLT, Int.reduceLE, Int.reduceEq, Nat.zero_add, Nat.add_zero, Nat.reduceBEq, Nat.one_ne_zero, Nat.zero_ne_one, Nat.lt_irrefl, Nat.succ_ne_zero, w32_id, ixc, ixc2, Int.toNat_natCast, ob_214, a7, em, ly_214_14 K1.1]
      refine ⟨fun c0 => ?_, fun c0 => ?_⟩
      · -- a tick
        have w10 := wh.2.mp c0
        have e14 : up m1 223 (85 + 2 * (k : Int)).toNat (-1) 214 14 = 224 := by rw [up_ne (by decide)]; exact ly_214_14 K1.1
        refine S_X11_run_103 _ _ _ _ ?_; simp (disch := omega) only [B_X11_run_103, bi_0, x_ic, x_lc, x_ld, x_st, x_sl, x_inc, x_b32, x_b64, x_d32, x_d64, x_s64, x_un, x_lcmp, x_dup, x_pop, x_dup2, x_if, x_cmp, x_sw, swk, x_ald, x_ast, x_alen, x_getf, x_putf, x_inv, x_mm, x_copy, x_iret, x_lret, x_vret, ok1, pu, ct, rcv, rcs, ent0, List.getElem?_cons_zero, List.getElem?_cons_succ, List.getElem?_nil, List.set_cons_zero, List.set_cons_succ, List.take_succ_cons, List.take_zero, List.drop_succ_cons, List.drop_zero, List.reverse_cons, List.reverse_nil, List.nil_append, List.cons_append, List.length_cons, List.length_nil, true_and, and_true, and_self, ne_eq, not_true_eq_false, not_false_eq_true, reduceIte, true_or, or_true, false_or, or_false, Nat.reduceAdd, Nat.reduceSub, Nat.reduceMul, Nat.reduceLeDiff, Nat.reduceEqDiff, Nat.reduceLT, Nat.le_refl, Nat.zero_le, Int.reduceToNat, Int.reduceAdd, Int.reduceSub, Int.reduceMul, Int.reduceNeg, Int.reduceLT, Int.reduceLE, Int.reduceEq, Nat.zero_add, Nat.add_zero, Nat.reduceBEq, Nat.one_ne_zero, Nat.zero_ne_one, Nat.lt_irrefl, Nat.succ_ne_zero, w32_id, ixc, ixc2, Int.toNat_natCast, ob_214, e14, ln_223]
        refine ⟨by omega, fun _ => ?_, fun y => absurd c0 y⟩
        refine S_X11_run_129 _ _ _ _ ?_; simp (disch := omega) only [B_X11_run_129, bi_0, x_ic, x_lc, x_ld, x_st, x_sl, x_inc, x_b32, x_b64, x_d32, x_d64, x_s64, x_un, x_lcmp, x_dup, x_pop, x_dup2, x_if, x_cmp, x_sw, swk, x_ald, x_ast, x_alen, x_getf, x_putf, x_inv, x_mm, x_copy, x_iret, x_lret, x_vret, ok1, pu, ct, rcv, rcs, ent0, List.getElem?_cons_zero, List.getElem?_cons_succ, List.getElem?_nil, List.set_cons_zero, List.set_cons_succ, List.take_succ_cons, List.take_zero, List.drop_succ_cons, List.drop_zero, List.reverse_cons, List.reverse_nil, List.nil_append, List.cons_append, List.length_cons, List.length_nil, true_and, and_true, and_self, ne_eq, not_true_eq_false, not_false_eq_true, reduceIte, true_or, or_true, false_or, or_false, Nat.reduceAdd, Nat.reduceSub, Nat.reduceMul, Nat.reduceLeDiff, Nat.reduceEqDiff, Nat.reduceLT, Nat.le_refl, Nat.zero_le, Int.reduceToNat, Int.reduceAdd, Int.reduceSub, Int.reduceMul, Int.reduceNeg, Int.reduceLT, Int.reduceLE, Int.reduceEq, Nat.zero_add, Nat.add_zero, Nat.reduceBEq, Nat.one_ne_zero, Nat.zero_ne_one, Nat.lt_irrefl, Nat.succ_ne_zero, w32_id, ixc, ixc2, Int.toNat_natCast, ln_223]
        refine ⟨by omega, ?_⟩
        obtain ⟨m2, hm2⟩ : ∃ m2, m2 = up (up m1 223 (85 + 2 * (k : Int)).toNat (-1)) 223 (86 + 2 * (k : Int)).toNat 0 := ⟨_, rfl⟩
        rw [← hm2]
        have F2 : Frn h m2 := by rw [hm2]; exact F1.trans ((Frn_l (by omega)).trans (Frn_l (by omega)))
        have A2 : AtR m2 N (i + 1) 0 := by unfold AtR; rw [hm2, up_ne (by decide), up_ne (by decide)]; exact A1
        refine rn_end (F2.kr K) A2 _ _ (fun sn => ?_) (fun sn => ?_)
        · have er : rnL s n (h 222) nf i k = (0, i + 2, -1, 0) := by
            unfold rnL
            rw [iF_f nw, iF_f k4, iF_t w10, iF_t sn]
          refine ih (k + 1) _ (by omega) (by omega) (F2.trans (Frn_f (Or.inl rfl))) ⟨?_, ?_, ?_⟩ (fun j hj => ?_) (fun j hj => ?_) _
          · rw [up_at, rnI, hi, er]
          · rw [rnI, hi, er]; exact (F2.kr K).lt A2.2.1 (by rw [sn.1]; decide)
          · rw [up_nj (by decide)]; exact A2.2.2
          · by_cases e : j = k
            · rw [e, hi, er]; exact ⟨nz, rfl⟩
            · exact R j (by omega)
          · rw [up_ne (by decide), hm2]
            by_cases e : j = k
            · rw [e, hi, er, show (86 + 2 * (k : Int)).toNat = 85 + 1 + 2 * k by omega, show (85 + 2 * (k : Int)).toNat = 85 + 2 * k by omega]
              exact ⟨by rw [up_nj (by omega), up_at], up_at⟩
            · rw [up_nj (by omega), up_nj (by omega), up_nj (by omega), up_nj (by omega)]; exact W1 j (by omega)
        · have er : (rnL s n (h 222) nf i k).1 = flt s n (i + 1) 1 := by
            unfold rnL
            rw [iF_f nw, iF_f k4, iF_t w10, iF_f sn]
          have bb := flt_b (s := s) (n := n) (i := i + 1) (w := 1) (by decide)
          exact bad k _ _ (F2.trans (Frn_f (Or.inr rfl))) ⟨R, Or.inr ⟨by omega, by rw [hi]; exact nz, by rw [hi]; exact er.symm⟩⟩ (by omega)
      · -- a put
        have w10 : ¬ isWd s n i 10 := fun x => c0 (wh.2.mpr x)
        have fl := r_flows (l := l) (d := d + 4) K1.1
        have ef : m1 220 2 = (nf : Int) := by rw [F1.1 220 (by decide) (by decide)]; exact hf
        rw [ef] at fl
        have e222 : m1 222 = h 222 := F1.1 222 (by decide) (by decide)
        refine S_X11_run_92 _ _ _ _ ?_; simp (disch := omega) only [B_X11_run_92, bi_0, x_ic, x_lc, x_ld, x_st, x_sl, x_inc, x_b32, x_b64, x_d32, x_d64, x_s64, x_un, x_lcmp, x_dup, x_pop, x_dup2, x_if, x_cmp, x_sw, swk, x_ald, x_ast, x_alen, x_getf, x_putf, x_inv, x_mm, x_copy, x_iret, x_lret, x_vret, ok1, pu, ct, rcv, rcs, ent0, List.getElem?_cons_zero, List.getElem?_cons_succ, List.getElem?_nil, List.set_cons_zero, List.set_cons_succ, List.take_succ_cons, List.take_zero, List.drop_succ_cons, List.drop_zero, List.reverse_cons, List.reverse_nil, List.nil_append, List.cons_append, List.length_cons, List.length_nil, true_and, and_true, and_self, ne_eq, not_true_eq_false, not_false_eq_true, reduceIte, true_or, or_true, false_or, or_false, Nat.reduceAdd, Nat.reduceSub, Nat.reduceMul, Nat.reduceLeDiff, Nat.reduceEqDiff, Nat.reduceLT, Nat.le_refl, Nat.zero_le, Int.reduceToNat, Int.reduceAdd, Int.reduceSub, Int.reduceMul, Int.reduceNeg, Int.reduceLT, Int.reduceLE, Int.reduceEq, Nat.zero_add, Nat.add_zero, Nat.reduceBEq, Nat.one_ne_zero, Nat.zero_ne_one, Nat.lt_irrefl, Nat.succ_ne_zero, w32_id, ixc, ixc2, Int.toNat_natCast, ob_214]
        refine Cl.app fl ?_
        (try simp (disch := omega) only [bi_0, x_ic, x_lc, x_ld, x_st, x_sl, x_inc, x_b32, x_b64, x_d32, x_d64, x_s64, x_un, x_lcmp, x_dup, x_pop, x_dup2, x_if, x_cmp, x_sw, swk, x_ald, x_ast, x_alen, x_getf, x_putf, x_inv, x_mm, x_copy, x_iret, x_lret, x_vret, ok1, pu, ct, rcv, rcs, ent0, List.getElem?_cons_zero, List.getElem?_cons_succ, List.getElem?_nil, List.set_cons_zero, List.set_cons_succ, List.take_succ_cons, List.take_zero, List.drop_succ_cons, List.drop_zero, List.reverse_cons, List.reverse_nil, List.nil_append, List.cons_append, List.length_cons, List.length_nil, true_and, and_true, and_self, ne_eq, not_true_eq_false, not_false_eq_true, reduceIte, true_or, or_true, false_or, or_false, Nat.reduceAdd, Nat.reduceSub, Nat.reduceMul, Nat.reduceLeDiff, Nat.reduceEqDiff, Nat.reduceLT, Nat.le_refl, Nat.zero_le, Int.reduceToNat, Int.reduceAdd, Int.reduceSub, Int.reduceMul, Int.reduceNeg, Int.reduceLT, Int.reduceLE, Int.reduceEq, Nat.zero_add, Nat.add_zero, Nat.reduceBEq, Nat.one_ne_zero, Nat.zero_ne_one, Nat.lt_irrefl, Nat.succ_ne_zero, w32_id, ixc, ixc2, Int.toNat_natCast, ob_214])
        refine Cl.imp (r_takeTold0 (l := l) (d := d + 1) K1 A1 (a := 10) (m := nf) (by omega) 0) (fun v sh' m2 q => ?_)
        obtain ⟨rfl, q⟩ := q
        rw [e222] at q
        have nb := naF_b (nm := h 222) (v := tkVa s n (i + 1)) (a := 10) (k := nf)
        (try simp (disch := omega) only [bi_0, x_ic, x_lc, x_ld, x_st, x_sl, x_inc, x_b32, x_b64, x_d32, x_d64, x_s64, x_un, x_lcmp, x_dup, x_pop, x_dup2, x_if, x_cmp, x_sw, swk, x_ald, x_ast, x_alen, x_getf, x_putf, x_inv, x_mm, x_copy, x_iret, x_lret, x_vret, ok1, pu, ct, rcv, rcs, ent0, List.getElem?_cons_zero, List.getElem?_cons_succ, List.getElem?_nil, List.set_cons_zero, List.set_cons_succ, List.take_succ_cons, List.take_zero, List.drop_succ_cons, List.drop_zero, List.reverse_cons, List.reverse_nil, List.nil_append, List.cons_append, List.length_cons, List.length_nil, true_and, and_true, and_self, ne_eq, not_true_eq_false, not_false_eq_true, reduceIte, true_or, or_true, false_or, or_false, Nat.reduceAdd, Nat.reduceSub, Nat.reduceMul, Nat.reduceLeDiff, Nat.reduceEqDiff, Nat.reduceLT, Nat.le_refl, Nat.zero_le, Int.reduceToNat, Int.reduceAdd, Int.reduceSub, Int.reduceMul, Int.reduceNeg, Int.reduceLT, Int.reduceLE, Int.reduceEq, Nat.zero_add, Nat.add_zero, Nat.reduceBEq, Nat.one_ne_zero, Nat.zero_ne_one, Nat.lt_irrefl, Nat.succ_ne_zero, w32_id, ixc, ixc2, Int.toNat_natCast])
        rcases q with ⟨a1, rfl, rfl⟩ | ⟨a1, a2, rfl, rfl⟩ | ⟨a1, a2, a3, rfl, rfl⟩ | ⟨a1, a2, a3, rfl, rfl⟩
        · refine tail (flt s n (i + 1) 1) _ _ _ (flt_b (by decide)) (F1.trans (Frn_f (Or.inr rfl))) up_at nz (by omega) ?_ c0
          unfold rnL
          rw [iF_f nw, iF_f k4, iF_f w10, iF_t a1]
        · refine tail (flt s n (i + 1) 2) _ _ _ (flt_b (by decide)) (F1.trans (Frn_f (Or.inr rfl))) up_at nz (by omega) ?_ c0
          unfold rnL
          rw [iF_f nw, iF_f k4, iF_f w10, iF_f (fun x => x a1), iF_t a2]
        · exact absurd a3 (bit0 (by omega))
        obtain ⟨m2, hm2⟩ : ∃ m2, m2 = up m1 214 7 ((i + 1 + 1 : Nat) : Int) := ⟨_, rfl⟩
        rw [← hm2]
        have iN2 := K1.lt A1.2.1 (by rw [a1.1]; decide)
        have A2 : AtR m2 N (i + 2) 0 := by rw [hm2]; exact ⟨up_at, iN2, by rw [up_nj (by decide)]; exact A1.2.2⟩
        have F2 : Frn h m2 := by rw [hm2]; exact F1.trans (Frn_f (Or.inl rfl))
        obtain ⟨v, hv⟩ : ∃ v, v = naF (h 222) (tkVa s n (i + 1)) 10 nf := ⟨_, rfl⟩
        rw [← hv]
        rw [← hv] at a2
        obtain ⟨m3, hm3⟩ : ∃ m3, m3 = up m2 223 (85 + 2 * (k : Int)).toNat v := ⟨_, rfl⟩
        have A3 : AtR m3 N (i + 2) 0 := by unfold AtR; rw [hm3, up_ne (by decide)]; exact A2
        have F3 : Frn h m3 := by rw [hm3]; exact F2.trans (Frn_l (by omega))
        have K3 := F3.kr K
        refine S_X11_run_103 _ _ _ _ ?_; simp (disch := omega) only [B_X11_run_103, bi_0, x_ic, x_lc, x_ld, x_st, x_sl, x_inc, x_b32, x_b64, x_d32, x_d64, x_s64, x_un, x_lcmp, x_dup, x_pop, x_dup2, x_if, x_cmp, x_sw, swk, x_ald, x_ast, x_alen, x_getf, x_putf, x_inv, x_mm, x_copy, x_iret, x_lret, x_vret, ok1, pu, ct, rcv, rcs, ent0, List.getElem?_cons_zero, List.getElem?_cons_succ, List.getElem?_nil, List.set_cons_zero, List.set_cons_succ, List.take_succ_cons, List.take_zero, List.drop_succ_cons, List.drop_zero, List.reverse_cons, List.reverse_nil, List.nil_append, List.cons_append, List.length_cons, List.length_nil, true_and, and_true, and_self, ne_eq, not_true_eq_false, not_false_eq_true, reduceIte, true_or, or_true, false_or, or_false, Nat.reduceAdd, Nat.reduceSub, Nat.reduceMul, Nat.reduceLeDiff, Nat.reduceEqDiff, Nat.reduceLT, Nat.le_refl, Nat.zero_le, Int.reduceToNat, Int.reduceAdd, Int.reduceSub, Int.reduceMul, Int.reduceNeg, Int.reduceLT, Int.reduceLE, Int.reduceEq, Nat.zero_add, Nat.add_zero, Nat.reduceBEq, Nat.one_ne_zero, Nat.zero_ne_one, Nat.lt_irrefl, Nat.succ_ne_zero, w32_id, ixc, ixc2, Int.toNat_natCast, ob_214, ly_214_14 K3.1, ln_223, ← hm3]
        refine ⟨by omega, fun y => absurd y c0, fun _ => ?_⟩
        refine S_X11_run_122 _ _ _ _ ?_; simp (disch := omega) only [B_X11_run_122, bi_0, x_ic, x_lc, x_ld, x_st, x_sl, x_inc, x_b32, x_b64, x_d32, x_d64, x_s64, x_un, x_lcmp, x_dup, x_pop, x_dup2, x_if, x_cmp, x_sw, swk, x_ald, x_ast, x_alen, x_getf, x_putf, x_inv, x_mm, x_copy, x_iret, x_lret, x_vret, ok1, pu, ct, rcv, rcs, ent0, List.getElem?_cons_zero, List.getElem?_cons_succ, List.getElem?_nil, List.set_cons_zero, List.set_cons_succ, List.take_succ_cons, List.take_zero, List.drop_succ_cons, List.drop_zero, List.reverse_cons, List.reverse_nil, List.nil_append, List.cons_append, List.length_cons, List.length_nil, true_and, and_true, and_self, ne_eq, not_true_eq_false, not_false_eq_true, reduceIte, true_or, or_true, false_or, or_false, Nat.reduceAdd, Nat.reduceSub, Nat.reduceMul, Nat.reduceLeDiff, Nat.reduceEqDiff, Nat.reduceLT, Nat.le_refl, Nat.zero_le, Int.reduceToNat, Int.reduceAdd, Int.reduceSub, Int.reduceMul, Int.reduceNeg, Int.reduceLT, Int.reduceLE, Int.reduceEq, Nat.zero_add, Nat.add_zero, Nat.reduceBEq, Nat.one_ne_zero, Nat.zero_ne_one, Nat.lt_irrefl, Nat.succ_ne_zero, w32_id, ixc, ixc2, Int.toNat_natCast, ob_214]
        refine Cl.imp (r_takeNumber0 (l := l) (d := d + 3) K3 A3 1 9) (fun u sh' m4 q => ?_)
        obtain ⟨rfl, q⟩ := q
        (try simp (disch := omega) only [bi_0, x_ic, x_lc, x_ld, x_st, x_sl, x_inc, x_b32, x_b64, x_d32, x_d64, x_s64, x_un, x_lcmp, x_dup, x_pop, x_dup2, x_if, x_cmp, x_sw, swk, x_ald, x_ast, x_alen, x_getf, x_putf, x_inv, x_mm, x_copy, x_iret, x_lret, x_vret, ok1, pu, ct, rcv, rcs, ent0, List.getElem?_cons_zero, List.getElem?_cons_succ, List.getElem?_nil, List.set_cons_zero, List.set_cons_succ, List.take_succ_cons, List.take_zero, List.drop_succ_cons, List.drop_zero, List.reverse_cons, List.reverse_nil, List.nil_append, List.cons_append, List.length_cons, List.length_nil, true_and, and_true, and_self, ne_eq, not_true_eq_false, not_false_eq_true, reduceIte, true_or, or_true, false_or, or_false, Nat.reduceAdd, Nat.reduceSub, Nat.reduceMul, Nat.reduceLeDiff, Nat.reduceEqDiff, Nat.reduceLT, Nat.le_refl, Nat.zero_le, Int.reduceToNat, Int.reduceAdd, Int.reduceSub, Int.reduceMul, Int.reduceNeg, Int.reduceLT, Int.reduceLE, Int.reduceEq, Nat.zero_add, Nat.add_zero, Nat.reduceBEq, Nat.one_ne_zero, Nat.zero_ne_one, Nat.lt_irrefl, Nat.succ_ne_zero, w32_id, ixc, ixc2, Int.toNat_natCast])
        refine S_X11_run_129 _ _ _ _ ?_; simp (disch := omega) only [B_X11_run_129, bi_0, x_ic, x_lc, x_ld, x_st, x_sl, x_inc, x_b32, x_b64, x_d32, x_d64, x_s64, x_un, x_lcmp, x_dup, x_pop, x_dup2, x_if, x_cmp, x_sw, swk, x_ald, x_ast, x_alen, x_getf, x_putf, x_inv, x_mm, x_copy, x_iret, x_lret, x_vret, ok1, pu, ct, rcv, rcs, ent0, List.getElem?_cons_zero, List.getElem?_cons_succ, List.getElem?_nil, List.set_cons_zero, List.set_cons_succ, List.take_succ_cons, List.take_zero, List.drop_succ_cons, List.drop_zero, List.reverse_cons, List.reverse_nil, List.nil_append, List.cons_append, List.length_cons, List.length_nil, true_and, and_true, and_self, ne_eq, not_true_eq_false, not_false_eq_true, reduceIte, true_or, or_true, false_or, or_false, Nat.reduceAdd, Nat.reduceSub, Nat.reduceMul, Nat.reduceLeDiff, Nat.reduceEqDiff, Nat.reduceLT, Nat.le_refl, Nat.zero_le, Int.reduceToNat, Int.reduceAdd, Int.reduceSub, Int.reduceMul, Int.reduceNeg, Int.reduceLT, Int.reduceLE, Int.reduceEq, Nat.zero_add, Nat.add_zero, Nat.reduceBEq, Nat.one_ne_zero, Nat.zero_ne_one, Nat.lt_irrefl, Nat.succ_ne_zero, w32_id, ixc, ixc2, Int.toNat_natCast, ln_223]
        refine ⟨by omega, ?_⟩
        rcases q with ⟨b1, b2, rfl, rfl⟩ | ⟨b1, b2, rfl, rfl⟩ | ⟨b1, rfl, rfl⟩
        · obtain ⟨m5, hm5⟩ : ∃ m5, m5 = up (up m3 214 7 ((i + 2 + 1 : Nat) : Int)) 223 (86 + 2 * (k : Int)).toNat (tkVa s n (i + 2)) := ⟨_, rfl⟩
          rw [← hm5]
          have iN3 := K3.lt A3.2.1 (by rw [b1]; decide)
          have F5 : Frn h m5 := by rw [hm5]; exact F3.trans ((Frn_f (Or.inl rfl)).trans (Frn_l (by omega)))
          have A5 : AtR m5 N (i + 3) 0 := by unfold AtR; rw [hm5, up_ne (by decide)]; exact ⟨up_at, iN3, by rw [up_nj (by decide)]; exact A3.2.2⟩
          refine rn_end (F5.kr K) A5 _ _ (fun sn => ?_) (fun sn => ?_)
          · have er : rnL s n (h 222) nf i k = (0, i + 4, v, tkVa s n (i + 2)) := by
              unfold rnL
              rw [iF_f nw, iF_f k4, iF_f w10, iF_f (fun x => x a1), ← hv, iF_f (by omega), iF_f (fun x => x b1), iF_f (fun x => x b2), iF_t sn]
            refine ih (k + 1) _ (by omega) (by omega) (F5.trans (Frn_f (Or.inl rfl))) ⟨?_, ?_, ?_⟩ (fun j hj => ?_) (fun j hj => ?_) _
            · rw [up_at, rnI, hi, er]
            · rw [rnI, hi, er]; exact (F5.kr K).lt A5.2.1 (by rw [sn.1]; decide)
            · rw [up_nj (by decide)]; exact A5.2.2
            · by_cases e : j = k
              · rw [e, hi, er]; exact ⟨nz, rfl⟩
              · exact R j (by omega)
            · rw [up_ne (by decide), hm5]
              by_cases e : j = k
              · rw [e, hi, er, show (86 + 2 * (k : Int)).toNat = 85 + 1 + 2 * k by omega]
                exact ⟨by rw [up_nj (by omega), up_ne (by decide), hm3, show (85 + 2 * (k : Int)).toNat = 85 + 2 * k by omega, up_at], up_at⟩
              · rw [up_nj (by omega), up_nj (by omega), up_ne (by decide), hm3, up_nj (by omega), up_nj (by omega), hm2, up_ne (by decide)]; exact W1 j (by omega)
          · have er : (rnL s n (h 222) nf i k).1 = flt s n (i + 3) 1 := by
              unfold rnL
              rw [iF_f nw, iF_f k4, iF_f w10, iF_f (fun x => x a1), ← hv, iF_f (by omega), iF_f (fun x => x b1), iF_f (fun x => x b2), iF_f sn]
            have bb := flt_b (s := s) (n := n) (i := i + 3) (w := 1) (by decide)
            exact bad k _ _ (F5.trans (Frn_f (Or.inr rfl))) ⟨R, Or.inr ⟨by omega, by rw [hi]; exact nz, by rw [hi]; exact er.symm⟩⟩ (by omega)
        · refine fail (flt s n (i + 2) 4) _ (flt_b (by decide)) (F3.trans ((Frn_f (Or.inr rfl)).trans (Frn_l (by omega)))) (by rw [up_ne (by decide), up_at]) nz ?_ _ _
          unfold rnL
          rw [iF_f nw, iF_f k4, iF_f w10, iF_f (fun x => x a1), ← hv, iF_f (by omega), iF_f (fun x => x b1), iF_t b2]
        · refine fail (flt s n (i + 2) 1) _ (flt_b (by decide)) (F3.trans ((Frn_f (Or.inr rfl)).trans (Frn_l (by omega)))) (by rw [up_ne (by decide), up_at]) nz ?_ _ _
          unfold rnL
          rw [iF_f nw, iF_f k4, iF_f w10, iF_f (fun x => x a1), ← hv, iF_f (by omega), iF_t b1]
    · refine Cl.app (r_wrong0 (l := l) (d := d + 4) K2 A (w := 1) (by decide)) ?_
      (try simp (disch := omega) only [bi_0, x_ic, x_lc, x_ld, x_st, x_sl, x_inc, x_b32, x_b64, x_d32, x_d64, x_s64, x_un, x_lcmp, x_dup, x_pop, x_dup2, x_if, x_cmp, x_sw, swk, x_ald, x_ast, x_alen, x_getf, x_putf, x_inv, x_mm, x_copy, x_iret, x_lret, x_vret, ok1, pu, ct, rcv, rcs, ent0, List.getElem?_cons_zero, List.getElem?_cons_succ, List.getElem?_nil, List.set_cons_zero, List.set_cons_succ, List.take_succ_cons, List.take_zero, List.drop_succ_cons, List.drop_zero, List.reverse_cons, List.reverse_nil, List.nil_append, List.cons_append, List.length_cons, List.length_nil, true_and, and_true, and_self, ne_eq, not_true_eq_false, not_false_eq_true, reduceIte, true_or, or_true, false_or, or_false, Nat.reduceAdd, Nat.reduceSub, Nat.reduceMul, Nat.reduceLeDiff, Nat.reduceEqDiff, Nat.reduceLT, Nat.le_refl, Nat.zero_le, Int.reduceToNat, Int.reduceAdd, Int.reduceSub, Int.reduceMul, Int.reduceNeg, Int.reduceLT, Int.reduceLE, Int.reduceEq, Nat.zero_add, Nat.add_zero, Nat.reduceBEq, Nat.one_ne_zero, Nat.zero_ne_one, Nat.lt_irrefl, Nat.succ_ne_zero, w32_id, ixc, ixc2, Int.toNat_natCast])
      refine fail (flt s n i 1) _ bb1 (F.trans (Frn_f (Or.inr rfl))) up_at nz ?_ _ _
      unfold rnL
      rw [iF_t (wh.1.mp (by omega))]
end MRN2

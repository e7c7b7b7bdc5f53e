/-! the class: a net being read: frames, names -/
/-- where a net may be written -/
def ntW (nb a j : Nat) : Prop := nb ≤ a ∧ a < nb + 30 ∧ ¬ (a = nb ∧ j ≤ 10) ∧ a ≠ nb + 1 ∧ a ≠ nb + 9 ∧ ¬ (a = nb + 15 ∧ j ≤ 1) ∧ ¬ (nb + 18 ≤ a ∧ (a - nb) % 2 = 0 ∧ j = 0)
def Fnt (nb : Nat) (h h' : Mem) : Prop := (∀ i, i ≠ 1 → i < nb ∨ nb + 30 ≤ i → h' i = h i) ∧ (∀ j, j ≤ 2 → h' 1 j = h 1 j) ∧ ∀ i j, nb ≤ i → i < nb + 30 → ¬ ntW nb i j → h' i j = h i j
theorem Fnt.rfl {nb : Nat} {h : Mem} : Fnt nb h h := ⟨fun _ _ _ => Eq.refl _, fun _ _ => Eq.refl _, fun _ _ _ _ _ => Eq.refl _⟩
theorem Fnt.trans {nb : Nat} {h h1 h2 : Mem} (a : Fnt nb h h1) (b : Fnt nb h1 h2) : Fnt nb h h2 := ⟨fun i p q => (b.1 i p q).trans (a.1 i p q), fun j p => (b.2.1 j p).trans (a.2.1 j p), fun i j p q r => (b.2.2 i j p q r).trans (a.2.2 i j p q r)⟩
theorem Fs1.nt {nb : Nat} {h h' : Mem} (hn : nb = 4 ∨ nb = 34) (f : Fs1 h h') : Fnt nb h h' := ⟨fun i p _ => f.1 i p, fun j p => f.2 j (Or.inl p), fun i j p _ _ => by rw [f.1 i (by omega)]⟩
theorem Fnt_8 {nb : Nat} {h : Mem} {v : Int} (hn : nb = 4 ∨ nb = 34) : Fnt nb h (up h 1 8 v) := ⟨fun i p _ => up_ne p, fun j p => up_nj (by omega), fun i j p _ _ => by rw [up_ne (by omega)]⟩
theorem Fnt_up {nb a j : Nat} {h : Mem} {v : Int} (hn : nb = 4 ∨ nb = 34) (hw : ntW nb a j) : Fnt nb h (up h a j v) := by
  have h1 := hw.1
  have h2 := hw.2.1
  refine ⟨fun i p q => up_ne (by omega), fun q p => by rw [up_ne (by omega)], fun i q p1 p2 p3 => ?_⟩
  by_cases e : i = a
  · subst e
    exact up_nj (fun x => p3 (by rw [x]; exact hw))
  · rw [up_ne e]
theorem Fnt.lay {nb : Nat} (hn : nb = 4 ∨ nb = 34) {h h' : Mem} (f : Fnt nb h h') (L : Lay h) : Lay h' := by
  refine Lay_fr L (fun q hq => ?_)
  rcases hn with rfl | rfl
  · have hc : LAYL.all (fun q => if q.1 = 1 then decide (q.2.1 ≤ 2) else if q.1 < 4 ∨ 34 ≤ q.1 then true else decide (¬ (4 ≤ q.1 ∧ q.1 < 4 + 30 ∧ ¬ (q.1 = 4 ∧ q.2.1 ≤ 10) ∧ q.1 ≠ 4 + 1 ∧ q.1 ≠ 4 + 9 ∧ ¬ (q.1 = 4 + 15 ∧ q.2.1 ≤ 1) ∧ ¬ (4 + 18 ≤ q.1 ∧ (q.1 - 4) % 2 = 0 ∧ q.2.1 = 0)))) = true := by decide +kernel
    have h1 := List.all_eq_true.mp hc q hq
    by_cases e : q.1 = 1
    · rw [if_pos e] at h1
      rw [e]; exact f.2.1 _ (by simpa using h1)
    · rw [if_neg e] at h1
      by_cases e2 : q.1 < 4 ∨ 34 ≤ q.1
      · rw [f.1 q.1 e e2]
      · rw [if_neg e2] at h1
        have h2 := of_decide_eq_true h1
        exact f.2.2 q.1 q.2.1 (by omega) (by omega) h2
  · have hc : LAYL.all (fun q => if q.1 = 1 then decide (q.2.1 ≤ 2) else if q.1 < 34 ∨ 64 ≤ q.1 then true else decide (¬ (34 ≤ q.1 ∧ q.1 < 34 + 30 ∧ ¬ (q.1 = 34 ∧ q.2.1 ≤ 10) ∧ q.1 ≠ 34 + 1 ∧ q.1 ≠ 34 + 9 ∧ ¬ (q.1 = 34 + 15 ∧ q.2.1 ≤ 1) ∧ ¬ (34 + 18 ≤ q.1 ∧ (q.1 - 34) % 2 = 0 ∧ q.2.1 = 0)))) = true := by decide +kernel
    have h1 := List.all_eq_true.mp hc q hq
    by_cases e : q.1 = 1
    · rw [if_pos e] at h1
      rw [e]; exact f.2.1 _ (by simpa using h1)
    · rw [if_neg e] at h1
      by_cases e2 : q.1 < 34 ∨ 64 ≤ q.1
      · rw [f.1 q.1 e e2]
      · rw [if_neg e2] at h1
        have h2 := of_decide_eq_true h1
        exact f.2.2 q.1 q.2.1 (by omega) (by omega) h2
theorem Fnt.tx {nb : Nat} (hn : nb = 4 ∨ nb = 34) {h h' : Mem} {s : Nat → Int} {n : Nat} (f : Fnt nb h h') (T : TxC h s n) : TxC h' s n := by
  refine ⟨f.lay hn T.1, ⟨by rw [f.2.1 2 (by decide)]; exact T.2.1.1, ?_⟩, T.2.2.1, ?_⟩
  · rw [f.1 2 (by decide) (by omega)]; exact T.2.1.2
  · unfold WdC; rw [f.1 3 (by decide) (by omega)]; exact T.2.2.2
/-- the cells of a curve, and the token -/
def Fcv (cb : Nat) (h h' : Mem) : Prop := (∀ i, i ≠ 1 → i ≠ cb → i ≠ cb + 1 → h' i = h i) ∧ (∀ j, (j ≤ 2 ∨ j = 8) → h' 1 j = h 1 j) ∧ h' cb 0 = h cb 0
theorem Fcv.rfl {cb : Nat} {h : Mem} : Fcv cb h h := ⟨fun _ _ _ _ => Eq.refl _, fun _ _ => Eq.refl _, Eq.refl _⟩
theorem Fcv.trans {cb : Nat} {h h1 h2 : Mem} (a : Fcv cb h h1) (b : Fcv cb h1 h2) : Fcv cb h h2 := ⟨fun i p q r => (b.1 i p q r).trans (a.1 i p q r), fun j p => (b.2.1 j p).trans (a.2.1 j p), b.2.2.trans a.2.2⟩
theorem Fs1.cv {cb : Nat} {h h' : Mem} (hc : 4 ≤ cb) (f : Fs1 h h') : Fcv cb h h' := ⟨fun i p _ _ => f.1 i p, f.2, by rw [f.1 cb (by omega)]⟩
theorem Fcv_f {cb j : Nat} {h : Mem} {v : Int} (hc : 4 ≤ cb) (hj : j ≠ 0) : Fcv cb h (up h cb j v) := ⟨fun i _ p _ => up_ne p, fun q _ => by rw [up_ne (by omega)], up_nj (by omega)⟩
theorem Fcv_v {cb j : Nat} {h : Mem} {v : Int} (hc : 4 ≤ cb) : Fcv cb h (up h (cb + 1) j v) := ⟨fun i _ _ p => up_ne p, fun q _ => by rw [up_ne (by omega)], by rw [up_ne (by omega)]⟩
theorem Fcv.nt {nb cb c : Nat} {h h' : Mem} (hn : nb = 4 ∨ nb = 34) (hc : cb = nb + 18 + 2 * c) (h6 : c < 6) (f : Fcv cb h h') : Fnt nb h h' := by
  refine ⟨fun i p q => f.1 i p (by omega) (by omega), fun j p => f.2.1 j (Or.inl p), fun i j p q r => ?_⟩
  by_cases e : i = cb
  · have : j = 0 := by unfold ntW at r; omega
    rw [this, e]; exact f.2.2
  · have : i ≠ cb + 1 := by unfold ntW at r; omega
    rw [f.1 i (by omega) e this]
section CNW
variable {l : Launch} {d : Nat} {h : Mem} {s : Nat → Int} {n i nb : Nat} {row nm : Nat → Int}
/-- the names of both are the same -/
def NmX (h : Mem) (nb : Nat) (row nm : Nat → Int) : Prop := (h nb 11 = row 0 ∧ h nb 12 = row 1 ∧ h nb 13 = row 2) ∧ NaL nm (h (nb + 2)) 0 (row 0).toNat ∧ NaL nm (h (nb + 3)) 6 (row 1).toNat ∧ NaL nm (h (nb + 4)) 10 (row 2).toNat
theorem NmX.fr {h' : Mem} (X : NmX h nb row nm) (e0 : h' nb = h nb) (e2 : h' (nb + 2) = h (nb + 2)) (e3 : h' (nb + 3) = h (nb + 3)) (e4 : h' (nb + 4) = h (nb + 4)) : NmX h' nb row nm := by unfold NmX; rw [e0, e2, e3, e4]; exact X
theorem naF_1 {v : Int} {a m : Nat} : (naF nm v a m = -1) = ¬ 0 ≤ naF nm v a m := by
  have := naF_b (nm := nm) (v := v) (a := a) (k := m)
  exact propext ⟨fun _ => by omega, fun _ => by omega⟩
theorem c_knows (L : Lay h) (hn : nb = 4 ∨ nb = 34) (W : W0 row) (X : NmX h nb row nm) {v u : Int} (hv : NmR v u) : Cl l (d + 2) M_X3_knows [(2, (nb : Int) + 1), (1, u)] SHP h (Rt (bI (knP row nm v)) SHP h) := by
  obtain ⟨⟨w1, w2⟩, ⟨w3, w4⟩, w5, w6⟩ := W
  obtain ⟨⟨x1, x2, x3⟩, X1, X2, X3⟩ := X
  have o := (net_sh hn).1
  have f1 := c_find (l := l) (d := d) (h := h) (x := nb + 2) (a := 0) (m := (row 0).toNat) (z := 6) (nln2 hn) (by omega) (by decide) X1 hv
  have f2 := c_find (l := l) (d := d) (h := h) (x := nb + 3) (a := 6) (m := (row 1).toNat) (z := 4) (nln3 hn) (by omega) (by decide) X2 hv
  have f3 := c_find (l := l) (d := d) (h := h) (x := nb + 4) (a := 10) (m := (row 2).toNat) (z := 4) (nln4 hn) (by omega) (by decide) X3 hv
  rw [show (((row 0).toNat : Nat) : Int) = row 0 by omega] at f1
  rw [show (((row 1).toNat : Nat) : Int) = row 1 by omega] at f2
  rw [show (((row 2).toNat : Nat) : Int) = row 2 by omega] at f3
  show V l (d + 2) 0 0 M_X3_knows 0 0 0 _ [(2, (nb : Int) + 1), (1, u), (9, 0)] [] SHP h
  have yes : knP row nm v → V l (d + 2) 0 0 M_X3_knows 0 0 48 (Rt (bI (knP row nm v)) SHP h) [(2, (nb : Int) + 1), (1, u), (9, 0)] [] SHP h := by
    intro k
    refine S_X3_knows_48 _ _ _ _ ?_; simp (disch := omega) only [B_X3_knows_48, bi_0, x_ic, x_lc, x_ld, x_st, x_sl, x_inc, x_b32, x_b64, x_d32, x_d64, x_s64, x_un, x_lcmp, x_dup, x_pop, x_dup2, x_if, x_cmp, x_sw, swk, x_ald, x_ast, x_alen, x_getf, x_putf, x_inv, x_mm, x_copy, x_iret, x_lret, x_vret, ok1, pu, ct, rcv, rcs, ent0, List.getElem?_cons_zero, List.getElem?_cons_succ, List.getElem?_nil, List.set_cons_zero, List.set_cons_succ, List.take_succ_cons, List.take_zero, List.drop_succ_cons, List.drop_zero, List.reverse_cons, List.reverse_nil, List.nil_append, List.cons_append, List.length_cons, List.length_nil, true_and, and_true, and_self, ne_eq, not_true_eq_false, not_false_eq_true, reduceIte, true_or, or_true, false_or, or_false, Nat.reduceAdd, Nat.reduceSub, Nat.reduceMul, Nat.reduceLeDiff, Nat.reduceEqDiff, Nat.reduceLT, Nat.le_refl, Nat.zero_le, Int.reduceToNat, Int.reduceAdd, Int.reduceSub, Int.reduceMul, Int.reduceNeg, Int.reduceLT, Int.reduceLE, Int.reduceEq, Nat.zero_add, Nat.add_zero, Nat.reduceBEq, Nat.one_ne_zero, Nat.zero_ne_one, Nat.lt_irrefl, Nat.succ_ne_zero, w32_id, ixc, ixc2, Int.toNat_natCast]
    refine S_X3_knows_53 _ _ _ _ ?_; simp (disch := omega) only [B_X3_knows_53, bi_0, x_ic, x_lc, x_ld, x_st, x_sl, x_inc, x_b32, x_b64, x_d32, x_d64, x_s64, x_un, x_lcmp, x_dup, x_pop, x_dup2, x_if, x_cmp, x_sw, swk, x_ald, x_ast, x_alen, x_getf, x_putf, x_inv, x_mm, x_copy, x_iret, x_lret, x_vret, ok1, pu, ct, rcv, rcs, ent0, List.getElem?_cons_zero, List.getElem?_cons_succ, List.getElem?_nil, List.set_cons_zero, List.set_cons_succ, List.take_succ_cons, List.take_zero, List.drop_succ_cons, List.drop_zero, List.reverse_cons, List.reverse_nil, List.nil_append, List.cons_append, List.length_cons, List.length_nil, true_and, and_true, and_self, ne_eq, not_true_eq_false, not_false_eq_true, reduceIte, true_or, or_true, false_or, or_false, Nat.reduceAdd, Nat.reduceSub, Nat.reduceMul, Nat.reduceLeDiff, Nat.reduceEqDiff, Nat.reduceLT, Nat.le_refl, Nat.zero_le, Int.reduceToNat, Int.reduceAdd, Int.reduceSub, Int.reduceMul, Int.reduceNeg, Int.reduceLT, Int.reduceLE, Int.reduceEq, Nat.zero_add, Nat.add_zero, Nat.reduceBEq, Nat.one_ne_zero, Nat.zero_ne_one, Nat.lt_irrefl, Nat.succ_ne_zero, w32_id, ixc, ixc2, Int.toNat_natCast]
    exact Rt_mk (bI_t k).symm
  refine S_X3_knows_0 _ _ _ _ ?_; simp (disch := omega) only [B_X3_knows_0, bi_0, x_ic, x_lc, x_ld, x_st, x_sl, x_inc, x_b32, x_b64, x_d32, x_d64, x_s64, x_un, x_lcmp, x_dup, x_pop, x_dup2, x_if, x_cmp, x_sw, swk, x_ald, x_ast, x_alen, x_getf, x_putf, x_inv, x_mm, x_copy, x_iret, x_lret, x_vret, ok1, pu, ct, rcv, rcs, ent0, List.getElem?_cons_zero, List.getElem?_cons_succ, List.getElem?_nil, List.set_cons_zero, List.set_cons_succ, List.take_succ_cons, List.take_zero, List.drop_succ_cons, List.drop_zero, List.reverse_cons, List.reverse_nil, List.nil_append, List.cons_append, List.length_cons, List.length_nil, true_and, and_true, and_self, ne_eq, not_true_eq_false, not_false_eq_true, reduceIte, true_or, or_true, false_or, or_false, Nat.reduceAdd, Nat.reduceSub, Nat.reduceMul, Nat.reduceLeDiff, Nat.reduceEqDiff, Nat.reduceLT, Nat.le_refl, Nat.zero_le, Int.reduceToNat, Int.reduceAdd, Int.reduceSub, Int.reduceMul, Int.reduceNeg, Int.reduceLT, Int.reduceLE, Int.reduceEq, Nat.zero_add, Nat.add_zero, Nat.reduceBEq, Nat.one_ne_zero, Nat.zero_ne_one, Nat.lt_irrefl, Nat.succ_ne_zero, w32_id, ixc, ixc2, Int.toNat_natCast, o, nf1 L hn, x1]
  refine Cl.app f1 ?_
  (try simp (disch := omega) only [bi_0, x_ic, x_lc, x_ld, x_st, x_sl, x_inc, x_b32, x_b64, x_d32, x_d64, x_s64, x_un, x_lcmp, x_dup, x_pop, x_dup2, x_if, x_cmp, x_sw, swk, x_ald, x_ast, x_alen, x_getf, x_putf, x_inv, x_mm, x_copy, x_iret, x_lret, x_vret, ok1, pu, ct, rcv, rcs, ent0, List.getElem?_cons_zero, List.getElem?_cons_succ, List.getElem?_nil, List.set_cons_zero, List.set_cons_succ, List.take_succ_cons, List.take_zero, List.drop_succ_cons, List.drop_zero, List.reverse_cons, List.reverse_nil, List.nil_append, List.cons_append, List.length_cons, List.length_nil, true_and, and_true, and_self, ne_eq, not_true_eq_false, not_false_eq_true, reduceIte, true_or, or_true, false_or, or_false, Nat.reduceAdd, Nat.reduceSub, Nat.reduceMul, Nat.reduceLeDiff, Nat.reduceEqDiff, Nat.reduceLT, Nat.le_refl, Nat.zero_le, Int.reduceToNat, Int.reduceAdd, Int.reduceSub, Int.reduceMul, Int.reduceNeg, Int.reduceLT, Int.reduceLE, Int.reduceEq, Nat.zero_add, Nat.add_zero, Nat.reduceBEq, Nat.one_ne_zero, Nat.zero_ne_one, Nat.lt_irrefl, Nat.succ_ne_zero, w32_id, ixc, ixc2, Int.toNat_natCast, naF_1, o, nf2 L hn, x2])
  refine ⟨fun n1 => ?_, fun y => yes (Or.inl (Classical.not_not.mp y))⟩
  refine Cl.app f2 ?_
  (try simp (disch := omega) only [bi_0, x_ic, x_lc, x_ld, x_st, x_sl, x_inc, x_b32, x_b64, x_d32, x_d64, x_s64, x_un, x_lcmp, x_dup, x_pop, x_dup2, x_if, x_cmp, x_sw, swk, x_ald, x_ast, x_alen, x_getf, x_putf, x_inv, x_mm, x_copy, x_iret, x_lret, x_vret, ok1, pu, ct, rcv, rcs, ent0, List.getElem?_cons_zero, List.getElem?_cons_succ, List.getElem?_nil, List.set_cons_zero, List.set_cons_succ, List.take_succ_cons, List.take_zero, List.drop_succ_cons, List.drop_zero, List.reverse_cons, List.reverse_nil, List.nil_append, List.cons_append, List.length_cons, List.length_nil, true_and, and_true, and_self, ne_eq, not_true_eq_false, not_false_eq_true, reduceIte, true_or, or_true, false_or, or_false, Nat.reduceAdd, Nat.reduceSub, Nat.reduceMul, Nat.reduceLeDiff, Nat.reduceEqDiff, Nat.reduceLT, Nat.le_refl, Nat.zero_le, Int.reduceToNat, Int.reduceAdd, Int.reduceSub, Int.reduceMul, Int.reduceNeg, Int.reduceLT, Int.reduceLE, Int.reduceEq, Nat.zero_add, Nat.add_zero, Nat.reduceBEq, Nat.one_ne_zero, Nat.zero_ne_one, Nat.lt_irrefl, Nat.succ_ne_zero, w32_id, ixc, ixc2, Int.toNat_natCast, naF_1, o, nf3 L hn, x3])
  refine ⟨fun n2 => ?_, fun y => yes (Or.inr (Or.inl (Classical.not_not.mp y)))⟩
  refine Cl.app f3 ?_
  (try simp (disch := omega) only [bi_0, x_ic, x_lc, x_ld, x_st, x_sl, x_inc, x_b32, x_b64, x_d32, x_d64, x_s64, x_un, x_lcmp, x_dup, x_pop, x_dup2, x_if, x_cmp, x_sw, swk, x_ald, x_ast, x_alen, x_getf, x_putf, x_inv, x_mm, x_copy, x_iret, x_lret, x_vret, ok1, pu, ct, rcv, rcs, ent0, List.getElem?_cons_zero, List.getElem?_cons_succ, List.getElem?_nil, List.set_cons_zero, List.set_cons_succ, List.take_succ_cons, List.take_zero, List.drop_succ_cons, List.drop_zero, List.reverse_cons, List.reverse_nil, List.nil_append, List.cons_append, List.length_cons, List.length_nil, true_and, and_true, and_self, ne_eq, not_true_eq_false, not_false_eq_true, reduceIte, true_or, or_true, false_or, or_false, Nat.reduceAdd, Nat.reduceSub, Nat.reduceMul, Nat.reduceLeDiff, Nat.reduceEqDiff, Nat.reduceLT, Nat.le_refl, Nat.zero_le, Int.reduceToNat, Int.reduceAdd, Int.reduceSub, Int.reduceMul, Int.reduceNeg, Int.reduceLT, Int.reduceLE, Int.reduceEq, Nat.zero_add, Nat.add_zero, Nat.reduceBEq, Nat.one_ne_zero, Nat.zero_ne_one, Nat.lt_irrefl, Nat.succ_ne_zero, w32_id, ixc, ixc2, Int.toNat_natCast, naF_1])
  refine ⟨fun n3 => ?_, fun y => yes (Or.inr (Or.inr (Classical.not_not.mp y)))⟩
  refine S_X3_knows_52 _ _ _ _ ?_; simp (disch := omega) only [B_X3_knows_52, bi_0, x_ic, x_lc, x_ld, x_st, x_sl, x_inc, x_b32, x_b64, x_d32, x_d64, x_s64, x_un, x_lcmp, x_dup, x_pop, x_dup2, x_if, x_cmp, x_sw, swk, x_ald, x_ast, x_alen, x_getf, x_putf, x_inv, x_mm, x_copy, x_iret, x_lret, x_vret, ok1, pu, ct, rcv, rcs, ent0, List.getElem?_cons_zero, List.getElem?_cons_succ, List.getElem?_nil, List.set_cons_zero, List.set_cons_succ, List.take_succ_cons, List.take_zero, List.drop_succ_cons, List.drop_zero, List.reverse_cons, List.reverse_nil, List.nil_append, List.cons_append, List.length_cons, List.length_nil, true_and, and_true, and_self, ne_eq, not_true_eq_false, not_false_eq_true, reduceIte, true_or, or_true, false_or, or_false, Nat.reduceAdd, Nat.reduceSub, Nat.reduceMul, Nat.reduceLeDiff, Nat.reduceEqDiff, Nat.reduceLT, Nat.le_refl, Nat.zero_le, Int.reduceToNat, Int.reduceAdd, Int.reduceSub, Int.reduceMul, Int.reduceNeg, Int.reduceLT, Int.reduceLE, Int.reduceEq, Nat.zero_add, Nat.add_zero, Nat.reduceBEq, Nat.one_ne_zero, Nat.zero_ne_one, Nat.lt_irrefl, Nat.succ_ne_zero, w32_id, ixc, ixc2, Int.toNat_natCast]
  refine S_X3_knows_53 _ _ _ _ ?_; simp (disch := omega) only [B_X3_knows_53, bi_0, x_ic, x_lc, x_ld, x_st, x_sl, x_inc, x_b32, x_b64, x_d32, x_d64, x_s64, x_un, x_lcmp, x_dup, x_pop, x_dup2, x_if, x_cmp, x_sw, swk, x_ald, x_ast, x_alen, x_getf, x_putf, x_inv, x_mm, x_copy, x_iret, x_lret, x_vret, ok1, pu, ct, rcv, rcs, ent0, List.getElem?_cons_zero, List.getElem?_cons_succ, List.getElem?_nil, List.set_cons_zero, List.set_cons_succ, List.take_succ_cons, List.take_zero, List.drop_succ_cons, List.drop_zero, List.reverse_cons, List.reverse_nil, List.nil_append, List.cons_append, List.length_cons, List.length_nil, true_and, and_true, and_self, ne_eq, not_true_eq_false, not_false_eq_true, reduceIte, true_or, or_true, false_or, or_false, Nat.reduceAdd, Nat.reduceSub, Nat.reduceMul, Nat.reduceLeDiff, Nat.reduceEqDiff, Nat.reduceLT, Nat.le_refl, Nat.zero_le, Int.reduceToNat, Int.reduceAdd, Int.reduceSub, Int.reduceMul, Int.reduceNeg, Int.reduceLT, Int.reduceLE, Int.reduceEq, Nat.zero_add, Nat.add_zero, Nat.reduceBEq, Nat.one_ne_zero, Nat.zero_ne_one, Nat.lt_irrefl, Nat.succ_ne_zero, w32_id, ixc, ixc2, Int.toNat_natCast]
  refine Rt_mk (bI_f ?_).symm
  rintro (x | x | x)
  · exact n1 x
  · exact n2 x
  · exact n3 x
/-- a new name at i -/
noncomputable def nnU (s : Nat → Int) (n : Nat) (row nm : Nat → Int) (i : Nat) : Int := iF (isNm s n i) (iF (knP row nm (tkVa s n i)) (flt s n i 3) 0) (flt s n i 1)
theorem c_newName (T : TxC h s n) (C : CuC h s n i) (hn : nb = 4 ∨ nb = 34) (h64 : h 64 2 = (nb : Int) + 1) (W : W0 row) (X : NmX h nb row nm) {x k z : Nat} (hx : x = nb + 2 ∨ x = nb + 3 ∨ x = nb + 4) (hz : ln SHP 1 ((x : Int) + 1) = (z : Int)) (hk : k < z) (hz6 : z ≤ 6) : Cl l (d + 4) M_X4_readNewName [(2, 65), (2, (x : Int) + 1), (0, (k : Int))] SHP h (fun r sh' h' => sh' = SHP ∧ ((nnU s n row nm i = 0 ∧ r = 1 ∧ NmR (tkVa s n i) (h 1 7) ∧ Fs1 (up h x k (h 1 7)) h' ∧ CuC h' s n (i + 1)) ∨ (nnU s n row nm i ≠ 0 ∧ r = 0 ∧ h' = up h 1 8 (nnU s n row nm i)))) := by
  refine Cl_hide (fun Q hQ => ?_)
  have t0 := ly_64_0 T.1
  unfold nnU at hQ
  show V l (d + 4) 0 0 M_X4_readNewName 0 0 0 Q [(2, 65), (2, (x : Int) + 1), (0, (k : Int))] [] SHP h
  refine S_X4_readNewName_0 _ _ _ _ ?_; simp (disch := omega) only [B_X4_readNewName_0, bi_0, x_ic, x_lc, x_ld, x_st, x_sl, x_inc, x_b32, x_b64, x_d32, x_d64, x_s64, x_un, x_lcmp, x_dup, x_pop, x_dup2, x_if, x_cmp, x_sw, swk, x_ald, x_ast, x_alen, x_getf, x_putf, x_inv, x_mm, x_copy, x_iret, x_lret, x_vret, ok1, pu, ct, rcv, rcs, ent0, List.getElem?_cons_zero, List.getElem?_cons_succ, List.getElem?_nil, List.set_cons_zero, List.set_cons_succ, List.take_succ_cons, List.take_zero, List.drop_succ_cons, List.drop_zero, List.reverse_cons, List.reverse_nil, List.nil_append, List.cons_append, List.length_cons, List.length_nil, true_and, and_true, and_self, ne_eq, not_true_eq_false, not_false_eq_true, reduceIte, true_or, or_true, false_or, or_false, Nat.reduceAdd, Nat.reduceSub, Nat.reduceMul, Nat.reduceLeDiff, Nat.reduceEqDiff, Nat.reduceLT, Nat.le_refl, Nat.zero_le, Int.reduceToNat, Int.reduceAdd, Int.reduceSub, Int.reduceMul, Int.reduceNeg, Int.reduceLT, Int.reduceLE, Int.reduceEq, Nat.zero_add, Nat.add_zero, Nat.reduceBEq, Nat.one_ne_zero, Nat.zero_ne_one, Nat.lt_irrefl, Nat.succ_ne_zero, w32_id, ixc, ixc2, Int.toNat_natCast, ob_64, t0, ob_1]
  refine Cl.app (c_isName (l := l) (d := d + 1) C) ?_
  (try simp (disch := omega) only [bi_0, x_ic, x_lc, x_ld, x_st, x_sl, x_inc, x_b32, x_b64, x_d32, x_d64, x_s64, x_un, x_lcmp, x_dup, x_pop, x_dup2, x_if, x_cmp, x_sw, swk, x_ald, x_ast, x_alen, x_getf, x_putf, x_inv, x_mm, x_copy, x_iret, x_lret, x_vret, ok1, pu, ct, rcv, rcs, ent0, List.getElem?_cons_zero, List.getElem?_cons_succ, List.getElem?_nil, List.set_cons_zero, List.set_cons_succ, List.take_succ_cons, List.take_zero, List.drop_succ_cons, List.drop_zero, List.reverse_cons, List.reverse_nil, List.nil_append, List.cons_append, List.length_cons, List.length_nil, true_and, and_true, and_self, ne_eq, not_true_eq_false, not_false_eq_true, reduceIte, true_or, or_true, false_or, or_false, Nat.reduceAdd, Nat.reduceSub, Nat.reduceMul, Nat.reduceLeDiff, Nat.reduceEqDiff, Nat.reduceLT, Nat.le_refl, Nat.zero_le, Int.reduceToNat, Int.reduceAdd, Int.reduceSub, Int.reduceMul, Int.reduceNeg, Int.reduceLT, Int.reduceLE, Int.reduceEq, Nat.zero_add, Nat.add_zero, Nat.reduceBEq, Nat.one_ne_zero, Nat.zero_ne_one, Nat.lt_irrefl, Nat.succ_ne_zero, w32_id, ixc, ixc2, Int.toNat_natCast, bI_0, ob_64, t0, ob_1])
  refine ⟨fun y => ?_, fun y => ?_⟩
  · refine Cl.app (c_wrong (l := l) (d := d + 2) T C (w := 1) (by decide)) ?_
    (try simp (disch := omega) only [bi_0, x_ic, x_lc, x_ld, x_st, x_sl, x_inc, x_b32, x_b64, x_d32, x_d64, x_s64, x_un, x_lcmp, x_dup, x_pop, x_dup2, x_if, x_cmp, x_sw, swk, x_ald, x_ast, x_alen, x_getf, x_putf, x_inv, x_mm, x_copy, x_iret, x_lret, x_vret, ok1, pu, ct, rcv, rcs, ent0, List.getElem?_cons_zero, List.getElem?_cons_succ, List.getElem?_nil, List.set_cons_zero, List.set_cons_succ, List.take_succ_cons, List.take_zero, List.drop_succ_cons, List.drop_zero, List.reverse_cons, List.reverse_nil, List.nil_append, List.cons_append, List.length_cons, List.length_nil, true_and, and_true, and_self, ne_eq, not_true_eq_false, not_false_eq_true, reduceIte, true_or, or_true, false_or, or_false, Nat.reduceAdd, Nat.reduceSub, Nat.reduceMul, Nat.reduceLeDiff, Nat.reduceEqDiff, Nat.reduceLT, Nat.le_refl, Nat.zero_le, Int.reduceToNat, Int.reduceAdd, Int.reduceSub, Int.reduceMul, Int.reduceNeg, Int.reduceLT, Int.reduceLE, Int.reduceEq, Nat.zero_add, Nat.add_zero, Nat.reduceBEq, Nat.one_ne_zero, Nat.zero_ne_one, Nat.lt_irrefl, Nat.succ_ne_zero, w32_id, ixc, ixc2, Int.toNat_natCast])
    rw [iF_f y] at hQ
    have b := flt_b (s := s) (n := n) (i := i) (w := 1) (by decide)
    exact hQ _ _ _ ⟨rfl, Or.inr ⟨by omega, rfl, rfl⟩⟩
  have y := Classical.not_not.mp y
  rw [iF_t y] at hQ
  have nn := C.2.2.2.2 y.1
  refine S_X4_readNewName_19 _ _ _ _ ?_; simp (disch := omega) only [B_X4_readNewName_19, bi_0, x_ic, x_lc, x_ld, x_st, x_sl, x_inc, x_b32, x_b64, x_d32, x_d64, x_s64, x_un, x_lcmp, x_dup, x_pop, x_dup2, x_if, x_cmp, x_sw, swk, x_ald, x_ast, x_alen, x_getf, x_putf, x_inv, x_mm, x_copy, x_iret, x_lret, x_vret, ok1, pu, ct, rcv, rcs, ent0, List.getElem?_cons_zero, List.getElem?_cons_succ, List.getElem?_nil, List.set_cons_zero, List.set_cons_succ, List.take_succ_cons, List.take_zero, List.drop_succ_cons, List.drop_zero, List.reverse_cons, List.reverse_nil, List.nil_append, List.cons_append, List.length_cons, List.length_nil, true_and, and_true, and_self, ne_eq, not_true_eq_false, not_false_eq_true, reduceIte, true_or, or_true, false_or, or_false, Nat.reduceAdd, Nat.reduceSub, Nat.reduceMul, Nat.reduceLeDiff, Nat.reduceEqDiff, Nat.reduceLT, Nat.le_refl, Nat.zero_le, Int.reduceToNat, Int.reduceAdd, Int.reduceSub, Int.reduceMul, Int.reduceNeg, Int.reduceLT, Int.reduceLE, Int.reduceEq, Nat.zero_add, Nat.add_zero, Nat.reduceBEq, Nat.one_ne_zero, Nat.zero_ne_one, Nat.lt_irrefl, Nat.succ_ne_zero, w32_id, ixc, ixc2, Int.toNat_natCast, ob_64, t0, h64, ob_1, (net_sh hn).1]
  refine Cl.app (c_knows (l := l) (d := d + 1) T.1 hn W X nn) ?_
  (try simp (disch := omega) only [bi_0, x_ic, x_lc, x_ld, x_st, x_sl, x_inc, x_b32, x_b64, x_d32, x_d64, x_s64, x_un, x_lcmp, x_dup, x_pop, x_dup2, x_if, x_cmp, x_sw, swk, x_ald, x_ast, x_alen, x_getf, x_putf, x_inv, x_mm, x_copy, x_iret, x_lret, x_vret, ok1, pu, ct, rcv, rcs, ent0, List.getElem?_cons_zero, List.getElem?_cons_succ, List.getElem?_nil, List.set_cons_zero, List.set_cons_succ, List.take_succ_cons, List.take_zero, List.drop_succ_cons, List.drop_zero, List.reverse_cons, List.reverse_nil, List.nil_append, List.cons_append, List.length_cons, List.length_nil, true_and, and_true, and_self, ne_eq, not_true_eq_false, not_false_eq_true, reduceIte, true_or, or_true, false_or, or_false, Nat.reduceAdd, Nat.reduceSub, Nat.reduceMul, Nat.reduceLeDiff, Nat.reduceEqDiff, Nat.reduceLT, Nat.le_refl, Nat.zero_le, Int.reduceToNat, Int.reduceAdd, Int.reduceSub, Int.reduceMul, Int.reduceNeg, Int.reduceLT, Int.reduceLE, Int.reduceEq, Nat.zero_add, Nat.add_zero, Nat.reduceBEq, Nat.one_ne_zero, Nat.zero_ne_one, Nat.lt_irrefl, Nat.succ_ne_zero, w32_id, ixc, ixc2, Int.toNat_natCast, bI_0, ob_64, t0, ob_1])
  refine ⟨fun y2 => ?_, fun y2 => ?_⟩
  · rw [iF_f y2] at hQ
    have C1 : CuC (up h x k (h 1 7)) s n i := C.fr (up_ne (by omega))
    have T1 : TxC (up h x k (h 1 7)) s n := (Fnt_up (nb := nb) hn (by unfold ntW; omega)).tx hn T
    have t1 := ly_64_0 T1.1
    refine S_X4_readNewName_45 _ _ _ _ ?_; simp (disch := omega) only [B_X4_readNewName_45, bi_0, x_ic, x_lc, x_ld, x_st, x_sl, x_inc, x_b32, x_b64, x_d32, x_d64, x_s64, x_un, x_lcmp, x_dup, x_pop, x_dup2, x_if, x_cmp, x_sw, swk, x_ald, x_ast, x_alen, x_getf, x_putf, x_inv, x_mm, x_copy, x_iret, x_lret, x_vret, ok1, pu, ct, rcv, rcs, ent0, List.getElem?_cons_zero, List.getElem?_cons_succ, List.getElem?_nil, List.set_cons_zero, List.set_cons_succ, List.take_succ_cons, List.take_zero, List.drop_succ_cons, List.drop_zero, List.reverse_cons, List.reverse_nil, List.nil_append, List.cons_append, List.length_cons, List.length_nil, true_and, and_true, and_self, ne_eq, not_true_eq_false, not_false_eq_true, reduceIte, true_or, or_true, false_or, or_false, Nat.reduceAdd, Nat.reduceSub, Nat.reduceMul, Nat.reduceLeDiff, Nat.reduceEqDiff, Nat.reduceLT, Nat.le_refl, Nat.zero_le, Int.reduceToNat, Int.reduceAdd, Int.reduceSub, Int.reduceMul, Int.reduceNeg, Int.reduceLT, Int.reduceLE, Int.reduceEq, Nat.zero_add, Nat.add_zero, Nat.reduceBEq, Nat.one_ne_zero, Nat.zero_ne_one, Nat.lt_irrefl, Nat.succ_ne_zero, w32_id, ixc, ixc2, Int.toNat_natCast, ob_64, t0, t1, ob_1, hz]
    refine ⟨by omega, ?_⟩
    refine Cl.imp (c_next (l := l) (d := d) T1 C1) (fun r sh' h' q => ?_)
    obtain ⟨rfl, rfl, F, C2⟩ := q
    (try simp (disch := omega) only [bi_0, x_ic, x_lc, x_ld, x_st, x_sl, x_inc, x_b32, x_b64, x_d32, x_d64, x_s64, x_un, x_lcmp, x_dup, x_pop, x_dup2, x_if, x_cmp, x_sw, swk, x_ald, x_ast, x_alen, x_getf, x_putf, x_inv, x_mm, x_copy, x_iret, x_lret, x_vret, ok1, pu, ct, rcv, rcs, ent0, List.getElem?_cons_zero, List.getElem?_cons_succ, List.getElem?_nil, List.set_cons_zero, List.set_cons_succ, List.take_succ_cons, List.take_zero, List.drop_succ_cons, List.drop_zero, List.reverse_cons, List.reverse_nil, List.nil_append, List.cons_append, List.length_cons, List.length_nil, true_and, and_true, and_self, ne_eq, not_true_eq_false, not_false_eq_true, reduceIte, true_or, or_true, false_or, or_false, Nat.reduceAdd, Nat.reduceSub, Nat.reduceMul, Nat.reduceLeDiff, Nat.reduceEqDiff, Nat.reduceLT, Nat.le_refl, Nat.zero_le, Int.reduceToNat, Int.reduceAdd, Int.reduceSub, Int.reduceMul, Int.reduceNeg, Int.reduceLT, Int.reduceLE, Int.reduceEq, Nat.zero_add, Nat.add_zero, Nat.reduceBEq, Nat.one_ne_zero, Nat.zero_ne_one, Nat.lt_irrefl, Nat.succ_ne_zero, w32_id, ixc, ixc2, Int.toNat_natCast])
    exact hQ _ _ _ ⟨rfl, Or.inl ⟨rfl, rfl, nn, F, C2⟩⟩
  · have y2 := Classical.not_not.mp y2
    rw [iF_t y2] at hQ
    refine Cl.app (c_wrong (l := l) (d := d + 2) T C (w := 3) (by decide)) ?_
    (try simp (disch := omega) only [bi_0, x_ic, x_lc, x_ld, x_st, x_sl, x_inc, x_b32, x_b64, x_d32, x_d64, x_s64, x_un, x_lcmp, x_dup, x_pop, x_dup2, x_if, x_cmp, x_sw, swk, x_ald, x_ast, x_alen, x_getf, x_putf, x_inv, x_mm, x_copy, x_iret, x_lret, x_vret, ok1, pu, ct, rcv, rcs, ent0, List.getElem?_cons_zero, List.getElem?_cons_succ, List.getElem?_nil, List.set_cons_zero, List.set_cons_succ, List.take_succ_cons, List.take_zero, List.drop_succ_cons, List.drop_zero, List.reverse_cons, List.reverse_nil, List.nil_append, List.cons_append, List.length_cons, List.length_nil, true_and, and_true, and_self, ne_eq, not_true_eq_false, not_false_eq_true, reduceIte, true_or, or_true, false_or, or_false, Nat.reduceAdd, Nat.reduceSub, Nat.reduceMul, Nat.reduceLeDiff, Nat.reduceEqDiff, Nat.reduceLT, Nat.le_refl, Nat.zero_le, Int.reduceToNat, Int.reduceAdd, Int.reduceSub, Int.reduceMul, Int.reduceNeg, Int.reduceLT, Int.reduceLE, Int.reduceEq, Nat.zero_add, Nat.add_zero, Nat.reduceBEq, Nat.one_ne_zero, Nat.zero_ne_one, Nat.lt_irrefl, Nat.succ_ne_zero, w32_id, ixc, ixc2, Int.toNat_natCast])
    have b := flt_b (s := s) (n := n) (i := i) (w := 3) (by decide)
    exact hQ _ _ _ ⟨rfl, Or.inr ⟨by omega, rfl, rfl⟩⟩
theorem nnU_nm {many most : Int} (e : many ≠ most) : nmU s n row nm many most i = nnU s n row nm (i + 1) := by
  unfold nmU nnU
  rw [iF_f e]
end CNW

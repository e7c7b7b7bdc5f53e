/-! the class: the tape's tokens -/
/-- the same word as the reference and as the class tell it -/
def ccN (b : Int) : List Int → Int
  | [] => 0
  | r :: w => b * ccN b w + r
def NmR (v u : Int) : Prop := ∃ w : List Int, (∀ r, r ∈ w → 1 ≤ r ∧ r ≤ 26) ∧ v = ccN 37 w ∧ u = ccN 32 w
theorem NmR.nil : NmR 0 0 := ⟨[], fun r hr => absurd hr List.not_mem_nil, rfl, rfl⟩
theorem NmR.cons {v u r : Int} (h : NmR v u) (h1 : 1 ≤ r) (h2 : r ≤ 26) : NmR (37 * v + r) (32 * u + r) := by
  obtain ⟨w, a, rfl, rfl⟩ := h
  refine ⟨r :: w, fun q hq => ?_, rfl, rfl⟩
  rcases List.mem_cons.mp hq with e | e
  · rw [e]; exact ⟨h1, h2⟩
  · exact a q e
theorem ccN_b {b : Int} (hb : b = 37 ∨ b = 32) : ∀ {w : List Int}, (∀ r, r ∈ w → 1 ≤ r ∧ r ≤ 26) → 0 ≤ ccN b w
  | [], _ => Int.le_refl 0
  | r :: w, h => by
    have ih := ccN_b hb (w := w) (fun q hq => h q (List.mem_cons_of_mem _ hq))
    have := h r List.mem_cons_self
    rw [ccN]
    rcases hb with rfl | rfl <;> omega
theorem ccN_inj {b : Int} (hb : b = 37 ∨ b = 32) : ∀ {w w' : List Int}, (∀ r, r ∈ w → 1 ≤ r ∧ r ≤ 26) → (∀ r, r ∈ w' → 1 ≤ r ∧ r ≤ 26) → ccN b w = ccN b w' → w = w'
  | [], [], _, _, _ => rfl
  | [], r :: w', _, h', e => by
    have := ccN_b hb (w := w') (fun q hq => h' q (List.mem_cons_of_mem _ hq))
    have := h' r List.mem_cons_self
    rw [ccN, ccN] at e
    rcases hb with rfl | rfl <;> omega
  | r :: w, [], h, _, e => by
    have := ccN_b hb (w := w) (fun q hq => h q (List.mem_cons_of_mem _ hq))
    have := h r List.mem_cons_self
    rw [ccN, ccN] at e
    rcases hb with rfl | rfl <;> omega
  | r :: w, r' :: w', h, h', e => by
    have h1 := h r List.mem_cons_self
    have h2 := h' r' List.mem_cons_self
    rw [ccN, ccN] at e
    have e2 : r = r' ∧ ccN b w = ccN b w' := by rcases hb with rfl | rfl <;> omega
    rw [e2.1, ccN_inj hb (fun q hq => h q (List.mem_cons_of_mem _ hq)) (fun q hq => h' q (List.mem_cons_of_mem _ hq)) e2.2]
theorem NmR.inj {v u v' u' : Int} (h : NmR v u) (h' : NmR v' u') : (v = v' ↔ u = u') := by
  obtain ⟨w, a, rfl, rfl⟩ := h
  obtain ⟨w', a', rfl, rfl⟩ := h'
  exact ⟨fun e => by rw [ccN_inj (Or.inl rfl) a a' e], fun e => by rw [ccN_inj (Or.inr rfl) a a' e]⟩
theorem NmR_cd {s : Nat → Int} {p : Nat} : ∀ {j : Nat}, (∀ i, i < j → isLt (s (p + i))) → NmR (cdN 37 96 s p j) (cdN 32 96 s p j)
  | 0, _ => NmR.nil
  | j + 1, h => by
    have := h j (by omega)
    unfold isLt at this
    rw [cdN, cdN]
    exact NmR.cons (NmR_cd (fun i hi => h i (by omega))) (by omega) (by omega)
def WLS : List (List Int) := [[3, 21, 18, 22, 5], [9, 19], [1, 7, 1, 9, 14], [1, 4, 4, 19], [14, 15, 4, 5], [19, 5, 18, 22, 5, 19], [6, 12, 15, 23], [19, 5, 14, 4, 19], [15, 22, 5, 18], [12, 15, 19, 5, 19], [20, 9, 3, 11], [16, 21, 20], [2, 12, 9, 14, 4], [6, 9, 18, 19, 20], [6, 9, 6, 15], [6, 1, 9, 18], [14, 15, 20], [1, 14, 4], [15, 18], [17, 21, 5, 21, 5], [8, 5, 18, 5], [23, 8, 9, 3, 8], [20, 9, 13, 5]]
def W37 (i : Nat) : Int := (WLS.getD i []).foldl (fun v r => 37 * v + r) 0
def W32 (i : Nat) : Int := (WLS.getD i []).foldl (fun v r => 32 * v + r) 0
theorem NmR_fold : ∀ {w : List Int} {v u : Int}, NmR v u → (∀ r, r ∈ w → 1 ≤ r ∧ r ≤ 26) → NmR (w.foldl (fun v r => 37 * v + r) v) (w.foldl (fun v r => 32 * v + r) u)
  | [], _, _, h, _ => h
  | r :: w, v, u, h, hr => NmR_fold (w := w) (NmR.cons h (hr r List.mem_cons_self).1 (hr r List.mem_cons_self).2) (fun q hq => hr q (List.mem_cons_of_mem _ hq))
theorem NmR_w {i : Nat} (hi : i < 23) : NmR (W37 i) (W32 i) := by
  refine NmR_fold NmR.nil ?_
  have : ∀ i : Fin 23, ∀ r, r ∈ WLS.getD i.1 [] → 1 ≤ r ∧ r ≤ 26 := by decide +kernel
  exact this ⟨i, hi⟩
theorem W37_d {i j : Nat} (hi : i < 23) (hj : j < 23) (h : W37 i = W37 j) : i = j := by
  have : ∀ i j : Fin 23, W37 i.1 = W37 j.1 → i.1 = j.1 := by decide +kernel
  exact this ⟨i, hi⟩ ⟨j, hj⟩ h
/-- both know the words -/
def WdC (h : Mem) : Prop := ∀ i, i < 23 → h 3 i = W32 i
def WdR (h : Mem) : Prop := ∀ i, i < 23 → h 219 i = W37 i
def KwP (v k : Int) : Prop := (∃ i : Nat, i < 23 ∧ v = W37 i ∧ k = 128 + (i : Int)) ∨ ((∀ i, i < 23 → v ≠ W37 i) ∧ k = 3)
def KdP (st v k : Int) : Prop := (st = 0 ∧ k = 0) ∨ (st = 1 ∧ KwP v k) ∨ (st = 2 ∧ k = 2) ∨ (st = 3 ∧ k = v ∧ isSg v) ∨ (st = 4 ∧ k = 1)
def TkC (h : Mem) (st v : Int) (p e : Nat) : Prop := h 1 3 = (p : Int) ∧ h 1 4 = (e : Int) ∧ KdP st v (h 1 5) ∧ (st = 2 → h 1 6 = v) ∧ (st = 1 → NmR v (h 1 7))
/-- as it was, but the token that is read -/
def Fs1 (h h' : Mem) : Prop := (∀ i, i ≠ 1 → h' i = h i) ∧ ∀ j, (j ≤ 2 ∨ j = 8) → h' 1 j = h 1 j
theorem Fs1.rfl {h : Mem} : Fs1 h h := ⟨fun _ _ => Eq.refl _, fun _ _ => Eq.refl _⟩
theorem Fs1.trans {h h1 h2 : Mem} (a : Fs1 h h1) (b : Fs1 h1 h2) : Fs1 h h2 := ⟨fun i p => (b.1 i p).trans (a.1 i p), fun j p => (b.2 j p).trans (a.2 j p)⟩
theorem Fs1_f {h : Mem} {j : Nat} {v : Int} (hj : 3 ≤ j ∧ j ≠ 8) : Fs1 h (up h 1 j v) := ⟨fun i p => up_ne p, fun q p => up_nj (by omega)⟩
theorem Fs1.lay {h h' : Mem} (f : Fs1 h h') (L : Lay h) : Lay h' := by
  refine Lay_fr L (fun q hq => ?_)
  have hn : LAYL.all (fun q => if q.1 = 1 then decide (q.2.1 ≤ 2) else true) = true := by decide +kernel
  have h1 := List.all_eq_true.mp hn q hq
  by_cases e : q.1 = 1
  · rw [if_pos e] at h1
    rw [e]; exact f.2 _ (Or.inl (by simpa using h1))
  · rw [f.1 q.1 e]
theorem Fs1.tp {h h' : Mem} {X : (Nat → Int) × Nat} (f : Fs1 h h') (T : TpC h X) : TpC h' X := by
  refine ⟨by rw [f.2 2 (by omega)]; exact T.1, ?_⟩
  rw [f.1 2 (by decide)]; exact T.2
theorem Fs1.wd {h h' : Mem} (f : Fs1 h h') (W : WdC h) : WdC h' := by
  unfold WdC; rw [f.1 3 (by decide)]; exact W
theorem lcm_0 {a b : Int} : lcm a b = 0 ↔ a = b := by
  unfold lcm
  split
  · constructor <;> intro q <;> omega
  · split
    · rename_i q; exact ⟨fun _ => q, fun _ => rfl⟩
    · rename_i q; exact ⟨fun x => absurd x (by decide), fun x => absurd x q⟩
section TK
variable {l : Launch} {d : Nat} {h : Mem} {s : Nat → Int} {n : Nat}
theorem c_isLetter {sh : Shp} (c : Int) : Cl l (d + 1) M_X8_isLetter [(0, c)] sh h (Rt (bI (isLt c)) sh h) := by
  show V l (d + 1) 0 0 M_X8_isLetter 0 0 0 _ [(0, c)] [] sh h
  unfold isLt
  (repeat' (first | assumption | (refine S_X8_isLetter_0 _ _ _ _ ?_; simp only [B_X8_isLetter_0, bi_0, x_ic, x_lc, x_ld, x_st, x_sl, x_inc, x_b32, x_b64, x_d32, x_d64, x_s64, x_un, x_lcmp, x_dup, x_pop, x_dup2, x_if, x_cmp, x_sw, swk, x_ald, x_ast, x_alen, x_getf, x_putf, x_inv, x_mm, x_copy, x_iret, x_lret, x_vret, ok1, pu, ct, rcv, rcs, ent0, List.getElem?_cons_zero, List.getElem?_cons_succ, List.getElem?_nil, List.set_cons_zero, List.set_cons_succ, List.take_succ_cons, List.take_zero, List.drop_succ_cons, List.drop_zero, List.reverse_cons, List.reverse_nil, List.nil_append, List.cons_append, List.length_cons, List.length_nil, true_and, and_true, and_self, ne_eq, not_true_eq_false, not_false_eq_true, reduceIte, true_or, or_true, false_or, or_false, Nat.reduceAdd, Nat.reduceSub, Nat.reduceMul, Nat.reduceLeDiff, Nat.reduceEqDiff, Nat.reduceLT, Nat.le_refl, Nat.zero_le, Int.reduceToNat, Int.reduceAdd, Int.reduceSub, Int.reduceMul, Int.reduceNeg, Int.reduceLT, Int.reduceLE, Int.reduceEq, Nat.zero_add, Nat.add_zero, Nat.reduceBEq, Nat.one_ne_zero, Nat.zero_ne_one, Nat.lt_irrefl, Nat.succ_ne_zero]) | (refine S_X8_isLetter_16 _ _ _ _ ?_; simp only [B_X8_isLetter_16, bi_0, x_ic, x_lc, x_ld, x_st, x_sl, x_inc, x_b32, x_b64, x_d32, x_d64, x_s64, x_un, x_lcmp, x_dup, x_pop, x_dup2, x_if, x_cmp, x_sw, swk, x_ald, x_ast, x_alen, x_getf, x_putf, x_inv, x_mm, x_copy, x_iret, x_lret, x_vret, ok1, pu, ct, rcv, rcs, ent0, List.getElem?_cons_zero, List.getElem?_cons_succ, List.getElem?_nil, List.set_cons_zero, List.set_cons_succ, List.take_succ_cons, List.take_zero, List.drop_succ_cons, List.drop_zero, List.reverse_cons, List.reverse_nil, List.nil_append, List.cons_append, List.length_cons, List.length_nil, true_and, and_true, and_self, ne_eq, not_true_eq_false, not_false_eq_true, reduceIte, true_or, or_true, false_or, or_false, Nat.reduceAdd, Nat.reduceSub, Nat.reduceMul, Nat.reduceLeDiff, Nat.reduceEqDiff, Nat.reduceLT, Nat.le_refl, Nat.zero_le, Int.reduceToNat, Int.reduceAdd, Int.reduceSub, Int.reduceMul, Int.reduceNeg, Int.reduceLT, Int.reduceLE, Int.reduceEq, Nat.zero_add, Nat.add_zero, Nat.reduceBEq, Nat.one_ne_zero, Nat.zero_ne_one, Nat.lt_irrefl, Nat.succ_ne_zero]) | (refine S_X8_isLetter_17 _ _ _ _ ?_; simp only [B_X8_isLetter_17, bi_0, x_ic, x_lc, x_ld, x_st, x_sl, x_inc, x_b32, x_b64, x_d32, x_d64, x_s64, x_un, x_lcmp, x_dup, x_pop, x_dup2, x_if, x_cmp, x_sw, swk, x_ald, x_ast, x_alen, x_getf, x_putf, x_inv, x_mm, x_copy, x_iret, x_lret, x_vret, ok1, pu, ct, rcv, rcs, ent0, List.getElem?_cons_zero, List.getElem?_cons_succ, List.getElem?_nil, List.set_cons_zero, List.set_cons_succ, List.take_succ_cons, List.take_zero, List.drop_succ_cons, List.drop_zero, List.reverse_cons, List.reverse_nil, List.nil_append, List.cons_append, List.length_cons, List.length_nil, true_and, and_true, and_self, ne_eq, not_true_eq_false, not_false_eq_true, reduceIte, true_or, or_true, false_or, or_false, Nat.reduceAdd, Nat.reduceSub, Nat.reduceMul, Nat.reduceLeDiff, Nat.reduceEqDiff, Nat.reduceLT, Nat.le_refl, Nat.zero_le, Int.reduceToNat, Int.reduceAdd, Int.reduceSub, Int.reduceMul, Int.reduceNeg, Int.reduceLT, Int.reduceLE, Int.reduceEq, Nat.zero_add, Nat.add_zero, Nat.reduceBEq, Nat.one_ne_zero, Nat.zero_ne_one, Nat.lt_irrefl, Nat.succ_ne_zero]) | (refine Rt_mk ?_) | (refine Rt_mk3 ?_ ?_ ?_) | (with_reducible refine And.intro ?_ ?_) | (refine im (fun _ => ?_))))
  all_goals first | (exact (bI_t (by omega)).symm) | (exact (bI_f (by omega)).symm)
theorem c_isDigit {sh : Shp} (c : Int) : Cl l (d + 1) M_X8_isDigit [(0, c)] sh h (Rt (bI (isDg c)) sh h) := by
  show V l (d + 1) 0 0 M_X8_isDigit 0 0 0 _ [(0, c)] [] sh h
  unfold isDg
  (repeat' (first | assumption | (refine S_X8_isDigit_0 _ _ _ _ ?_; simp only [B_X8_isDigit_0, bi_0, x_ic, x_lc, x_ld, x_st, x_sl, x_inc, x_b32, x_b64, x_d32, x_d64, x_s64, x_un, x_lcmp, x_dup, x_pop, x_dup2, x_if, x_cmp, x_sw, swk, x_ald, x_ast, x_alen, x_getf, x_putf, x_inv, x_mm, x_copy, x_iret, x_lret, x_vret, ok1, pu, ct, rcv, rcs, ent0, List.getElem?_cons_zero, List.getElem?_cons_succ, List.getElem?_nil, List.set_cons_zero, List.set_cons_succ, List.take_succ_cons, List.take_zero, List.drop_succ_cons, List.drop_zero, List.reverse_cons, List.reverse_nil, List.nil_append, List.cons_append, List.length_cons, List.length_nil, true_and, and_true, and_self, ne_eq, not_true_eq_false, not_false_eq_true, reduceIte, true_or, or_true, false_or, or_false, Nat.reduceAdd, Nat.reduceSub, Nat.reduceMul, Nat.reduceLeDiff, Nat.reduceEqDiff, Nat.reduceLT, Nat.le_refl, Nat.zero_le, Int.reduceToNat, Int.reduceAdd, Int.reduceSub, Int.reduceMul, Int.reduceNeg, Int.reduceLT, Int.reduceLE, Int.reduceEq, Nat.zero_add, Nat.add_zero, Nat.reduceBEq, Nat.one_ne_zero, Nat.zero_ne_one, Nat.lt_irrefl, Nat.succ_ne_zero]) | (refine S_X8_isDigit_16 _ _ _ _ ?_; simp only [B_X8_isDigit_16, bi_0, x_ic, x_lc, x_ld, x_st, x_sl, x_inc, x_b32, x_b64, x_d32, x_d64, x_s64, x_un, x_lcmp, x_dup, x_pop, x_dup2, x_if, x_cmp, x_sw, swk, x_ald, x_ast, x_alen, x_getf, x_putf, x_inv, x_mm, x_copy, x_iret, x_lret, x_vret, ok1, pu, ct, rcv, rcs, ent0, List.getElem?_cons_zero, List.getElem?_cons_succ, List.getElem?_nil, List.set_cons_zero, List.set_cons_succ, List.take_succ_cons, List.take_zero, List.drop_succ_cons, List.drop_zero, List.reverse_cons, List.reverse_nil, List.nil_append, List.cons_append, List.length_cons, List.length_nil, true_and, and_true, and_self, ne_eq, not_true_eq_false, not_false_eq_true, reduceIte, true_or, or_true, false_or, or_false, Nat.reduceAdd, Nat.reduceSub, Nat.reduceMul, Nat.reduceLeDiff, Nat.reduceEqDiff, Nat.reduceLT, Nat.le_refl, Nat.zero_le, Int.reduceToNat, Int.reduceAdd, Int.reduceSub, Int.reduceMul, Int.reduceNeg, Int.reduceLT, Int.reduceLE, Int.reduceEq, Nat.zero_add, Nat.add_zero, Nat.reduceBEq, Nat.one_ne_zero, Nat.zero_ne_one, Nat.lt_irrefl, Nat.succ_ne_zero]) | (refine S_X8_isDigit_17 _ _ _ _ ?_; simp only [B_X8_isDigit_17, bi_0, x_ic, x_lc, x_ld, x_st, x_sl, x_inc, x_b32, x_b64, x_d32, x_d64, x_s64, x_un, x_lcmp, x_dup, x_pop, x_dup2, x_if, x_cmp, x_sw, swk, x_ald, x_ast, x_alen, x_getf, x_putf, x_inv, x_mm, x_copy, x_iret, x_lret, x_vret, ok1, pu, ct, rcv, rcs, ent0, List.getElem?_cons_zero, List.getElem?_cons_succ, List.getElem?_nil, List.set_cons_zero, List.set_cons_succ, List.take_succ_cons, List.take_zero, List.drop_succ_cons, List.drop_zero, List.reverse_cons, List.reverse_nil, List.nil_append, List.cons_append, List.length_cons, List.length_nil, true_and, and_true, and_self, ne_eq, not_true_eq_false, not_false_eq_true, reduceIte, true_or, or_true, false_or, or_false, Nat.reduceAdd, Nat.reduceSub, Nat.reduceMul, Nat.reduceLeDiff, Nat.reduceEqDiff, Nat.reduceLT, Nat.le_refl, Nat.zero_le, Int.reduceToNat, Int.reduceAdd, Int.reduceSub, Int.reduceMul, Int.reduceNeg, Int.reduceLT, Int.reduceLE, Int.reduceEq, Nat.zero_add, Nat.add_zero, Nat.reduceBEq, Nat.one_ne_zero, Nat.zero_ne_one, Nat.lt_irrefl, Nat.succ_ne_zero]) | (refine Rt_mk ?_) | (refine Rt_mk3 ?_ ?_ ?_) | (with_reducible refine And.intro ?_ ?_) | (refine im (fun _ => ?_))))
  all_goals first | (exact (bI_t (by omega)).symm) | (exact (bI_f (by omega)).symm)
theorem c_withLetter (u : Int) {c : Int} (hc : isLt c) : Cl l (d + 1) M_X8_withLetter [(1, u), (0, c)] SHP h (Rt (w64 (w64 (u * 32) + (c - 96))) SHP h) := by
  unfold isLt at hc
  have e1 : c - 97 + 1 = c - 96 := by omega
  show V l (d + 1) 0 0 M_X8_withLetter 0 0 0 _ [(1, u), (9, 0), (0, c)] [] SHP h
  refine S_X8_withLetter_0 _ _ _ _ ?_; simp (disch := omega) only [B_X8_withLetter_0, bi_0, x_ic, x_lc, x_ld, x_st, x_sl, x_inc, x_b32, x_b64, x_d32, x_d64, x_s64, x_un, x_lcmp, x_dup, x_pop, x_dup2, x_if, x_cmp, x_sw, swk, x_ald, x_ast, x_alen, x_getf, x_putf, x_inv, x_mm, x_copy, x_iret, x_lret, x_vret, ok1, pu, ct, rcv, rcs, ent0, List.getElem?_cons_zero, List.getElem?_cons_succ, List.getElem?_nil, List.set_cons_zero, List.set_cons_succ, List.take_succ_cons, List.take_zero, List.drop_succ_cons, List.drop_zero, List.reverse_cons, List.reverse_nil, List.nil_append, List.cons_append, List.length_cons, List.length_nil, true_and, and_true, and_self, ne_eq, not_true_eq_false, not_false_eq_true, reduceIte, true_or, or_true, false_or, or_false, Nat.reduceAdd, Nat.reduceSub, Nat.reduceMul, Nat.reduceLeDiff, Nat.reduceEqDiff, Nat.reduceLT, Nat.le_refl, Nat.zero_le, Int.reduceToNat, Int.reduceAdd, Int.reduceSub, Int.reduceMul, Int.reduceNeg, Int.reduceLT, Int.reduceLE, Int.reduceEq, Nat.zero_add, Nat.add_zero, Nat.reduceBEq, Nat.one_ne_zero, Nat.zero_ne_one, Nat.lt_irrefl, Nat.succ_ne_zero, w32_id, ixc, ixc2, Int.toNat_natCast, e1]
  exact Rt_mk rfl
theorem c_kindOfSign {c : Int} : Cl l (d + 1) M_X8_kindOfSign [(0, c)] SHP h (fun r sh' h' => sh' = SHP ∧ h' = h ∧ ((isSg c ∧ r = c) ∨ (¬ isSg c ∧ r = 1))) := by
  refine Cl_hide (fun Q hQ => ?_)
  unfold isSg at hQ
  have y : (c = 40 ∨ c = 41 ∨ c = 59 ∨ c = 61 ∨ c = 60 ∨ c = 43 ∨ c = 45 ∨ c = 42) → V l (d + 1) 0 0 M_X8_kindOfSign 0 0 104 Q [(0, c)] [] SHP h := by
    intro z
    refine S_X8_kindOfSign_104 _ _ _ _ ?_; simp (disch := omega) only [B_X8_kindOfSign_104, bi_0, x_ic, x_lc, x_ld, x_st, x_sl, x_inc, x_b32, x_b64, x_d32, x_d64, x_s64, x_un, x_lcmp, x_dup, x_pop, x_dup2, x_if, x_cmp, x_sw, swk, x_ald, x_ast, x_alen, x_getf, x_putf, x_inv, x_mm, x_copy, x_iret, x_lret, x_vret, ok1, pu, ct, rcv, rcs, ent0, List.getElem?_cons_zero, List.getElem?_cons_succ, List.getElem?_nil, List.set_cons_zero, List.set_cons_succ, List.take_succ_cons, List.take_zero, List.drop_succ_cons, List.drop_zero, List.reverse_cons, List.reverse_nil, List.nil_append, List.cons_append, List.length_cons, List.length_nil, true_and, and_true, and_self, ne_eq, not_true_eq_false, not_false_eq_true, reduceIte, true_or, or_true, false_or, or_false, Nat.reduceAdd, Nat.reduceSub, Nat.reduceMul, Nat.reduceLeDiff, Nat.reduceEqDiff, Nat.reduceLT, Nat.le_refl, Nat.zero_le, Int.reduceToNat, Int.reduceAdd, Int.reduceSub, Int.reduceMul, Int.reduceNeg, Int.reduceLT, Int.reduceLE, Int.reduceEq, Nat.zero_add, Nat.add_zero, Nat.reduceBEq, Nat.one_ne_zero, Nat.zero_ne_one, Nat.lt_irrefl, Nat.succ_ne_zero, w32_id, ixc, ixc2, Int.toNat_natCast]
    exact hQ _ _ _ ⟨rfl, rfl, Or.inl ⟨z, rfl⟩⟩
  have no : ¬ (c = 40 ∨ c = 41 ∨ c = 59 ∨ c = 61 ∨ c = 60 ∨ c = 43 ∨ c = 45 ∨ c = 42) → V l (d + 1) 0 0 M_X8_kindOfSign 0 0 106 Q [(0, c)] [] SHP h := by
    intro z
    refine S_X8_kindOfSign_106 _ _ _ _ ?_; simp (disch := omega) only [B_X8_kindOfSign_106, bi_0, x_ic, x_lc, x_ld, x_st, x_sl, x_inc, x_b32, x_b64, x_d32, x_d64, x_s64, x_un, x_lcmp, x_dup, x_pop, x_dup2, x_if, x_cmp, x_sw, swk, x_ald, x_ast, x_alen, x_getf, x_putf, x_inv, x_mm, x_copy, x_iret, x_lret, x_vret, ok1, pu, ct, rcv, rcs, ent0, List.getElem?_cons_zero, List.getElem?_cons_succ, List.getElem?_nil, List.set_cons_zero, List.set_cons_succ, List.take_succ_cons, List.take_zero, List.drop_succ_cons, List.drop_zero, List.reverse_cons, List.reverse_nil, List.nil_append, List.cons_append, List.length_cons, List.length_nil, true_and, and_true, and_self, ne_eq, not_true_eq_false, not_false_eq_true, reduceIte, true_or, or_true, false_or, or_false, Nat.reduceAdd, Nat.reduceSub, Nat.reduceMul, Nat.reduceLeDiff, Nat.reduceEqDiff, Nat.reduceLT, Nat.le_refl, Nat.zero_le, Int.reduceToNat, Int.reduceAdd, Int.reduceSub, Int.reduceMul, Int.reduceNeg, Int.reduceLT, Int.reduceLE, Int.reduceEq, Nat.zero_add, Nat.add_zero, Nat.reduceBEq, Nat.one_ne_zero, Nat.zero_ne_one, Nat.lt_irrefl, Nat.succ_ne_zero, w32_id, ixc, ixc2, Int.toNat_natCast]
    exact hQ _ _ _ ⟨rfl, rfl, Or.inr ⟨z, rfl⟩⟩
  show V l (d + 1) 0 0 M_X8_kindOfSign 0 0 0 Q [(0, c)] [] SHP h
  refine S_X8_kindOfSign_0 _ _ _ _ ?_; simp (disch := omega) only [B_X8_kindOfSign_0, bi_0, x_ic, x_lc, x_ld, x_st, x_sl, x_inc, x_b32, x_b64, x_d32, x_d64, x_s64, x_un, x_lcmp, x_dup, x_pop, x_dup2, x_if, x_cmp, x_sw, swk, x_ald, x_ast, x_alen, x_getf, x_putf, x_inv, x_mm, x_copy, x_iret, x_lret, x_vret, ok1, pu, ct, rcv, rcs, ent0, List.getElem?_cons_zero, List.getElem?_cons_succ, List.getElem?_nil, List.set_cons_zero, List.set_cons_succ, List.take_succ_cons, List.take_zero, List.drop_succ_cons, List.drop_zero, List.reverse_cons, List.reverse_nil, List.nil_append, List.cons_append, List.length_cons, List.length_nil, true_and, and_true, and_self, ne_eq, not_true_eq_false, not_false_eq_true, reduceIte, true_or, or_true, false_or, or_false, Nat.reduceAdd, Nat.reduceSub, Nat.reduceMul, Nat.reduceLeDiff, Nat.reduceEqDiff, Nat.reduceLT, Nat.le_refl, Nat.zero_le, Int.reduceToNat, Int.reduceAdd, Int.reduceSub, Int.reduceMul, Int.reduceNeg, Int.reduceLT, Int.reduceLE, Int.reduceEq, Nat.zero_add, Nat.add_zero, Nat.reduceBEq, Nat.one_ne_zero, Nat.zero_ne_one, Nat.lt_irrefl, Nat.succ_ne_zero, w32_id, ixc, ixc2, Int.toNat_natCast]
  repeat' (first | (refine ⟨fun z => ?_, fun z => ?_⟩) | (exact y (by omega)) | (exact no (by omega)))
theorem c_kindOfWord (L : Lay h) (W : WdC h) {v u : Int} (N : NmR v u) : Cl l (d + 1) M_X8_kindOfWord [(2, 2), (1, u)] SHP h (fun r sh' h' => sh' = SHP ∧ h' = h ∧ KwP v r) := by
  refine Cl_hide (fun Q hQ => ?_)
  have a1 := ly_1_1 L
  show V l (d + 1) 0 0 M_X8_kindOfWord 0 0 0 Q [(2, 2), (1, u), (9, 0), (9, 0)] [] SHP h
  refine S_X8_kindOfWord_0 _ _ _ _ ?_; simp (disch := omega) only [B_X8_kindOfWord_0, bi_0, x_ic, x_lc, x_ld, x_st, x_sl, x_inc, x_b32, x_b64, x_d32, x_d64, x_s64, x_un, x_lcmp, x_dup, x_pop, x_dup2, x_if, x_cmp, x_sw, swk, x_ald, x_ast, x_alen, x_getf, x_putf, x_inv, x_mm, x_copy, x_iret, x_lret, x_vret, ok1, pu, ct, rcv, rcs, ent0, List.getElem?_cons_zero, List.getElem?_cons_succ, List.getElem?_nil, List.set_cons_zero, List.set_cons_succ, List.take_succ_cons, List.take_zero, List.drop_succ_cons, List.drop_zero, List.reverse_cons, List.reverse_nil, List.nil_append, List.cons_append, List.length_cons, List.length_nil, true_and, and_true, and_self, ne_eq, not_true_eq_false, not_false_eq_true, reduceIte, true_or, or_true, false_or, or_false, Nat.reduceAdd, Nat.reduceSub, Nat.reduceMul, Nat.reduceLeDiff, Nat.reduceEqDiff, Nat.reduceLT, Nat.le_refl, Nat.zero_le, Int.reduceToNat, Int.reduceAdd, Int.reduceSub, Int.reduceMul, Int.reduceNeg, Int.reduceLT, Int.reduceLE, Int.reduceEq, Nat.zero_add, Nat.add_zero, Nat.reduceBEq, Nat.one_ne_zero, Nat.zero_ne_one, Nat.lt_irrefl, Nat.succ_ne_zero, w32_id, ixc, ixc2, Int.toNat_natCast]
  have key : ∀ (g i : Nat), i + g = 23 → (∀ j, j < i → v ≠ W37 j) → V l (d + 1) 0 0 M_X8_kindOfWord 0 0 2 Q [(2, 2), (1, u), (9, 0), (0, (i : Int))] [] SHP h := by
    intro g
    induction g with
    | zero =>
      intro i hi hn
      refine S_X8_kindOfWord_2 _ _ _ _ ?_; simp (disch := omega) only [B_X8_kindOfWord_2, bi_0, x_ic, x_lc, x_ld, x_st, x_sl, x_inc, x_b32, x_b64, x_d32, x_d64, x_s64, x_un, x_lcmp, x_dup, x_pop, x_dup2, x_if, x_cmp, x_sw, swk, x_ald, x_ast, x_alen, x_getf, x_putf, x_inv, x_mm, x_copy, x_iret, x_lret, x_vret, ok1, pu, ct, rcv, rcs, ent0, List.getElem?_cons_zero, List.getElem?_cons_succ, List.getElem?_nil, List.set_cons_zero, List.set_cons_succ, List.take_succ_cons, List.take_zero, List.drop_succ_cons, List.drop_zero, List.reverse_cons, List.reverse_nil, List.nil_append, List.cons_append, List.length_cons, List.length_nil, true_and, and_true, and_self, ne_eq, not_true_eq_false, not_false_eq_true, reduceIte, true_or, or_true, false_or, or_false, Nat.reduceAdd, Nat.reduceSub, Nat.reduceMul, Nat.reduceLeDiff, Nat.reduceEqDiff, Nat.reduceLT, Nat.le_refl, Nat.zero_le, Int.reduceToNat, Int.reduceAdd, Int.reduceSub, Int.reduceMul, Int.reduceNeg, Int.reduceLT, Int.reduceLE, Int.reduceEq, Nat.zero_add, Nat.add_zero, Nat.reduceBEq, Nat.one_ne_zero, Nat.zero_ne_one, Nat.lt_irrefl, Nat.succ_ne_zero, w32_id, ixc, ixc2, Int.toNat_natCast]
      refine ⟨fun _ => ?_, fun z => absurd z (by omega)⟩
      refine S_X8_kindOfWord_31 _ _ _ _ ?_; simp (disch := omega) only [B_X8_kindOfWord_31, bi_0, x_ic, x_lc, x_ld, x_st, x_sl, x_inc, x_b32, x_b64, x_d32, x_d64, x_s64, x_un, x_lcmp, x_dup, x_pop, x_dup2, x_if, x_cmp, x_sw, swk, x_ald, x_ast, x_alen, x_getf, x_putf, x_inv, x_mm, x_copy, x_iret, x_lret, x_vret, ok1, pu, ct, rcv, rcs, ent0, List.getElem?_cons_zero, List.getElem?_cons_succ, List.getElem?_nil, List.set_cons_zero, List.set_cons_succ, List.take_succ_cons, List.take_zero, List.drop_succ_cons, List.drop_zero, List.reverse_cons, List.reverse_nil, List.nil_append, List.cons_append, List.length_cons, List.length_nil, true_and, and_true, and_self, ne_eq, not_true_eq_false, not_false_eq_true, reduceIte, true_or, or_true, false_or, or_false, Nat.reduceAdd, Nat.reduceSub, Nat.reduceMul, Nat.reduceLeDiff, Nat.reduceEqDiff, Nat.reduceLT, Nat.le_refl, Nat.zero_le, Int.reduceToNat, Int.reduceAdd, Int.reduceSub, Int.reduceMul, Int.reduceNeg, Int.reduceLT, Int.reduceLE, Int.reduceEq, Nat.zero_add, Nat.add_zero, Nat.reduceBEq, Nat.one_ne_zero, Nat.zero_ne_one, Nat.lt_irrefl, Nat.succ_ne_zero, w32_id, ixc, ixc2, Int.toNat_natCast]
      exact hQ _ _ _ ⟨rfl, rfl, Or.inr ⟨fun j hj => hn j (by omega), rfl⟩⟩
    | succ g ih =>
      intro i hi hn
      have w := W i (by omega)
      have ij := N.inj (NmR_w (i := i) (by omega))
      have hQ2 : u = W32 i → Q (128 + (i : Int)) SHP h := fun e => hQ _ _ _ ⟨rfl, rfl, Or.inl ⟨i, by omega, ij.mpr e, rfl⟩⟩
      have ih2 : ¬ u = W32 i → V l (d + 1) 0 0 M_X8_kindOfWord 0 0 25 Q [(2, 2), (1, u), (9, 0), (0, (i : Int))] [] SHP h := by
        intro e
        refine S_X8_kindOfWord_25 _ _ _ _ ?_; simp (disch := omega) only [B_X8_kindOfWord_25, bi_0, x_ic, x_lc, x_ld, x_st, x_sl, x_inc, x_b32, x_b64, x_d32, x_d64, x_s64, x_un, x_lcmp, x_dup, x_pop, x_dup2, x_if, x_cmp, x_sw, swk, x_ald, x_ast, x_alen, x_getf, x_putf, x_inv, x_mm, x_copy, x_iret, x_lret, x_vret, ok1, pu, ct, rcv, rcs, ent0, List.getElem?_cons_zero, List.getElem?_cons_succ, List.getElem?_nil, List.set_cons_zero, List.set_cons_succ, List.take_succ_cons, List.take_zero, List.drop_succ_cons, List.drop_zero, List.reverse_cons, List.reverse_nil, List.nil_append, List.cons_append, List.length_cons, List.length_nil, true_and, and_true, and_self, ne_eq, not_true_eq_false, not_false_eq_true, reduceIte, true_or, or_true, false_or, or_false, Nat.reduceAdd, Nat.reduceSub, Nat.reduceMul, Nat.reduceLeDiff, Nat.reduceEqDiff, Nat.reduceLT, Nat.le_refl, Nat.zero_le, Int.reduceToNat, Int.reduceAdd, Int.reduceSub, Int.reduceMul, Int.reduceNeg, Int.reduceLT, Int.reduceLE, Int.reduceEq, Nat.zero_add, Nat.add_zero, Nat.reduceBEq, Nat.one_ne_zero, Nat.zero_ne_one, Nat.lt_irrefl, Nat.succ_ne_zero, w32_id, ixc, ixc2, Int.toNat_natCast]
        refine ih (i + 1) (by omega) (fun j hj => ?_)
        by_cases q : j = i
        · rw [q]; exact fun x => e (ij.mp x)
        · exact hn j (by omega)
      refine S_X8_kindOfWord_2 _ _ _ _ ?_; simp (disch := omega) only [B_X8_kindOfWord_2, bi_0, x_ic, x_lc, x_ld, x_st, x_sl, x_inc, x_b32, x_b64, x_d32, x_d64, x_s64, x_un, x_lcmp, x_dup, x_pop, x_dup2, x_if, x_cmp, x_sw, swk, x_ald, x_ast, x_alen, x_getf, x_putf, x_inv, x_mm, x_copy, x_iret, x_lret, x_vret, ok1, pu, ct, rcv, rcs, ent0, List.getElem?_cons_zero, List.getElem?_cons_succ, List.getElem?_nil, List.set_cons_zero, List.set_cons_succ, List.take_succ_cons, List.take_zero, List.drop_succ_cons, List.drop_zero, List.reverse_cons, List.reverse_nil, List.nil_append, List.cons_append, List.length_cons, List.length_nil, true_and, and_true, and_self, ne_eq, not_true_eq_false, not_false_eq_true, reduceIte, true_or, or_true, false_or, or_false, Nat.reduceAdd, Nat.reduceSub, Nat.reduceMul, Nat.reduceLeDiff, Nat.reduceEqDiff, Nat.reduceLT, Nat.le_refl, Nat.zero_le, Int.reduceToNat, Int.reduceAdd, Int.reduceSub, Int.reduceMul, Int.reduceNeg, Int.reduceLT, Int.reduceLE, Int.reduceEq, Nat.zero_add, Nat.add_zero, Nat.reduceBEq, Nat.one_ne_zero, Nat.zero_ne_one, Nat.lt_irrefl, Nat.succ_ne_zero, w32_id, ixc, ixc2, Int.toNat_natCast, ob_1, a1, ln_3, w]
      refine ⟨fun z => absurd z (by omega), fun _ => ⟨by omega, fun z => hQ2 (lcm_0.mp z).symm, fun z => ih2 (fun q => z (lcm_0.mpr q.symm))⟩⟩
  exact key 23 0 rfl (fun j hj => absurd hj (by omega))
theorem cd32_b {s : Nat → Int} {p : Nat} : ∀ {j : Nat}, j ≤ 8 → (∀ i, i < j → isLt (s (p + i))) → 0 ≤ cdN 32 96 s p j ∧ cdN 32 96 s p j < 32 ^ j
  | 0, _, _ => ⟨Int.le_refl 0, show (0 : Int) < 1 by decide⟩
  | j + 1, hj, h => by
    have ih := cd32_b (s := s) (p := p) (j := j) (by omega) (fun i hi => h i (by omega))
    have := h j (by omega)
    unfold isLt at this
    rw [cdN, Int.pow_succ]
    omega
theorem p32 {j : Nat} (hj : j ≤ 8) : (32 : Int) ^ j ≤ 32 ^ 8 := by
  have : ∀ j : Fin 9, (32 : Int) ^ j.1 ≤ 32 ^ 8 := by decide +kernel
  exact this ⟨j, by omega⟩
theorem c_readWord (L : Lay h) (Tp : TpC h (s, n)) (Tw : TpW (s, n)) (W : WdC h) {p : Nat} (hp : p < n) (h3 : h 1 3 = (p : Int)) (h4 : h 1 4 = (p : Int)) (hl0 : isLt (s p)) : Cl l (d + 2) M_X8_readWord [(2, 2)] SHP h (fun r sh' h' => r = 0 ∧ sh' = SHP ∧ Fs1 h h' ∧ ∃ (e : Nat) (st v : Int), (p < e ∧ e ≤ n ∧ (∀ j, p ≤ j → j < e → isLt (s j)) ∧ (e < n → ¬ isLt (s e))) ∧ st = (if p + 8 < e then 4 else 1) ∧ (e ≤ p + 8 → v = cdN 37 96 s p (e - p)) ∧ TkC h' st v p e) := by
  refine Cl_hide (fun Q hQ => ?_)
  obtain ⟨tw1, tw2⟩ := Tw
  dsimp only at tw1 tw2
  have out : ∀ (m : Mem) (e : Nat), Fs1 h m → m 1 3 = (p : Int) → m 1 4 = (e : Int) → p < e → e ≤ n → (∀ j, p ≤ j → j < e → isLt (s j)) → (e < n → ¬ isLt (s e)) → (e ≤ p + 8 → m 1 7 = cdN 32 96 s p (e - p)) → V l (d + 2) 0 0 M_X8_readWord 0 0 64 Q [(2, 2)] [] SHP m := by
    intro m e F q3 q4 he hen hl hx hv
    have Lm := F.lay L
    refine S_X8_readWord_64 _ _ _ _ ?_; simp (disch := omega) only [B_X8_readWord_64, bi_0, x_ic, x_lc, x_ld, x_st, x_sl, x_inc, x_b32, x_b64, x_d32, x_d64, x_s64, x_un, x_lcmp, x_dup, x_pop, x_dup2, x_if, x_cmp, x_sw, swk, x_ald, x_ast, x_alen, x_getf, x_putf, x_inv, x_mm, x_copy, x_iret, x_lret, x_vret, ok1, pu, ct, rcv, rcs, ent0, List.getElem?_cons_zero, List.getElem?_cons_succ, List.getElem?_nil, List.set_cons_zero, List.set_cons_succ, List.take_succ_cons, List.take_zero, List.drop_succ_cons, List.drop_zero, List.reverse_cons, List.reverse_nil, List.nil_append, List.cons_append, List.length_cons, List.length_nil, true_and, and_true, and_self, ne_eq, not_true_eq_false, not_false_eq_true, reduceIte, true_or, or_true, false_or, or_false, Nat.reduceAdd, Nat.reduceSub, Nat.reduceMul, Nat.reduceLeDiff, Nat.reduceEqDiff, Nat.reduceLT, Nat.le_refl, Nat.zero_le, Int.reduceToNat, Int.reduceAdd, Int.reduceSub, Int.reduceMul, Int.reduceNeg, Int.reduceLT, Int.reduceLE, Int.reduceEq, Nat.zero_add, Nat.add_zero, Nat.reduceBEq, Nat.one_ne_zero, Nat.zero_ne_one, Nat.lt_irrefl, Nat.succ_ne_zero, w32_id, ixc, ixc2, Int.toNat_natCast, ob_1, q3, q4]
    refine ⟨fun z => ?_, fun z => ?_⟩
    · have N : NmR (cdN 37 96 s p (e - p)) (m 1 7) := by
        rw [hv (by omega)]
        exact NmR_cd (fun i hi => hl (p + i) (by omega) (by omega))
      refine S_X8_readWord_83 _ _ _ _ ?_; simp (disch := omega) only [B_X8_readWord_83, bi_0, x_ic, x_lc, x_ld, x_st, x_sl, x_inc, x_b32, x_b64, x_d32, x_d64, x_s64, x_un, x_lcmp, x_dup, x_pop, x_dup2, x_if, x_cmp, x_sw, swk, x_ald, x_ast, x_alen, x_getf, x_putf, x_inv, x_mm, x_copy, x_iret, x_lret, x_vret, ok1, pu, ct, rcv, rcs, ent0, List.getElem?_cons_zero, List.getElem?_cons_succ, List.getElem?_nil, List.set_cons_zero, List.set_cons_succ, List.take_succ_cons, List.take_zero, List.drop_succ_cons, List.drop_zero, List.reverse_cons, List.reverse_nil, List.nil_append, List.cons_append, List.length_cons, List.length_nil, true_and, and_true, and_self, ne_eq, not_true_eq_false, not_false_eq_true, reduceIte, true_or, or_true, false_or, or_false, Nat.reduceAdd, Nat.reduceSub, Nat.reduceMul, Nat.reduceLeDiff, Nat.reduceEqDiff, Nat.reduceLT, Nat.le_refl, Nat.zero_le, Int.reduceToNat, Int.reduceAdd, Int.reduceSub, Int.reduceMul, Int.reduceNeg, Int.reduceLT, Int.reduceLE, Int.reduceEq, Nat.zero_add, Nat.add_zero, Nat.reduceBEq, Nat.one_ne_zero, Nat.zero_ne_one, Nat.lt_irrefl, Nat.succ_ne_zero, w32_id, ixc, ixc2, Int.toNat_natCast, ob_1]
      refine Cl.imp (c_kindOfWord (l := l) (d := d) Lm (F.wd W) N) (fun r sh' m2 q => ?_)
      obtain ⟨rfl, rfl, K⟩ := q
      (try simp (disch := omega) only [bi_0, x_ic, x_lc, x_ld, x_st, x_sl, x_inc, x_b32, x_b64, x_d32, x_d64, x_s64, x_un, x_lcmp, x_dup, x_pop, x_dup2, x_if, x_cmp, x_sw, swk, x_ald, x_ast, x_alen, x_getf, x_putf, x_inv, x_mm, x_copy, x_iret, x_lret, x_vret, ok1, pu, ct, rcv, rcs, ent0, List.getElem?_cons_zero, List.getElem?_cons_succ, List.getElem?_nil, List.set_cons_zero, List.set_cons_succ, List.take_succ_cons, List.take_zero, List.drop_succ_cons, List.drop_zero, List.reverse_cons, List.reverse_nil, List.nil_append, List.cons_append, List.length_cons, List.length_nil, true_and, and_true, and_self, ne_eq, not_true_eq_false, not_false_eq_true, reduceIte, true_or, or_true, false_or, or_false, Nat.reduceAdd, Nat.reduceSub, Nat.reduceMul, Nat.reduceLeDiff, Nat.reduceEqDiff, Nat.reduceLT, Nat.le_refl, Nat.zero_le, Int.reduceToNat, Int.reduceAdd, Int.reduceSub, Int.reduceMul, Int.reduceNeg, Int.reduceLT, Int.reduceLE, Int.reduceEq, Nat.zero_add, Nat.add_zero, Nat.reduceBEq, Nat.one_ne_zero, Nat.zero_ne_one, Nat.lt_irrefl, Nat.succ_ne_zero, w32_id, ixc, ixc2, Int.toNat_natCast])
      refine S_X8_readWord_91 _ _ _ _ ?_; simp (disch := omega) only [B_X8_readWord_91, bi_0, x_ic, x_lc, x_ld, x_st, x_sl, x_inc, x_b32, x_b64, x_d32, x_d64, x_s64, x_un, x_lcmp, x_dup, x_pop, x_dup2, x_if, x_cmp, x_sw, swk, x_ald, x_ast, x_alen, x_getf, x_putf, x_inv, x_mm, x_copy, x_iret, x_lret, x_vret, ok1, pu, ct, rcv, rcs, ent0, List.getElem?_cons_zero, List.getElem?_cons_succ, List.getElem?_nil, List.set_cons_zero, List.set_cons_succ, List.take_succ_cons, List.take_zero, List.drop_succ_cons, List.drop_zero, List.reverse_cons, List.reverse_nil, List.nil_append, List.cons_append, List.length_cons, List.length_nil, true_and, and_true, and_self, ne_eq, not_true_eq_false, not_false_eq_true, reduceIte, true_or, or_true, false_or, or_false, Nat.reduceAdd, Nat.reduceSub, Nat.reduceMul, Nat.reduceLeDiff, Nat.reduceEqDiff, Nat.reduceLT, Nat.le_refl, Nat.zero_le, Int.reduceToNat, Int.reduceAdd, Int.reduceSub, Int.reduceMul, Int.reduceNeg, Int.reduceLT, Int.reduceLE, Int.reduceEq, Nat.zero_add, Nat.add_zero, Nat.reduceBEq, Nat.one_ne_zero, Nat.zero_ne_one, Nat.lt_irrefl, Nat.succ_ne_zero, w32_id, ixc, ixc2, Int.toNat_natCast, ob_1]
      refine hQ _ _ _ ⟨rfl, rfl, F.trans (Fs1_f (by omega)), e, 1, cdN 37 96 s p (e - p), ⟨he, hen, hl, hx⟩, by rw [if_neg (by omega)], fun _ => rfl, ?_⟩
      refine ⟨by rw [up_nj (by decide)]; exact q3, by rw [up_nj (by decide)]; exact q4, by rw [up_at]; exact Or.inr (Or.inl ⟨rfl, K⟩), fun x => absurd x (by decide), fun _ => by rw [up_nj (by decide)]; exact N⟩
    · refine S_X8_readWord_91 _ _ _ _ ?_; simp (disch := omega) only [B_X8_readWord_91, bi_0, x_ic, x_lc, x_ld, x_st, x_sl, x_inc, x_b32, x_b64, x_d32, x_d64, x_s64, x_un, x_lcmp, x_dup, x_pop, x_dup2, x_if, x_cmp, x_sw, swk, x_ald, x_ast, x_alen, x_getf, x_putf, x_inv, x_mm, x_copy, x_iret, x_lret, x_vret, ok1, pu, ct, rcv, rcs, ent0, List.getElem?_cons_zero, List.getElem?_cons_succ, List.getElem?_nil, List.set_cons_zero, List.set_cons_succ, List.take_succ_cons, List.take_zero, List.drop_succ_cons, List.drop_zero, List.reverse_cons, List.reverse_nil, List.nil_append, List.cons_append, List.length_cons, List.length_nil, true_and, and_true, and_self, ne_eq, not_true_eq_false, not_false_eq_true, reduceIte, true_or, or_true, false_or, or_false, Nat.reduceAdd, Nat.reduceSub, Nat.reduceMul, Nat.reduceLeDiff, Nat.reduceEqDiff, Nat.reduceLT, Nat.le_refl, Nat.zero_le, Int.reduceToNat, Int.reduceAdd, Int.reduceSub, Int.reduceMul, Int.reduceNeg, Int.reduceLT, Int.reduceLE, Int.reduceEq, Nat.zero_add, Nat.add_zero, Nat.reduceBEq, Nat.one_ne_zero, Nat.zero_ne_one, Nat.lt_irrefl, Nat.succ_ne_zero, w32_id, ixc, ixc2, Int.toNat_natCast, ob_1]
      refine hQ _ _ _ ⟨rfl, rfl, F.trans (Fs1_f (by omega)), e, 4, 0, ⟨he, hen, hl, hx⟩, by rw [if_pos (by omega)], fun x => absurd x (by omega), ?_⟩
      refine ⟨by rw [up_nj (by decide)]; exact q3, by rw [up_nj (by decide)]; exact q4, by rw [up_at]; exact Or.inr (Or.inr (Or.inr (Or.inr ⟨rfl, rfl⟩))), fun x => absurd x (by decide), fun x => absurd x (by decide)⟩
  have key : ∀ (g e : Nat), e + g = n → p ≤ e → ∀ m, Fs1 h m → m 1 3 = (p : Int) → m 1 4 = (e : Int) → (∀ j, p ≤ j → j < e → isLt (s j)) → (e ≤ p + 8 → m 1 7 = cdN 32 96 s p (e - p)) → V l (d + 2) 0 0 M_X8_readWord 0 0 5 Q [(2, 2)] [] SHP m := by
    intro g
    induction g with
    | zero =>
      intro e hg hpe m F q3 q4 hl hv
      have q2 := (F.tp Tp).1
      refine S_X8_readWord_5 _ _ _ _ ?_; simp (disch := omega) only [B_X8_readWord_5, bi_0, x_ic, x_lc, x_ld, x_st, x_sl, x_inc, x_b32, x_b64, x_d32, x_d64, x_s64, x_un, x_lcmp, x_dup, x_pop, x_dup2, x_if, x_cmp, x_sw, swk, x_ald, x_ast, x_alen, x_getf, x_putf, x_inv, x_mm, x_copy, x_iret, x_lret, x_vret, ok1, pu, ct, rcv, rcs, ent0, List.getElem?_cons_zero, List.getElem?_cons_succ, List.getElem?_nil, List.set_cons_zero, List.set_cons_succ, List.take_succ_cons, List.take_zero, List.drop_succ_cons, List.drop_zero, List.reverse_cons, List.reverse_nil, List.nil_append, List.cons_append, List.length_cons, List.length_nil, true_and, and_true, and_self, ne_eq, not_true_eq_false, not_false_eq_true, reduceIte, true_or, or_true, false_or, or_false, Nat.reduceAdd, Nat.reduceSub, Nat.reduceMul, Nat.reduceLeDiff, Nat.reduceEqDiff, Nat.reduceLT, Nat.le_refl, Nat.zero_le, Int.reduceToNat, Int.reduceAdd, Int.reduceSub, Int.reduceMul, Int.reduceNeg, Int.reduceLT, Int.reduceLE, Int.reduceEq, Nat.zero_add, Nat.add_zero, Nat.reduceBEq, Nat.one_ne_zero, Nat.zero_ne_one, Nat.lt_irrefl, Nat.succ_ne_zero, w32_id, ixc, ixc2, Int.toNat_natCast, ob_1, q2, q4]
      refine ⟨fun _ => ?_, fun z => absurd z (by omega)⟩
      exact out m e F q3 q4 (by omega) (by omega) hl (fun q => absurd q (by omega)) hv
    | succ g ih =>
      intro e hg hpe m F q3 q4 hl hv
      have ih := ih (e + 1) (by omega) (by omega)
      have Lm := F.lay L
      have a0 := ly_1_0 Lm
      have q2 := (F.tp Tp).1
      have v2 := (F.tp Tp).2 e (by show e < n; omega)
      dsimp only at v2
      refine S_X8_readWord_5 _ _ _ _ ?_; simp (disch := omega) only [B_X8_readWord_5, bi_0, x_ic, x_lc, x_ld, x_st, x_sl, x_inc, x_b32, x_b64, x_d32, x_d64, x_s64, x_un, x_lcmp, x_dup, x_pop, x_dup2, x_if, x_cmp, x_sw, swk, x_ald, x_ast, x_alen, x_getf, x_putf, x_inv, x_mm, x_copy, x_iret, x_lret, x_vret, ok1, pu, ct, rcv, rcs, ent0, List.getElem?_cons_zero, List.getElem?_cons_succ, List.getElem?_nil, List.set_cons_zero, List.set_cons_succ, List.take_succ_cons, List.take_zero, List.drop_succ_cons, List.drop_zero, List.reverse_cons, List.reverse_nil, List.nil_append, List.cons_append, List.length_cons, List.length_nil, true_and, and_true, and_self, ne_eq, not_true_eq_false, not_false_eq_true, reduceIte, true_or, or_true, false_or, or_false, Nat.reduceAdd, Nat.reduceSub, Nat.reduceMul, Nat.reduceLeDiff, Nat.reduceEqDiff, Nat.reduceLT, Nat.le_refl, Nat.zero_le, Int.reduceToNat, Int.reduceAdd, Int.reduceSub, Int.reduceMul, Int.reduceNeg, Int.reduceLT, Int.reduceLE, Int.reduceEq, Nat.zero_add, Nat.add_zero, Nat.reduceBEq, Nat.one_ne_zero, Nat.zero_ne_one, Nat.lt_irrefl, Nat.succ_ne_zero, w32_id, ixc, ixc2, Int.toNat_natCast, ob_1, q2, q4, a0, ln_2, v2]
      refine ⟨fun z => absurd z (by omega), fun _ => ⟨by omega, ?_⟩⟩
      refine Cl.app (c_isLetter (l := l) (d := d) (s e)) ?_
      (try simp (disch := omega) only [bi_0, x_ic, x_lc, x_ld, x_st, x_sl, x_inc, x_b32, x_b64, x_d32, x_d64, x_s64, x_un, x_lcmp, x_dup, x_pop, x_dup2, x_if, x_cmp, x_sw, swk, x_ald, x_ast, x_alen, x_getf, x_putf, x_inv, x_mm, x_copy, x_iret, x_lret, x_vret, ok1, pu, ct, rcv, rcs, ent0, List.getElem?_cons_zero, List.getElem?_cons_succ, List.getElem?_nil, List.set_cons_zero, List.set_cons_succ, List.take_succ_cons, List.take_zero, List.drop_succ_cons, List.drop_zero, List.reverse_cons, List.reverse_nil, List.nil_append, List.cons_append, List.length_cons, List.length_nil, true_and, and_true, and_self, ne_eq, not_true_eq_false, not_false_eq_true, reduceIte, true_or, or_true, false_or, or_false, Nat.reduceAdd, Nat.reduceSub, Nat.reduceMul, Nat.reduceLeDiff, Nat.reduceEqDiff, Nat.reduceLT, Nat.le_refl, Nat.zero_le, Int.reduceToNat, Int.reduceAdd, Int.reduceSub, Int.reduceMul, Int.reduceNeg, Int.reduceLT, Int.reduceLE, Int.reduceEq, Nat.zero_add, Nat.add_zero, Nat.reduceBEq, Nat.one_ne_zero, Nat.zero_ne_one, Nat.lt_irrefl, Nat.succ_ne_zero, w32_id, ixc, ixc2, Int.toNat_natCast, bI_0])
      refine ⟨fun y => ?_, fun y => ?_⟩
      · have hne : p ≠ e := fun q => by rw [q] at hl0; exact y hl0
        exact out m e F q3 q4 (by omega) (by omega) hl (fun _ => y) hv
      have y := Classical.not_not.mp y
      have y2 := y
      unfold isLt at y2
      (try simp (disch := omega) only [bi_0, x_ic, x_lc, x_ld, x_st, x_sl, x_inc, x_b32, x_b64, x_d32, x_d64, x_s64, x_un, x_lcmp, x_dup, x_pop, x_dup2, x_if, x_cmp, x_sw, swk, x_ald, x_ast, x_alen, x_getf, x_putf, x_inv, x_mm, x_copy, x_iret, x_lret, x_vret, ok1, pu, ct, rcv, rcs, ent0, List.getElem?_cons_zero, List.getElem?_cons_succ, List.getElem?_nil, List.set_cons_zero, List.set_cons_succ, List.take_succ_cons, List.take_zero, List.drop_succ_cons, List.drop_zero, List.reverse_cons, List.reverse_nil, List.nil_append, List.cons_append, List.length_cons, List.length_nil, true_and, and_true, and_self, ne_eq, not_true_eq_false, not_false_eq_true, reduceIte, true_or, or_true, false_or, or_false, Nat.reduceAdd, Nat.reduceSub, Nat.reduceMul, Nat.reduceLeDiff, Nat.reduceEqDiff, Nat.reduceLT, Nat.le_refl, Nat.zero_le, Int.reduceToNat, Int.reduceAdd, Int.reduceSub, Int.reduceMul, Int.reduceNeg, Int.reduceLT, Int.reduceLE, Int.reduceEq, Nat.zero_add, Nat.add_zero, Nat.reduceBEq, Nat.one_ne_zero, Nat.zero_ne_one, Nat.lt_irrefl, Nat.succ_ne_zero, w32_id, ixc, ixc2, Int.toNat_natCast, ob_1, q4, a0, ln_2, v2])
      refine ⟨by omega, ?_⟩
      refine Cl.app (c_withLetter (l := l) (d := d) (m 1 7) y) ?_
      have g4 : ∀ x, up m 1 7 x 1 4 = (e : Int) := fun x => by rw [up_nj (by decide)]; exact q4
      (try simp (disch := omega) only [bi_0, x_ic, x_lc, x_ld, x_st, x_sl, x_inc, x_b32, x_b64, x_d32, x_d64, x_s64, x_un, x_lcmp, x_dup, x_pop, x_dup2, x_if, x_cmp, x_sw, swk, x_ald, x_ast, x_alen, x_getf, x_putf, x_inv, x_mm, x_copy, x_iret, x_lret, x_vret, ok1, pu, ct, rcv, rcs, ent0, List.getElem?_cons_zero, List.getElem?_cons_succ, List.getElem?_nil, List.set_cons_zero, List.set_cons_succ, List.take_succ_cons, List.take_zero, List.drop_succ_cons, List.drop_zero, List.reverse_cons, List.reverse_nil, List.nil_append, List.cons_append, List.length_cons, List.length_nil, true_and, and_true, and_self, ne_eq, not_true_eq_false, not_false_eq_true, reduceIte, true_or, or_true, false_or, or_false, Nat.reduceAdd, Nat.reduceSub, Nat.reduceMul, Nat.reduceLeDiff, Nat.reduceEqDiff, Nat.reduceLT, Nat.le_refl, Nat.zero_le, Int.reduceToNat, Int.reduceAdd, Int.reduceSub, Int.reduceMul, Int.reduceNeg, Int.reduceLT, Int.reduceLE, Int.reduceEq, Nat.zero_add, Nat.add_zero, Nat.reduceBEq, Nat.one_ne_zero, Nat.zero_ne_one, Nat.lt_irrefl, Nat.succ_ne_zero, w32_id, ixc, ixc2, Int.toNat_natCast, ob_1, g4])
      refine ih _ (F.trans ((Fs1_f (by omega)).trans (Fs1_f (by omega)))) (by rw [up_nj (by decide), up_nj (by decide)]; exact q3) up_at (fun j h1 h2 => ?_) (fun h8 => ?_)
      · by_cases q : j = e
        · rw [q]; exact y
        · exact hl j h1 (by omega)
      · rw [up_nj (by decide), up_at, hv (by omega)]
        have cb := cd32_b (s := s) (p := p) (j := e - p) (by omega) (fun i hi => hl (p + i) (by omega) (by omega))
        have cb8 : cdN 32 96 s p (e - p) < 32 ^ 8 := Int.lt_of_lt_of_le cb.2 (p32 (by omega))
        rw [show e + 1 - p = (e - p) + 1 by omega, cdN, show p + (e - p) = e by omega, w64_id (x := cdN 32 96 s p (e - p) * 32) (by omega) (by omega), w64_id (by omega) (by omega)]
        omega
  show V l (d + 2) 0 0 M_X8_readWord 0 0 0 Q [(2, 2)] [] SHP h
  refine S_X8_readWord_0 _ _ _ _ ?_; simp (disch := omega) only [B_X8_readWord_0, bi_0, x_ic, x_lc, x_ld, x_st, x_sl, x_inc, x_b32, x_b64, x_d32, x_d64, x_s64, x_un, x_lcmp, x_dup, x_pop, x_dup2, x_if, x_cmp, x_sw, swk, x_ald, x_ast, x_alen, x_getf, x_putf, x_inv, x_mm, x_copy, x_iret, x_lret, x_vret, ok1, pu, ct, rcv, rcs, ent0, List.getElem?_cons_zero, List.getElem?_cons_succ, List.getElem?_nil, List.set_cons_zero, List.set_cons_succ, List.take_succ_cons, List.take_zero, List.drop_succ_cons, List.drop_zero, List.reverse_cons, List.reverse_nil, List.nil_append, List.cons_append, List.length_cons, List.length_nil, true_and, and_true, and_self, ne_eq, not_true_eq_false, not_false_eq_true, reduceIte, true_or, or_true, false_or, or_false, Nat.reduceAdd, Nat.reduceSub, Nat.reduceMul, Nat.reduceLeDiff, Nat.reduceEqDiff, Nat.reduceLT, Nat.le_refl, Nat.zero_le, Int.reduceToNat, Int.reduceAdd, Int.reduceSub, Int.reduceMul, Int.reduceNeg, Int.reduceLT, Int.reduceLE, Int.reduceEq, Nat.zero_add, Nat.add_zero, Nat.reduceBEq, Nat.one_ne_zero, Nat.zero_ne_one, Nat.lt_irrefl, Nat.succ_ne_zero, w32_id, ixc, ixc2, Int.toNat_natCast, ob_1]
  exact key (n - p) p (by omega) (Nat.le_refl _) _ (Fs1_f (by omega)) (by rw [up_nj (by decide)]; exact h3) (by rw [up_nj (by decide)]; exact h4) (fun j h1 h2 => absurd h2 (by omega)) (fun _ => by rw [up_at, Nat.sub_self]; rfl)
theorem c_readNumber (L : Lay h) (Tp : TpC h (s, n)) (Tw : TpW (s, n)) {p : Nat} (hp : p < n) (h3 : h 1 3 = (p : Int)) (h4 : h 1 4 = (p : Int)) (hl0 : isDg (s p)) : Cl l (d + 2) M_X8_readNumber [(2, 2)] SHP h (fun r sh' h' => r = 0 ∧ sh' = SHP ∧ Fs1 h h' ∧ ∃ (e : Nat) (st v : Int), (p < e ∧ e ≤ n ∧ (∀ j, p ≤ j → j < e → isDg (s j)) ∧ (e < n → ¬ isDg (s e))) ∧ st = (if p + 4 < e then 4 else 2) ∧ (e ≤ p + 4 → v = cdN 10 48 s p (e - p)) ∧ TkC h' st v p e) := by
  refine Cl_hide (fun Q hQ => ?_)
  obtain ⟨tw1, tw2⟩ := Tw
  dsimp only at tw1 tw2
  have out : ∀ (m : Mem) (e : Nat), Fs1 h m → m 1 3 = (p : Int) → m 1 4 = (e : Int) → p < e → e ≤ n → (∀ j, p ≤ j → j < e → isDg (s j)) → (e < n → ¬ isDg (s e)) → (e ≤ p + 4 → m 1 6 = cdN 10 48 s p (e - p)) → V l (d + 2) 0 0 M_X8_readNumber 0 0 68 Q [(2, 2)] [] SHP m := by
    intro m e F q3 q4 he hen hl hx hv
    refine S_X8_readNumber_68 _ _ _ _ ?_; simp (disch := omega) only [B_X8_readNumber_68, bi_0, x_ic, x_lc, x_ld, x_st, x_sl, x_inc, x_b32, x_b64, x_d32, x_d64, x_s64, x_un, x_lcmp, x_dup, x_pop, x_dup2, x_if, x_cmp, x_sw, swk, x_ald, x_ast, x_alen, x_getf, x_putf, x_inv, x_mm, x_copy, x_iret, x_lret, x_vret, ok1, pu, ct, rcv, rcs, ent0, List.getElem?_cons_zero, List.getElem?_cons_succ, List.getElem?_nil, List.set_cons_zero, List.set_cons_succ, List.take_succ_cons, List.take_zero, List.drop_succ_cons, List.drop_zero, List.reverse_cons, List.reverse_nil, List.nil_append, List.cons_append, List.length_cons, List.length_nil, true_and, and_true, and_self, ne_eq, not_true_eq_false, not_false_eq_true, reduceIte, true_or, or_true, false_or, or_false, Nat.reduceAdd, Nat.reduceSub, Nat.reduceMul, Nat.reduceLeDiff, Nat.reduceEqDiff, Nat.reduceLT, Nat.le_refl, Nat.zero_le, Int.reduceToNat, Int.reduceAdd, Int.reduceSub, Int.reduceMul, Int.reduceNeg, Int.reduceLT, Int.reduceLE, Int.reduceEq, Nat.zero_add, Nat.add_zero, Nat.reduceBEq, Nat.one_ne_zero, Nat.zero_ne_one, Nat.lt_irrefl, Nat.succ_ne_zero, w32_id, ixc, ixc2, Int.toNat_natCast, ob_1, q3, q4]
    refine ⟨fun z => ?_, fun z => ?_⟩
    · refine S_X8_readNumber_86 _ _ _ _ ?_; simp (disch := omega) only [B_X8_readNumber_86, bi_0, x_ic, x_lc, x_ld, x_st, x_sl, x_inc, x_b32, x_b64, x_d32, x_d64, x_s64, x_un, x_lcmp, x_dup, x_pop, x_dup2, x_if, x_cmp, x_sw, swk, x_ald, x_ast, x_alen, x_getf, x_putf, x_inv, x_mm, x_copy, x_iret, x_lret, x_vret, ok1, pu, ct, rcv, rcs, ent0, List.getElem?_cons_zero, List.getElem?_cons_succ, List.getElem?_nil, List.set_cons_zero, List.set_cons_succ, List.take_succ_cons, List.take_zero, List.drop_succ_cons, List.drop_zero, List.reverse_cons, List.reverse_nil, List.nil_append, List.cons_append, List.length_cons, List.length_nil, true_and, and_true, and_self, ne_eq, not_true_eq_false, not_false_eq_true, reduceIte, true_or, or_true, false_or, or_false, Nat.reduceAdd, Nat.reduceSub, Nat.reduceMul, Nat.reduceLeDiff, Nat.reduceEqDiff, Nat.reduceLT, Nat.le_refl, Nat.zero_le, Int.reduceToNat, Int.reduceAdd, Int.reduceSub, Int.reduceMul, Int.reduceNeg, Int.reduceLT, Int.reduceLE, Int.reduceEq, Nat.zero_add, Nat.add_zero, Nat.reduceBEq, Nat.one_ne_zero, Nat.zero_ne_one, Nat.lt_irrefl, Nat.succ_ne_zero, w32_id, ixc, ixc2, Int.toNat_natCast]
      refine S_X8_readNumber_87 _ _ _ _ ?_; simp (disch := omega) only [B_X8_readNumber_87, bi_0, x_ic, x_lc, x_ld, x_st, x_sl, x_inc, x_b32, x_b64, x_d32, x_d64, x_s64, x_un, x_lcmp, x_dup, x_pop, x_dup2, x_if, x_cmp, x_sw, swk, x_ald, x_ast, x_alen, x_getf, x_putf, x_inv, x_mm, x_copy, x_iret, x_lret, x_vret, ok1, pu, ct, rcv, rcs, ent0, List.getElem?_cons_zero, List.getElem?_cons_succ, List.getElem?_nil, List.set_cons_zero, List.set_cons_succ, List.take_succ_cons, List.take_zero, List.drop_succ_cons, List.drop_zero, List.reverse_cons, List.reverse_nil, List.nil_append, List.cons_append, List.length_cons, List.length_nil, true_and, and_true, and_self, ne_eq, not_true_eq_false, not_false_eq_true, reduceIte, true_or, or_true, false_or, or_false, Nat.reduceAdd, Nat.reduceSub, Nat.reduceMul, Nat.reduceLeDiff, Nat.reduceEqDiff, Nat.reduceLT, Nat.le_refl, Nat.zero_le, Int.reduceToNat, Int.reduceAdd, Int.reduceSub, Int.reduceMul, Int.reduceNeg, Int.reduceLT, Int.reduceLE, Int.reduceEq, Nat.zero_add, Nat.add_zero, Nat.reduceBEq, Nat.one_ne_zero, Nat.zero_ne_one, Nat.lt_irrefl, Nat.succ_ne_zero, w32_id, ixc, ixc2, Int.toNat_natCast, ob_1]
      refine hQ _ _ _ ⟨rfl, rfl, F.trans (Fs1_f (by omega)), e, 2, cdN 10 48 s p (e - p), ⟨he, hen, hl, hx⟩, by rw [if_neg (by omega)], fun _ => rfl, ?_⟩
      refine ⟨by rw [up_nj (by decide)]; exact q3, by rw [up_nj (by decide)]; exact q4, by rw [up_at]; exact Or.inr (Or.inr (Or.inl ⟨rfl, rfl⟩)), fun _ => by rw [up_nj (by decide)]; exact hv (by omega), fun x => absurd x (by decide)⟩
    · refine S_X8_readNumber_87 _ _ _ _ ?_; simp (disch := omega) only [B_X8_readNumber_87, bi_0, x_ic, x_lc, x_ld, x_st, x_sl, x_inc, x_b32, x_b64, x_d32, x_d64, x_s64, x_un, x_lcmp, x_dup, x_pop, x_dup2, x_if, x_cmp, x_sw, swk, x_ald, x_ast, x_alen, x_getf, x_putf, x_inv, x_mm, x_copy, x_iret, x_lret, x_vret, ok1, pu, ct, rcv, rcs, ent0, List.getElem?_cons_zero, List.getElem?_cons_succ, List.getElem?_nil, List.set_cons_zero, List.set_cons_succ, List.take_succ_cons, List.take_zero, List.drop_succ_cons, List.drop_zero, List.reverse_cons, List.reverse_nil, List.nil_append, List.cons_append, List.length_cons, List.length_nil, true_and, and_true, and_self, ne_eq, not_true_eq_false, not_false_eq_true, reduceIte, true_or, or_true, false_or, or_false, Nat.reduceAdd, Nat.reduceSub, Nat.reduceMul, Nat.reduceLeDiff, Nat.reduceEqDiff, Nat.reduceLT, Nat.le_refl, Nat.zero_le, Int.reduceToNat, Int.reduceAdd, Int.reduceSub, Int.reduceMul, Int.reduceNeg, Int.reduceLT, Int.reduceLE, Int.reduceEq, Nat.zero_add, Nat.add_zero, Nat.reduceBEq, Nat.one_ne_zero, Nat.zero_ne_one, Nat.lt_irrefl, Nat.succ_ne_zero, w32_id, ixc, ixc2, Int.toNat_natCast, ob_1]
      refine hQ _ _ _ ⟨rfl, rfl, F.trans (Fs1_f (by omega)), e, 4, 0, ⟨he, hen, hl, hx⟩, by rw [if_pos (by omega)], fun x => absurd x (by omega), ?_⟩
      refine ⟨by rw [up_nj (by decide)]; exact q3, by rw [up_nj (by decide)]; exact q4, by rw [up_at]; exact Or.inr (Or.inr (Or.inr (Or.inr ⟨rfl, rfl⟩))), fun x => absurd x (by decide), fun x => absurd x (by decide)⟩
  have key : ∀ (g e : Nat), e + g = n → p ≤ e → ∀ m, Fs1 h m → m 1 3 = (p : Int) → m 1 4 = (e : Int) → (∀ j, p ≤ j → j < e → isDg (s j)) → (e ≤ p + 4 → m 1 6 = cdN 10 48 s p (e - p)) → V l (d + 2) 0 0 M_X8_readNumber 0 0 5 Q [(2, 2)] [] SHP m := by
    intro g
    induction g with
    | zero =>
      intro e hg hpe m F q3 q4 hl hv
      have q2 := (F.tp Tp).1
      refine S_X8_readNumber_5 _ _ _ _ ?_; simp (disch := omega) only [B_X8_readNumber_5, bi_0, x_ic, x_lc, x_ld, x_st, x_sl, x_inc, x_b32, x_b64, x_d32, x_d64, x_s64, x_un, x_lcmp, x_dup, x_pop, x_dup2, x_if, x_cmp, x_sw, swk, x_ald, x_ast, x_alen, x_getf, x_putf, x_inv, x_mm, x_copy, x_iret, x_lret, x_vret, ok1, pu, ct, rcv, rcs, ent0, List.getElem?_cons_zero, List.getElem?_cons_succ, List.getElem?_nil, List.set_cons_zero, List.set_cons_succ, List.take_succ_cons, List.take_zero, List.drop_succ_cons, List.drop_zero, List.reverse_cons, List.reverse_nil, List.nil_append, List.cons_append, List.length_cons, List.length_nil, true_and, and_true, and_self, ne_eq, not_true_eq_false, not_false_eq_true, reduceIte, true_or, or_true, false_or, or_false, Nat.reduceAdd, Nat.reduceSub, Nat.reduceMul, Nat.reduceLeDiff, Nat.reduceEqDiff, Nat.reduceLT, Nat.le_refl, Nat.zero_le, Int.reduceToNat, Int.reduceAdd, Int.reduceSub, Int.reduceMul, Int.reduceNeg, Int.reduceLT, Int.reduceLE, Int.reduceEq, Nat.zero_add, Nat.add_zero, Nat.reduceBEq, Nat.one_ne_zero, Nat.zero_ne_one, Nat.lt_irrefl, Nat.succ_ne_zero, w32_id, ixc, ixc2, Int.toNat_natCast, ob_1, q2, q4]
      refine ⟨fun _ => ?_, fun z => absurd z (by omega)⟩
      exact out m e F q3 q4 (by omega) (by omega) hl (fun q => absurd q (by omega)) hv
    | succ g ih =>
      intro e hg hpe m F q3 q4 hl hv
      have ih := ih (e + 1) (by omega) (by omega)
      have Lm := F.lay L
      have a0 := ly_1_0 Lm
      have q2 := (F.tp Tp).1
      have v2 := (F.tp Tp).2 e (by show e < n; omega)
      dsimp only at v2
      refine S_X8_readNumber_5 _ _ _ _ ?_; simp (disch := omega) only [B_X8_readNumber_5, bi_0, x_ic, x_lc, x_ld, x_st, x_sl, x_inc, x_b32, x_b64, x_d32, x_d64, x_s64, x_un, x_lcmp, x_dup, x_pop, x_dup2, x_if, x_cmp, x_sw, swk, x_ald, x_ast, x_alen, x_getf, x_putf, x_inv, x_mm, x_copy, x_iret, x_lret, x_vret, ok1, pu, ct, rcv, rcs, ent0, List.getElem?_cons_zero, List.getElem?_cons_succ, List.getElem?_nil, List.set_cons_zero, List.set_cons_succ, List.take_succ_cons, List.take_zero, List.drop_succ_cons, List.drop_zero, List.reverse_cons, List.reverse_nil, List.nil_append, List.cons_append, List.length_cons, List.length_nil, true_and, and_true, and_self, ne_eq, not_true_eq_false, not_false_eq_true, reduceIte, true_or, or_true, false_or, or_false, Nat.reduceAdd, Nat.reduceSub, Nat.reduceMul, Nat.reduceLeDiff, Nat.reduceEqDiff, Nat.reduceLT, Nat.le_refl, Nat.zero_le, Int.reduceToNat, Int.reduceAdd, Int.reduceSub, Int.reduceMul, Int.reduceNeg, Int.reduceLT, Int.reduceLE, Int.reduceEq, Nat.zero_add, Nat.add_zero, Nat.reduceBEq, Nat.one_ne_zero, Nat.zero_ne_one, Nat.lt_irrefl, Nat.succ_ne_zero, w32_id, ixc, ixc2, Int.toNat_natCast, ob_1, q2, q4, a0, ln_2, v2]
      refine ⟨fun z => absurd z (by omega), fun _ => ⟨by omega, ?_⟩⟩
      refine Cl.app (c_isDigit (l := l) (d := d) (s e)) ?_
      (try simp (disch := omega) only [bi_0, x_ic, x_lc, x_ld, x_st, x_sl, x_inc, x_b32, x_b64, x_d32, x_d64, x_s64, x_un, x_lcmp, x_dup, x_pop, x_dup2, x_if, x_cmp, x_sw, swk, x_ald, x_ast, x_alen, x_getf, x_putf, x_inv, x_mm, x_copy, x_iret, x_lret, x_vret, ok1, pu, ct, rcv, rcs, ent0, List.getElem?_cons_zero, List.getElem?_cons_succ, List.getElem?_nil, List.set_cons_zero, List.set_cons_succ, List.take_succ_cons, List.take_zero, List.drop_succ_cons, List.drop_zero, List.reverse_cons, List.reverse_nil, List.nil_append, List.cons_append, List.length_cons, List.length_nil, true_and, and_true, and_self, ne_eq, not_true_eq_false, not_false_eq_true, reduceIte, true_or, or_true, false_or, or_false, Nat.reduceAdd, Nat.reduceSub, Nat.reduceMul, Nat.reduceLeDiff, Nat.reduceEqDiff, Nat.reduceLT, Nat.le_refl, Nat.zero_le, Int.reduceToNat, Int.reduceAdd, Int.reduceSub, Int.reduceMul, Int.reduceNeg, Int.reduceLT, Int.reduceLE, Int.reduceEq, Nat.zero_add, Nat.add_zero, Nat.reduceBEq, Nat.one_ne_zero, Nat.zero_ne_one, Nat.lt_irrefl, Nat.succ_ne_zero, w32_id, ixc, ixc2, Int.toNat_natCast, bI_0])
      refine ⟨fun y => ?_, fun y => ?_⟩
      · have hne : p ≠ e := fun q => by rw [q] at hl0; exact y hl0
        exact out m e F q3 q4 (by omega) (by omega) hl (fun _ => y) hv
      have y := Classical.not_not.mp y
      have y2 := y
      unfold isDg at y2
      have g4 : ∀ x, up m 1 6 x 1 4 = (e : Int) := fun x => by rw [up_nj (by decide)]; exact q4
      (try simp (disch := omega) only [bi_0, x_ic, x_lc, x_ld, x_st, x_sl, x_inc, x_b32, x_b64, x_d32, x_d64, x_s64, x_un, x_lcmp, x_dup, x_pop, x_dup2, x_if, x_cmp, x_sw, swk, x_ald, x_ast, x_alen, x_getf, x_putf, x_inv, x_mm, x_copy, x_iret, x_lret, x_vret, ok1, pu, ct, rcv, rcs, ent0, List.getElem?_cons_zero, List.getElem?_cons_succ, List.getElem?_nil, List.set_cons_zero, List.set_cons_succ, List.take_succ_cons, List.take_zero, List.drop_succ_cons, List.drop_zero, List.reverse_cons, List.reverse_nil, List.nil_append, List.cons_append, List.length_cons, List.length_nil, true_and, and_true, and_self, ne_eq, not_true_eq_false, not_false_eq_true, reduceIte, true_or, or_true, false_or, or_false, Nat.reduceAdd, Nat.reduceSub, Nat.reduceMul, Nat.reduceLeDiff, Nat.reduceEqDiff, Nat.reduceLT, Nat.le_refl, Nat.zero_le, Int.reduceToNat, Int.reduceAdd, Int.reduceSub, Int.reduceMul, Int.reduceNeg, Int.reduceLT, Int.reduceLE, Int.reduceEq, Nat.zero_add, Nat.add_zero, Nat.reduceBEq, Nat.one_ne_zero, Nat.zero_ne_one, Nat.lt_irrefl, Nat.succ_ne_zero, w32_id, ixc, ixc2, Int.toNat_natCast, ob_1, q4, a0, ln_2, v2, g4])
      refine ⟨by omega, ?_⟩
      refine ih _ (F.trans ((Fs1_f (by omega)).trans (Fs1_f (by omega)))) (by rw [up_nj (by decide), up_nj (by decide)]; exact q3) up_at (fun j h1 h2 => ?_) (fun h8 => ?_)
      · by_cases q : j = e
        · rw [q]; exact y
        · exact hl j h1 (by omega)
      · rw [up_nj (by decide), up_at, hv (by omega)]
        have cb := cd10_b (s := s) (p := p) (j := e - p) (by omega) (fun i hi => hl (p + i) (by omega) (by omega))
        have cb8 : cdN 10 48 s p (e - p) < 10 ^ 4 := Int.lt_of_lt_of_le cb.2 (p10 (by omega))
        rw [show e + 1 - p = (e - p) + 1 by omega, cdN, show p + (e - p) = e by omega, w32_id (x := cdN 10 48 s p (e - p) * 10) (by omega) (by omega), w32_id (by omega) (by omega)]
        omega
  show V l (d + 2) 0 0 M_X8_readNumber 0 0 0 Q [(2, 2)] [] SHP h
  refine S_X8_readNumber_0 _ _ _ _ ?_; simp (disch := omega) only [B_X8_readNumber_0, bi_0, x_ic, x_lc, x_ld, x_st, x_sl, x_inc, x_b32, x_b64, x_d32, x_d64, x_s64, x_un, x_lcmp, x_dup, x_pop, x_dup2, x_if, x_cmp, x_sw, swk, x_ald, x_ast, x_alen, x_getf, x_putf, x_inv, x_mm, x_copy, x_iret, x_lret, x_vret, ok1, pu, ct, rcv, rcs, ent0, List.getElem?_cons_zero, List.getElem?_cons_succ, List.getElem?_nil, List.set_cons_zero, List.set_cons_succ, List.take_succ_cons, List.take_zero, List.drop_succ_cons, List.drop_zero, List.reverse_cons, List.reverse_nil, List.nil_append, List.cons_append, List.length_cons, List.length_nil, true_and, and_true, and_self, ne_eq, not_true_eq_false, not_false_eq_true, reduceIte, true_or, or_true, false_or, or_false, Nat.reduceAdd, Nat.reduceSub, Nat.reduceMul, Nat.reduceLeDiff, Nat.reduceEqDiff, Nat.reduceLT, Nat.le_refl, Nat.zero_le, Int.reduceToNat, Int.reduceAdd, Int.reduceSub, Int.reduceMul, Int.reduceNeg, Int.reduceLT, Int.reduceLE, Int.reduceEq, Nat.zero_add, Nat.add_zero, Nat.reduceBEq, Nat.one_ne_zero, Nat.zero_ne_one, Nat.lt_irrefl, Nat.succ_ne_zero, w32_id, ixc, ixc2, Int.toNat_natCast, ob_1]
  exact key (n - p) p (by omega) (Nat.le_refl _) _ (Fs1_f (by omega)) (by rw [up_nj (by decide)]; exact h3) (by rw [up_nj (by decide)]; exact h4) (fun j h1 h2 => absurd h2 (by omega)) (fun _ => by rw [up_at, Nat.sub_self]; rfl)
end TK

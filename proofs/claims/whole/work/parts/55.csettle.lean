/-! the class: settling, method by method -/
def SvR (h : Mem) (tn tc : Int) : Prop := ∀ n t : Nat, (n : Int) < h 220 1 → t ≤ 120 → h (204 + n) t = srv (h 220) tn tc n t
def ArR (h : Mem) (D : Nat → Int) : Prop := ∀ n f t : Nat, n < 4 → f < 4 → t ≤ 120 → h (187 + (4 * n + f)) t = if ovr (h 220) n f = true then arv (h 220) D f n t else 0
def ArZ (h : Mem) : Prop := ∀ n f t : Nat, n < 4 → f < 4 → t ≤ 120 → ovr (h 220) n f = false → h (187 + (4 * n + f)) t = 0
def DlR (h : Mem) (D : Nat → Int) : Prop := ∀ f k : Nat, f < 4 → k < 4 → h (177 + f) k = D (4 * f + k)
theorem ArR.z {h : Mem} {D : Nat → Int} (A : ArR h D) : ArZ h := fun n f t q1 q2 q3 q4 => by rw [A n f t q1 q2 q3, if_neg (by rw [q4]; decide)]
theorem ArR.b {h : Mem} {D : Nat → Int} (A : ArR h D) (W : WN (h 220)) (hD : DB D) {n f t : Nat} (q1 : n < 4) (q2 : f < 4) (q3 : t ≤ 120) : 0 ≤ h (187 + (4 * n + f)) t ∧ h (187 + (4 * n + f)) t ≤ 40000 := by
  rw [A n f t q1 q2 q3]
  split
  · rename_i ho
    have hf : (f : Int) < h 220 2 := by unfold ovr at ho; simp at ho; exact ho.1
    exact arv_b W hD hf n (by omega) (by omega)
  · omega
theorem ovr_lt {nt : Nat → Int} {n f : Nat} (h : ovr nt n f = true) : (f : Int) < nt 2 := by unfold ovr at h; simp at h; exact h.1
theorem ArR.cong {h h' : Mem} {D : Nat → Int} (A : ArR h D) (e : h' 220 = h 220) (hf : ∀ i, i < 16 → h' (187 + i) = h (187 + i)) : ArR h' D := fun n f t q1 q2 q3 => by rw [e, hf _ (by omega)]; exact A n f t q1 q2 q3
theorem SvR.cong {h h' : Mem} {tn tc : Int} (A : SvR h tn tc) (W : WN (h 220)) (e : h' 220 = h 220) (hf : ∀ i, i < 4 → h' (204 + i) = h (204 + i)) : SvR h' tn tc := fun n t q1 q2 => by
  have := W.nn
  rw [e] at q1 ⊢
  rw [hf n (by omega)]; exact A n t q1 q2
section CS
variable {l : Launch} {d : Nat} {h : Mem} {nb : Nat}
theorem c_comingOf (L : Lay h) {below n t : Nat} {but : Int} (hn : n < 4) (hb : below ≤ 4) (ht : t ≤ 120) (hv : ∀ f, f < 4 → 0 ≤ h (187 + (4 * n + f)) t ∧ h (187 + (4 * n + f)) t ≤ 40000) : Cl l (d + 1) M_X6_comingOf [(2, 176), (0, (below : Int)), (0, but), (0, (n : Int)), (0, (t : Int))] SHP h (Rt (sm (fun f : Nat => if (f : Int) = but then 0 else h (187 + (4 * n + f)) t) below) SHP h) := by
  obtain ⟨g, hg⟩ : ∃ g : Nat → Int, g = fun f : Nat => if (f : Int) = but then 0 else h (187 + (4 * n + f)) t := ⟨_, rfl⟩
  rw [← hg]
  have gb : ∀ f, f < 4 → 0 ≤ g f ∧ g f ≤ 40000 := fun f hf => by
    have := hv f hf
    rw [hg]; dsimp only; split <;> omega
  show V l (d + 1) 0 0 M_X6_comingOf 0 0 0 _ [(2, 176), (0, (below : Int)), (0, but), (0, (n : Int)), (0, (t : Int)), (9, 0), (9, 0)] [] SHP h
  refine S_X6_comingOf_0 _ _ _ _ ?_; simp (disch := omega) only [B_X6_comingOf_0, bi_0, x_ic, x_lc, x_ld, x_st, x_sl, x_inc, x_b32, x_b64, x_d32, x_d64, x_s64, x_un, x_lcmp, x_dup, x_pop, x_dup2, x_if, x_cmp, x_sw, swk, x_ald, x_ast, x_alen, x_getf, x_putf, x_inv, x_mm, x_copy, x_iret, x_lret, x_vret, ok1, pu, ct, rcv, rcs, ent0, List.getElem?_cons_zero, List.getElem?_cons_succ, List.getElem?_nil, List.set_cons_zero, List.set_cons_succ, List.take_succ_cons, List.take_zero, List.drop_succ_cons, List.drop_zero, List.reverse_cons, List.reverse_nil, List.nil_append, List.cons_append, List.length_cons, List.length_nil, true_and, and_true, and_self, ne_eq, not_true_eq_false, not_false_eq_true, reduceIte, true_or, or_true, false_or, or_false, Nat.reduceAdd, Nat.reduceSub, Nat.reduceMul, Nat.reduceLeDiff, Nat.reduceEqDiff, Nat.reduceLT, Nat.le_refl, Nat.zero_le, Int.reduceToNat, Int.reduceAdd, Int.reduceSub, Int.reduceMul, Int.reduceNeg, Int.reduceLT, Int.reduceLE, Int.reduceEq, Nat.zero_add, Nat.add_zero, Nat.reduceBEq, Nat.one_ne_zero, Nat.zero_ne_one, Nat.lt_irrefl, Nat.succ_ne_zero, w32_id, ixc, ixc2, Int.toNat_natCast]
  refine V_it (pc := 6) (fun i => [(2, 176), (0, (below : Int)), (0, but), (0, (n : Int)), (0, (t : Int)), (0, sm g i), (0, (i : Int))]) (fun _ => h) below (fun i hi ih => ?_) ?_
  · have b1 := sm_b (g := g) (B := 40000) (k := i) (fun j q => gb j (by omega))
    have b2 := hv i (by omega)
    have ix : ((n : Int) * 4 + (i : Int)).toNat = 4 * n + i := by omega
    have s1 := stg_a L (show 4 * n + i < 16 by omega)
    have s2 := (stg_l L).2.2.1
    rw [show sm g (i + 1) = sm g i + g i from rfl] at ih
    refine S_X6_comingOf_6 _ _ _ _ ?_; simp (disch := omega) only [B_X6_comingOf_6, bi_0, x_ic, x_lc, x_ld, x_st, x_sl, x_inc, x_b32, x_b64, x_d32, x_d64, x_s64, x_un, x_lcmp, x_dup, x_pop, x_dup2, x_if, x_cmp, x_sw, swk, x_ald, x_ast, x_alen, x_getf, x_putf, x_inv, x_mm, x_copy, x_iret, x_lret, x_vret, ok1, pu, ct, rcv, rcs, ent0, List.getElem?_cons_zero, List.getElem?_cons_succ, List.getElem?_nil, List.set_cons_zero, List.set_cons_succ, List.take_succ_cons, List.take_zero, List.drop_succ_cons, List.drop_zero, List.reverse_cons, List.reverse_nil, List.nil_append, List.cons_append, List.length_cons, List.length_nil, true_and, and_true, and_self, ne_eq, not_true_eq_false, not_false_eq_true, reduceIte, true_or, or_true, false_or, or_false, Nat.reduceAdd, Nat.reduceSub, Nat.reduceMul, Nat.reduceLeDiff, Nat.reduceEqDiff, Nat.reduceLT, Nat.le_refl, Nat.zero_le, Int.reduceToNat, Int.reduceAdd, Int.reduceSub, Int.reduceMul, Int.reduceNeg, Int.reduceLT, Int.reduceLE, Int.reduceEq, Nat.zero_add, Nat.add_zero, Nat.reduceBEq, Nat.one_ne_zero, Nat.zero_ne_one, Nat.lt_irrefl, Nat.succ_ne_zero, w32_id, ixc, ixc2, Int.toNat_natCast, ob_175, s2, ln_186, ix, s1.1, s1.2]
    refine ⟨fun z => absurd z (by omega), fun _ => ⟨fun e => ?_, fun e => ⟨by omega, by omega, ?_⟩⟩⟩
    · refine S_X6_comingOf_37 _ _ _ _ ?_; simp (disch := omega) only [B_X6_comingOf_37, bi_0, x_ic, x_lc, x_ld, x_st, x_sl, x_inc, x_b32, x_b64, x_d32, x_d64, x_s64, x_un, x_lcmp, x_dup, x_pop, x_dup2, x_if, x_cmp, x_sw, swk, x_ald, x_ast, x_alen, x_getf, x_putf, x_inv, x_mm, x_copy, x_iret, x_lret, x_vret, ok1, pu, ct, rcv, rcs, ent0, List.getElem?_cons_zero, List.getElem?_cons_succ, List.getElem?_nil, List.set_cons_zero, List.set_cons_succ, List.take_succ_cons, List.take_zero, List.drop_succ_cons, List.drop_zero, List.reverse_cons, List.reverse_nil, List.nil_append, List.cons_append, List.length_cons, List.length_nil, true_and, and_true, and_self, ne_eq, not_true_eq_false, not_false_eq_true, reduceIte, true_or, or_true, false_or, or_false, Nat.reduceAdd, Nat.reduceSub, Nat.reduceMul, Nat.reduceLeDiff, Nat.reduceEqDiff, Nat.reduceLT, Nat.le_refl, Nat.zero_le, Int.reduceToNat, Int.reduceAdd, Int.reduceSub, Int.reduceMul, Int.reduceNeg, Int.reduceLT, Int.reduceLE, Int.reduceEq, Nat.zero_add, Nat.add_zero, Nat.reduceBEq, Nat.one_ne_zero, Nat.zero_ne_one, Nat.lt_irrefl, Nat.succ_ne_zero, w32_id, ixc, ixc2, Int.toNat_natCast]
      rw [show g i = 0 by rw [hg]; dsimp only; rw [if_pos e], Int.add_zero] at ih
      exact ih
    · refine S_X6_comingOf_37 _ _ _ _ ?_; simp (disch := omega) only [B_X6_comingOf_37, bi_0, x_ic, x_lc, x_ld, x_st, x_sl, x_inc, x_b32, x_b64, x_d32, x_d64, x_s64, x_un, x_lcmp, x_dup, x_pop, x_dup2, x_if, x_cmp, x_sw, swk, x_ald, x_ast, x_alen, x_getf, x_putf, x_inv, x_mm, x_copy, x_iret, x_lret, x_vret, ok1, pu, ct, rcv, rcs, ent0, List.getElem?_cons_zero, List.getElem?_cons_succ, List.getElem?_nil, List.set_cons_zero, List.set_cons_succ, List.take_succ_cons, List.take_zero, List.drop_succ_cons, List.drop_zero, List.reverse_cons, List.reverse_nil, List.nil_append, List.cons_append, List.length_cons, List.length_nil, true_and, and_true, and_self, ne_eq, not_true_eq_false, not_false_eq_true, reduceIte, true_or, or_true, false_or, or_false, Nat.reduceAdd, Nat.reduceSub, Nat.reduceMul, Nat.reduceLeDiff, Nat.reduceEqDiff, Nat.reduceLT, Nat.le_refl, Nat.zero_le, Int.reduceToNat, Int.reduceAdd, Int.reduceSub, Int.reduceMul, Int.reduceNeg, Int.reduceLT, Int.reduceLE, Int.reduceEq, Nat.zero_add, Nat.add_zero, Nat.reduceBEq, Nat.one_ne_zero, Nat.zero_ne_one, Nat.lt_irrefl, Nat.succ_ne_zero, w32_id, ixc, ixc2, Int.toNat_natCast]
      rw [show g i = h (187 + (4 * n + i)) t by rw [hg]; dsimp only; rw [if_neg e]] at ih
      exact ih
  · refine S_X6_comingOf_6 _ _ _ _ ?_; simp (disch := omega) only [B_X6_comingOf_6, bi_0, x_ic, x_lc, x_ld, x_st, x_sl, x_inc, x_b32, x_b64, x_d32, x_d64, x_s64, x_un, x_lcmp, x_dup, x_pop, x_dup2, x_if, x_cmp, x_sw, swk, x_ald, x_ast, x_alen, x_getf, x_putf, x_inv, x_mm, x_copy, x_iret, x_lret, x_vret, ok1, pu, ct, rcv, rcs, ent0, List.getElem?_cons_zero, List.getElem?_cons_succ, List.getElem?_nil, List.set_cons_zero, List.set_cons_succ, List.take_succ_cons, List.take_zero, List.drop_succ_cons, List.drop_zero, List.reverse_cons, List.reverse_nil, List.nil_append, List.cons_append, List.length_cons, List.length_nil, true_and, and_true, and_self, ne_eq, not_true_eq_false, not_false_eq_true, reduceIte, true_or, or_true, false_or, or_false, Nat.reduceAdd, Nat.reduceSub, Nat.reduceMul, Nat.reduceLeDiff, Nat.reduceEqDiff, Nat.reduceLT, Nat.le_refl, Nat.zero_le, Int.reduceToNat, Int.reduceAdd, Int.reduceSub, Int.reduceMul, Int.reduceNeg, Int.reduceLT, Int.reduceLE, Int.reduceEq, Nat.zero_add, Nat.add_zero, Nat.reduceBEq, Nat.one_ne_zero, Nat.zero_ne_one, Nat.lt_irrefl, Nat.succ_ne_zero, w32_id, ixc, ixc2, Int.toNat_natCast]
    refine ⟨fun _ => ?_, fun z => absurd z (by omega)⟩
    refine S_X6_comingOf_43 _ _ _ _ ?_; simp (disch := omega) only [B_X6_comingOf_43, bi_0, x_ic, x_lc, x_ld, x_st, x_sl, x_inc, x_b32, x_b64, x_d32, x_d64, x_s64, x_un, x_lcmp, x_dup, x_pop, x_dup2, x_if, x_cmp, x_sw, swk, x_ald, x_ast, x_alen, x_getf, x_putf, x_inv, x_mm, x_copy, x_iret, x_lret, x_vret, ok1, pu, ct, rcv, rcs, ent0, List.getElem?_cons_zero, List.getElem?_cons_succ, List.getElem?_nil, List.set_cons_zero, List.set_cons_succ, List.take_succ_cons, List.take_zero, List.drop_succ_cons, List.drop_zero, List.reverse_cons, List.reverse_nil, List.nil_append, List.cons_append, List.length_cons, List.length_nil, true_and, and_true, and_self, ne_eq, not_true_eq_false, not_false_eq_true, reduceIte, true_or, or_true, false_or, or_false, Nat.reduceAdd, Nat.reduceSub, Nat.reduceMul, Nat.reduceLeDiff, Nat.reduceEqDiff, Nat.reduceLT, Nat.le_refl, Nat.zero_le, Int.reduceToNat, Int.reduceAdd, Int.reduceSub, Int.reduceMul, Int.reduceNeg, Int.reduceLT, Int.reduceLE, Int.reduceEq, Nat.zero_add, Nat.add_zero, Nat.reduceBEq, Nat.one_ne_zero, Nat.zero_ne_one, Nat.lt_irrefl, Nat.succ_ne_zero, w32_id, ixc, ixc2, Int.toNat_natCast]
    exact Rt_mk rfl
/-- the cells into which rows are laid out -/
def RwC (b : Nat) : Prop := b = 208 ∨ b = 209 ∨ b = 211 ∨ b = 212
theorem RwC.ln {b : Nat} (hb : RwC b) : ln SHP 0 ((b : Int) + 1) = 121 := by
  rcases hb with rfl | rfl | rfl | rfl
  · exact ln_208
  · exact ln_209
  · exact ln_211
  · exact ln_212
theorem RwC.lo {b : Nat} (hb : RwC b) : 208 ≤ b ∧ b ≤ 212 ∧ b ≠ 210 := by unfold RwC at hb; omega
theorem RwC.lay {b : Nat} (hb : RwC b) (L : Lay h) {n : Nat} {f : Nat → Int} : Lay (row h b n f) := by
  rcases hb with rfl | rfl | rfl | rfl <;> exact Lay_row L (by decide +kernel)
theorem c_fillComing (L : Lay h) (hnb : nb = 4 ∨ nb = 34) (hs : h 175 6 = (nb : Int) + 1) (R : RN h nb) (W : WN (h 220)) {D : Nat → Int} (hD : DB D) (A : ArR h D) {n b : Nat} (hn : n < 4) (hb : RwC b) : Cl l (d + 2) M_X6_fillComing [(2, 176), (0, (n : Int)), (2, (b : Int) + 1)] SHP h (Rt 0 SHP (row h b 121 (fun t => arS (h 220) D n (ovr (h 220) n) t))) := by
  have nf := W.nf
  have bl := hb.lo
  have bln := hb.ln
  have s1 := (net_sh hnb).1
  obtain ⟨F, hF⟩ : ∃ F : Nat → Int, F = fun t : Nat => arS (h 220) D n (ovr (h 220) n) t := ⟨_, rfl⟩
  rw [← hF]
  show V l (d + 2) 0 0 M_X6_fillComing 0 0 0 _ [(2, 176), (0, (n : Int)), (2, (b : Int) + 1), (9, 0)] [] SHP h
  refine S_X6_fillComing_0 _ _ _ _ ?_; simp (disch := omega) only [B_X6_fillComing_0, bi_0, x_ic, x_lc, x_ld, x_st, x_sl, x_inc, x_b32, x_b64, x_d32, x_d64, x_s64, x_un, x_lcmp, x_dup, x_pop, x_dup2, x_if, x_cmp, x_sw, swk, x_ald, x_ast, x_alen, x_getf, x_putf, x_inv, x_mm, x_copy, x_iret, x_lret, x_vret, ok1, pu, ct, rcv, rcs, ent0, List.getElem?_cons_zero, List.getElem?_cons_succ, List.getElem?_nil, List.set_cons_zero, List.set_cons_succ, List.take_succ_cons, List.take_zero, List.drop_succ_cons, List.drop_zero, List.reverse_cons, List.reverse_nil, List.nil_append, List.cons_append, List.length_cons, List.length_nil, true_and, and_true, and_self, ne_eq, not_true_eq_false, not_false_eq_true, reduceIte, true_or, or_true, false_or, or_false, Nat.reduceAdd, Nat.reduceSub, Nat.reduceMul, Nat.reduceLeDiff, Nat.reduceEqDiff, Nat.reduceLT, Nat.le_refl, Nat.zero_le, Int.reduceToNat, Int.reduceAdd, Int.reduceSub, Int.reduceMul, Int.reduceNeg, Int.reduceLT, Int.reduceLE, Int.reduceEq, Nat.zero_add, Nat.add_zero, Nat.reduceBEq, Nat.one_ne_zero, Nat.zero_ne_one, Nat.lt_irrefl, Nat.succ_ne_zero, w32_id, ixc, ixc2, Int.toNat_natCast]
  refine V_is (pc := 2) (fun t => [(2, 176), (0, (n : Int)), (2, (b : Int) + 1), (0, (t : Int))]) (fun t => row h b t F) 121 rfl (row_0 _ _ _) (fun t ht ih => ?_) ?_
  · have L1 : Lay (row h b t F) := hb.lay L
    have e1 : row h b t F 175 6 = (nb : Int) + 1 := by rw [row_ne (by omega)]; exact hs
    have e2 : row h b t F nb 13 = (((h 220 2).toNat : Nat) : Int) := by rw [row_ne (by omega), R.2.1.2]; omega
    have e3 : ∀ f, f < 4 → row h b t F (187 + (4 * n + f)) t = h (187 + (4 * n + f)) t := fun f hf => by rw [row_ne (by omega)]
    have c1 := c_comingOf (l := l) (d := d) L1 (below := (h 220 2).toNat) (but := -1) hn (by omega) (show t ≤ 120 by omega) (fun f hf => by rw [e3 f hf]; exact A.b W hD hn hf (by omega))
    have e4 : sm (fun f : Nat => if (f : Int) = -1 then 0 else row h b t F (187 + (4 * n + f)) t) (h 220 2).toNat = F t := by
      rw [show F t = arS (h 220) D n (ovr (h 220) n) t by rw [hF]]; unfold arS
      refine sm_cong (fun f hf => ?_)
      rw [if_neg (by omega), e3 f (by omega)]
      exact A n f t hn (by omega) (by omega)
    rw [e4] at c1
    refine S_X6_fillComing_2 _ _ _ _ ?_; simp (disch := omega) only [B_X6_fillComing_2, bi_0, x_ic, x_lc, x_ld, x_st, x_sl, x_inc, x_b32, x_b64, x_d32, x_d64, x_s64, x_un, x_lcmp, x_dup, x_pop, x_dup2, x_if, x_cmp, x_sw, swk, x_ald, x_ast, x_alen, x_getf, x_putf, x_inv, x_mm, x_copy, x_iret, x_lret, x_vret, ok1, pu, ct, rcv, rcs, ent0, List.getElem?_cons_zero, List.getElem?_cons_succ, List.getElem?_nil, List.set_cons_zero, List.set_cons_succ, List.take_succ_cons, List.take_zero, List.drop_succ_cons, List.drop_zero, List.reverse_cons, List.reverse_nil, List.nil_append, List.cons_append, List.length_cons, List.length_nil, true_and, and_true, and_self, ne_eq, not_true_eq_false, not_false_eq_true, reduceIte, true_or, or_true, false_or, or_false, Nat.reduceAdd, Nat.reduceSub, Nat.reduceMul, Nat.reduceLeDiff, Nat.reduceEqDiff, Nat.reduceLT, Nat.le_refl, Nat.zero_le, Int.reduceToNat, Int.reduceAdd, Int.reduceSub, Int.reduceMul, Int.reduceNeg, Int.reduceLT, Int.reduceLE, Int.reduceEq, Nat.zero_add, Nat.add_zero, Nat.reduceBEq, Nat.one_ne_zero, Nat.zero_ne_one, Nat.lt_irrefl, Nat.succ_ne_zero, w32_id, ixc, ixc2, Int.toNat_natCast, ob_175, e1, e2, s1]
    refine ⟨fun z => absurd z (by omega), fun _ => ?_⟩
    refine Cl.app c1 ?_
    (try simp (disch := omega) only [bi_0, x_ic, x_lc, x_ld, x_st, x_sl, x_inc, x_b32, x_b64, x_d32, x_d64, x_s64, x_un, x_lcmp, x_dup, x_pop, x_dup2, x_if, x_cmp, x_sw, swk, x_ald, x_ast, x_alen, x_getf, x_putf, x_inv, x_mm, x_copy, x_iret, x_lret, x_vret, ok1, pu, ct, rcv, rcs, ent0, List.getElem?_cons_zero, List.getElem?_cons_succ, List.getElem?_nil, List.set_cons_zero, List.set_cons_succ, List.take_succ_cons, List.take_zero, List.drop_succ_cons, List.drop_zero, List.reverse_cons, List.reverse_nil, List.nil_append, List.cons_append, List.length_cons, List.length_nil, true_and, and_true, and_self, ne_eq, not_true_eq_false, not_false_eq_true, reduceIte, true_or, or_true, false_or, or_false, Nat.reduceAdd, Nat.reduceSub, Nat.reduceMul, Nat.reduceLeDiff, Nat.reduceEqDiff, Nat.reduceLT, Nat.le_refl, Nat.zero_le, Int.reduceToNat, Int.reduceAdd, Int.reduceSub, Int.reduceMul, Int.reduceNeg, Int.reduceLT, Int.reduceLE, Int.reduceEq, Nat.zero_add, Nat.add_zero, Nat.reduceBEq, Nat.one_ne_zero, Nat.zero_ne_one, Nat.lt_irrefl, Nat.succ_ne_zero, w32_id, ixc, ixc2, Int.toNat_natCast, bln])
    refine ⟨by omega, ?_⟩
    rw [row_up]
    exact ih
  · refine S_X6_fillComing_2 _ _ _ _ ?_; simp (disch := omega) only [B_X6_fillComing_2, bi_0, x_ic, x_lc, x_ld, x_st, x_sl, x_inc, x_b32, x_b64, x_d32, x_d64, x_s64, x_un, x_lcmp, x_dup, x_pop, x_dup2, x_if, x_cmp, x_sw, swk, x_ald, x_ast, x_alen, x_getf, x_putf, x_inv, x_mm, x_copy, x_iret, x_lret, x_vret, ok1, pu, ct, rcv, rcs, ent0, List.getElem?_cons_zero, List.getElem?_cons_succ, List.getElem?_nil, List.set_cons_zero, List.set_cons_succ, List.take_succ_cons, List.take_zero, List.drop_succ_cons, List.drop_zero, List.reverse_cons, List.reverse_nil, List.nil_append, List.cons_append, List.length_cons, List.length_nil, true_and, and_true, and_self, ne_eq, not_true_eq_false, not_false_eq_true, reduceIte, true_or, or_true, false_or, or_false, Nat.reduceAdd, Nat.reduceSub, Nat.reduceMul, Nat.reduceLeDiff, Nat.reduceEqDiff, Nat.reduceLT, Nat.le_refl, Nat.zero_le, Int.reduceToNat, Int.reduceAdd, Int.reduceSub, Int.reduceMul, Int.reduceNeg, Int.reduceLT, Int.reduceLE, Int.reduceEq, Nat.zero_add, Nat.add_zero, Nat.reduceBEq, Nat.one_ne_zero, Nat.zero_ne_one, Nat.lt_irrefl, Nat.succ_ne_zero, w32_id, ixc, ixc2, Int.toNat_natCast]
    refine ⟨fun _ => ?_, fun z => absurd z (by omega)⟩
    refine S_X6_fillComing_31 _ _ _ _ ?_; simp (disch := omega) only [B_X6_fillComing_31, bi_0, x_ic, x_lc, x_ld, x_st, x_sl, x_inc, x_b32, x_b64, x_d32, x_d64, x_s64, x_un, x_lcmp, x_dup, x_pop, x_dup2, x_if, x_cmp, x_sw, swk, x_ald, x_ast, x_alen, x_getf, x_putf, x_inv, x_mm, x_copy, x_iret, x_lret, x_vret, ok1, pu, ct, rcv, rcs, ent0, List.getElem?_cons_zero, List.getElem?_cons_succ, List.getElem?_nil, List.set_cons_zero, List.set_cons_succ, List.take_succ_cons, List.take_zero, List.drop_succ_cons, List.drop_zero, List.reverse_cons, List.reverse_nil, List.nil_append, List.cons_append, List.length_cons, List.length_nil, true_and, and_true, and_self, ne_eq, not_true_eq_false, not_false_eq_true, reduceIte, true_or, or_true, false_or, or_false, Nat.reduceAdd, Nat.reduceSub, Nat.reduceMul, Nat.reduceLeDiff, Nat.reduceEqDiff, Nat.reduceLT, Nat.le_refl, Nat.zero_le, Int.reduceToNat, Int.reduceAdd, Int.reduceSub, Int.reduceMul, Int.reduceNeg, Int.reduceLT, Int.reduceLE, Int.reduceEq, Nat.zero_add, Nat.add_zero, Nat.reduceBEq, Nat.one_ne_zero, Nat.zero_ne_one, Nat.lt_irrefl, Nat.succ_ne_zero, w32_id, ixc, ixc2, Int.toNat_natCast]
    exact Rt_mk rfl
theorem c_fillLeft (L : Lay h) (hnb : nb = 4 ∨ nb = 34) (hs : h 175 6 = (nb : Int) + 1) (R : RN h nb) (W : WN (h 220)) {D : Nat → Int} (hD : DB D) (A : ArR h D) {tn tc : Int} (hT : TrW (h 220) tn tc) (S : SvR h tn tc) {f n b : Nat} (hf : (f : Int) < h 220 2) (hn : (n : Int) < h 220 1) (ho : ovr (h 220) n f = true) (hb : RwC b) : Cl l (d + 2) M_X6_fillLeft [(2, 176), (0, (f : Int)), (0, (n : Int)), (2, (b : Int) + 1)] SHP h (Rt 0 SHP (row h b 121 (fun t => lft (h 220) D tn tc f n t))) := by
  have nf := W.nf
  have nn := W.nn
  have bl := hb.lo
  have bln := hb.ln
  have s1 := (net_sh hnb).1
  have kb := W.kdB n hn
  obtain ⟨r1, r2, r3⟩ := R.2.2.1 n hn
  have pp := pop6_pos (show f < 6 by omega) ho
  have pb := pop6_b (ovr (h 220) n)
  have nl := net_f L hnb
  have nln := net_ln hnb
  have gb : ∀ i : Nat, i ≤ 120 → srv (h 220) tn tc n i - arS (h 220) D n (oth (h 220) f n) i ≤ 20000 := fun i hi => by
    have := srv_b W hT hn (t := (i : Int)) (by omega) (by omega)
    have := arS_b W hD n (oth (h 220) f n) (t := (i : Int)) (by omega) (by omega)
    omega
  obtain ⟨F, hF⟩ : ∃ F : Nat → Int, F = fun t : Nat => lft (h 220) D tn tc f n t := ⟨_, rfl⟩
  rw [← hF]
  obtain ⟨g, hg⟩ : ∃ g : Nat → Int, g = fun s : Nat => srv (h 220) tn tc n s - arS (h 220) D n (oth (h 220) f n) s := ⟨_, rfl⟩
  obtain ⟨sh, hsh⟩ : ∃ sh : Int, sh = if kd (h 220) n = 3 then pop6 (ovr (h 220) n) else 1 := ⟨_, rfl⟩
  obtain ⟨be, hbe⟩ : ∃ be : Nat, be = if kd (h 220) n = 1 then f else (h 220 2).toNat := ⟨_, rfl⟩
  have shb : 1 ≤ sh ∧ sh ≤ 6 := by rw [hsh]; split <;> omega
  have beb : be ≤ 4 := by rw [hbe]; split <;> omega
  show V l (d + 2) 0 0 M_X6_fillLeft 0 0 0 _ [(2, 176), (0, (f : Int)), (0, (n : Int)), (2, (b : Int) + 1), (9, 0), (9, 0), (9, 0), (9, 0), (9, 0)] [] SHP h
  have k56 : V l (d + 2) 0 0 M_X6_fillLeft 0 0 56 (Rt 0 SHP (row h b 121 F)) [(2, 176), (0, (f : Int)), (0, (n : Int)), (2, (b : Int) + 1), (0, kd (h 220) n), (0, sh), (9, 0), (9, 0), (9, 0)] [(0, (be : Int))] SHP h := by
    refine S_X6_fillLeft_56 _ _ _ _ ?_; simp (disch := omega) only [B_X6_fillLeft_56, bi_0, x_ic, x_lc, x_ld, x_st, x_sl, x_inc, x_b32, x_b64, x_d32, x_d64, x_s64, x_un, x_lcmp, x_dup, x_pop, x_dup2, x_if, x_cmp, x_sw, swk, x_ald, x_ast, x_alen, x_getf, x_putf, x_inv, x_mm, x_copy, x_iret, x_lret, x_vret, ok1, pu, ct, rcv, rcs, ent0, List.getElem?_cons_zero, List.getElem?_cons_succ, List.getElem?_nil, List.set_cons_zero, List.set_cons_succ, List.take_succ_cons, List.take_zero, List.drop_succ_cons, List.drop_zero, List.reverse_cons, List.reverse_nil, List.nil_append, List.cons_append, List.length_cons, List.length_nil, true_and, and_true, and_self, ne_eq, not_true_eq_false, not_false_eq_true, reduceIte, true_or, or_true, false_or, or_false, Nat.reduceAdd, Nat.reduceSub, Nat.reduceMul, Nat.reduceLeDiff, Nat.reduceEqDiff, Nat.reduceLT, Nat.le_refl, Nat.zero_le, Int.reduceToNat, Int.reduceAdd, Int.reduceSub, Int.reduceMul, Int.reduceNeg, Int.reduceLT, Int.reduceLE, Int.reduceEq, Nat.zero_add, Nat.add_zero, Nat.reduceBEq, Nat.one_ne_zero, Nat.zero_ne_one, Nat.lt_irrefl, Nat.succ_ne_zero, w32_id, ixc, ixc2, Int.toNat_natCast]
    refine V_is (pc := 64) (fun t => [(2, 176), (0, (f : Int)), (0, (n : Int)), (2, (b : Int) + 1), (0, kd (h 220) n), (0, sh), (0, (be : Int)), (0, if kd (h 220) n = 3 ∨ kd (h 220) n = 2 then 0 else mxp g t), (0, (t : Int))]) (fun t => row h b t F) 121 (by simp [mxp]) (row_0 _ _ _) (fun t ht ih => ?_) ?_
    · have L1 : Lay (row h b t F) := hb.lay L
      have t1 := (stg_l L1).2.2.2.1
      have t2 := stg_s L1 (show n < 4 by omega)
      have t3 : row h b t F (204 + n) t = srv (h 220) tn tc n t := by rw [row_ne (by omega)]; exact S n t hn (by omega)
      have sb := srv_b W hT hn (t := (t : Int)) (by omega) (by omega)
      have eF : F t = lft (h 220) D tn tc f n t := by rw [hF]
      unfold lft at eF
      rw [← hg] at eF
      refine S_X6_fillLeft_64 _ _ _ _ ?_; simp (disch := omega) only [B_X6_fillLeft_64, bi_0, x_ic, x_lc, x_ld, x_st, x_sl, x_inc, x_b32, x_b64, x_d32, x_d64, x_s64, x_un, x_lcmp, x_dup, x_pop, x_dup2, x_if, x_cmp, x_sw, swk, x_ald, x_ast, x_alen, x_getf, x_putf, x_inv, x_mm, x_copy, x_iret, x_lret, x_vret, ok1, pu, ct, rcv, rcs, ent0, List.getElem?_cons_zero, List.getElem?_cons_succ, List.getElem?_nil, List.set_cons_zero, List.set_cons_succ, List.take_succ_cons, List.take_zero, List.drop_succ_cons, List.drop_zero, List.reverse_cons, List.reverse_nil, List.nil_append, List.cons_append, List.length_cons, List.length_nil, true_and, and_true, and_self, ne_eq, not_true_eq_false, not_false_eq_true, reduceIte, true_or, or_true, false_or, or_false, Nat.reduceAdd, Nat.reduceSub, Nat.reduceMul, Nat.reduceLeDiff, Nat.reduceEqDiff, Nat.reduceLT, Nat.le_refl, Nat.zero_le, Int.reduceToNat, Int.reduceAdd, Int.reduceSub, Int.reduceMul, Int.reduceNeg, Int.reduceLT, Int.reduceLE, Int.reduceEq, Nat.zero_add, Nat.add_zero, Nat.reduceBEq, Nat.one_ne_zero, Nat.zero_ne_one, Nat.lt_irrefl, Nat.succ_ne_zero, w32_id, ixc, ixc2, Int.toNat_natCast]
      refine ⟨fun z => absurd z (by omega), fun _ => ?_⟩
      have k83 : (kd (h 220) n = 2 ∨ kd (h 220) n = 3) → V l (d + 2) 0 0 M_X6_fillLeft 0 0 83 (Rt 0 SHP (row h b 121 F)) [(2, 176), (0, (f : Int)), (0, (n : Int)), (2, (b : Int) + 1), (0, kd (h 220) n), (0, sh), (0, (be : Int)), (0, if kd (h 220) n = 3 ∨ kd (h 220) n = 2 then 0 else mxp g t), (0, (t : Int))] [] SHP (row h b t F) := by
        intro hk
        rw [if_pos (by omega)] at ih ⊢
        have d1 : dv32 (srv (h 220) tn tc n t) sh = F t := by
          rw [dv32_pos (by omega) (by omega) (by omega) (by omega), eF, hsh]
          rcases hk with hk | hk
          · rw [if_neg (by omega), if_neg (by omega), if_pos hk, Int.ediv_one]
          · rw [if_pos hk, if_pos hk]
        refine S_X6_fillLeft_83 _ _ _ _ ?_; simp (disch := omega) only [B_X6_fillLeft_83, bi_0, x_ic, x_lc, x_ld, x_st, x_sl, x_inc, x_b32, x_b64, x_d32, x_d64, x_s64, x_un, x_lcmp, x_dup, x_pop, x_dup2, x_if, x_cmp, x_sw, swk, x_ald, x_ast, x_alen, x_getf, x_putf, x_inv, x_mm, x_copy, x_iret, x_lret, x_vret, ok1, pu, ct, rcv, rcs, ent0, List.getElem?_cons_zero, List.getElem?_cons_succ, List.getElem?_nil, List.set_cons_zero, List.set_cons_succ, List.take_succ_cons, List.take_zero, List.drop_succ_cons, List.drop_zero, List.reverse_cons, List.reverse_nil, List.nil_append, List.cons_append, List.length_cons, List.length_nil, true_and, and_true, and_self, ne_eq, not_true_eq_false, not_false_eq_true, reduceIte, true_or, or_true, false_or, or_false, Nat.reduceAdd, Nat.reduceSub, Nat.reduceMul, Nat.reduceLeDiff, Nat.reduceEqDiff, Nat.reduceLT, Nat.le_refl, Nat.zero_le, Int.reduceToNat, Int.reduceAdd, Int.reduceSub, Int.reduceMul, Int.reduceNeg, Int.reduceLT, Int.reduceLE, Int.reduceEq, Nat.zero_add, Nat.add_zero, Nat.reduceBEq, Nat.one_ne_zero, Nat.zero_ne_one, Nat.lt_irrefl, Nat.succ_ne_zero, w32_id, ixc, ixc2, Int.toNat_natCast, ob_175, t1, ln_203, t2.1, t2.2, t3, bln]
        refine ⟨by omega, by omega, by omega, by omega, ?_⟩
        rw [d1, row_up]
        refine S_X6_fillLeft_135 _ _ _ _ ?_; simp (disch := omega) only [B_X6_fillLeft_135, bi_0, x_ic, x_lc, x_ld, x_st, x_sl, x_inc, x_b32, x_b64, x_d32, x_d64, x_s64, x_un, x_lcmp, x_dup, x_pop, x_dup2, x_if, x_cmp, x_sw, swk, x_ald, x_ast, x_alen, x_getf, x_putf, x_inv, x_mm, x_copy, x_iret, x_lret, x_vret, ok1, pu, ct, rcv, rcs, ent0, List.getElem?_cons_zero, List.getElem?_cons_succ, List.getElem?_nil, List.set_cons_zero, List.set_cons_succ, List.take_succ_cons, List.take_zero, List.drop_succ_cons, List.drop_zero, List.reverse_cons, List.reverse_nil, List.nil_append, List.cons_append, List.length_cons, List.length_nil, true_and, and_true, and_self, ne_eq, not_true_eq_false, not_false_eq_true, reduceIte, true_or, or_true, false_or, or_false, Nat.reduceAdd, Nat.reduceSub, Nat.reduceMul, Nat.reduceLeDiff, Nat.reduceEqDiff, Nat.reduceLT, Nat.le_refl, Nat.zero_le, Int.reduceToNat, Int.reduceAdd, Int.reduceSub, Int.reduceMul, Int.reduceNeg, Int.reduceLT, Int.reduceLE, Int.reduceEq, Nat.zero_add, Nat.add_zero, Nat.reduceBEq, Nat.one_ne_zero, Nat.zero_ne_one, Nat.lt_irrefl, Nat.succ_ne_zero, w32_id, ixc, ixc2, Int.toNat_natCast]
        exact ih
      refine ⟨fun z => k83 (Or.inl z), fun z2 => ⟨fun z => k83 (Or.inr z), fun z3 => ?_⟩⟩
      rw [if_neg (by omega)] at ih ⊢
      rw [if_neg z3, if_neg z2, mx0_mxp] at eF
      have mb := mxp_b (g := g) (B := 20000) (by decide) (k := t) (fun i hi => by rw [hg]; exact gb i (by omega))
      have e3 : ∀ f, f < 4 → row h b t F (187 + (4 * n + f)) t = h (187 + (4 * n + f)) t := fun f hf => by rw [row_ne (by omega)]
      have c1 := c_comingOf (l := l) (d := d) L1 (below := be) (but := (f : Int)) (show n < 4 by omega) beb (show t ≤ 120 by omega) (fun f hf => by rw [e3 f hf]; exact A.b W hD (by omega) hf (by omega))
      have e4 : sm (fun i : Nat => if (i : Int) = (f : Int) then 0 else row h b t F (187 + (4 * n + i)) t) be = arS (h 220) D n (oth (h 220) f n) t := by
        unfold arS oth
        by_cases k0 : kd (h 220) n = 0
        · rw [hbe, if_neg (by omega), if_pos k0]
          refine sm_cong (fun i hi => ?_)
          by_cases q : i = f
          · subst q; simp
          · rw [if_neg (by omega), e3 i (by omega), A n i t (by omega) (by omega) (by omega)]
            simp [q]
        · rw [hbe, if_pos (by omega), if_neg k0]
          have := sm_up (g := fun i => if (ovr (h 220) n i && decide (i < f)) = true then arv (h 220) D i n t else 0) (k := f) ((h 220 2).toNat - f) (fun i q1 q2 => by simp [show ¬ i < f by omega])
          rw [show f + ((h 220 2).toNat - f) = (h 220 2).toNat by omega] at this
          rw [this]
          refine sm_cong (fun i hi => ?_)
          rw [if_neg (by omega), e3 i (by omega), A n i t (by omega) (by omega) (by omega)]
          simp [hi]
      rw [e4] at c1
      have ab := arS_b W hD n (oth (h 220) f n) (t := (t : Int)) (by omega) (by omega)
      have eg : srv (h 220) tn tc n t - arS (h 220) D n (oth (h 220) f n) t = g t := by rw [hg]
      have gb2 := gb t (by omega)
      rw [show mxp g (t + 1) = max (mxp g t) (g t) from mx0_mxp g t] at ih
      refine S_X6_fillLeft_102 _ _ _ _ ?_; simp (disch := omega) only [B_X6_fillLeft_102, bi_0, x_ic, x_lc, x_ld, x_st, x_sl, x_inc, x_b32, x_b64, x_d32, x_d64, x_s64, x_un, x_lcmp, x_dup, x_pop, x_dup2, x_if, x_cmp, x_sw, swk, x_ald, x_ast, x_alen, x_getf, x_putf, x_inv, x_mm, x_copy, x_iret, x_lret, x_vret, ok1, pu, ct, rcv, rcs, ent0, List.getElem?_cons_zero, List.getElem?_cons_succ, List.getElem?_nil, List.set_cons_zero, List.set_cons_succ, List.take_succ_cons, List.take_zero, List.drop_succ_cons, List.drop_zero, List.reverse_cons, List.reverse_nil, List.nil_append, List.cons_append, List.length_cons, List.length_nil, true_and, and_true, and_self, ne_eq, not_true_eq_false, not_false_eq_true, reduceIte, true_or, or_true, false_or, or_false, Nat.reduceAdd, Nat.reduceSub, Nat.reduceMul, Nat.reduceLeDiff, Nat.reduceEqDiff, Nat.reduceLT, Nat.le_refl, Nat.zero_le, Int.reduceToNat, Int.reduceAdd, Int.reduceSub, Int.reduceMul, Int.reduceNeg, Int.reduceLT, Int.reduceLE, Int.reduceEq, Nat.zero_add, Nat.add_zero, Nat.reduceBEq, Nat.one_ne_zero, Nat.zero_ne_one, Nat.lt_irrefl, Nat.succ_ne_zero, w32_id, ixc, ixc2, Int.toNat_natCast, ob_175, t1, ln_203, t2.1, t2.2, t3]
      refine ⟨by omega, by omega, ?_⟩
      refine Cl.app c1 ?_
      (try simp (disch := omega) only [bi_0, x_ic, x_lc, x_ld, x_st, x_sl, x_inc, x_b32, x_b64, x_d32, x_d64, x_s64, x_un, x_lcmp, x_dup, x_pop, x_dup2, x_if, x_cmp, x_sw, swk, x_ald, x_ast, x_alen, x_getf, x_putf, x_inv, x_mm, x_copy, x_iret, x_lret, x_vret, ok1, pu, ct, rcv, rcs, ent0, List.getElem?_cons_zero, List.getElem?_cons_succ, List.getElem?_nil, List.set_cons_zero, List.set_cons_succ, List.take_succ_cons, List.take_zero, List.drop_succ_cons, List.drop_zero, List.reverse_cons, List.reverse_nil, List.nil_append, List.cons_append, List.length_cons, List.length_nil, true_and, and_true, and_self, ne_eq, not_true_eq_false, not_false_eq_true, reduceIte, true_or, or_true, false_or, or_false, Nat.reduceAdd, Nat.reduceSub, Nat.reduceMul, Nat.reduceLeDiff, Nat.reduceEqDiff, Nat.reduceLT, Nat.le_refl, Nat.zero_le, Int.reduceToNat, Int.reduceAdd, Int.reduceSub, Int.reduceMul, Int.reduceNeg, Int.reduceLT, Int.reduceLE, Int.reduceEq, Nat.zero_add, Nat.add_zero, Nat.reduceBEq, Nat.one_ne_zero, Nat.zero_ne_one, Nat.lt_irrefl, Nat.succ_ne_zero, w32_id, ixc, ixc2, Int.toNat_natCast, bln, eg])
      refine ⟨by omega, ?_⟩
      rw [← eF, row_up]
      rw [← eF] at ih
      refine S_X6_fillLeft_135 _ _ _ _ ?_; simp (disch := omega) only [B_X6_fillLeft_135, bi_0, x_ic, x_lc, x_ld, x_st, x_sl, x_inc, x_b32, x_b64, x_d32, x_d64, x_s64, x_un, x_lcmp, x_dup, x_pop, x_dup2, x_if, x_cmp, x_sw, swk, x_ald, x_ast, x_alen, x_getf, x_putf, x_inv, x_mm, x_copy, x_iret, x_lret, x_vret, ok1, pu, ct, rcv, rcs, ent0, List.getElem?_cons_zero, List.getElem?_cons_succ, List.getElem?_nil, List.set_cons_zero, List.set_cons_succ, List.take_succ_cons, List.take_zero, List.drop_succ_cons, List.drop_zero, List.reverse_cons, List.reverse_nil, List.nil_append, List.cons_append, List.length_cons, List.length_nil, true_and, and_true, and_self, ne_eq, not_true_eq_false, not_false_eq_true, reduceIte, true_or, or_true, false_or, or_false, Nat.reduceAdd, Nat.reduceSub, Nat.reduceMul, Nat.reduceLeDiff, Nat.reduceEqDiff, Nat.reduceLT, Nat.le_refl, Nat.zero_le, Int.reduceToNat, Int.reduceAdd, Int.reduceSub, Int.reduceMul, Int.reduceNeg, Int.reduceLT, Int.reduceLE, Int.reduceEq, Nat.zero_add, Nat.add_zero, Nat.reduceBEq, Nat.one_ne_zero, Nat.zero_ne_one, Nat.lt_irrefl, Nat.succ_ne_zero, w32_id, ixc, ixc2, Int.toNat_natCast]
      exact ih
    · refine S_X6_fillLeft_64 _ _ _ _ ?_; simp (disch := omega) only [B_X6_fillLeft_64, bi_0, x_ic, x_lc, x_ld, x_st, x_sl, x_inc, x_b32, x_b64, x_d32, x_d64, x_s64, x_un, x_lcmp, x_dup, x_pop, x_dup2, x_if, x_cmp, x_sw, swk, x_ald, x_ast, x_alen, x_getf, x_putf, x_inv, x_mm, x_copy, x_iret, x_lret, x_vret, ok1, pu, ct, rcv, rcs, ent0, List.getElem?_cons_zero, List.getElem?_cons_succ, List.getElem?_nil, List.set_cons_zero, List.set_cons_succ, List.take_succ_cons, List.take_zero, List.drop_succ_cons, List.drop_zero, List.reverse_cons, List.reverse_nil, List.nil_append, List.cons_append, List.length_cons, List.length_nil, true_and, and_true, and_self, ne_eq, not_true_eq_false, not_false_eq_true, reduceIte, true_or, or_true, false_or, or_false, Nat.reduceAdd, Nat.reduceSub, Nat.reduceMul, Nat.reduceLeDiff, Nat.reduceEqDiff, Nat.reduceLT, Nat.le_refl, Nat.zero_le, Int.reduceToNat, Int.reduceAdd, Int.reduceSub, Int.reduceMul, Int.reduceNeg, Int.reduceLT, Int.reduceLE, Int.reduceEq, Nat.zero_add, Nat.add_zero, Nat.reduceBEq, Nat.one_ne_zero, Nat.zero_ne_one, Nat.lt_irrefl, Nat.succ_ne_zero, w32_id, ixc, ixc2, Int.toNat_natCast]
      refine ⟨fun _ => ?_, fun z => absurd z (by omega)⟩
      refine S_X6_fillLeft_141 _ _ _ _ ?_; simp (disch := omega) only [B_X6_fillLeft_141, bi_0, x_ic, x_lc, x_ld, x_st, x_sl, x_inc, x_b32, x_b64, x_d32, x_d64, x_s64, x_un, x_lcmp, x_dup, x_pop, x_dup2, x_if, x_cmp, x_sw, swk, x_ald, x_ast, x_alen, x_getf, x_putf, x_inv, x_mm, x_copy, x_iret, x_lret, x_vret, ok1, pu, ct, rcv, rcs, ent0, List.getElem?_cons_zero, List.getElem?_cons_succ, List.getElem?_nil, List.set_cons_zero, List.set_cons_succ, List.take_succ_cons, List.take_zero, List.drop_succ_cons, List.drop_zero, List.reverse_cons, List.reverse_nil, List.nil_append, List.cons_append, List.length_cons, List.length_nil, true_and, and_true, and_self, ne_eq, not_true_eq_false, not_false_eq_true, reduceIte, true_or, or_true, false_or, or_false, Nat.reduceAdd, Nat.reduceSub, Nat.reduceMul, Nat.reduceLeDiff, Nat.reduceEqDiff, Nat.reduceLT, Nat.le_refl, Nat.zero_le, Int.reduceToNat, Int.reduceAdd, Int.reduceSub, Int.reduceMul, Int.reduceNeg, Int.reduceLT, Int.reduceLE, Int.reduceEq, Nat.zero_add, Nat.add_zero, Nat.reduceBEq, Nat.one_ne_zero, Nat.zero_ne_one, Nat.lt_irrefl, Nat.succ_ne_zero, w32_id, ixc, ixc2, Int.toNat_natCast]
      exact Rt_mk rfl
  have k37 : V l (d + 2) 0 0 M_X6_fillLeft 0 0 37 (Rt 0 SHP (row h b 121 F)) [(2, 176), (0, (f : Int)), (0, (n : Int)), (2, (b : Int) + 1), (0, kd (h 220) n), (9, 0), (9, 0), (9, 0), (9, 0)] [(0, sh)] SHP h := by
    refine S_X6_fillLeft_37 _ _ _ _ ?_; simp (disch := omega) only [B_X6_fillLeft_37, bi_0, x_ic, x_lc, x_ld, x_st, x_sl, x_inc, x_b32, x_b64, x_d32, x_d64, x_s64, x_un, x_lcmp, x_dup, x_pop, x_dup2, x_if, x_cmp, x_sw, swk, x_ald, x_ast, x_alen, x_getf, x_putf, x_inv, x_mm, x_copy, x_iret, x_lret, x_vret, ok1, pu, ct, rcv, rcs, ent0, List.getElem?_cons_zero, List.getElem?_cons_succ, List.getElem?_nil, List.set_cons_zero, List.set_cons_succ, List.take_succ_cons, List.take_zero, List.drop_succ_cons, List.drop_zero, List.reverse_cons, List.reverse_nil, List.nil_append, List.cons_append, List.length_cons, List.length_nil, true_and, and_true, and_self, ne_eq, not_true_eq_false, not_false_eq_true, reduceIte, true_or, or_true, false_or, or_false, Nat.reduceAdd, Nat.reduceSub, Nat.reduceMul, Nat.reduceLeDiff, Nat.reduceEqDiff, Nat.reduceLT, Nat.le_refl, Nat.zero_le, Int.reduceToNat, Int.reduceAdd, Int.reduceSub, Int.reduceMul, Int.reduceNeg, Int.reduceLT, Int.reduceLE, Int.reduceEq, Nat.zero_add, Nat.add_zero, Nat.reduceBEq, Nat.one_ne_zero, Nat.zero_ne_one, Nat.lt_irrefl, Nat.succ_ne_zero, w32_id, ixc, ixc2, Int.toNat_natCast]
    refine ⟨fun z => ?_, fun z => ?_⟩
    · rw [if_pos z] at hbe
      rw [hbe] at k56
      exact k56
    · rw [if_neg z] at hbe
      have e13 := R.2.1.2
      refine S_X6_fillLeft_49 _ _ _ _ ?_; simp (disch := omega) only [B_X6_fillLeft_49, bi_0, x_ic, x_lc, x_ld, x_st, x_sl, x_inc, x_b32, x_b64, x_d32, x_d64, x_s64, x_un, x_lcmp, x_dup, x_pop, x_dup2, x_if, x_cmp, x_sw, swk, x_ald, x_ast, x_alen, x_getf, x_putf, x_inv, x_mm, x_copy, x_iret, x_lret, x_vret, ok1, pu, ct, rcv, rcs, ent0, List.getElem?_cons_zero, List.getElem?_cons_succ, List.getElem?_nil, List.set_cons_zero, List.set_cons_succ, List.take_succ_cons, List.take_zero, List.drop_succ_cons, List.drop_zero, List.reverse_cons, List.reverse_nil, List.nil_append, List.cons_append, List.length_cons, List.length_nil, true_and, and_true, and_self, ne_eq, not_true_eq_false, not_false_eq_true, reduceIte, true_or, or_true, false_or, or_false, Nat.reduceAdd, Nat.reduceSub, Nat.reduceMul, Nat.reduceLeDiff, Nat.reduceEqDiff, Nat.reduceLT, Nat.le_refl, Nat.zero_le, Int.reduceToNat, Int.reduceAdd, Int.reduceSub, Int.reduceMul, Int.reduceNeg, Int.reduceLT, Int.reduceLE, Int.reduceEq, Nat.zero_add, Nat.add_zero, Nat.reduceBEq, Nat.one_ne_zero, Nat.zero_ne_one, Nat.lt_irrefl, Nat.succ_ne_zero, w32_id, ixc, ixc2, Int.toNat_natCast, ob_175, hs, s1, e13]
      rw [show h 220 2 = (be : Int) by omega]
      exact k56
  have e4 := nl.2.2.2.1
  have e9 := nl.2.2.2.2.2.2.2.2.1
  have q4 := nln.2.2.2.1
  have q9 := nln.2.2.2.2.2.2.2.2.1
  refine S_X6_fillLeft_0 _ _ _ _ ?_; simp (disch := omega) only [B_X6_fillLeft_0, bi_0, x_ic, x_lc, x_ld, x_st, x_sl, x_inc, x_b32, x_b64, x_d32, x_d64, x_s64, x_un, x_lcmp, x_dup, x_pop, x_dup2, x_if, x_cmp, x_sw, swk, x_ald, x_ast, x_alen, x_getf, x_putf, x_inv, x_mm, x_copy, x_iret, x_lret, x_vret, ok1, pu, ct, rcv, rcs, ent0, List.getElem?_cons_zero, List.getElem?_cons_succ, List.getElem?_nil, List.set_cons_zero, List.set_cons_succ, List.take_succ_cons, List.take_zero, List.drop_succ_cons, List.drop_zero, List.reverse_cons, List.reverse_nil, List.nil_append, List.cons_append, List.length_cons, List.length_nil, true_and, and_true, and_self, ne_eq, not_true_eq_false, not_false_eq_true, reduceIte, true_or, or_true, false_or, or_false, Nat.reduceAdd, Nat.reduceSub, Nat.reduceMul, Nat.reduceLeDiff, Nat.reduceEqDiff, Nat.reduceLT, Nat.le_refl, Nat.zero_le, Int.reduceToNat, Int.reduceAdd, Int.reduceSub, Int.reduceMul, Int.reduceNeg, Int.reduceLT, Int.reduceLE, Int.reduceEq, Nat.zero_add, Nat.add_zero, Nat.reduceBEq, Nat.one_ne_zero, Nat.zero_ne_one, Nat.lt_irrefl, Nat.succ_ne_zero, w32_id, ixc, ixc2, Int.toNat_natCast, ob_175, hs, s1, e4, q4, e9, q9, r1, r3]
  refine ⟨by omega, fun z => ⟨by omega, ?_⟩, fun z => ?_⟩
  · refine Cl.app (j_bitCount _) ?_
    (try simp (disch := omega) only [bi_0, x_ic, x_lc, x_ld, x_st, x_sl, x_inc, x_b32, x_b64, x_d32, x_d64, x_s64, x_un, x_lcmp, x_dup, x_pop, x_dup2, x_if, x_cmp, x_sw, swk, x_ald, x_ast, x_alen, x_getf, x_putf, x_inv, x_mm, x_copy, x_iret, x_lret, x_vret, ok1, pu, ct, rcv, rcs, ent0, List.getElem?_cons_zero, List.getElem?_cons_succ, List.getElem?_nil, List.set_cons_zero, List.set_cons_succ, List.take_succ_cons, List.take_zero, List.drop_succ_cons, List.drop_zero, List.reverse_cons, List.reverse_nil, List.nil_append, List.cons_append, List.length_cons, List.length_nil, true_and, and_true, and_self, ne_eq, not_true_eq_false, not_false_eq_true, reduceIte, true_or, or_true, false_or, or_false, Nat.reduceAdd, Nat.reduceSub, Nat.reduceMul, Nat.reduceLeDiff, Nat.reduceEqDiff, Nat.reduceLT, Nat.le_refl, Nat.zero_le, Int.reduceToNat, Int.reduceAdd, Int.reduceSub, Int.reduceMul, Int.reduceNeg, Int.reduceLT, Int.reduceLE, Int.reduceEq, Nat.zero_add, Nat.add_zero, Nat.reduceBEq, Nat.one_ne_zero, Nat.zero_ne_one, Nat.lt_irrefl, Nat.succ_ne_zero, w32_id, ixc, ixc2, Int.toNat_natCast])
    rw [if_pos z] at hsh
    rw [show max 1 (pop6 (ovr (h 220) n)) = sh by omega]
    exact k37
  · rw [if_neg z] at hsh
    refine S_X6_fillLeft_36 _ _ _ _ ?_; simp (disch := omega) only [B_X6_fillLeft_36, bi_0, x_ic, x_lc, x_ld, x_st, x_sl, x_inc, x_b32, x_b64, x_d32, x_d64, x_s64, x_un, x_lcmp, x_dup, x_pop, x_dup2, x_if, x_cmp, x_sw, swk, x_ald, x_ast, x_alen, x_getf, x_putf, x_inv, x_mm, x_copy, x_iret, x_lret, x_vret, ok1, pu, ct, rcv, rcs, ent0, List.getElem?_cons_zero, List.getElem?_cons_succ, List.getElem?_nil, List.set_cons_zero, List.set_cons_succ, List.take_succ_cons, List.take_zero, List.drop_succ_cons, List.drop_zero, List.reverse_cons, List.reverse_nil, List.nil_append, List.cons_append, List.length_cons, List.length_nil, true_and, and_true, and_self, ne_eq, not_true_eq_false, not_false_eq_true, reduceIte, true_or, or_true, false_or, or_false, Nat.reduceAdd, Nat.reduceSub, Nat.reduceMul, Nat.reduceLeDiff, Nat.reduceEqDiff, Nat.reduceLT, Nat.le_refl, Nat.zero_le, Int.reduceToNat, Int.reduceAdd, Int.reduceSub, Int.reduceMul, Int.reduceNeg, Int.reduceLT, Int.reduceLE, Int.reduceEq, Nat.zero_add, Nat.add_zero, Nat.reduceBEq, Nat.one_ne_zero, Nat.zero_ne_one, Nat.lt_irrefl, Nat.succ_ne_zero, w32_id, ixc, ixc2, Int.toNat_natCast]
    rw [hsh] at k37
    exact k37
theorem c_delayAt (L : Lay h) (hnb : nb = 4 ∨ nb = 34) (hs : h 175 6 = (nb : Int) + 1) (R : RN h nb) (W : WN (h 220)) {D : Nat → Int} (hD : DB D) (A : ArR h D) {tn tc : Int} (hT : TrW (h 220) tn tc) (S : SvR h tn tc) {f k n : Nat} (hf : (f : Int) < h 220 2) (hk : (k : Int) < hp (h 220) f) (hn : nd (h 220) f k = (n : Int)) : Cl l (d + 3) M_X6_delayAt [(2, 176), (0, (f : Int)), (0, (n : Int))] SHP h (fun r sh' h' => r = dly (h 220) tn tc D (4 * f + k) ∧ sh' = SHP ∧ Fr [208, 209] h h') := by
  have nf := W.nf
  have nn := W.nn
  have hh := W.hpB f hf
  have hnbd := W.ndB f k hf hk
  have s1 := (net_sh hnb).1
  have hni : (n : Int) < h 220 1 := by omega
  obtain ⟨r1, r2, r3⟩ := R.2.2.1 n hni
  have ho := ovr_hop W hf hk
  rw [hn, Int.toNat_natCast] at ho
  have hop1 := hop_eq W hf hk
  rw [hn] at hop1
  have e4 := (net_f L hnb).2.2.2.1
  have q4 := (net_ln hnb).2.2.2.1
  have sl := stg_l L
  have l4 := sl.2.2.2.2.1
  have l5 := sl.2.2.2.2.2
  have t2 := stg_s L (show n < 4 by omega)
  rw [dly_at (show k < 4 by omega), hn, Int.toNat_natCast]
  show V l (d + 3) 0 0 M_X6_delayAt 0 0 0 _ [(2, 176), (0, (f : Int)), (0, (n : Int))] [] SHP h
  refine S_X6_delayAt_0 _ _ _ _ ?_; simp (disch := omega) only [B_X6_delayAt_0, bi_0, x_ic, x_lc, x_ld, x_st, x_sl, x_inc, x_b32, x_b64, x_d32, x_d64, x_s64, x_un, x_lcmp, x_dup, x_pop, x_dup2, x_if, x_cmp, x_sw, swk, x_ald, x_ast, x_alen, x_getf, x_putf, x_inv, x_mm, x_copy, x_iret, x_lret, x_vret, ok1, pu, ct, rcv, rcs, ent0, List.getElem?_cons_zero, List.getElem?_cons_succ, List.getElem?_nil, List.set_cons_zero, List.set_cons_succ, List.take_succ_cons, List.take_zero, List.drop_succ_cons, List.drop_zero, List.reverse_cons, List.reverse_nil, List.nil_append, List.cons_append, List.length_cons, List.length_nil, true_and, and_true, and_self, ne_eq, not_true_eq_false, not_false_eq_true, reduceIte, true_or, or_true, false_or, or_false, Nat.reduceAdd, Nat.reduceSub, Nat.reduceMul, Nat.reduceLeDiff, Nat.reduceEqDiff, Nat.reduceLT, Nat.le_refl, Nat.zero_le, Int.reduceToNat, Int.reduceAdd, Int.reduceSub, Int.reduceMul, Int.reduceNeg, Int.reduceLT, Int.reduceLE, Int.reduceEq, Nat.zero_add, Nat.add_zero, Nat.reduceBEq, Nat.one_ne_zero, Nat.zero_ne_one, Nat.lt_irrefl, Nat.succ_ne_zero, w32_id, ixc, ixc2, Int.toNat_natCast, ob_175, hs, s1, e4, q4, r1, l4]
  refine ⟨by omega, fun z => ?_, fun z => ?_⟩
  · refine Cl.app (c_fillComing L hnb hs R W hD A (n := n) (b := 208) (by omega) (Or.inl rfl)) ?_
    obtain ⟨F, hF⟩ : ∃ F : Nat → Int, F = fun t : Nat => arS (h 220) D n (ovr (h 220) n) t := ⟨_, rfl⟩
    rw [← hF]
    have L1 : Lay (row h 208 121 F) := Lay_row L (by decide +kernel)
    have sl1 := stg_l L1
    have m4 := sl1.2.2.2.2.1
    have m3 := sl1.2.2.2.1
    have t3 := stg_s L1 (show n < 4 by omega)
    (try simp (disch := omega) only [bi_0, x_ic, x_lc, x_ld, x_st, x_sl, x_inc, x_b32, x_b64, x_d32, x_d64, x_s64, x_un, x_lcmp, x_dup, x_pop, x_dup2, x_if, x_cmp, x_sw, swk, x_ald, x_ast, x_alen, x_getf, x_putf, x_inv, x_mm, x_copy, x_iret, x_lret, x_vret, ok1, pu, ct, rcv, rcs, ent0, List.getElem?_cons_zero, List.getElem?_cons_succ, List.getElem?_nil, List.set_cons_zero, List.set_cons_succ, List.take_succ_cons, List.take_zero, List.drop_succ_cons, List.drop_zero, List.reverse_cons, List.reverse_nil, List.nil_append, List.cons_append, List.length_cons, List.length_nil, true_and, and_true, and_self, ne_eq, not_true_eq_false, not_false_eq_true, reduceIte, true_or, or_true, false_or, or_false, Nat.reduceAdd, Nat.reduceSub, Nat.reduceMul, Nat.reduceLeDiff, Nat.reduceEqDiff, Nat.reduceLT, Nat.le_refl, Nat.zero_le, Int.reduceToNat, Int.reduceAdd, Int.reduceSub, Int.reduceMul, Int.reduceNeg, Int.reduceLT, Int.reduceLE, Int.reduceEq, Nat.zero_add, Nat.add_zero, Nat.reduceBEq, Nat.one_ne_zero, Nat.zero_ne_one, Nat.lt_irrefl, Nat.succ_ne_zero, w32_id, ixc, ixc2, Int.toNat_natCast, ob_175, m4, m3, ln_203, t3.1])
    refine ⟨by omega, ?_⟩
    refine Cl.app (c_lateness (a := 208) (b := 204 + n) (show (61 : Int) ≤ ln SHP 0 209 by rw [ln_208]; decide) (by rw [t3.2]; decide)) ?_
    refine ⟨?_, rfl, Fr.row Fr.rfl (by decide)⟩
    refine lat_cong (fun j hj => ?_) (fun j hj => ?_)
    · rw [row_at (by omega), hF]; unfold arrR; rw [hn, Int.toNat_natCast, if_pos z]
    · rw [row_ne (by omega), S n j hni (by omega)]; unfold lft; rw [if_neg (by omega), if_pos z]
  · refine S_X6_delayAt_36 _ _ _ _ ?_; simp (disch := omega) only [B_X6_delayAt_36, bi_0, x_ic, x_lc, x_ld, x_st, x_sl, x_inc, x_b32, x_b64, x_d32, x_d64, x_s64, x_un, x_lcmp, x_dup, x_pop, x_dup2, x_if, x_cmp, x_sw, swk, x_ald, x_ast, x_alen, x_getf, x_putf, x_inv, x_mm, x_copy, x_iret, x_lret, x_vret, ok1, pu, ct, rcv, rcs, ent0, List.getElem?_cons_zero, List.getElem?_cons_succ, List.getElem?_nil, List.set_cons_zero, List.set_cons_succ, List.take_succ_cons, List.take_zero, List.drop_succ_cons, List.drop_zero, List.reverse_cons, List.reverse_nil, List.nil_append, List.cons_append, List.length_cons, List.length_nil, true_and, and_true, and_self, ne_eq, not_true_eq_false, not_false_eq_true, reduceIte, true_or, or_true, false_or, or_false, Nat.reduceAdd, Nat.reduceSub, Nat.reduceMul, Nat.reduceLeDiff, Nat.reduceEqDiff, Nat.reduceLT, Nat.le_refl, Nat.zero_le, Int.reduceToNat, Int.reduceAdd, Int.reduceSub, Int.reduceMul, Int.reduceNeg, Int.reduceLT, Int.reduceLE, Int.reduceEq, Nat.zero_add, Nat.add_zero, Nat.reduceBEq, Nat.one_ne_zero, Nat.zero_ne_one, Nat.lt_irrefl, Nat.succ_ne_zero, w32_id, ixc, ixc2, Int.toNat_natCast, ob_175, l5]
    refine Cl.app (c_fillLeft L hnb hs R W hD A hT S (b := 209) hf hni ho (Or.inr (Or.inl rfl))) ?_
    obtain ⟨F, hF⟩ : ∃ F : Nat → Int, F = fun t : Nat => lft (h 220) D tn tc f n t := ⟨_, rfl⟩
    rw [← hF]
    have L1 : Lay (row h 209 121 F) := Lay_row L (by decide +kernel)
    have sl1 := stg_l L1
    have m2 := sl1.2.2.1
    have m5 := sl1.2.2.2.2.2
    have t3 := stg_a L1 (show 4 * n + f < 16 by omega)
    have ix : ((n : Int) * 4 + (f : Int)).toNat = 4 * n + f := by omega
    (try simp (disch := omega) only [bi_0, x_ic, x_lc, x_ld, x_st, x_sl, x_inc, x_b32, x_b64, x_d32, x_d64, x_s64, x_un, x_lcmp, x_dup, x_pop, x_dup2, x_if, x_cmp, x_sw, swk, x_ald, x_ast, x_alen, x_getf, x_putf, x_inv, x_mm, x_copy, x_iret, x_lret, x_vret, ok1, pu, ct, rcv, rcs, ent0, List.getElem?_cons_zero, List.getElem?_cons_succ, List.getElem?_nil, List.set_cons_zero, List.set_cons_succ, List.take_succ_cons, List.take_zero, List.drop_succ_cons, List.drop_zero, List.reverse_cons, List.reverse_nil, List.nil_append, List.cons_append, List.length_cons, List.length_nil, true_and, and_true, and_self, ne_eq, not_true_eq_false, not_false_eq_true, reduceIte, true_or, or_true, false_or, or_false, Nat.reduceAdd, Nat.reduceSub, Nat.reduceMul, Nat.reduceLeDiff, Nat.reduceEqDiff, Nat.reduceLT, Nat.le_refl, Nat.zero_le, Int.reduceToNat, Int.reduceAdd, Int.reduceSub, Int.reduceMul, Int.reduceNeg, Int.reduceLT, Int.reduceLE, Int.reduceEq, Nat.zero_add, Nat.add_zero, Nat.reduceBEq, Nat.one_ne_zero, Nat.zero_ne_one, Nat.lt_irrefl, Nat.succ_ne_zero, w32_id, ixc, ixc2, Int.toNat_natCast, ob_175, m2, m5, ln_186, ix, t3.1])
    refine ⟨by omega, ?_⟩
    refine Cl.app (c_lateness (a := 187 + (4 * n + f)) (b := 209) (by rw [t3.2]; decide) (show (121 : Int) ≤ ln SHP 0 210 by rw [ln_209]; decide)) ?_
    refine ⟨?_, rfl, Fr.row Fr.rfl (by decide)⟩
    refine lat_cong (fun j hj => ?_) (fun j hj => ?_)
    · rw [row_ne (by omega), A n f j (by omega) (by omega) (by omega), if_pos ho]
      unfold arrR arv
      rw [hn, Int.toNat_natCast, if_neg z, hop1, Int.toNat_natCast]
    · rw [row_at (by omega), hF]
end CS

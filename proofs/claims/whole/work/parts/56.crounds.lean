/-! the class: the rounds of settling -/
def LD : List Nat := [177, 178, 179, 180]
def LN : List Nat := [208, 209, 182, 183, 184, 185]
def LA : List Nat := [187, 188, 189, 190, 191, 192, 193, 194, 195, 196, 197, 198, 199, 200, 201, 202]
def LSv : List Nat := [204, 205, 206, 207]
theorem LD_in {f : Nat} (hf : f < 4) : 177 + f ∈ LD := (by decide : ∀ i : Fin 4, 177 + i.1 ∈ LD) ⟨f, hf⟩
theorem LN_in {f : Nat} (hf : f < 4) : 182 + f ∈ LN := (by decide : ∀ i : Fin 4, 182 + i.1 ∈ LN) ⟨f, hf⟩
theorem LA_in {f : Nat} (hf : f < 16) : 187 + f ∈ LA := (by decide : ∀ i : Fin 16, 187 + i.1 ∈ LA) ⟨f, hf⟩
theorem LSv_in {f : Nat} (hf : f < 4) : 204 + f ∈ LSv := (by decide : ∀ i : Fin 4, 204 + i.1 ∈ LSv) ⟨f, hf⟩
theorem nin {cs : List Nat} {a b i : Nat} (hc : cs.all (fun j => decide (a ≤ j ∧ j < b)) = true) (h : i < a ∨ b ≤ i) : i ∉ cs := fun hm => by
  have := List.all_eq_true.mp hc i hm
  simp at this; omega
theorem LD_no {i : Nat} (h : i < 177 ∨ 181 ≤ i) : i ∉ LD := nin (a := 177) (b := 181) (by decide) h
theorem LA_no {i : Nat} (h : i < 187 ∨ 203 ≤ i) : i ∉ LA := nin (a := 187) (b := 203) (by decide) h
theorem LSv_no {i : Nat} (h : i < 204 ∨ 208 ≤ i) : i ∉ LSv := nin (a := 204) (b := 208) (by decide) h
theorem LN_no {i : Nat} (h : i < 182 ∨ (186 ≤ i ∧ i < 208) ∨ 210 ≤ i) : i ∉ LN := fun hm => by
  simp [LN] at hm; omega
theorem Fr.trans {cs : List Nat} {h h1 h2 : Mem} (a : Fr cs h h1) (b : Fr cs h1 h2) : Fr cs h h2 := fun i q => (b i q).trans (a i q)
theorem Fr.wd {cs cs' : List Nat} {h h1 : Mem} (a : Fr cs h h1) (hs : ∀ i, i ∈ cs → i ∈ cs') : Fr cs' h h1 := fun i q => a i (fun z => q (hs i z))
theorem RN.frL {h h' : Mem} {nb : Nat} {cs : List Nat} (R : RN h nb) (W : WN (h 220)) (hn : nb = 4 ∨ nb = 34) (f : Fr cs h h') (hc : cs.all (fun j => decide (175 ≤ j ∧ j < 214)) = true) : RN h' nb := R.fr W (fun i hi => f i (nin hc (by omega)))
section CR
variable {l : Launch} {d : Nat} {h : Mem} {nb : Nat}
theorem c_clear (L : Lay h) : Cl l (d + 1) M_X6_clear [(2, 176)] SHP h (fun r sh' h' => r = 0 ∧ sh' = SHP ∧ Fr (LD ++ LA) h h' ∧ DlR h' zer ∧ ∀ i t, i < 16 → t ≤ 120 → h' (187 + i) t = 0) := by
  have nop : noPs (LD ++ LA) = true := by decide +kernel
  refine Cl_hide (fun Q hQ => ?_)
  show V l (d + 1) 0 0 M_X6_clear 0 0 0 Q [(2, 176), (9, 0), (9, 0)] [] SHP h
  refine S_X6_clear_0 _ _ _ _ ?_; simp (disch := omega) only [B_X6_clear_0, bi_0, x_ic, x_lc, x_ld, x_st, x_sl, x_inc, x_b32, x_b64, x_d32, x_d64, x_s64, x_un, x_lcmp, x_dup, x_pop, x_dup2, x_if, x_cmp, x_sw, swk, x_ald, x_ast, x_alen, x_getf, x_putf, x_inv, x_mm, x_copy, x_iret, x_lret, x_vret, ok1, pu, ct, rcv, rcs, ent0, List.getElem?_cons_zero, List.getElem?_cons_succ, List.getElem?_nil, List.set_cons_zero, List.set_cons_succ, List.take_succ_cons, List.take_zero, List.drop_succ_cons, List.drop_zero, List.reverse_cons, List.reverse_nil, List.nil_append, List.cons_append, List.length_cons, List.length_nil, true_and, and_true, and_self, ne_eq, not_true_eq_false, not_false_eq_true, reduceIte, true_or, or_true, false_or, or_false, Nat.reduceAdd, Nat.reduceSub, Nat.reduceMul, Nat.reduceLeDiff, Nat.reduceEqDiff, Nat.reduceLT, Nat.le_refl, Nat.zero_le, Int.reduceToNat, Int.reduceAdd, Int.reduceSub, Int.reduceMul, Int.reduceNeg, Int.reduceLT, Int.reduceLE, Int.reduceEq, Nat.zero_add, Nat.add_zero, Nat.reduceBEq, Nat.one_ne_zero, Nat.zero_ne_one, Nat.lt_irrefl, Nat.succ_ne_zero, w32_id, ixc, ixc2, Int.toNat_natCast]
  refine V_jx (pc := 2) (fun f => [(2, 176), (0, (f : Int)), (9, 0)]) (fun f m => Fr (LD ++ LA) h m ∧ ∀ f' k, f' < f → k < 4 → m (177 + f') k = 0) 4 (fun f m hf J ih => ?_) (fun m J => ?_) h ⟨Fr.rfl, fun _ _ q => absurd q (by omega)⟩
  · refine S_X6_clear_2 _ _ _ _ ?_; simp (disch := omega) only [B_X6_clear_2, bi_0, x_ic, x_lc, x_ld, x_st, x_sl, x_inc, x_b32, x_b64, x_d32, x_d64, x_s64, x_un, x_lcmp, x_dup, x_pop, x_dup2, x_if, x_cmp, x_sw, swk, x_ald, x_ast, x_alen, x_getf, x_putf, x_inv, x_mm, x_copy, x_iret, x_lret, x_vret, ok1, pu, ct, rcv, rcs, ent0, List.getElem?_cons_zero, List.getElem?_cons_succ, List.getElem?_nil, List.set_cons_zero, List.set_cons_succ, List.take_succ_cons, List.take_zero, List.drop_succ_cons, List.drop_zero, List.reverse_cons, List.reverse_nil, List.nil_append, List.cons_append, List.length_cons, List.length_nil, true_and, and_true, and_self, ne_eq, not_true_eq_false, not_false_eq_true, reduceIte, true_or, or_true, false_or, or_false, Nat.reduceAdd, Nat.reduceSub, Nat.reduceMul, Nat.reduceLeDiff, Nat.reduceEqDiff, Nat.reduceLT, Nat.le_refl, Nat.zero_le, Int.reduceToNat, Int.reduceAdd, Int.reduceSub, Int.reduceMul, Int.reduceNeg, Int.reduceLT, Int.reduceLE, Int.reduceEq, Nat.zero_add, Nat.add_zero, Nat.reduceBEq, Nat.one_ne_zero, Nat.zero_ne_one, Nat.lt_irrefl, Nat.succ_ne_zero, w32_id, ixc, ixc2, Int.toNat_natCast]
    refine ⟨fun z => absurd z (by omega), fun _ => ?_⟩
    refine V_jx (pc := 9) (fun k => [(2, 176), (0, (f : Int)), (0, (k : Int))]) (fun k m => Fr (LD ++ LA) h m ∧ (∀ f' k, f' < f → k < 4 → m (177 + f') k = 0) ∧ ∀ k', k' < k → m (177 + f) k' = 0) 4 (fun k m hk J ih2 => ?_) (fun m J => ?_) m ⟨J.1, J.2, fun _ q => absurd q (by omega)⟩
    · have Lm := Lay_Fr L nop J.1
      have t1 := (stg_l Lm).1
      refine S_X6_clear_9 _ _ _ _ ?_; simp (disch := omega) only [B_X6_clear_9, bi_0, x_ic, x_lc, x_ld, x_st, x_sl, x_inc, x_b32, x_b64, x_d32, x_d64, x_s64, x_un, x_lcmp, x_dup, x_pop, x_dup2, x_if, x_cmp, x_sw, swk, x_ald, x_ast, x_alen, x_getf, x_putf, x_inv, x_mm, x_copy, x_iret, x_lret, x_vret, ok1, pu, ct, rcv, rcs, ent0, List.getElem?_cons_zero, List.getElem?_cons_succ, List.getElem?_nil, List.set_cons_zero, List.set_cons_succ, List.take_succ_cons, List.take_zero, List.drop_succ_cons, List.drop_zero, List.reverse_cons, List.reverse_nil, List.nil_append, List.cons_append, List.length_cons, List.length_nil, true_and, and_true, and_self, ne_eq, not_true_eq_false, not_false_eq_true, reduceIte, true_or, or_true, false_or, or_false, Nat.reduceAdd, Nat.reduceSub, Nat.reduceMul, Nat.reduceLeDiff, Nat.reduceEqDiff, Nat.reduceLT, Nat.le_refl, Nat.zero_le, Int.reduceToNat, Int.reduceAdd, Int.reduceSub, Int.reduceMul, Int.reduceNeg, Int.reduceLT, Int.reduceLE, Int.reduceEq, Nat.zero_add, Nat.add_zero, Nat.reduceBEq, Nat.one_ne_zero, Nat.zero_ne_one, Nat.lt_irrefl, Nat.succ_ne_zero, w32_id, ixc, ixc2, Int.toNat_natCast, ob_175, t1, ln_176, (stg_d Lm hf).1, (stg_d Lm hf).2]
      refine ⟨fun z => absurd z (by omega), fun _ => ⟨by omega, by omega, ?_⟩⟩
      refine ih2 _ ?_; refine ⟨Fr.up J.1 (List.mem_append_left _ (LD_in hf)), fun f' k' q1 q2 => by rw [up_ne (by omega)]; exact J.2.1 f' k' q1 q2, fun k' q => ?_⟩
      by_cases e : k' = k
      · subst e; rw [up_at]
      · rw [up_nj e]; exact J.2.2 k' (by omega)
    · refine S_X6_clear_9 _ _ _ _ ?_; simp (disch := omega) only [B_X6_clear_9, bi_0, x_ic, x_lc, x_ld, x_st, x_sl, x_inc, x_b32, x_b64, x_d32, x_d64, x_s64, x_un, x_lcmp, x_dup, x_pop, x_dup2, x_if, x_cmp, x_sw, swk, x_ald, x_ast, x_alen, x_getf, x_putf, x_inv, x_mm, x_copy, x_iret, x_lret, x_vret, ok1, pu, ct, rcv, rcs, ent0, List.getElem?_cons_zero, List.getElem?_cons_succ, List.getElem?_nil, List.set_cons_zero, List.set_cons_succ, List.take_succ_cons, List.take_zero, List.drop_succ_cons, List.drop_zero, List.reverse_cons, List.reverse_nil, List.nil_append, List.cons_append, List.length_cons, List.length_nil, true_and, and_true, and_self, ne_eq, not_true_eq_false, not_false_eq_true, reduceIte, true_or, or_true, false_or, or_false, Nat.reduceAdd, Nat.reduceSub, Nat.reduceMul, Nat.reduceLeDiff, Nat.reduceEqDiff, Nat.reduceLT, Nat.le_refl, Nat.zero_le, Int.reduceToNat, Int.reduceAdd, Int.reduceSub, Int.reduceMul, Int.reduceNeg, Int.reduceLT, Int.reduceLE, Int.reduceEq, Nat.zero_add, Nat.add_zero, Nat.reduceBEq, Nat.one_ne_zero, Nat.zero_ne_one, Nat.lt_irrefl, Nat.succ_ne_zero, w32_id, ixc, ixc2, Int.toNat_natCast]
      refine ⟨fun _ => ?_, fun z => absurd z (by omega)⟩
      refine S_X6_clear_29 _ _ _ _ ?_; simp (disch := omega) only [B_X6_clear_29, bi_0, x_ic, x_lc, x_ld, x_st, x_sl, x_inc, x_b32, x_b64, x_d32, x_d64, x_s64, x_un, x_lcmp, x_dup, x_pop, x_dup2, x_if, x_cmp, x_sw, swk, x_ald, x_ast, x_alen, x_getf, x_putf, x_inv, x_mm, x_copy, x_iret, x_lret, x_vret, ok1, pu, ct, rcv, rcs, ent0, List.getElem?_cons_zero, List.getElem?_cons_succ, List.getElem?_nil, List.set_cons_zero, List.set_cons_succ, List.take_succ_cons, List.take_zero, List.drop_succ_cons, List.drop_zero, List.reverse_cons, List.reverse_nil, List.nil_append, List.cons_append, List.length_cons, List.length_nil, true_and, and_true, and_self, ne_eq, not_true_eq_false, not_false_eq_true, reduceIte, true_or, or_true, false_or, or_false, Nat.reduceAdd, Nat.reduceSub, Nat.reduceMul, Nat.reduceLeDiff, Nat.reduceEqDiff, Nat.reduceLT, Nat.le_refl, Nat.zero_le, Int.reduceToNat, Int.reduceAdd, Int.reduceSub, Int.reduceMul, Int.reduceNeg, Int.reduceLT, Int.reduceLE, Int.reduceEq, Nat.zero_add, Nat.add_zero, Nat.reduceBEq, Nat.one_ne_zero, Nat.zero_ne_one, Nat.lt_irrefl, Nat.succ_ne_zero, w32_id, ixc, ixc2, Int.toNat_natCast]
      refine V_fg [2] ?_
      refine ih m ?_; refine ⟨J.1, fun f' k q1 q2 => ?_⟩
      by_cases e : f' = f
      · subst e; exact J.2.2 k q2
      · exact J.2.1 f' k (by omega) q2
  · refine S_X6_clear_2 _ _ _ _ ?_; simp (disch := omega) only [B_X6_clear_2, bi_0, x_ic, x_lc, x_ld, x_st, x_sl, x_inc, x_b32, x_b64, x_d32, x_d64, x_s64, x_un, x_lcmp, x_dup, x_pop, x_dup2, x_if, x_cmp, x_sw, swk, x_ald, x_ast, x_alen, x_getf, x_putf, x_inv, x_mm, x_copy, x_iret, x_lret, x_vret, ok1, pu, ct, rcv, rcs, ent0, List.getElem?_cons_zero, List.getElem?_cons_succ, List.getElem?_nil, List.set_cons_zero, List.set_cons_succ, List.take_succ_cons, List.take_zero, List.drop_succ_cons, List.drop_zero, List.reverse_cons, List.reverse_nil, List.nil_append, List.cons_append, List.length_cons, List.length_nil, true_and, and_true, and_self, ne_eq, not_true_eq_false, not_false_eq_true, reduceIte, true_or, or_true, false_or, or_false, Nat.reduceAdd, Nat.reduceSub, Nat.reduceMul, Nat.reduceLeDiff, Nat.reduceEqDiff, Nat.reduceLT, Nat.le_refl, Nat.zero_le, Int.reduceToNat, Int.reduceAdd, Int.reduceSub, Int.reduceMul, Int.reduceNeg, Int.reduceLT, Int.reduceLE, Int.reduceEq, Nat.zero_add, Nat.add_zero, Nat.reduceBEq, Nat.one_ne_zero, Nat.zero_ne_one, Nat.lt_irrefl, Nat.succ_ne_zero, w32_id, ixc, ixc2, Int.toNat_natCast]
    refine ⟨fun _ => ?_, fun z => absurd z (by omega)⟩
    refine S_X6_clear_35 _ _ _ _ ?_; simp (disch := omega) only [B_X6_clear_35, bi_0, x_ic, x_lc, x_ld, x_st, x_sl, x_inc, x_b32, x_b64, x_d32, x_d64, x_s64, x_un, x_lcmp, x_dup, x_pop, x_dup2, x_if, x_cmp, x_sw, swk, x_ald, x_ast, x_alen, x_getf, x_putf, x_inv, x_mm, x_copy, x_iret, x_lret, x_vret, ok1, pu, ct, rcv, rcs, ent0, List.getElem?_cons_zero, List.getElem?_cons_succ, List.getElem?_nil, List.set_cons_zero, List.set_cons_succ, List.take_succ_cons, List.take_zero, List.drop_succ_cons, List.drop_zero, List.reverse_cons, List.reverse_nil, List.nil_append, List.cons_append, List.length_cons, List.length_nil, true_and, and_true, and_self, ne_eq, not_true_eq_false, not_false_eq_true, reduceIte, true_or, or_true, false_or, or_false, Nat.reduceAdd, Nat.reduceSub, Nat.reduceMul, Nat.reduceLeDiff, Nat.reduceEqDiff, Nat.reduceLT, Nat.le_refl, Nat.zero_le, Int.reduceToNat, Int.reduceAdd, Int.reduceSub, Int.reduceMul, Int.reduceNeg, Int.reduceLT, Int.reduceLE, Int.reduceEq, Nat.zero_add, Nat.add_zero, Nat.reduceBEq, Nat.one_ne_zero, Nat.zero_ne_one, Nat.lt_irrefl, Nat.succ_ne_zero, w32_id, ixc, ixc2, Int.toNat_natCast]
    refine V_jx (pc := 37) (fun f => [(2, 176), (0, (f : Int)), (9, 0)]) (fun f m => Fr (LD ++ LA) h m ∧ (∀ f' k, f' < 4 → k < 4 → m (177 + f') k = 0) ∧ ∀ i t, i < f → t ≤ 120 → m (187 + i) t = 0) 16 (fun f m hf J ih => ?_) (fun m J => ?_) m ⟨J.1, J.2, fun _ _ q => absurd q (by omega)⟩
    · have Lm := Lay_Fr L nop J.1
      have t1 := (stg_l Lm).2.2.1
      refine S_X6_clear_37 _ _ _ _ ?_; simp (disch := omega) only [B_X6_clear_37, bi_0, x_ic, x_lc, x_ld, x_st, x_sl, x_inc, x_b32, x_b64, x_d32, x_d64, x_s64, x_un, x_lcmp, x_dup, x_pop, x_dup2, x_if, x_cmp, x_sw, swk, x_ald, x_ast, x_alen, x_getf, x_putf, x_inv, x_mm, x_copy, x_iret, x_lret, x_vret, ok1, pu, ct, rcv, rcs, ent0, List.getElem?_cons_zero, List.getElem?_cons_succ, List.getElem?_nil, List.set_cons_zero, List.set_cons_succ, List.take_succ_cons, List.take_zero, List.drop_succ_cons, List.drop_zero, List.reverse_cons, List.reverse_nil, List.nil_append, List.cons_append, List.length_cons, List.length_nil, true_and, and_true, and_self, ne_eq, not_true_eq_false, not_false_eq_true, reduceIte, true_or, or_true, false_or, or_false, Nat.reduceAdd, Nat.reduceSub, Nat.reduceMul, Nat.reduceLeDiff, Nat.reduceEqDiff, Nat.reduceLT, Nat.le_refl, Nat.zero_le, Int.reduceToNat, Int.reduceAdd, Int.reduceSub, Int.reduceMul, Int.reduceNeg, Int.reduceLT, Int.reduceLE, Int.reduceEq, Nat.zero_add, Nat.add_zero, Nat.reduceBEq, Nat.one_ne_zero, Nat.zero_ne_one, Nat.lt_irrefl, Nat.succ_ne_zero, w32_id, ixc, ixc2, Int.toNat_natCast, ob_175, t1, ln_186]
      refine ⟨fun z => absurd z (by omega), fun _ => ?_⟩
      refine V_jx (pc := 48) (fun k => [(2, 176), (0, (f : Int)), (0, (k : Int))]) (fun k m => Fr (LD ++ LA) h m ∧ (∀ f' k, f' < 4 → k < 4 → m (177 + f') k = 0) ∧ (∀ i t, i < f → t ≤ 120 → m (187 + i) t = 0) ∧ ∀ t, t < k → m (187 + f) t = 0) 121 (fun k m hk J ih2 => ?_) (fun m J => ?_) m ⟨J.1, J.2.1, J.2.2, fun _ q => absurd q (by omega)⟩
      · have Lm := Lay_Fr L nop J.1
        have t1 := (stg_l Lm).2.2.1
        refine S_X6_clear_48 _ _ _ _ ?_; simp (disch := omega) only [B_X6_clear_48, bi_0, x_ic, x_lc, x_ld, x_st, x_sl, x_inc, x_b32, x_b64, x_d32, x_d64, x_s64, x_un, x_lcmp, x_dup, x_pop, x_dup2, x_if, x_cmp, x_sw, swk, x_ald, x_ast, x_alen, x_getf, x_putf, x_inv, x_mm, x_copy, x_iret, x_lret, x_vret, ok1, pu, ct, rcv, rcs, ent0, List.getElem?_cons_zero, List.getElem?_cons_succ, List.getElem?_nil, List.set_cons_zero, List.set_cons_succ, List.take_succ_cons, List.take_zero, List.drop_succ_cons, List.drop_zero, List.reverse_cons, List.reverse_nil, List.nil_append, List.cons_append, List.length_cons, List.length_nil, true_and, and_true, and_self, ne_eq, not_true_eq_false, not_false_eq_true, reduceIte, true_or, or_true, false_or, or_false, Nat.reduceAdd, Nat.reduceSub, Nat.reduceMul, Nat.reduceLeDiff, Nat.reduceEqDiff, Nat.reduceLT, Nat.le_refl, Nat.zero_le, Int.reduceToNat, Int.reduceAdd, Int.reduceSub, Int.reduceMul, Int.reduceNeg, Int.reduceLT, Int.reduceLE, Int.reduceEq, Nat.zero_add, Nat.add_zero, Nat.reduceBEq, Nat.one_ne_zero, Nat.zero_ne_one, Nat.lt_irrefl, Nat.succ_ne_zero, w32_id, ixc, ixc2, Int.toNat_natCast, ob_175, t1, ln_186, (stg_a Lm hf).1, (stg_a Lm hf).2]
        refine ⟨fun z => absurd z (by omega), fun _ => ⟨by omega, by omega, ?_⟩⟩
        refine ih2 _ ?_; refine ⟨Fr.up J.1 (List.mem_append_right _ (LA_in hf)), fun f' k' q1 q2 => by rw [up_ne (by omega)]; exact J.2.1 f' k' q1 q2, fun i t q1 q2 => by rw [up_ne (by omega)]; exact J.2.2.1 i t q1 q2, fun k' q => ?_⟩
        by_cases e : k' = k
        · subst e; rw [up_at]
        · rw [up_nj e]; exact J.2.2.2 k' (by omega)
      · refine S_X6_clear_48 _ _ _ _ ?_; simp (disch := omega) only [B_X6_clear_48, bi_0, x_ic, x_lc, x_ld, x_st, x_sl, x_inc, x_b32, x_b64, x_d32, x_d64, x_s64, x_un, x_lcmp, x_dup, x_pop, x_dup2, x_if, x_cmp, x_sw, swk, x_ald, x_ast, x_alen, x_getf, x_putf, x_inv, x_mm, x_copy, x_iret, x_lret, x_vret, ok1, pu, ct, rcv, rcs, ent0, List.getElem?_cons_zero, List.getElem?_cons_succ, List.getElem?_nil, List.set_cons_zero, List.set_cons_succ, List.take_succ_cons, List.take_zero, List.drop_succ_cons, List.drop_zero, List.reverse_cons, List.reverse_nil, List.nil_append, List.cons_append, List.length_cons, List.length_nil, true_and, and_true, and_self, ne_eq, not_true_eq_false, not_false_eq_true, reduceIte, true_or, or_true, false_or, or_false, Nat.reduceAdd, Nat.reduceSub, Nat.reduceMul, Nat.reduceLeDiff, Nat.reduceEqDiff, Nat.reduceLT, Nat.le_refl, Nat.zero_le, Int.reduceToNat, Int.reduceAdd, Int.reduceSub, Int.reduceMul, Int.reduceNeg, Int.reduceLT, Int.reduceLE, Int.reduceEq, Nat.zero_add, Nat.add_zero, Nat.reduceBEq, Nat.one_ne_zero, Nat.zero_ne_one, Nat.lt_irrefl, Nat.succ_ne_zero, w32_id, ixc, ixc2, Int.toNat_natCast]
        refine ⟨fun _ => ?_, fun z => absurd z (by omega)⟩
        refine S_X6_clear_69 _ _ _ _ ?_; simp (disch := omega) only [B_X6_clear_69, bi_0, x_ic, x_lc, x_ld, x_st, x_sl, x_inc, x_b32, x_b64, x_d32, x_d64, x_s64, x_un, x_lcmp, x_dup, x_pop, x_dup2, x_if, x_cmp, x_sw, swk, x_ald, x_ast, x_alen, x_getf, x_putf, x_inv, x_mm, x_copy, x_iret, x_lret, x_vret, ok1, pu, ct, rcv, rcs, ent0, List.getElem?_cons_zero, List.getElem?_cons_succ, List.getElem?_nil, List.set_cons_zero, List.set_cons_succ, List.take_succ_cons, List.take_zero, List.drop_succ_cons, List.drop_zero, List.reverse_cons, List.reverse_nil, List.nil_append, List.cons_append, List.length_cons, List.length_nil, true_and, and_true, and_self, ne_eq, not_true_eq_false, not_false_eq_true, reduceIte, true_or, or_true, false_or, or_false, Nat.reduceAdd, Nat.reduceSub, Nat.reduceMul, Nat.reduceLeDiff, Nat.reduceEqDiff, Nat.reduceLT, Nat.le_refl, Nat.zero_le, Int.reduceToNat, Int.reduceAdd, Int.reduceSub, Int.reduceMul, Int.reduceNeg, Int.reduceLT, Int.reduceLE, Int.reduceEq, Nat.zero_add, Nat.add_zero, Nat.reduceBEq, Nat.one_ne_zero, Nat.zero_ne_one, Nat.lt_irrefl, Nat.succ_ne_zero, w32_id, ixc, ixc2, Int.toNat_natCast]
        refine V_fg [2] ?_
        refine ih m ?_; refine ⟨J.1, J.2.1, fun i t q1 q2 => ?_⟩
        by_cases e : i = f
        · subst e; exact J.2.2.2 t (by omega)
        · exact J.2.2.1 i t (by omega) q2
    · have Lm := Lay_Fr L nop J.1
      have t1 := (stg_l Lm).2.2.1
      refine S_X6_clear_37 _ _ _ _ ?_; simp (disch := omega) only [B_X6_clear_37, bi_0, x_ic, x_lc, x_ld, x_st, x_sl, x_inc, x_b32, x_b64, x_d32, x_d64, x_s64, x_un, x_lcmp, x_dup, x_pop, x_dup2, x_if, x_cmp, x_sw, swk, x_ald, x_ast, x_alen, x_getf, x_putf, x_inv, x_mm, x_copy, x_iret, x_lret, x_vret, ok1, pu, ct, rcv, rcs, ent0, List.getElem?_cons_zero, List.getElem?_cons_succ, List.getElem?_nil, List.set_cons_zero, List.set_cons_succ, List.take_succ_cons, List.take_zero, List.drop_succ_cons, List.drop_zero, List.reverse_cons, List.reverse_nil, List.nil_append, List.cons_append, List.length_cons, List.length_nil, true_and, and_true, and_self, ne_eq, not_true_eq_false, not_false_eq_true, reduceIte, true_or, or_true, false_or, or_false, Nat.reduceAdd, Nat.reduceSub, Nat.reduceMul, Nat.reduceLeDiff, Nat.reduceEqDiff, Nat.reduceLT, Nat.le_refl, Nat.zero_le, Int.reduceToNat, Int.reduceAdd, Int.reduceSub, Int.reduceMul, Int.reduceNeg, Int.reduceLT, Int.reduceLE, Int.reduceEq, Nat.zero_add, Nat.add_zero, Nat.reduceBEq, Nat.one_ne_zero, Nat.zero_ne_one, Nat.lt_irrefl, Nat.succ_ne_zero, w32_id, ixc, ixc2, Int.toNat_natCast, ob_175, t1, ln_186]
      refine ⟨fun _ => ?_, fun z => absurd z (by omega)⟩
      refine S_X6_clear_75 _ _ _ _ ?_; simp (disch := omega) only [B_X6_clear_75, bi_0, x_ic, x_lc, x_ld, x_st, x_sl, x_inc, x_b32, x_b64, x_d32, x_d64, x_s64, x_un, x_lcmp, x_dup, x_pop, x_dup2, x_if, x_cmp, x_sw, swk, x_ald, x_ast, x_alen, x_getf, x_putf, x_inv, x_mm, x_copy, x_iret, x_lret, x_vret, ok1, pu, ct, rcv, rcs, ent0, List.getElem?_cons_zero, List.getElem?_cons_succ, List.getElem?_nil, List.set_cons_zero, List.set_cons_succ, List.take_succ_cons, List.take_zero, List.drop_succ_cons, List.drop_zero, List.reverse_cons, List.reverse_nil, List.nil_append, List.cons_append, List.length_cons, List.length_nil, true_and, and_true, and_self, ne_eq, not_true_eq_false, not_false_eq_true, reduceIte, true_or, or_true, false_or, or_false, Nat.reduceAdd, Nat.reduceSub, Nat.reduceMul, Nat.reduceLeDiff, Nat.reduceEqDiff, Nat.reduceLT, Nat.le_refl, Nat.zero_le, Int.reduceToNat, Int.reduceAdd, Int.reduceSub, Int.reduceMul, Int.reduceNeg, Int.reduceLT, Int.reduceLE, Int.reduceEq, Nat.zero_add, Nat.add_zero, Nat.reduceBEq, Nat.one_ne_zero, Nat.zero_ne_one, Nat.lt_irrefl, Nat.succ_ne_zero, w32_id, ixc, ixc2, Int.toNat_natCast]
      exact hQ _ _ _ ⟨rfl, rfl, J.1, J.2.1, fun i t q1 q2 => J.2.2 i t q1 q2⟩
def DnA (nt : Nat → Int) (f k n f' : Nat) : Prop := ovr nt n f' = true ∧ (f' < f ∨ (f' = f ∧ hop nt f' n < k))
theorem c_fillArriving (L : Lay h) (hnb : nb = 4 ∨ nb = 34) (hs : h 175 6 = (nb : Int) + 1) (R : RN h nb) (W : WN (h 220)) {D : Nat → Int} (hD : DB D) (Dl : DlR h D) (Z : ArZ h) : Cl l (d + 3) M_X6_fillArriving [(2, 176)] SHP h (fun r sh' h' => r = 0 ∧ sh' = SHP ∧ Fr LA h h' ∧ ArR h' D) := by
  have nop : noPs LA = true := by decide +kernel
  have nf := W.nf
  have nn := W.nn
  have w6 := W.wc.1
  have s1 := (net_sh hnb).1
  obtain ⟨nt, ent⟩ : ∃ nt, nt = h 220 := ⟨_, rfl⟩
  have kn : ∀ {m}, Fr LA h m → Lay m ∧ m 220 = h 220 ∧ m 175 = h 175 ∧ RN m nb ∧ (∀ f k, f < 4 → k < 4 → m (177 + f) k = D (4 * f + k)) := fun {m} F => ⟨Lay_Fr L nop F, F 220 (by decide), F 175 (by decide), R.frL W hnb F (by decide), fun f k q1 q2 => by rw [F _ (LA_no (by omega))]; exact Dl f k q1 q2⟩
  obtain ⟨JJ, hJ⟩ : ∃ JJ : Nat → Nat → Mem → Prop, JJ = fun f k m => Fr LA h m ∧ ∀ n f' t : Nat, n < 4 → f' < 4 → t ≤ 120 → m (187 + (4 * n + f')) t = iF (DnA (h 220) f k n f') (arv (h 220) D f' n t) (h (187 + (4 * n + f')) t) := ⟨_, rfl⟩
  refine Cl_hide (fun Q hQ => ?_)
  show V l (d + 3) 0 0 M_X6_fillArriving 0 0 0 Q [(2, 176), (9, 0), (9, 0), (9, 0), (9, 0)] [] SHP h
  refine S_X6_fillArriving_0 _ _ _ _ ?_; simp (disch := omega) only [B_X6_fillArriving_0, bi_0, x_ic, x_lc, x_ld, x_st, x_sl, x_inc, x_b32, x_b64, x_d32, x_d64, x_s64, x_un, x_lcmp, x_dup, x_pop, x_dup2, x_if, x_cmp, x_sw, swk, x_ald, x_ast, x_alen, x_getf, x_putf, x_inv, x_mm, x_copy, x_iret, x_lret, x_vret, ok1, pu, ct, rcv, rcs, ent0, List.getElem?_cons_zero, List.getElem?_cons_succ, List.getElem?_nil, List.set_cons_zero, List.set_cons_succ, List.take_succ_cons, List.take_zero, List.drop_succ_cons, List.drop_zero, List.reverse_cons, List.reverse_nil, List.nil_append, List.cons_append, List.length_cons, List.length_nil, true_and, and_true, and_self, ne_eq, not_true_eq_false, not_false_eq_true, reduceIte, true_or, or_true, false_or, or_false, Nat.reduceAdd, Nat.reduceSub, Nat.reduceMul, Nat.reduceLeDiff, Nat.reduceEqDiff, Nat.reduceLT, Nat.le_refl, Nat.zero_le, Int.reduceToNat, Int.reduceAdd, Int.reduceSub, Int.reduceMul, Int.reduceNeg, Int.reduceLT, Int.reduceLE, Int.reduceEq, Nat.zero_add, Nat.add_zero, Nat.reduceBEq, Nat.one_ne_zero, Nat.zero_ne_one, Nat.lt_irrefl, Nat.succ_ne_zero, w32_id, ixc, ixc2, Int.toNat_natCast]
  refine V_jx (pc := 2) (fun f => [(2, 176), (0, (f : Int)), (9, 0), (9, 0), (9, 0)]) (fun f m => JJ f 0 m) (h 220 2).toNat (fun f m hf J ih => ?_) (fun m J => ?_) h (by
    rw [hJ]
    refine ⟨Fr.rfl, fun n f' t q1 q2 q3 => ?_⟩
    rw [iF_f (fun q => by
      rcases q.2 with q' | q'
      · omega
      · have := q'.2
        have ho := q.1
        have := hop_some (nt := h 220) (f := f') (n := (n : Int)) (by unfold ovr at ho; simp only [Bool.and_eq_true, decide_eq_true_eq] at ho; exact ho.2)
        unfold ovr at ho
        simp only [Bool.and_eq_true, decide_eq_true_eq] at ho
        omega)])
  · have Jo := J
    rw [hJ] at J
    obtain ⟨Lm, e220, e175, Rm, Dm⟩ := kn J.1
    have e1 : m 175 6 = (nb : Int) + 1 := by rw [e175]; exact hs
    have e2 : m nb 13 = h 220 2 := by rw [Rm.2.1.2, e220]
    have hfi : (f : Int) < h 220 2 := by omega
    have hh := W.hpB f hfi
    have hsb := W.sb f hfi
    refine S_X6_fillArriving_2 _ _ _ _ ?_; simp (disch := omega) only [B_X6_fillArriving_2, bi_0, x_ic, x_lc, x_ld, x_st, x_sl, x_inc, x_b32, x_b64, x_d32, x_d64, x_s64, x_un, x_lcmp, x_dup, x_pop, x_dup2, x_if, x_cmp, x_sw, swk, x_ald, x_ast, x_alen, x_getf, x_putf, x_inv, x_mm, x_copy, x_iret, x_lret, x_vret, ok1, pu, ct, rcv, rcs, ent0, List.getElem?_cons_zero, List.getElem?_cons_succ, List.getElem?_nil, List.set_cons_zero, List.set_cons_succ, List.take_succ_cons, List.take_zero, List.drop_succ_cons, List.drop_zero, List.reverse_cons, List.reverse_nil, List.nil_append, List.cons_append, List.length_cons, List.length_nil, true_and, and_true, and_self, ne_eq, not_true_eq_false, not_false_eq_true, reduceIte, true_or, or_true, false_or, or_false, Nat.reduceAdd, Nat.reduceSub, Nat.reduceMul, Nat.reduceLeDiff, Nat.reduceEqDiff, Nat.reduceLT, Nat.le_refl, Nat.zero_le, Int.reduceToNat, Int.reduceAdd, Int.reduceSub, Int.reduceMul, Int.reduceNeg, Int.reduceLT, Int.reduceLE, Int.reduceEq, Nat.zero_add, Nat.add_zero, Nat.reduceBEq, Nat.one_ne_zero, Nat.zero_ne_one, Nat.lt_irrefl, Nat.succ_ne_zero, w32_id, ixc, ixc2, Int.toNat_natCast, ob_175, e1, s1, e2]
    refine ⟨fun z => absurd z (by omega), fun _ => ?_⟩
    refine V_jx (pc := 17) (fun k => [(2, 176), (0, (f : Int)), (0, ah D f k), (0, (k : Int)), (9, 0)]) (fun k m => JJ f k m) (hp (h 220) f).toNat (fun k m hk J ih2 => ?_) (fun m J => ?_) m Jo
    · rw [hJ] at J
      obtain ⟨Lm, e220, e175, Rm, Dm⟩ := kn J.1
      have Wm : WN (m 220) := by rw [e220]; exact W
      have e1 : m 175 6 = (nb : Int) + 1 := by rw [e175]; exact hs
      have hki : (k : Int) < hp (h 220) f := by omega
      have hnd := W.ndB f k hfi hki
      obtain ⟨n, en⟩ : ∃ n : Nat, nd (h 220) f k = (n : Int) := ⟨(nd (h 220) f k).toNat, by omega⟩
      obtain ⟨x1, x2, x3⟩ := Rm.2.2.2 f (by rw [e220]; exact hfi)
      have x3 := x3 k (by rw [e220]; exact hki)
      rw [e220] at x1 x2 x3
      rw [en] at x3
      obtain ⟨c, ec⟩ : ∃ c : Nat, sby (h 220) f = (c : Int) := ⟨(sby (h 220) f).toNat, by omega⟩
      rw [ec] at x1
      have hop1 := hop_eq W hfi hki
      rw [en] at hop1
      have ho := ovr_hop W hfi hki
      rw [en, Int.toNat_natCast] at ho
      have y0 := net_p Lm hnb
      have yc := net_c Lm hnb (show c < 6 by omega)
      have sl := (stg_l Lm).2.2.1
      have ix : ((n : Int) * 4 + (f : Int)).toNat = 4 * n + f := by omega
      have ab := ah_b hD (show f < 4 by omega) (show k ≤ 4 by omega)
      have db := hD (4 * f + k) (by omega)
      have hcm : (c : Int) < m 220 0 := by rw [e220]; omega
      have cf := c_fill (l := l) (d := d) (h := m) (a := nb + 18 + 2 * c) (b := 187 + (4 * n + f)) (nn := 121) yc.2 (Rm.1.cg Wm.wc hcm) (stg_a Lm (show 4 * n + f < 16 by omega)).2 (by decide) (by omega) (sft := ah D f k) ab.1 (by omega)
      have ev : (fun t : Nat => vA m (nb + 18 + 2 * c) ((t : Int) + ah D f k)) = fun t : Nat => arv (h 220) D f n t := funext fun t => by
        rw [Rm.1.va Wm.wc hcm (by omega), e220]; unfold arv; rw [hop1, ec, Int.toNat_natCast]
      rw [ev] at cf
      have hw : 187 + (4 * n + f) ∈ LA := LA_in (by omega)
      obtain ⟨Lr, g220, g175, Rr, Dr⟩ := kn (Fr.row (n := 121) (f := fun t : Nat => arv (h 220) D f n t) J.1 hw)
      have sl0 := (stg_l Lr).1
      have dd := Dr f k (by omega) (by omega)
      refine S_X6_fillArriving_17 _ _ _ _ ?_; simp (disch := omega) only [B_X6_fillArriving_17, bi_0, x_ic, x_lc, x_ld, x_st, x_sl, x_inc, x_b32, x_b64, x_d32, x_d64, x_s64, x_un, x_lcmp, x_dup, x_pop, x_dup2, x_if, x_cmp, x_sw, swk, x_ald, x_ast, x_alen, x_getf, x_putf, x_inv, x_mm, x_copy, x_iret, x_lret, x_vret, ok1, pu, ct, rcv, rcs, ent0, List.getElem?_cons_zero, List.getElem?_cons_succ, List.getElem?_nil, List.set_cons_zero, List.set_cons_succ, List.take_succ_cons, List.take_zero, List.drop_succ_cons, List.drop_zero, List.reverse_cons, List.reverse_nil, List.nil_append, List.cons_append, List.length_cons, List.length_nil, true_and, and_true, and_self, ne_eq, not_true_eq_false, not_false_eq_true, reduceIte, true_or, or_true, false_or, or_false, Nat.reduceAdd, Nat.reduceSub, Nat.reduceMul, Nat.reduceLeDiff, Nat.reduceEqDiff, Nat.reduceLT, Nat.le_refl, Nat.zero_le, Int.reduceToNat, Int.reduceAdd, Int.reduceSub, Int.reduceMul, Int.reduceNeg, Int.reduceLT, Int.reduceLE, Int.reduceEq, Nat.zero_add, Nat.add_zero, Nat.reduceBEq, Nat.one_ne_zero, Nat.zero_ne_one, Nat.lt_irrefl, Nat.succ_ne_zero, w32_id, ixc, ixc2, Int.toNat_natCast, ob_175, e1, s1, nf7 Lm hnb, nln8 hnb, x2, nf8 Lm hnb, nln9 hnb, (net_w Lm hnb (show f < 4 by omega)).1, (net_w Lm hnb (show f < 4 by omega)).2, x3, y0, (net_sh hnb).2, ixc2, nf6 Lm hnb, nln7 hnb, x1, yc.1, sl, ln_186, ix, (stg_a Lm (show 4 * n + f < 16 by omega)).1]
      (repeat' (first | assumption | (with_reducible refine And.intro ?_ ?_) | (refine im (fun hq => ?_); (try (exfalso; omega; done))) | (exact yc.2.1.1) | omega))
      refine Cl.app cf ?_
      (try simp (disch := omega) only [bi_0, x_ic, x_lc, x_ld, x_st, x_sl, x_inc, x_b32, x_b64, x_d32, x_d64, x_s64, x_un, x_lcmp, x_dup, x_pop, x_dup2, x_if, x_cmp, x_sw, swk, x_ald, x_ast, x_alen, x_getf, x_putf, x_inv, x_mm, x_copy, x_iret, x_lret, x_vret, ok1, pu, ct, rcv, rcs, ent0, List.getElem?_cons_zero, List.getElem?_cons_succ, List.getElem?_nil, List.set_cons_zero, List.set_cons_succ, List.take_succ_cons, List.take_zero, List.drop_succ_cons, List.drop_zero, List.reverse_cons, List.reverse_nil, List.nil_append, List.cons_append, List.length_cons, List.length_nil, true_and, and_true, and_self, ne_eq, not_true_eq_false, not_false_eq_true, reduceIte, true_or, or_true, false_or, or_false, Nat.reduceAdd, Nat.reduceSub, Nat.reduceMul, Nat.reduceLeDiff, Nat.reduceEqDiff, Nat.reduceLT, Nat.le_refl, Nat.zero_le, Int.reduceToNat, Int.reduceAdd, Int.reduceSub, Int.reduceMul, Int.reduceNeg, Int.reduceLT, Int.reduceLE, Int.reduceEq, Nat.zero_add, Nat.add_zero, Nat.reduceBEq, Nat.one_ne_zero, Nat.zero_ne_one, Nat.lt_irrefl, Nat.succ_ne_zero, w32_id, ixc, ixc2, Int.toNat_natCast, ob_175, sl0, ln_176, (stg_d Lr (show f < 4 by omega)).1, (stg_d Lr (show f < 4 by omega)).2, dd])
      refine ⟨by omega, by omega, ?_⟩
      refine V_fg [4] ?_
      refine ih2 _ ?_
      rw [hJ]
      refine ⟨Fr.row J.1 hw, fun n' f' t q1 q2 q3 => ?_⟩
      by_cases e : 187 + (4 * n' + f') = 187 + (4 * n + f)
      · have e1 : n' = n := by omega
        have e2 : f' = f := by omega
        subst e1; subst e2
        rw [row_at (by omega), iF_t ⟨ho, Or.inr ⟨rfl, by rw [hop1]; omega⟩⟩]
      · rw [row_ne e, J.2 n' f' t q1 q2 q3]
        have : DnA (h 220) f k n' f' ↔ DnA (h 220) f (k + 1) n' f' := ⟨fun q => ⟨q.1, q.2.imp id (fun q => ⟨q.1, by omega⟩)⟩, fun q => ⟨q.1, q.2.imp id (fun q2 => ⟨q2.1, by
          have h1 := q.1
          unfold ovr at h1; simp at h1
          by_cases e5 : hop (h 220) f' n' = (k : Int)
          · have h2 := (hop_some (nt := h 220) (f := f') (n := (n' : Int)) (by omega)).2
            rw [e5, Int.toNat_natCast, q2.1, en] at h2
            exact absurd (show 187 + (4 * n' + f') = 187 + (4 * n + f) by have := q2.1; omega) e
          · omega⟩)⟩⟩
        rw [propext this]
    · rw [hJ] at J
      obtain ⟨Lm, e220, e175, Rm, Dm⟩ := kn J.1
      have e1 : m 175 6 = (nb : Int) + 1 := by rw [e175]; exact hs
      obtain ⟨x1, x2, x3⟩ := Rm.2.2.2 f (by rw [e220]; exact hfi)
      rw [e220] at x2
      refine S_X6_fillArriving_17 _ _ _ _ ?_; simp (disch := omega) only [B_X6_fillArriving_17, bi_0, x_ic, x_lc, x_ld, x_st, x_sl, x_inc, x_b32, x_b64, x_d32, x_d64, x_s64, x_un, x_lcmp, x_dup, x_pop, x_dup2, x_if, x_cmp, x_sw, swk, x_ald, x_ast, x_alen, x_getf, x_putf, x_inv, x_mm, x_copy, x_iret, x_lret, x_vret, ok1, pu, ct, rcv, rcs, ent0, List.getElem?_cons_zero, List.getElem?_cons_succ, List.getElem?_nil, List.set_cons_zero, List.set_cons_succ, List.take_succ_cons, List.take_zero, List.drop_succ_cons, List.drop_zero, List.reverse_cons, List.reverse_nil, List.nil_append, List.cons_append, List.length_cons, List.length_nil, true_and, and_true, and_self, ne_eq, not_true_eq_false, not_false_eq_true, reduceIte, true_or, or_true, false_or, or_false, Nat.reduceAdd, Nat.reduceSub, Nat.reduceMul, Nat.reduceLeDiff, Nat.reduceEqDiff, Nat.reduceLT, Nat.le_refl, Nat.zero_le, Int.reduceToNat, Int.reduceAdd, Int.reduceSub, Int.reduceMul, Int.reduceNeg, Int.reduceLT, Int.reduceLE, Int.reduceEq, Nat.zero_add, Nat.add_zero, Nat.reduceBEq, Nat.one_ne_zero, Nat.zero_ne_one, Nat.lt_irrefl, Nat.succ_ne_zero, w32_id, ixc, ixc2, Int.toNat_natCast, ob_175, e1, s1, nf7 Lm hnb, nln8 hnb, x2]
      refine ⟨by omega, fun _ => ?_, fun z => absurd z (by omega)⟩
      refine S_X6_fillArriving_92 _ _ _ _ ?_; simp (disch := omega) only [B_X6_fillArriving_92, bi_0, x_ic, x_lc, x_ld, x_st, x_sl, x_inc, x_b32, x_b64, x_d32, x_d64, x_s64, x_un, x_lcmp, x_dup, x_pop, x_dup2, x_if, x_cmp, x_sw, swk, x_ald, x_ast, x_alen, x_getf, x_putf, x_inv, x_mm, x_copy, x_iret, x_lret, x_vret, ok1, pu, ct, rcv, rcs, ent0, List.getElem?_cons_zero, List.getElem?_cons_succ, List.getElem?_nil, List.set_cons_zero, List.set_cons_succ, List.take_succ_cons, List.take_zero, List.drop_succ_cons, List.drop_zero, List.reverse_cons, List.reverse_nil, List.nil_append, List.cons_append, List.length_cons, List.length_nil, true_and, and_true, and_self, ne_eq, not_true_eq_false, not_false_eq_true, reduceIte, true_or, or_true, false_or, or_false, Nat.reduceAdd, Nat.reduceSub, Nat.reduceMul, Nat.reduceLeDiff, Nat.reduceEqDiff, Nat.reduceLT, Nat.le_refl, Nat.zero_le, Int.reduceToNat, Int.reduceAdd, Int.reduceSub, Int.reduceMul, Int.reduceNeg, Int.reduceLT, Int.reduceLE, Int.reduceEq, Nat.zero_add, Nat.add_zero, Nat.reduceBEq, Nat.one_ne_zero, Nat.zero_ne_one, Nat.lt_irrefl, Nat.succ_ne_zero, w32_id, ixc, ixc2, Int.toNat_natCast]
      refine V_fg [2, 3] ?_
      refine ih m ?_
      rw [hJ]
      refine ⟨J.1, fun n' f' t q1 q2 q3 => ?_⟩
      rw [J.2 n' f' t q1 q2 q3]
      have : DnA (h 220) f (hp (h 220) f).toNat n' f' ↔ DnA (h 220) (f + 1) 0 n' f' := ⟨fun q => ⟨q.1, by rcases q.2 with q | q; exact Or.inl (by omega); exact Or.inl (by omega)⟩, fun q => ⟨q.1, by
        have h1 := q.1
        unfold ovr at h1; simp at h1
        have h2 := (hop_some (nt := h 220) (f := f') (n := (n' : Int)) h1.2).1
        rcases q.2 with q | q
        · by_cases e : f' = f
          · subst e; exact Or.inr ⟨rfl, by omega⟩
          · exact Or.inl (by omega)
        · omega⟩⟩
      rw [propext this]
  · rw [hJ] at J
    obtain ⟨Lm, e220, e175, Rm, Dm⟩ := kn J.1
    have e1 : m 175 6 = (nb : Int) + 1 := by rw [e175]; exact hs
    have e2 : m nb 13 = h 220 2 := by rw [Rm.2.1.2, e220]
    refine S_X6_fillArriving_2 _ _ _ _ ?_; simp (disch := omega) only [B_X6_fillArriving_2, bi_0, x_ic, x_lc, x_ld, x_st, x_sl, x_inc, x_b32, x_b64, x_d32, x_d64, x_s64, x_un, x_lcmp, x_dup, x_pop, x_dup2, x_if, x_cmp, x_sw, swk, x_ald, x_ast, x_alen, x_getf, x_putf, x_inv, x_mm, x_copy, x_iret, x_lret, x_vret, ok1, pu, ct, rcv, rcs, ent0, List.getElem?_cons_zero, List.getElem?_cons_succ, List.getElem?_nil, List.set_cons_zero, List.set_cons_succ, List.take_succ_cons, List.take_zero, List.drop_succ_cons, List.drop_zero, List.reverse_cons, List.reverse_nil, List.nil_append, List.cons_append, List.length_cons, List.length_nil, true_and, and_true, and_self, ne_eq, not_true_eq_false, not_false_eq_true, reduceIte, true_or, or_true, false_or, or_false, Nat.reduceAdd, Nat.reduceSub, Nat.reduceMul, Nat.reduceLeDiff, Nat.reduceEqDiff, Nat.reduceLT, Nat.le_refl, Nat.zero_le, Int.reduceToNat, Int.reduceAdd, Int.reduceSub, Int.reduceMul, Int.reduceNeg, Int.reduceLT, Int.reduceLE, Int.reduceEq, Nat.zero_add, Nat.add_zero, Nat.reduceBEq, Nat.one_ne_zero, Nat.zero_ne_one, Nat.lt_irrefl, Nat.succ_ne_zero, w32_id, ixc, ixc2, Int.toNat_natCast, ob_175, e1, s1, e2]
    refine ⟨fun _ => ?_, fun z => absurd z (by omega)⟩
    refine S_X6_fillArriving_98 _ _ _ _ ?_; simp (disch := omega) only [B_X6_fillArriving_98, bi_0, x_ic, x_lc, x_ld, x_st, x_sl, x_inc, x_b32, x_b64, x_d32, x_d64, x_s64, x_un, x_lcmp, x_dup, x_pop, x_dup2, x_if, x_cmp, x_sw, swk, x_ald, x_ast, x_alen, x_getf, x_putf, x_inv, x_mm, x_copy, x_iret, x_lret, x_vret, ok1, pu, ct, rcv, rcs, ent0, List.getElem?_cons_zero, List.getElem?_cons_succ, List.getElem?_nil, List.set_cons_zero, List.set_cons_succ, List.take_succ_cons, List.take_zero, List.drop_succ_cons, List.drop_zero, List.reverse_cons, List.reverse_nil, List.nil_append, List.cons_append, List.length_cons, List.length_nil, true_and, and_true, and_self, ne_eq, not_true_eq_false, not_false_eq_true, reduceIte, true_or, or_true, false_or, or_false, Nat.reduceAdd, Nat.reduceSub, Nat.reduceMul, Nat.reduceLeDiff, Nat.reduceEqDiff, Nat.reduceLT, Nat.le_refl, Nat.zero_le, Int.reduceToNat, Int.reduceAdd, Int.reduceSub, Int.reduceMul, Int.reduceNeg, Int.reduceLT, Int.reduceLE, Int.reduceEq, Nat.zero_add, Nat.add_zero, Nat.reduceBEq, Nat.one_ne_zero, Nat.zero_ne_one, Nat.lt_irrefl, Nat.succ_ne_zero, w32_id, ixc, ixc2, Int.toNat_natCast]
    refine hQ _ _ _ ⟨rfl, rfl, J.1, fun n' f' t q1 q2 q3 => ?_⟩
    rw [J.2 n' f' t q1 q2 q3, e220]
    by_cases e : ovr (h 220) n' f' = true
    · rw [if_pos e, iF_t ⟨e, Or.inl (by have := ovr_lt e; omega)⟩]
    · rw [if_neg e, iF_f (fun q => e q.1)]
      exact Z n' f' t q1 q2 q3 (by simpa using e)
theorem c_tellAnew (L : Lay h) (hnb : nb = 4 ∨ nb = 34) (hs : h 175 6 = (nb : Int) + 1) (R : RN h nb) (W : WN (h 220)) {D : Nat → Int} (hD : DB D) (A : ArR h D) {tn tc : Int} (hT : TrW (h 220) tn tc) (S : SvR h tn tc) : Cl l (d + 4) M_X6_tellAnew [(2, 176)] SHP h (fun r sh' h' => r = bI (¬ Bad (h 220) tn tc D) ∧ sh' = SHP ∧ Fr LN h h' ∧ (¬ Bad (h 220) tn tc D → ∀ f k, f < 4 → k < 4 → HopI (h 220) (4 * f + k) → h' (182 + f) k = dly (h 220) tn tc D (4 * f + k))) := by
  have nop : noPs LN = true := by decide +kernel
  have nf := W.nf
  have nn := W.nn
  have s1 := (net_sh hnb).1
  have kn : ∀ {m}, Fr LN h m → Lay m ∧ m 220 = h 220 ∧ m 175 = h 175 ∧ RN m nb ∧ ArR m D ∧ SvR m tn tc := fun {m} F => ⟨Lay_Fr L nop F, F 220 (by decide), F 175 (by decide), R.frL W hnb F (by decide), A.cong (F 220 (by decide)) (fun i hi => F _ (LN_no (by omega))), S.cong W (F 220 (by decide)) (fun i hi => F _ (LN_no (by omega)))⟩
  obtain ⟨JJ, hJ⟩ : ∃ JJ : Nat → Mem → Prop, JJ = fun b m => Fr LN h m ∧ ∀ f k, f < 4 → k < 4 → 4 * f + k < b → HopI (h 220) (4 * f + k) → m (182 + f) k = dly (h 220) tn tc D (4 * f + k) ∧ 0 ≤ dly (h 220) tn tc D (4 * f + k) := ⟨_, rfl⟩
  have jup : ∀ {b b' m}, JJ b m → (∀ i, b ≤ i → i < b' → ¬ HopI (h 220) i) → JJ b' m := fun {b b' m} J hb => by
    rw [hJ] at J ⊢
    refine ⟨J.1, fun f k q1 q2 q3 q4 => ?_⟩
    by_cases e : 4 * f + k < b
    · exact J.2 f k q1 q2 e q4
    · exact absurd q4 (hb _ (by omega) q3)
  obtain ⟨Q, hQ⟩ : ∃ Q : Int → Shp → Mem → Prop, Q = (fun r sh' h' => r = bI (¬ Bad (h 220) tn tc D) ∧ sh' = SHP ∧ Fr LN h h' ∧ (¬ Bad (h 220) tn tc D → ∀ f k, f < 4 → k < 4 → HopI (h 220) (4 * f + k) → h' (182 + f) k = dly (h 220) tn tc D (4 * f + k))) := ⟨_, rfl⟩
  rw [← hQ]
  show V l (d + 4) 0 0 M_X6_tellAnew 0 0 0 Q [(2, 176), (9, 0), (9, 0)] [] SHP h
  refine S_X6_tellAnew_0 _ _ _ _ ?_; simp (disch := omega) only [B_X6_tellAnew_0, bi_0, x_ic, x_lc, x_ld, x_st, x_sl, x_inc, x_b32, x_b64, x_d32, x_d64, x_s64, x_un, x_lcmp, x_dup, x_pop, x_dup2, x_if, x_cmp, x_sw, swk, x_ald, x_ast, x_alen, x_getf, x_putf, x_inv, x_mm, x_copy, x_iret, x_lret, x_vret, ok1, pu, ct, rcv, rcs, ent0, List.getElem?_cons_zero, List.getElem?_cons_succ, List.getElem?_nil, List.set_cons_zero, List.set_cons_succ, List.take_succ_cons, List.take_zero, List.drop_succ_cons, List.drop_zero, List.reverse_cons, List.reverse_nil, List.nil_append, List.cons_append, List.length_cons, List.length_nil, true_and, and_true, and_self, ne_eq, not_true_eq_false, not_false_eq_true, reduceIte, true_or, or_true, false_or, or_false, Nat.reduceAdd, Nat.reduceSub, Nat.reduceMul, Nat.reduceLeDiff, Nat.reduceEqDiff, Nat.reduceLT, Nat.le_refl, Nat.zero_le, Int.reduceToNat, Int.reduceAdd, Int.reduceSub, Int.reduceMul, Int.reduceNeg, Int.reduceLT, Int.reduceLE, Int.reduceEq, Nat.zero_add, Nat.add_zero, Nat.reduceBEq, Nat.one_ne_zero, Nat.zero_ne_one, Nat.lt_irrefl, Nat.succ_ne_zero, w32_id, ixc, ixc2, Int.toNat_natCast]
  refine V_jx (pc := 2) (fun f => [(2, 176), (0, (f : Int)), (9, 0)]) (fun f m => JJ (4 * f) m) (h 220 2).toNat (fun f m hf J ih => ?_) (fun m J => ?_) h (by rw [hJ]; exact ⟨Fr.rfl, fun _ _ _ _ q => absurd q (by omega)⟩)
  · have Jo := J
    rw [hJ] at J
    obtain ⟨Lm, e220, e175, Rm, Am, Sm⟩ := kn J.1
    have e1 : m 175 6 = (nb : Int) + 1 := by rw [e175]; exact hs
    have e2 : m nb 13 = h 220 2 := by rw [Rm.2.1.2, e220]
    have hfi : (f : Int) < h 220 2 := by omega
    have hh := W.hpB f hfi
    refine S_X6_tellAnew_2 _ _ _ _ ?_; simp (disch := omega) only [B_X6_tellAnew_2, bi_0, x_ic, x_lc, x_ld, x_st, x_sl, x_inc, x_b32, x_b64, x_d32, x_d64, x_s64, x_un, x_lcmp, x_dup, x_pop, x_dup2, x_if, x_cmp, x_sw, swk, x_ald, x_ast, x_alen, x_getf, x_putf, x_inv, x_mm, x_copy, x_iret, x_lret, x_vret, ok1, pu, ct, rcv, rcs, ent0, List.getElem?_cons_zero, List.getElem?_cons_succ, List.getElem?_nil, List.set_cons_zero, List.set_cons_succ, List.take_succ_cons, List.take_zero, List.drop_succ_cons, List.drop_zero, List.reverse_cons, List.reverse_nil, List.nil_append, List.cons_append, List.length_cons, List.length_nil, true_and, and_true, and_self, ne_eq, not_true_eq_false, not_false_eq_true, reduceIte, true_or, or_true, false_or, or_false, Nat.reduceAdd, Nat.reduceSub, Nat.reduceMul, Nat.reduceLeDiff, Nat.reduceEqDiff, Nat.reduceLT, Nat.le_refl, Nat.zero_le, Int.reduceToNat, Int.reduceAdd, Int.reduceSub, Int.reduceMul, Int.reduceNeg, Int.reduceLT, Int.reduceLE, Int.reduceEq, Nat.zero_add, Nat.add_zero, Nat.reduceBEq, Nat.one_ne_zero, Nat.zero_ne_one, Nat.lt_irrefl, Nat.succ_ne_zero, w32_id, ixc, ixc2, Int.toNat_natCast, ob_175, e1, s1, e2]
    refine ⟨fun z => absurd z (by omega), fun _ => ?_⟩
    refine V_jx (pc := 15) (fun k => [(2, 176), (0, (f : Int)), (0, (k : Int))]) (fun k m => JJ (4 * f + k) m) (hp (h 220) f).toNat (fun k m hk J ih2 => ?_) (fun m J => ?_) m Jo
    · rw [hJ] at J
      obtain ⟨Lm, e220, e175, Rm, Am, Sm⟩ := kn J.1
      have Wm : WN (m 220) := by rw [e220]; exact W
      have e1 : m 175 6 = (nb : Int) + 1 := by rw [e175]; exact hs
      have hki : (k : Int) < hp (h 220) f := by omega
      have hnd := W.ndB f k hfi hki
      obtain ⟨n, en⟩ : ∃ n : Nat, nd (h 220) f k = (n : Int) := ⟨(nd (h 220) f k).toNat, by omega⟩
      obtain ⟨x1, x2, x3⟩ := Rm.2.2.2 f (by rw [e220]; exact hfi)
      have x3 := x3 k (by rw [e220]; exact hki)
      rw [e220] at x2 x3
      rw [en] at x3
      have sl := (stg_l Lm).2.1
      have dr := dly_r (h 220) tn tc D (4 * f + k)
      have hH : HopI (h 220) (4 * f + k) := (hopI_at (by omega)).mpr ⟨hfi, hki⟩
      have cd := c_delayAt (l := l) (d := d) Lm hnb e1 Rm Wm hD Am (tn := tn) (tc := tc) (by rw [e220]; exact hT) Sm (f := f) (k := k) (n := n) (by rw [e220]; exact hfi) (by rw [e220]; exact hki) (by rw [e220]; exact en)
      rw [e220] at cd
      refine S_X6_tellAnew_15 _ _ _ _ ?_; simp (disch := omega) only [B_X6_tellAnew_15, bi_0, x_ic, x_lc, x_ld, x_st, x_sl, x_inc, x_b32, x_b64, x_d32, x_d64, x_s64, x_un, x_lcmp, x_dup, x_pop, x_dup2, x_if, x_cmp, x_sw, swk, x_ald, x_ast, x_alen, x_getf, x_putf, x_inv, x_mm, x_copy, x_iret, x_lret, x_vret, ok1, pu, ct, rcv, rcs, ent0, List.getElem?_cons_zero, List.getElem?_cons_succ, List.getElem?_nil, List.set_cons_zero, List.set_cons_succ, List.take_succ_cons, List.take_zero, List.drop_succ_cons, List.drop_zero, List.reverse_cons, List.reverse_nil, List.nil_append, List.cons_append, List.length_cons, List.length_nil, true_and, and_true, and_self, ne_eq, not_true_eq_false, not_false_eq_true, reduceIte, true_or, or_true, false_or, or_false, Nat.reduceAdd, Nat.reduceSub, Nat.reduceMul, Nat.reduceLeDiff, Nat.reduceEqDiff, Nat.reduceLT, Nat.le_refl, Nat.zero_le, Int.reduceToNat, Int.reduceAdd, Int.reduceSub, Int.reduceMul, Int.reduceNeg, Int.reduceLT, Int.reduceLE, Int.reduceEq, Nat.zero_add, Nat.add_zero, Nat.reduceBEq, Nat.one_ne_zero, Nat.zero_ne_one, Nat.lt_irrefl, Nat.succ_ne_zero, w32_id, ixc, ixc2, Int.toNat_natCast, ob_175, e1, s1, nf7 Lm hnb, nln8 hnb, x2, sl, ln_181, (stg_n Lm (show f < 4 by omega)).1, (stg_n Lm (show f < 4 by omega)).2, nf8 Lm hnb, nln9 hnb, (net_w Lm hnb (show f < 4 by omega)).1, (net_w Lm hnb (show f < 4 by omega)).2, x3]
      (repeat' (first | assumption | (with_reducible refine And.intro ?_ ?_) | (refine im (fun hq => ?_); (try (exfalso; omega; done))) | omega))
      refine Cl.imp cd (fun r sh' h' q => ?_)
      obtain ⟨rfl, rfl, q2⟩ := q
      have F2 : Fr LN h h' := J.1.trans (q2.wd (fun i hi => by simp at hi; rcases hi with rfl | rfl <;> decide))
      have F3 : Fr LN h (up h' (182 + f) k (dly (h 220) tn tc D (4 * f + k))) := Fr.up F2 (LN_in (by omega))
      obtain ⟨L3, g220, g175, R3, A3, S3⟩ := kn F3
      have sl3 := (stg_l L3).2.1
      (try simp (disch := omega) only [bi_0, x_ic, x_lc, x_ld, x_st, x_sl, x_inc, x_b32, x_b64, x_d32, x_d64, x_s64, x_un, x_lcmp, x_dup, x_pop, x_dup2, x_if, x_cmp, x_sw, swk, x_ald, x_ast, x_alen, x_getf, x_putf, x_inv, x_mm, x_copy, x_iret, x_lret, x_vret, ok1, pu, ct, rcv, rcs, ent0, List.getElem?_cons_zero, List.getElem?_cons_succ, List.getElem?_nil, List.set_cons_zero, List.set_cons_succ, List.take_succ_cons, List.take_zero, List.drop_succ_cons, List.drop_zero, List.reverse_cons, List.reverse_nil, List.nil_append, List.cons_append, List.length_cons, List.length_nil, true_and, and_true, and_self, ne_eq, not_true_eq_false, not_false_eq_true, reduceIte, true_or, or_true, false_or, or_false, Nat.reduceAdd, Nat.reduceSub, Nat.reduceMul, Nat.reduceLeDiff, Nat.reduceEqDiff, Nat.reduceLT, Nat.le_refl, Nat.zero_le, Int.reduceToNat, Int.reduceAdd, Int.reduceSub, Int.reduceMul, Int.reduceNeg, Int.reduceLT, Int.reduceLE, Int.reduceEq, Nat.zero_add, Nat.add_zero, Nat.reduceBEq, Nat.one_ne_zero, Nat.zero_ne_one, Nat.lt_irrefl, Nat.succ_ne_zero, w32_id, ixc, ixc2, Int.toNat_natCast, ob_175, (stg_n Lm (show f < 4 by omega)).2, sl3, ln_181, (stg_n L3 (show f < 4 by omega)).1, up_at])
      refine ⟨by omega, by omega, by omega, fun z => ?_, fun z => ?_⟩
      · have hbad : Bad (h 220) tn tc D := ⟨4 * f + k, by omega, hH, by omega⟩
        rw [hQ]
        exact ⟨by rw [bI_f (fun q => q hbad)], rfl, F3, fun q => absurd hbad q⟩
      · refine S_X6_tellAnew_66 _ _ _ _ ?_; simp (disch := omega) only [B_X6_tellAnew_66, bi_0, x_ic, x_lc, x_ld, x_st, x_sl, x_inc, x_b32, x_b64, x_d32, x_d64, x_s64, x_un, x_lcmp, x_dup, x_pop, x_dup2, x_if, x_cmp, x_sw, swk, x_ald, x_ast, x_alen, x_getf, x_putf, x_inv, x_mm, x_copy, x_iret, x_lret, x_vret, ok1, pu, ct, rcv, rcs, ent0, List.getElem?_cons_zero, List.getElem?_cons_succ, List.getElem?_nil, List.set_cons_zero, List.set_cons_succ, List.take_succ_cons, List.take_zero, List.drop_succ_cons, List.drop_zero, List.reverse_cons, List.reverse_nil, List.nil_append, List.cons_append, List.length_cons, List.length_nil, true_and, and_true, and_self, ne_eq, not_true_eq_false, not_false_eq_true, reduceIte, true_or, or_true, false_or, or_false, Nat.reduceAdd, Nat.reduceSub, Nat.reduceMul, Nat.reduceLeDiff, Nat.reduceEqDiff, Nat.reduceLT, Nat.le_refl, Nat.zero_le, Int.reduceToNat, Int.reduceAdd, Int.reduceSub, Int.reduceMul, Int.reduceNeg, Int.reduceLT, Int.reduceLE, Int.reduceEq, Nat.zero_add, Nat.add_zero, Nat.reduceBEq, Nat.one_ne_zero, Nat.zero_ne_one, Nat.lt_irrefl, Nat.succ_ne_zero, w32_id, ixc, ixc2, Int.toNat_natCast]
        refine ih2 _ ?_
        rw [hJ]
        refine ⟨F3, fun f' k' q1 q2' q3 q4 => ?_⟩
        by_cases e : 4 * f' + k' = 4 * f + k
        · have e1 : f' = f := by omega
          have e2 : k' = k := by omega
          subst e1; subst e2
          exact ⟨up_at, by omega⟩
        · have h1 := J.2 f' k' q1 q2' (by omega) q4
          refine ⟨?_, h1.2⟩
          rw [← h1.1]
          by_cases e5 : f' = f
          · subst e5; rw [up_nj (by omega), q2 _ (by simp; omega)]
          · rw [up_ne (by omega), q2 _ (by simp; omega)]
    · have Jo := J
      rw [hJ] at J
      obtain ⟨Lm, e220, e175, Rm, Am, Sm⟩ := kn J.1
      have e1 : m 175 6 = (nb : Int) + 1 := by rw [e175]; exact hs
      obtain ⟨x1, x2, x3⟩ := Rm.2.2.2 f (by rw [e220]; exact hfi)
      rw [e220] at x2
      refine S_X6_tellAnew_15 _ _ _ _ ?_; simp (disch := omega) only [B_X6_tellAnew_15, bi_0, x_ic, x_lc, x_ld, x_st, x_sl, x_inc, x_b32, x_b64, x_d32, x_d64, x_s64, x_un, x_lcmp, x_dup, x_pop, x_dup2, x_if, x_cmp, x_sw, swk, x_ald, x_ast, x_alen, x_getf, x_putf, x_inv, x_mm, x_copy, x_iret, x_lret, x_vret, ok1, pu, ct, rcv, rcs, ent0, List.getElem?_cons_zero, List.getElem?_cons_succ, List.getElem?_nil, List.set_cons_zero, List.set_cons_succ, List.take_succ_cons, List.take_zero, List.drop_succ_cons, List.drop_zero, List.reverse_cons, List.reverse_nil, List.nil_append, List.cons_append, List.length_cons, List.length_nil, true_and, and_true, and_self, ne_eq, not_true_eq_false, not_false_eq_true, reduceIte, true_or, or_true, false_or, or_false, Nat.reduceAdd, Nat.reduceSub, Nat.reduceMul, Nat.reduceLeDiff, Nat.reduceEqDiff, Nat.reduceLT, Nat.le_refl, Nat.zero_le, Int.reduceToNat, Int.reduceAdd, Int.reduceSub, Int.reduceMul, Int.reduceNeg, Int.reduceLT, Int.reduceLE, Int.reduceEq, Nat.zero_add, Nat.add_zero, Nat.reduceBEq, Nat.one_ne_zero, Nat.zero_ne_one, Nat.lt_irrefl, Nat.succ_ne_zero, w32_id, ixc, ixc2, Int.toNat_natCast, ob_175, e1, s1, nf7 Lm hnb, nln8 hnb, x2]
      refine ⟨by omega, fun _ => ?_, fun z => absurd z (by omega)⟩
      refine S_X6_tellAnew_72 _ _ _ _ ?_; simp (disch := omega) only [B_X6_tellAnew_72, bi_0, x_ic, x_lc, x_ld, x_st, x_sl, x_inc, x_b32, x_b64, x_d32, x_d64, x_s64, x_un, x_lcmp, x_dup, x_pop, x_dup2, x_if, x_cmp, x_sw, swk, x_ald, x_ast, x_alen, x_getf, x_putf, x_inv, x_mm, x_copy, x_iret, x_lret, x_vret, ok1, pu, ct, rcv, rcs, ent0, List.getElem?_cons_zero, List.getElem?_cons_succ, List.getElem?_nil, List.set_cons_zero, List.set_cons_succ, List.take_succ_cons, List.take_zero, List.drop_succ_cons, List.drop_zero, List.reverse_cons, List.reverse_nil, List.nil_append, List.cons_append, List.length_cons, List.length_nil, true_and, and_true, and_self, ne_eq, not_true_eq_false, not_false_eq_true, reduceIte, true_or, or_true, false_or, or_false, Nat.reduceAdd, Nat.reduceSub, Nat.reduceMul, Nat.reduceLeDiff, Nat.reduceEqDiff, Nat.reduceLT, Nat.le_refl, Nat.zero_le, Int.reduceToNat, Int.reduceAdd, Int.reduceSub, Int.reduceMul, Int.reduceNeg, Int.reduceLT, Int.reduceLE, Int.reduceEq, Nat.zero_add, Nat.add_zero, Nat.reduceBEq, Nat.one_ne_zero, Nat.zero_ne_one, Nat.lt_irrefl, Nat.succ_ne_zero, w32_id, ixc, ixc2, Int.toNat_natCast]
      refine V_fg [2] ?_
      refine ih m (jup Jo (fun i q1 q2 q3 => ?_))
      obtain ⟨k, rfl⟩ : ∃ k, i = 4 * f + k := ⟨i - 4 * f, by omega⟩
      have := (hopI_at (show k < 4 by omega)).mp q3
      omega
  · have J16 := jup (b' := 16) J (fun i q1 q2 q3 => by have := q3.1; omega)
    rw [hJ] at J J16
    obtain ⟨Lm, e220, e175, Rm, Am, Sm⟩ := kn J.1
    have e1 : m 175 6 = (nb : Int) + 1 := by rw [e175]; exact hs
    have e2 : m nb 13 = h 220 2 := by rw [Rm.2.1.2, e220]
    have nbad : ¬ Bad (h 220) tn tc D := fun ⟨i, q1, q2, q3⟩ => by
      have := (J16.2 (i / 4) (i % 4) (by omega) (by omega) (by omega) (by rw [show 4 * (i / 4) + i % 4 = i by omega]; exact q2)).2
      rw [show 4 * (i / 4) + i % 4 = i by omega] at this
      omega
    refine S_X6_tellAnew_2 _ _ _ _ ?_; simp (disch := omega) only [B_X6_tellAnew_2, bi_0, x_ic, x_lc, x_ld, x_st, x_sl, x_inc, x_b32, x_b64, x_d32, x_d64, x_s64, x_un, x_lcmp, x_dup, x_pop, x_dup2, x_if, x_cmp, x_sw, swk, x_ald, x_ast, x_alen, x_getf, x_putf, x_inv, x_mm, x_copy, x_iret, x_lret, x_vret, ok1, pu, ct, rcv, rcs, ent0, List.getElem?_cons_zero, List.getElem?_cons_succ, List.getElem?_nil, List.set_cons_zero, List.set_cons_succ, List.take_succ_cons, List.take_zero, List.drop_succ_cons, List.drop_zero, List.reverse_cons, List.reverse_nil, List.nil_append, List.cons_append, List.length_cons, List.length_nil, true_and, and_true, and_self, ne_eq, not_true_eq_false, not_false_eq_true, reduceIte, true_or, or_true, false_or, or_false, Nat.reduceAdd, Nat.reduceSub, Nat.reduceMul, Nat.reduceLeDiff, Nat.reduceEqDiff, Nat.reduceLT, Nat.le_refl, Nat.zero_le, Int.reduceToNat, Int.reduceAdd, Int.reduceSub, Int.reduceMul, Int.reduceNeg, Int.reduceLT, Int.reduceLE, Int.reduceEq, Nat.zero_add, Nat.add_zero, Nat.reduceBEq, Nat.one_ne_zero, Nat.zero_ne_one, Nat.lt_irrefl, Nat.succ_ne_zero, w32_id, ixc, ixc2, Int.toNat_natCast, ob_175, e1, s1, e2]
    refine ⟨fun _ => ?_, fun z => absurd z (by omega)⟩
    refine S_X6_tellAnew_78 _ _ _ _ ?_; simp (disch := omega) only [B_X6_tellAnew_78, bi_0, x_ic, x_lc, x_ld, x_st, x_sl, x_inc, x_b32, x_b64, x_d32, x_d64, x_s64, x_un, x_lcmp, x_dup, x_pop, x_dup2, x_if, x_cmp, x_sw, swk, x_ald, x_ast, x_alen, x_getf, x_putf, x_inv, x_mm, x_copy, x_iret, x_lret, x_vret, ok1, pu, ct, rcv, rcs, ent0, List.getElem?_cons_zero, List.getElem?_cons_succ, List.getElem?_nil, List.set_cons_zero, List.set_cons_succ, List.take_succ_cons, List.take_zero, List.drop_succ_cons, List.drop_zero, List.reverse_cons, List.reverse_nil, List.nil_append, List.cons_append, List.length_cons, List.length_nil, true_and, and_true, and_self, ne_eq, not_true_eq_false, not_false_eq_true, reduceIte, true_or, or_true, false_or, or_false, Nat.reduceAdd, Nat.reduceSub, Nat.reduceMul, Nat.reduceLeDiff, Nat.reduceEqDiff, Nat.reduceLT, Nat.le_refl, Nat.zero_le, Int.reduceToNat, Int.reduceAdd, Int.reduceSub, Int.reduceMul, Int.reduceNeg, Int.reduceLT, Int.reduceLE, Int.reduceEq, Nat.zero_add, Nat.add_zero, Nat.reduceBEq, Nat.one_ne_zero, Nat.zero_ne_one, Nat.lt_irrefl, Nat.succ_ne_zero, w32_id, ixc, ixc2, Int.toNat_natCast]
    rw [hQ]
    exact ⟨by rw [bI_t nbad], rfl, J.1, fun _ f k q1 q2 q3 => (J16.2 f k q1 q2 (by omega) q3).1⟩
theorem c_takeAnew (L : Lay h) (hnb : nb = 4 ∨ nb = 34) (hs : h 175 6 = (nb : Int) + 1) (R : RN h nb) (W : WN (h 220)) {D : Nat → Int} (Dl : DlR h D) {tn tc : Int} (hz : ∀ i, i < 16 → ¬ HopI (h 220) i → D i = 0) (hN : ∀ f k, f < 4 → k < 4 → HopI (h 220) (4 * f + k) → h (182 + f) k = dly (h 220) tn tc D (4 * f + k)) : Cl l (d + 1) M_X6_takeAnew [(2, 176)] SHP h (fun r sh' h' => r = bI (Chg (h 220) tn tc D 16) ∧ sh' = SHP ∧ Fr LD h h' ∧ DlR h' (nxD (h 220) tn tc D)) := by
  have nop : noPs LD = true := by decide +kernel
  have nf := W.nf
  have nn := W.nn
  have s1 := (net_sh hnb).1
  have kn : ∀ {m}, Fr LD h m → Lay m ∧ m 220 = h 220 ∧ m 175 = h 175 ∧ RN m nb ∧ (∀ f k, f < 4 → k < 4 → HopI (h 220) (4 * f + k) → m (182 + f) k = dly (h 220) tn tc D (4 * f + k)) := fun {m} F => ⟨Lay_Fr L nop F, F 220 (by decide), F 175 (by decide), R.frL W hnb F (by decide), fun f k q1 q2 q3 => by rw [F _ (LD_no (by omega))]; exact hN f k q1 q2 q3⟩
  obtain ⟨JJ, hJ⟩ : ∃ JJ : Nat → Mem → Prop, JJ = fun b m => Fr LD h m ∧ ∀ f k, f < 4 → k < 4 → m (177 + f) k = if 4 * f + k < b then nxD (h 220) tn tc D (4 * f + k) else D (4 * f + k) := ⟨_, rfl⟩
  have jup : ∀ {b b' m}, b ≤ b' → b' ≤ 16 → JJ b m → (∀ i, b ≤ i → i < b' → ¬ HopI (h 220) i) → JJ b' m := fun {b b' m} h1 h2 J hb => by
    rw [hJ] at J ⊢
    refine ⟨J.1, fun f k q1 q2 => ?_⟩
    rw [J.2 f k q1 q2]
    by_cases e : 4 * f + k < b
    · rw [if_pos e, if_pos (by omega)]
    · rw [if_neg e]
      by_cases e2 : 4 * f + k < b'
      · have := hb _ (by omega) e2
        rw [if_pos e2, hz _ (by omega) this]
        unfold nxD; rw [iF_f this]
      · rw [if_neg e2]
  obtain ⟨Q, hQ⟩ : ∃ Q : Int → Shp → Mem → Prop, Q = (fun r sh' h' => r = bI (Chg (h 220) tn tc D 16) ∧ sh' = SHP ∧ Fr LD h h' ∧ DlR h' (nxD (h 220) tn tc D)) := ⟨_, rfl⟩
  rw [← hQ]
  show V l (d + 1) 0 0 M_X6_takeAnew 0 0 0 Q [(2, 176), (9, 0), (9, 0), (9, 0)] [] SHP h
  refine S_X6_takeAnew_0 _ _ _ _ ?_; simp (disch := omega) only [B_X6_takeAnew_0, bi_0, x_ic, x_lc, x_ld, x_st, x_sl, x_inc, x_b32, x_b64, x_d32, x_d64, x_s64, x_un, x_lcmp, x_dup, x_pop, x_dup2, x_if, x_cmp, x_sw, swk, x_ald, x_ast, x_alen, x_getf, x_putf, x_inv, x_mm, x_copy, x_iret, x_lret, x_vret, ok1, pu, ct, rcv, rcs, ent0, List.getElem?_cons_zero, List.getElem?_cons_succ, List.getElem?_nil, List.set_cons_zero, List.set_cons_succ, List.take_succ_cons, List.take_zero, List.drop_succ_cons, List.drop_zero, List.reverse_cons, List.reverse_nil, List.nil_append, List.cons_append, List.length_cons, List.length_nil, true_and, and_true, and_self, ne_eq, not_true_eq_false, not_false_eq_true, reduceIte, true_or, or_true, false_or, or_false, Nat.reduceAdd, Nat.reduceSub, Nat.reduceMul, Nat.reduceLeDiff, Nat.reduceEqDiff, Nat.reduceLT, Nat.le_refl, Nat.zero_le, Int.reduceToNat, Int.reduceAdd, Int.reduceSub, Int.reduceMul, Int.reduceNeg, Int.reduceLT, Int.reduceLE, Int.reduceEq, Nat.zero_add, Nat.add_zero, Nat.reduceBEq, Nat.one_ne_zero, Nat.zero_ne_one, Nat.lt_irrefl, Nat.succ_ne_zero, w32_id, ixc, ixc2, Int.toNat_natCast]
  have key := V_jx (l := l) (d := d + 1) (K := 0) (N := 0) (y := M_X6_takeAnew) (k := 0) (n := 0) (pc := 4) (Q := Q) (fun f => [(2, 176), (0, bI (Chg (h 220) tn tc D (4 * f))), (0, (f : Int)), (9, 0)]) (fun f m => JJ (4 * f) m) (h 220 2).toNat (fun f m hf J ih => ?_) (fun m J => ?_) h (by rw [hJ]; exact ⟨Fr.rfl, fun f k q1 q2 => by rw [if_neg (by omega)]; exact Dl f k q1 q2⟩)
  · rw [show bI (Chg (h 220) tn tc D (4 * 0)) = 0 from bI_f (fun ⟨i, q, _⟩ => by omega)] at key
    exact key
  · have Jo := J
    rw [hJ] at J
    obtain ⟨Lm, e220, e175, Rm, Nm⟩ := kn J.1
    have e1 : m 175 6 = (nb : Int) + 1 := by rw [e175]; exact hs
    have e2 : m nb 13 = h 220 2 := by rw [Rm.2.1.2, e220]
    have hfi : (f : Int) < h 220 2 := by omega
    have hh := W.hpB f hfi
    refine S_X6_takeAnew_4 _ _ _ _ ?_; simp (disch := omega) only [B_X6_takeAnew_4, bi_0, x_ic, x_lc, x_ld, x_st, x_sl, x_inc, x_b32, x_b64, x_d32, x_d64, x_s64, x_un, x_lcmp, x_dup, x_pop, x_dup2, x_if, x_cmp, x_sw, swk, x_ald, x_ast, x_alen, x_getf, x_putf, x_inv, x_mm, x_copy, x_iret, x_lret, x_vret, ok1, pu, ct, rcv, rcs, ent0, List.getElem?_cons_zero, List.getElem?_cons_succ, List.getElem?_nil, List.set_cons_zero, List.set_cons_succ, List.take_succ_cons, List.take_zero, List.drop_succ_cons, List.drop_zero, List.reverse_cons, List.reverse_nil, List.nil_append, List.cons_append, List.length_cons, List.length_nil, true_and, and_true, and_self, ne_eq, not_true_eq_false, not_false_eq_true, reduceIte, true_or, or_true, false_or, or_false, Nat.reduceAdd, Nat.reduceSub, Nat.reduceMul, Nat.reduceLeDiff, Nat.reduceEqDiff, Nat.reduceLT, Nat.le_refl, Nat.zero_le, Int.reduceToNat, Int.reduceAdd, Int.reduceSub, Int.reduceMul, Int.reduceNeg, Int.reduceLT, Int.reduceLE, Int.reduceEq, Nat.zero_add, Nat.add_zero, Nat.reduceBEq, Nat.one_ne_zero, Nat.zero_ne_one, Nat.lt_irrefl, Nat.succ_ne_zero, w32_id, ixc, ixc2, Int.toNat_natCast, ob_175, e1, s1, e2]
    refine ⟨fun z => absurd z (by omega), fun _ => ?_⟩
    refine V_jx (pc := 17) (fun k => [(2, 176), (0, bI (Chg (h 220) tn tc D (4 * f + k))), (0, (f : Int)), (0, (k : Int))]) (fun k m => JJ (4 * f + k) m) (hp (h 220) f).toNat (fun k m hk J ih2 => ?_) (fun m J => ?_) m Jo
    · rw [hJ] at J
      obtain ⟨Lm, e220, e175, Rm, Nm⟩ := kn J.1
      have e1 : m 175 6 = (nb : Int) + 1 := by rw [e175]; exact hs
      have hki : (k : Int) < hp (h 220) f := by omega
      obtain ⟨x1, x2, x3⟩ := Rm.2.2.2 f (by rw [e220]; exact hfi)
      rw [e220] at x2
      have sl0 := (stg_l Lm).1
      have sl := (stg_l Lm).2.1
      have hH : HopI (h 220) (4 * f + k) := (hopI_at (by omega)).mpr ⟨hfi, hki⟩
      have dv := J.2 f k (by omega) (by omega)
      rw [if_neg (by omega)] at dv
      have av := Nm f k (by omega) (by omega) hH
      have eN : nxD (h 220) tn tc D (4 * f + k) = dly (h 220) tn tc D (4 * f + k) := by unfold nxD; rw [iF_t hH]
      have cu := Chg_1 (nt := h 220) (tn := tn) (tc := tc) (D := D) hH
      have bb := bI_b (p := Chg (h 220) tn tc D (4 * f + k))
      have J3 : JJ (4 * f + (k + 1)) (up m (177 + f) k (dly (h 220) tn tc D (4 * f + k))) := by
        rw [hJ]
        refine ⟨Fr.up J.1 (LD_in (by omega)), fun f' k' q1 q2 => ?_⟩
        by_cases e : 4 * f' + k' = 4 * f + k
        · have e1 : f' = f := by omega
          have e2 : k' = k := by omega
          subst e1; subst e2
          rw [up_at, if_pos (by omega), eN]
        · have h1 := J.2 f' k' q1 q2
          rw [show (if 4 * f' + k' < 4 * f + (k + 1) then nxD (h 220) tn tc D (4 * f' + k') else D (4 * f' + k')) = (if 4 * f' + k' < 4 * f + k then nxD (h 220) tn tc D (4 * f' + k') else D (4 * f' + k')) by
            by_cases e5 : 4 * f' + k' < 4 * f + k
            · rw [if_pos e5, if_pos (by omega)]
            · rw [if_neg e5, if_neg (by omega)], ← h1]
          by_cases e5 : f' = f
          · subst e5; rw [up_nj (by omega)]
          · rw [up_ne (by omega)]
      have ih3 := ih2 _ J3
      refine S_X6_takeAnew_17 _ _ _ _ ?_; simp (disch := omega) only [B_X6_takeAnew_17, bi_0, x_ic, x_lc, x_ld, x_st, x_sl, x_inc, x_b32, x_b64, x_d32, x_d64, x_s64, x_un, x_lcmp, x_dup, x_pop, x_dup2, x_if, x_cmp, x_sw, swk, x_ald, x_ast, x_alen, x_getf, x_putf, x_inv, x_mm, x_copy, x_iret, x_lret, x_vret, ok1, pu, ct, rcv, rcs, ent0, List.getElem?_cons_zero, List.getElem?_cons_succ, List.getElem?_nil, List.set_cons_zero, List.set_cons_succ, List.take_succ_cons, List.take_zero, List.drop_succ_cons, List.drop_zero, List.reverse_cons, List.reverse_nil, List.nil_append, List.cons_append, List.length_cons, List.length_nil, true_and, and_true, and_self, ne_eq, not_true_eq_false, not_false_eq_true, reduceIte, true_or, or_true, false_or, or_false, Nat.reduceAdd, Nat.reduceSub, Nat.reduceMul, Nat.reduceLeDiff, Nat.reduceEqDiff, Nat.reduceLT, Nat.le_refl, Nat.zero_le, Int.reduceToNat, Int.reduceAdd, Int.reduceSub, Int.reduceMul, Int.reduceNeg, Int.reduceLT, Int.reduceLE, Int.reduceEq, Nat.zero_add, Nat.add_zero, Nat.reduceBEq, Nat.one_ne_zero, Nat.zero_ne_one, Nat.lt_irrefl, Nat.succ_ne_zero, w32_id, ixc, ixc2, Int.toNat_natCast, ob_175, e1, s1, nf7 Lm hnb, nln8 hnb, x2, sl0, ln_176, (stg_d Lm (show f < 4 by omega)).1, (stg_d Lm (show f < 4 by omega)).2, dv, sl, ln_181, (stg_n Lm (show f < 4 by omega)).1, (stg_n Lm (show f < 4 by omega)).2, av]
      have k58 : ∀ v : Int, v = bI (Chg (h 220) tn tc D (4 * f + (k + 1))) → ∀ u : Int, V l (d + 1) 0 0 M_X6_takeAnew 0 0 58 Q [(2, 176), (0, u), (0, (f : Int)), (0, (k : Int))] [(0, v)] SHP m := by
        intro v hv u
        refine S_X6_takeAnew_58 _ _ _ _ ?_; simp (disch := omega) only [B_X6_takeAnew_58, bi_0, x_ic, x_lc, x_ld, x_st, x_sl, x_inc, x_b32, x_b64, x_d32, x_d64, x_s64, x_un, x_lcmp, x_dup, x_pop, x_dup2, x_if, x_cmp, x_sw, swk, x_ald, x_ast, x_alen, x_getf, x_putf, x_inv, x_mm, x_copy, x_iret, x_lret, x_vret, ok1, pu, ct, rcv, rcs, ent0, List.getElem?_cons_zero, List.getElem?_cons_succ, List.getElem?_nil, List.set_cons_zero, List.set_cons_succ, List.take_succ_cons, List.take_zero, List.drop_succ_cons, List.drop_zero, List.reverse_cons, List.reverse_nil, List.nil_append, List.cons_append, List.length_cons, List.length_nil, true_and, and_true, and_self, ne_eq, not_true_eq_false, not_false_eq_true, reduceIte, true_or, or_true, false_or, or_false, Nat.reduceAdd, Nat.reduceSub, Nat.reduceMul, Nat.reduceLeDiff, Nat.reduceEqDiff, Nat.reduceLT, Nat.le_refl, Nat.zero_le, Int.reduceToNat, Int.reduceAdd, Int.reduceSub, Int.reduceMul, Int.reduceNeg, Int.reduceLT, Int.reduceLE, Int.reduceEq, Nat.zero_add, Nat.add_zero, Nat.reduceBEq, Nat.one_ne_zero, Nat.zero_ne_one, Nat.lt_irrefl, Nat.succ_ne_zero, w32_id, ixc, ixc2, Int.toNat_natCast, ob_175, sl0, ln_176, (stg_d Lm (show f < 4 by omega)).1, (stg_d Lm (show f < 4 by omega)).2, sl, ln_181, (stg_n Lm (show f < 4 by omega)).1, (stg_n Lm (show f < 4 by omega)).2, av]
        refine ⟨by omega, by omega, by omega, by omega, ?_⟩
        rw [hv]
        exact ih3
      refine ⟨by omega, fun z => absurd z (by omega), fun _ => ⟨fun z0 => ⟨by omega, by omega, by omega, by omega, fun z => ?_, fun z => ?_⟩, fun z0 => ?_⟩⟩
      · refine S_X6_takeAnew_57 _ _ _ _ ?_; simp (disch := omega) only [B_X6_takeAnew_57, bi_0, x_ic, x_lc, x_ld, x_st, x_sl, x_inc, x_b32, x_b64, x_d32, x_d64, x_s64, x_un, x_lcmp, x_dup, x_pop, x_dup2, x_if, x_cmp, x_sw, swk, x_ald, x_ast, x_alen, x_getf, x_putf, x_inv, x_mm, x_copy, x_iret, x_lret, x_vret, ok1, pu, ct, rcv, rcs, ent0, List.getElem?_cons_zero, List.getElem?_cons_succ, List.getElem?_nil, List.set_cons_zero, List.set_cons_succ, List.take_succ_cons, List.take_zero, List.drop_succ_cons, List.drop_zero, List.reverse_cons, List.reverse_nil, List.nil_append, List.cons_append, List.length_cons, List.length_nil, true_and, and_true, and_self, ne_eq, not_true_eq_false, not_false_eq_true, reduceIte, true_or, or_true, false_or, or_false, Nat.reduceAdd, Nat.reduceSub, Nat.reduceMul, Nat.reduceLeDiff, Nat.reduceEqDiff, Nat.reduceLT, Nat.le_refl, Nat.zero_le, Int.reduceToNat, Int.reduceAdd, Int.reduceSub, Int.reduceMul, Int.reduceNeg, Int.reduceLT, Int.reduceLE, Int.reduceEq, Nat.zero_add, Nat.add_zero, Nat.reduceBEq, Nat.one_ne_zero, Nat.zero_ne_one, Nat.lt_irrefl, Nat.succ_ne_zero, w32_id, ixc, ixc2, Int.toNat_natCast]
        rw [bI_0] at z0
        exact k58 0 (by rw [bI_f (fun q => by rcases cu.mp q with q | q; exact z0 q; exact q z.symm)]) _
      · refine S_X6_takeAnew_53 _ _ _ _ ?_; simp (disch := omega) only [B_X6_takeAnew_53, bi_0, x_ic, x_lc, x_ld, x_st, x_sl, x_inc, x_b32, x_b64, x_d32, x_d64, x_s64, x_un, x_lcmp, x_dup, x_pop, x_dup2, x_if, x_cmp, x_sw, swk, x_ald, x_ast, x_alen, x_getf, x_putf, x_inv, x_mm, x_copy, x_iret, x_lret, x_vret, ok1, pu, ct, rcv, rcs, ent0, List.getElem?_cons_zero, List.getElem?_cons_succ, List.getElem?_nil, List.set_cons_zero, List.set_cons_succ, List.take_succ_cons, List.take_zero, List.drop_succ_cons, List.drop_zero, List.reverse_cons, List.reverse_nil, List.nil_append, List.cons_append, List.length_cons, List.length_nil, true_and, and_true, and_self, ne_eq, not_true_eq_false, not_false_eq_true, reduceIte, true_or, or_true, false_or, or_false, Nat.reduceAdd, Nat.reduceSub, Nat.reduceMul, Nat.reduceLeDiff, Nat.reduceEqDiff, Nat.reduceLT, Nat.le_refl, Nat.zero_le, Int.reduceToNat, Int.reduceAdd, Int.reduceSub, Int.reduceMul, Int.reduceNeg, Int.reduceLT, Int.reduceLE, Int.reduceEq, Nat.zero_add, Nat.add_zero, Nat.reduceBEq, Nat.one_ne_zero, Nat.zero_ne_one, Nat.lt_irrefl, Nat.succ_ne_zero, w32_id, ixc, ixc2, Int.toNat_natCast]
        exact k58 1 (bI_t (cu.mpr (Or.inr (fun q => z q.symm)))).symm _
      · refine S_X6_takeAnew_53 _ _ _ _ ?_; simp (disch := omega) only [B_X6_takeAnew_53, bi_0, x_ic, x_lc, x_ld, x_st, x_sl, x_inc, x_b32, x_b64, x_d32, x_d64, x_s64, x_un, x_lcmp, x_dup, x_pop, x_dup2, x_if, x_cmp, x_sw, swk, x_ald, x_ast, x_alen, x_getf, x_putf, x_inv, x_mm, x_copy, x_iret, x_lret, x_vret, ok1, pu, ct, rcv, rcs, ent0, List.getElem?_cons_zero, List.getElem?_cons_succ, List.getElem?_nil, List.set_cons_zero, List.set_cons_succ, List.take_succ_cons, List.take_zero, List.drop_succ_cons, List.drop_zero, List.reverse_cons, List.reverse_nil, List.nil_append, List.cons_append, List.length_cons, List.length_nil, true_and, and_true, and_self, ne_eq, not_true_eq_false, not_false_eq_true, reduceIte, true_or, or_true, false_or, or_false, Nat.reduceAdd, Nat.reduceSub, Nat.reduceMul, Nat.reduceLeDiff, Nat.reduceEqDiff, Nat.reduceLT, Nat.le_refl, Nat.zero_le, Int.reduceToNat, Int.reduceAdd, Int.reduceSub, Int.reduceMul, Int.reduceNeg, Int.reduceLT, Int.reduceLE, Int.reduceEq, Nat.zero_add, Nat.add_zero, Nat.reduceBEq, Nat.one_ne_zero, Nat.zero_ne_one, Nat.lt_irrefl, Nat.succ_ne_zero, w32_id, ixc, ixc2, Int.toNat_natCast]
        rw [bI_0] at z0
        exact k58 1 (bI_t (cu.mpr (Or.inl (Classical.not_not.mp z0)))).symm _
    · have Jo := J
      rw [hJ] at J
      obtain ⟨Lm, e220, e175, Rm, Nm⟩ := kn J.1
      have e1 : m 175 6 = (nb : Int) + 1 := by rw [e175]; exact hs
      obtain ⟨x1, x2, x3⟩ := Rm.2.2.2 f (by rw [e220]; exact hfi)
      rw [e220] at x2
      have no : ∀ i, 4 * f + (hp (h 220) f).toNat ≤ i → i < 4 * (f + 1) → ¬ HopI (h 220) i := fun i q1 q2 q3 => by
        obtain ⟨k, rfl⟩ : ∃ k, i = 4 * f + k := ⟨i - 4 * f, by omega⟩
        have := (hopI_at (show k < 4 by omega)).mp q3
        omega
      have ih := ih m (jup (by omega) (by omega) Jo no)
      rw [← bI_iff (Chg_up (nt := h 220) (tn := tn) (tc := tc) (D := D) (show 4 * f + (hp (h 220) f).toNat ≤ 4 * (f + 1) by omega) no)] at ih
      refine S_X6_takeAnew_17 _ _ _ _ ?_; simp (disch := omega) only [B_X6_takeAnew_17, bi_0, x_ic, x_lc, x_ld, x_st, x_sl, x_inc, x_b32, x_b64, x_d32, x_d64, x_s64, x_un, x_lcmp, x_dup, x_pop, x_dup2, x_if, x_cmp, x_sw, swk, x_ald, x_ast, x_alen, x_getf, x_putf, x_inv, x_mm, x_copy, x_iret, x_lret, x_vret, ok1, pu, ct, rcv, rcs, ent0, List.getElem?_cons_zero, List.getElem?_cons_succ, List.getElem?_nil, List.set_cons_zero, List.set_cons_succ, List.take_succ_cons, List.take_zero, List.drop_succ_cons, List.drop_zero, List.reverse_cons, List.reverse_nil, List.nil_append, List.cons_append, List.length_cons, List.length_nil, true_and, and_true, and_self, ne_eq, not_true_eq_false, not_false_eq_true, reduceIte, true_or, or_true, false_or, or_false, Nat.reduceAdd, Nat.reduceSub, Nat.reduceMul, Nat.reduceLeDiff, Nat.reduceEqDiff, Nat.reduceLT, Nat.le_refl, Nat.zero_le, Int.reduceToNat, Int.reduceAdd, Int.reduceSub, Int.reduceMul, Int.reduceNeg, Int.reduceLT, Int.reduceLE, Int.reduceEq, Nat.zero_add, Nat.add_zero, Nat.reduceBEq, Nat.one_ne_zero, Nat.zero_ne_one, Nat.lt_irrefl, Nat.succ_ne_zero, w32_id, ixc, ixc2, Int.toNat_natCast, ob_175, e1, s1, nf7 Lm hnb, nln8 hnb, x2]
      refine ⟨by omega, fun _ => ?_, fun z => absurd z (by omega)⟩
      refine S_X6_takeAnew_81 _ _ _ _ ?_; simp (disch := omega) only [B_X6_takeAnew_81, bi_0, x_ic, x_lc, x_ld, x_st, x_sl, x_inc, x_b32, x_b64, x_d32, x_d64, x_s64, x_un, x_lcmp, x_dup, x_pop, x_dup2, x_if, x_cmp, x_sw, swk, x_ald, x_ast, x_alen, x_getf, x_putf, x_inv, x_mm, x_copy, x_iret, x_lret, x_vret, ok1, pu, ct, rcv, rcs, ent0, List.getElem?_cons_zero, List.getElem?_cons_succ, List.getElem?_nil, List.set_cons_zero, List.set_cons_succ, List.take_succ_cons, List.take_zero, List.drop_succ_cons, List.drop_zero, List.reverse_cons, List.reverse_nil, List.nil_append, List.cons_append, List.length_cons, List.length_nil, true_and, and_true, and_self, ne_eq, not_true_eq_false, not_false_eq_true, reduceIte, true_or, or_true, false_or, or_false, Nat.reduceAdd, Nat.reduceSub, Nat.reduceMul, Nat.reduceLeDiff, Nat.reduceEqDiff, Nat.reduceLT, Nat.le_refl, Nat.zero_le, Int.reduceToNat, Int.reduceAdd, Int.reduceSub, Int.reduceMul, Int.reduceNeg, Int.reduceLT, Int.reduceLE, Int.reduceEq, Nat.zero_add, Nat.add_zero, Nat.reduceBEq, Nat.one_ne_zero, Nat.zero_ne_one, Nat.lt_irrefl, Nat.succ_ne_zero, w32_id, ixc, ixc2, Int.toNat_natCast]
      exact V_fg [3] ih
  · have no : ∀ i, 4 * (h 220 2).toNat ≤ i → i < 16 → ¬ HopI (h 220) i := fun i q1 q2 q3 => by
      have := q3.1
      omega
    have J16 := jup (b' := 16) (by omega) (by omega) J no
    rw [hJ] at J J16
    obtain ⟨Lm, e220, e175, Rm, Nm⟩ := kn J.1
    have e1 : m 175 6 = (nb : Int) + 1 := by rw [e175]; exact hs
    have e2 : m nb 13 = h 220 2 := by rw [Rm.2.1.2, e220]
    have bb := bI_b (p := Chg (h 220) tn tc D (4 * (h 220 2).toNat))
    refine S_X6_takeAnew_4 _ _ _ _ ?_; simp (disch := omega) only [B_X6_takeAnew_4, bi_0, x_ic, x_lc, x_ld, x_st, x_sl, x_inc, x_b32, x_b64, x_d32, x_d64, x_s64, x_un, x_lcmp, x_dup, x_pop, x_dup2, x_if, x_cmp, x_sw, swk, x_ald, x_ast, x_alen, x_getf, x_putf, x_inv, x_mm, x_copy, x_iret, x_lret, x_vret, ok1, pu, ct, rcv, rcs, ent0, List.getElem?_cons_zero, List.getElem?_cons_succ, List.getElem?_nil, List.set_cons_zero, List.set_cons_succ, List.take_succ_cons, List.take_zero, List.drop_succ_cons, List.drop_zero, List.reverse_cons, List.reverse_nil, List.nil_append, List.cons_append, List.length_cons, List.length_nil, true_and, and_true, and_self, ne_eq, not_true_eq_false, not_false_eq_true, reduceIte, true_or, or_true, false_or, or_false, Nat.reduceAdd, Nat.reduceSub, Nat.reduceMul, Nat.reduceLeDiff, Nat.reduceEqDiff, Nat.reduceLT, Nat.le_refl, Nat.zero_le, Int.reduceToNat, Int.reduceAdd, Int.reduceSub, Int.reduceMul, Int.reduceNeg, Int.reduceLT, Int.reduceLE, Int.reduceEq, Nat.zero_add, Nat.add_zero, Nat.reduceBEq, Nat.one_ne_zero, Nat.zero_ne_one, Nat.lt_irrefl, Nat.succ_ne_zero, w32_id, ixc, ixc2, Int.toNat_natCast, ob_175, e1, s1, e2]
    refine ⟨fun _ => ?_, fun z => absurd z (by omega)⟩
    refine S_X6_takeAnew_87 _ _ _ _ ?_; simp (disch := omega) only [B_X6_takeAnew_87, bi_0, x_ic, x_lc, x_ld, x_st, x_sl, x_inc, x_b32, x_b64, x_d32, x_d64, x_s64, x_un, x_lcmp, x_dup, x_pop, x_dup2, x_if, x_cmp, x_sw, swk, x_ald, x_ast, x_alen, x_getf, x_putf, x_inv, x_mm, x_copy, x_iret, x_lret, x_vret, ok1, pu, ct, rcv, rcs, ent0, List.getElem?_cons_zero, List.getElem?_cons_succ, List.getElem?_nil, List.set_cons_zero, List.set_cons_succ, List.take_succ_cons, List.take_zero, List.drop_succ_cons, List.drop_zero, List.reverse_cons, List.reverse_nil, List.nil_append, List.cons_append, List.length_cons, List.length_nil, true_and, and_true, and_self, ne_eq, not_true_eq_false, not_false_eq_true, reduceIte, true_or, or_true, false_or, or_false, Nat.reduceAdd, Nat.reduceSub, Nat.reduceMul, Nat.reduceLeDiff, Nat.reduceEqDiff, Nat.reduceLT, Nat.le_refl, Nat.zero_le, Int.reduceToNat, Int.reduceAdd, Int.reduceSub, Int.reduceMul, Int.reduceNeg, Int.reduceLT, Int.reduceLE, Int.reduceEq, Nat.zero_add, Nat.add_zero, Nat.reduceBEq, Nat.one_ne_zero, Nat.zero_ne_one, Nat.lt_irrefl, Nat.succ_ne_zero, w32_id, ixc, ixc2, Int.toNat_natCast]
    rw [hQ]
    refine ⟨bb, bI_iff (Chg_up (by omega) no), rfl, J.1, fun f k q1 q2 => ?_⟩
    rw [J16.2 f k q1 q2, if_pos (by omega)]
end CR

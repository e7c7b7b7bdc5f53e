/-! the reference's constructor -/
def IniM (h : Mem) : Prop := Lay h ∧ (∀ i, i ≠ 214 → i ≠ 220 → i ≠ 223 → i ≠ 226 → i ≠ 227 → h i = MK 301 i) ∧ (∀ j, j ≠ 19 → h 214 j = MK 301 214 j) ∧ (∀ j, j < 110 → h 220 j = if j = 3 then -1 else 0) ∧ h 223 0 = 0 ∧ RS (h 226) 0 rsT ∧ h 226 382 = 0 ∧ h 227 0 = 0 ∧ h 227 1 = 0
theorem Lay_301 : Lay (MK 301) := fun q hq => by
  have hn : LAYL.all (fun q => decide (MK 301 q.1 q.2.1 = q.2.2)) = true := by decide +kernel
  exact of_decide_eq_true (List.all_eq_true.mp hn q hq)
theorem ob_t : ob (SHP.take 237) 11 215 := by rw [ob_tk (by decide)]; exact ob_214
theorem l20_t : ln (SHP.take 237) 0 221 = 220 := by rw [ln_tk (by decide) (by decide)]; exact ln_220
theorem l26_t : ln (SHP.take 237) 0 227 = 1628 := by rw [ln_tk (by decide) (by decide)]; exact ln_226
theorem l23_t : ln (SHP.take 237) 0 224 = 170 := by rw [ln_tk (by decide) (by decide)]; exact ln_223
theorem l27_t : ln (SHP.take 237) 2 228 = 2 := by rw [ln_tk (by decide) (by decide)]; exact ln_227
theorem ic_215 : ((215 : Nat) : Int) = 215 := rfl
theorem ic_216 : ((216 : Nat) : Int) = 216 := rfl
theorem ic_217 : ((217 : Nat) : Int) = 217 := rfl
theorem ic_218 : ((218 : Nat) : Int) = 218 := rfl
theorem ic_219 : ((219 : Nat) : Int) = 219 := rfl
theorem ic_220 : ((220 : Nat) : Int) = 220 := rfl
theorem ic_221 : ((221 : Nat) : Int) = 221 := rfl
theorem ic_222 : ((222 : Nat) : Int) = 222 := rfl
theorem ic_223 : ((223 : Nat) : Int) = 223 := rfl
theorem ic_224 : ((224 : Nat) : Int) = 224 := rfl
theorem ic_225 : ((225 : Nat) : Int) = 225 := rfl
theorem ic_226 : ((226 : Nat) : Int) = 226 := rfl
theorem ic_227 : ((227 : Nat) : Int) = 227 := rfl
theorem ic_228 : ((228 : Nat) : Int) = 228 := rfl
theorem ic_229 : ((229 : Nat) : Int) = 229 := rfl
theorem ic_230 : ((230 : Nat) : Int) = 230 := rfl
theorem ic_231 : ((231 : Nat) : Int) = 231 := rfl
theorem ic_232 : ((232 : Nat) : Int) = 232 := rfl
theorem ic_233 : ((233 : Nat) : Int) = 233 := rfl
theorem ic_234 : ((234 : Nat) : Int) = 234 := rfl
theorem ic_235 : ((235 : Nat) : Int) = 235 := rfl
theorem ic_236 : ((236 : Nat) : Int) = 236 := rfl
theorem ic_1002 : ((1002 : Nat) : Int) = 1002 := rfl
theorem ic_1628 : ((1628 : Nat) : Int) = 1628 := rfl
theorem ic_2200 : ((2200 : Nat) : Int) = 2200 := rfl
theorem t_215 : SHP.take 215 ++ [(0, 1000)] = SHP.take 216 := tk_s (by decide +kernel)
theorem t_216 : SHP.take 216 ++ [(0, 1002)] = SHP.take 217 := tk_s (by decide +kernel)
theorem t_217 : SHP.take 217 ++ [(0, 1002)] = SHP.take 218 := tk_s (by decide +kernel)
theorem t_218 : SHP.take 218 ++ [(1, 1002)] = SHP.take 219 := tk_s (by decide +kernel)
theorem t_219 : SHP.take 219 ++ [(1, 23)] = SHP.take 220 := tk_s (by decide +kernel)
theorem t_220 : SHP.take 220 ++ [(0, 220)] = SHP.take 221 := tk_s (by decide +kernel)
theorem t_221 : SHP.take 221 ++ [(0, 2200)] = SHP.take 222 := tk_s (by decide +kernel)
theorem t_222 : SHP.take 222 ++ [(1, 28)] = SHP.take 223 := tk_s (by decide +kernel)
theorem t_223 : SHP.take 223 ++ [(0, 170)] = SHP.take 224 := tk_s (by decide +kernel)
theorem t_224 : SHP.take 224 ++ [(0, 4)] = SHP.take 225 := tk_s (by decide +kernel)
theorem t_225 : SHP.take 225 ++ [(0, 64)] = SHP.take 226 := tk_s (by decide +kernel)
theorem t_226 : SHP.take 226 ++ [(0, 1628)] = SHP.take 227 := tk_s (by decide +kernel)
theorem t_227 : SHP.take 227 ++ [(2, 2)] = SHP.take 228 := tk_s (by decide +kernel)
theorem t_228 : SHP.take 228 ++ [(0, 61)] = SHP.take 229 := tk_s (by decide +kernel)
theorem t_229 : SHP.take 229 ++ [(0, 121)] = SHP.take 230 := tk_s (by decide +kernel)
theorem t_230 : SHP.take 230 ++ [(0, 121)] = SHP.take 231 := tk_s (by decide +kernel)
theorem t_231 : SHP.take 231 ++ [(0, 121)] = SHP.take 232 := tk_s (by decide +kernel)
theorem t_232 : SHP.take 232 ++ [(0, 16)] = SHP.take 233 := tk_s (by decide +kernel)
theorem t_233 : SHP.take 233 ++ [(0, 16)] = SHP.take 234 := tk_s (by decide +kernel)
theorem t_234 : SHP.take 234 ++ [(0, 40)] = SHP.take 235 := tk_s (by decide +kernel)
theorem t_235 : SHP.take 235 ++ [(2, 40)] = SHP.take 236 := tk_s (by decide +kernel)
theorem t_236 : SHP.take 236 ++ [(0, 120)] = SHP.take 237 := tk_s (by decide +kernel)
theorem ck_256_215 : clr (MK 256) 215 = MK 256 := clk (by decide +kernel)
theorem ck_257_216 : clr (MK 257) 216 = MK 257 := clk (by decide +kernel)
theorem ck_258_217 : clr (MK 258) 217 = MK 258 := clk (by decide +kernel)
theorem ck_259_218 : clr (MK 259) 218 = MK 259 := clk (by decide +kernel)
theorem ck_260_219 : clr (MK 260) 219 = MK 260 := clk (by decide +kernel)
theorem ck_284_220 : clr (MK 284) 220 = MK 284 := clk (by decide +kernel)
theorem ck_285_221 : clr (MK 285) 221 = MK 285 := clk (by decide +kernel)
theorem ck_286_222 : clr (MK 286) 222 = MK 286 := clk (by decide +kernel)
theorem ck_287_223 : clr (MK 287) 223 = MK 287 := clk (by decide +kernel)
theorem ck_288_224 : clr (MK 288) 224 = MK 288 := clk (by decide +kernel)
theorem ck_289_225 : clr (MK 289) 225 = MK 289 := clk (by decide +kernel)
theorem ck_290_226 : clr (MK 290) 226 = MK 290 := clk (by decide +kernel)
theorem ck_291_227 : clr (MK 291) 227 = MK 291 := clk (by decide +kernel)
theorem ck_292_228 : clr (MK 292) 228 = MK 292 := clk (by decide +kernel)
theorem ck_293_229 : clr (MK 293) 229 = MK 293 := clk (by decide +kernel)
theorem ck_294_230 : clr (MK 294) 230 = MK 294 := clk (by decide +kernel)
theorem ck_295_231 : clr (MK 295) 231 = MK 295 := clk (by decide +kernel)
theorem ck_296_232 : clr (MK 296) 232 = MK 296 := clk (by decide +kernel)
theorem ck_297_233 : clr (MK 297) 233 = MK 297 := clk (by decide +kernel)
theorem ck_298_234 : clr (MK 298) 234 = MK 298 := clk (by decide +kernel)
theorem ck_299_235 : clr (MK 299) 235 = MK 299 := clk (by decide +kernel)
theorem ck_300_236 : clr (MK 300) 236 = MK 300 := clk (by decide +kernel)
theorem i_X11_init {l : Launch} {d : Nat} {Q : Int → Shp → Mem → Prop} (hQ : ∀ h, IniM h → Q 0 (SHP.take 237) h) : V l (d + 3) 22 9001 M_X11_init 0 0 0 Q [(2, 215)] [] (SHP.take 215) (MK 256) := by
  refine S_X11_init_0 (by omega) (by omega) _ _ _ _ ?_; simp (disch := omega) only [B_X11_init_0, bi_0, x_ic, x_lc, x_ld, x_st, x_sl, x_inc, x_b32, x_b64, x_d32, x_d64, x_s64, x_un, x_lcmp, x_dup, x_pop, x_dup2, x_if, x_cmp, x_sw, swk, x_ald, x_ast, x_alen, x_getf, x_putf, x_inv, x_mm, x_copy, x_iret, x_lret, x_vret, ok1, pu, ct, rcv, rcs, ent0, List.getElem?_cons_zero, List.getElem?_cons_succ, List.getElem?_nil, List.set_cons_zero, List.set_cons_succ, List.take_succ_cons, List.take_zero, List.drop_succ_cons, List.drop_zero, List.reverse_cons, List.reverse_nil, List.nil_append, List.cons_append, List.length_cons, List.length_nil, true_and, and_true, and_self, ne_eq, not_true_eq_false, not_false_eq_true, reduceIte, true_or, or_true, false_or, or_false, Nat.reduceAdd, Nat.reduceSub, Nat.reduceMul, Nat.reduceLeDiff, Nat.reduceEqDiff, Nat.reduceLT, Nat.le_refl, Nat.zero_le, Int.reduceToNat, Int.reduceAdd, Int.reduceSub, Int.reduceMul, Int.reduceNeg, Int.reduceLT, Int.reduceLE, Int.reduceEq, Nat.zero_add, Nat.add_zero, Nat.reduceBEq, Nat.one_ne_zero, Nat.zero_ne_one, Nat.lt_irrefl, Nat.succ_ne_zero, w32_id, ixc, ixc2, Int.toNat_natCast, x_obj, x_new, x_newa, x_mna, x_aast, rcI, len_tk, ob_tk, ln_tk, t_215, ck_256_215, ic_215, ic_1000, uk_256, ob_214, t_216, ck_257_216, ic_216, ic_1002, uk_257, t_217, ck_258_217, ic_217, uk_258, t_218, ck_259_218, ic_218, uk_259, t_219, ck_260_219, ic_219, ic_23, uk_260, ln_219, uk_261, uk_262, uk_263, uk_264, uk_265, uk_266, uk_267]
  refine S_X11_init_95 (by omega) (by omega) _ _ _ _ ?_; simp (disch := omega) only [B_X11_init_95, bi_0, x_ic, x_lc, x_ld, x_st, x_sl, x_inc, x_b32, x_b64, x_d32, x_d64, x_s64, x_un, x_lcmp, x_dup, x_pop, x_dup2, x_if, x_cmp, x_sw, swk, x_ald, x_ast, x_alen, x_getf, x_putf, x_inv, x_mm, x_copy, x_iret, x_lret, x_vret, ok1, pu, ct, rcv, rcs, ent0, List.getElem?_cons_zero, List.getElem?_cons_succ, List.getElem?_nil, List.set_cons_zero, List.set_cons_succ, List.take_succ_cons, List.take_zero, List.drop_succ_cons, List.drop_zero, List.reverse_cons, List.reverse_nil, List.nil_append, List.cons_append, List.length_cons, List.length_nil, true_and, and_true, and_self, ne_eq, not_true_eq_false, not_false_eq_true, reduceIte, true_or, or_true, false_or, or_false, Nat.reduceAdd, Nat.reduceSub, Nat.reduceMul, Nat.reduceLeDiff, Nat.reduceEqDiff, Nat.reduceLT, Nat.le_refl, Nat.zero_le, Int.reduceToNat, Int.reduceAdd, Int.reduceSub, Int.reduceMul, Int.reduceNeg, Int.reduceLT, Int.reduceLE, Int.reduceEq, Nat.zero_add, Nat.add_zero, Nat.reduceBEq, Nat.one_ne_zero, Nat.zero_ne_one, Nat.lt_irrefl, Nat.succ_ne_zero, w32_id, ixc, ixc2, Int.toNat_natCast, x_obj, x_new, x_newa, x_mna, x_aast, rcI, len_tk, ob_tk, ln_tk, uk_268, ln_219, uk_269, uk_270, uk_271, uk_272, uk_273, uk_274, uk_275]
  refine S_X11_init_151 (by omega) (by omega) _ _ _ _ ?_; simp (disch := omega) only [B_X11_init_151, bi_0, x_ic, x_lc, x_ld, x_st, x_sl, x_inc, x_b32, x_b64, x_d32, x_d64, x_s64, x_un, x_lcmp, x_dup, x_pop, x_dup2, x_if, x_cmp, x_sw, swk, x_ald, x_ast, x_alen, x_getf, x_putf, x_inv, x_mm, x_copy, x_iret, x_lret, x_vret, ok1, pu, ct, rcv, rcs, ent0, List.getElem?_cons_zero, List.getElem?_cons_succ, List.getElem?_nil, List.set_cons_zero, List.set_cons_succ, List.take_succ_cons, List.take_zero, List.drop_succ_cons, List.drop_zero, List.reverse_cons, List.reverse_nil, List.nil_append, List.cons_append, List.length_cons, List.length_nil, true_and, and_true, and_self, ne_eq, not_true_eq_false, not_false_eq_true, reduceIte, true_or, or_true, false_or, or_false, Nat.reduceAdd, Nat.reduceSub, Nat.reduceMul, Nat.reduceLeDiff, Nat.reduceEqDiff, Nat.reduceLT, Nat.le_refl, Nat.zero_le, Int.reduceToNat, Int.reduceAdd, Int.reduceSub, Int.reduceMul, Int.reduceNeg, Int.reduceLT, Int.reduceLE, Int.reduceEq, Nat.zero_add, Nat.add_zero, Nat.reduceBEq, Nat.one_ne_zero, Nat.zero_ne_one, Nat.lt_irrefl, Nat.succ_ne_zero, w32_id, ixc, ixc2, Int.toNat_natCast, x_obj, x_new, x_newa, x_mna, x_aast, rcI, len_tk, ob_tk, ln_tk, uk_276, ln_219, uk_277, uk_278, uk_279, uk_280, uk_281, uk_282, uk_283, ob_214, t_220, ck_284_220, ic_220, uk_284]
  refine S_X11_init_212 (by omega) (by omega) _ _ _ _ ?_; simp (disch := omega) only [B_X11_init_212, bi_0, x_ic, x_lc, x_ld, x_st, x_sl, x_inc, x_b32, x_b64, x_d32, x_d64, x_s64, x_un, x_lcmp, x_dup, x_pop, x_dup2, x_if, x_cmp, x_sw, swk, x_ald, x_ast, x_alen, x_getf, x_putf, x_inv, x_mm, x_copy, x_iret, x_lret, x_vret, ok1, pu, ct, rcv, rcs, ent0, List.getElem?_cons_zero, List.getElem?_cons_succ, List.getElem?_nil, List.set_cons_zero, List.set_cons_succ, List.take_succ_cons, List.take_zero, List.drop_succ_cons, List.drop_zero, List.reverse_cons, List.reverse_nil, List.nil_append, List.cons_append, List.length_cons, List.length_nil, true_and, and_true, and_self, ne_eq, not_true_eq_false, not_false_eq_true, reduceIte, true_or, or_true, false_or, or_false, Nat.reduceAdd, Nat.reduceSub, Nat.reduceMul, Nat.reduceLeDiff, Nat.reduceEqDiff, Nat.reduceLT, Nat.le_refl, Nat.zero_le, Int.reduceToNat, Int.reduceAdd, Int.reduceSub, Int.reduceMul, Int.reduceNeg, Int.reduceLT, Int.reduceLE, Int.reduceEq, Nat.zero_add, Nat.add_zero, Nat.reduceBEq, Nat.one_ne_zero, Nat.zero_ne_one, Nat.lt_irrefl, Nat.succ_ne_zero, w32_id, ixc, ixc2, Int.toNat_natCast, x_obj, x_new, x_newa, x_mna, x_aast, rcI, len_tk, ob_tk, ln_tk, t_221, ck_285_221, ic_221, ic_2200, uk_285, ob_214, t_222, ck_286_222, ic_222, ic_28, uk_286, t_223, ck_287_223, ic_223, ic_170, uk_287, t_224, ck_288_224, ic_224, ic_4, uk_288, t_225, ck_289_225, ic_225, ic_64, uk_289, t_226, ck_290_226, ic_226, ic_1628, uk_290, t_227, ck_291_227, ic_227, ic_2, uk_291, t_228, ck_292_228, ic_228, ic_61, uk_292]
  refine S_X11_init_277 (by omega) (by omega) _ _ _ _ ?_; simp (disch := omega) only [B_X11_init_277, bi_0, x_ic, x_lc, x_ld, x_st, x_sl, x_inc, x_b32, x_b64, x_d32, x_d64, x_s64, x_un, x_lcmp, x_dup, x_pop, x_dup2, x_if, x_cmp, x_sw, swk, x_ald, x_ast, x_alen, x_getf, x_putf, x_inv, x_mm, x_copy, x_iret, x_lret, x_vret, ok1, pu, ct, rcv, rcs, ent0, List.getElem?_cons_zero, List.getElem?_cons_succ, List.getElem?_nil, List.set_cons_zero, List.set_cons_succ, List.take_succ_cons, List.take_zero, List.drop_succ_cons, List.drop_zero, List.reverse_cons, List.reverse_nil, List.nil_append, List.cons_append, List.length_cons, List.length_nil, true_and, and_true, and_self, ne_eq, not_true_eq_false, not_false_eq_true, reduceIte, true_or, or_true, false_or, or_false, Nat.reduceAdd, Nat.reduceSub, Nat.reduceMul, Nat.reduceLeDiff, Nat.reduceEqDiff, Nat.reduceLT, Nat.le_refl, Nat.zero_le, Int.reduceToNat, Int.reduceAdd, Int.reduceSub, Int.reduceMul, Int.reduceNeg, Int.reduceLT, Int.reduceLE, Int.reduceEq, Nat.zero_add, Nat.add_zero, Nat.reduceBEq, Nat.one_ne_zero, Nat.zero_ne_one, Nat.lt_irrefl, Nat.succ_ne_zero, w32_id, ixc, ixc2, Int.toNat_natCast, x_obj, x_new, x_newa, x_mna, x_aast, rcI, len_tk, ob_tk, ln_tk, t_229, ck_293_229, ic_229, ic_121, uk_293, ob_214, t_230, ck_294_230, ic_230, uk_294, t_231, ck_295_231, ic_231, uk_295, t_232, ck_296_232, ic_232, ic_16, uk_296, t_233, ck_297_233, ic_233, uk_297, t_234, ck_298_234, ic_234, ic_40, uk_298, t_235, ck_299_235, ic_235, uk_299, t_236, ck_300_236, ic_236, ic_120, uk_300]
  refine Cl.imp (q_stands (l := l) (d := d + 1) (a := 0) ob_t l20_t l26_t l23_t l27_t Lay_301 (by decide)) (fun r sh' h1 q => ?_)
  obtain ⟨rfl, rfl, G0, _, G2⟩ := q
  have L1 : Lay h1 := Lay_c (c := 220) (by decide +kernel) Lay_301 G0
  (try simp (disch := omega) only [bi_0, x_ic, x_lc, x_ld, x_st, x_sl, x_inc, x_b32, x_b64, x_d32, x_d64, x_s64, x_un, x_lcmp, x_dup, x_pop, x_dup2, x_if, x_cmp, x_sw, swk, x_ald, x_ast, x_alen, x_getf, x_putf, x_inv, x_mm, x_copy, x_iret, x_lret, x_vret, ok1, pu, ct, rcv, rcs, ent0, List.getElem?_cons_zero, List.getElem?_cons_succ, List.getElem?_nil, List.set_cons_zero, List.set_cons_succ, List.take_succ_cons, List.take_zero, List.drop_succ_cons, List.drop_zero, List.reverse_cons, List.reverse_nil, List.nil_append, List.cons_append, List.length_cons, List.length_nil, true_and, and_true, and_self, ne_eq, not_true_eq_false, not_false_eq_true, reduceIte, true_or, or_true, false_or, or_false, Nat.reduceAdd, Nat.reduceSub, Nat.reduceMul, Nat.reduceLeDiff, Nat.reduceEqDiff, Nat.reduceLT, Nat.le_refl, Nat.zero_le, Int.reduceToNat, Int.reduceAdd, Int.reduceSub, Int.reduceMul, Int.reduceNeg, Int.reduceLT, Int.reduceLE, Int.reduceEq, Nat.zero_add, Nat.add_zero, Nat.reduceBEq, Nat.one_ne_zero, Nat.zero_ne_one, Nat.lt_irrefl, Nat.succ_ne_zero, w32_id, ixc, ixc2, Int.toNat_natCast, ob_t])
  refine Cl.imp (q_begins (l := l) (d := d) ob_t l20_t l26_t l23_t l27_t L1) (fun r sh' h2 q => ?_)
  obtain ⟨rfl, rfl, B0, B1, B2, B3, B4, B5, B6, B7, B8, B9⟩ := q
  (try simp (disch := omega) only [bi_0, x_ic, x_lc, x_ld, x_st, x_sl, x_inc, x_b32, x_b64, x_d32, x_d64, x_s64, x_un, x_lcmp, x_dup, x_pop, x_dup2, x_if, x_cmp, x_sw, swk, x_ald, x_ast, x_alen, x_getf, x_putf, x_inv, x_mm, x_copy, x_iret, x_lret, x_vret, ok1, pu, ct, rcv, rcs, ent0, List.getElem?_cons_zero, List.getElem?_cons_succ, List.getElem?_nil, List.set_cons_zero, List.set_cons_succ, List.take_succ_cons, List.take_zero, List.drop_succ_cons, List.drop_zero, List.reverse_cons, List.reverse_nil, List.nil_append, List.cons_append, List.length_cons, List.length_nil, true_and, and_true, and_self, ne_eq, not_true_eq_false, not_false_eq_true, reduceIte, true_or, or_true, false_or, or_false, Nat.reduceAdd, Nat.reduceSub, Nat.reduceMul, Nat.reduceLeDiff, Nat.reduceEqDiff, Nat.reduceLT, Nat.le_refl, Nat.zero_le, Int.reduceToNat, Int.reduceAdd, Int.reduceSub, Int.reduceMul, Int.reduceNeg, Int.reduceLT, Int.reduceLE, Int.reduceEq, Nat.zero_add, Nat.add_zero, Nat.reduceBEq, Nat.one_ne_zero, Nat.zero_ne_one, Nat.lt_irrefl, Nat.succ_ne_zero, w32_id, ixc, ixc2, Int.toNat_natCast])
  refine hQ h2 ⟨?_, fun i p1 p2 p3 p4 p5 => by rw [B0 i p1 p3 p4 p5, G0 i p2], fun j hj => by rw [B1 j hj, G0 214 (by decide)], fun j hj => by rw [B0 220 (by decide) (by decide) (by decide) (by decide)]; have := G2 j hj; rw [Nat.zero_add] at this; exact this, B5, B6, B7, B8, B9⟩
  refine Lay_fr L1 (fun q hq => ?_)
  have hn : LAYL.all (fun q => if q.1 = 214 then !(q.2.1 == 19) else !(q.1 == 223) && !(q.1 == 226) && !(q.1 == 227)) = true := by decide +kernel
  have h1' := List.all_eq_true.mp hn q hq
  by_cases e : q.1 = 214
  · rw [if_pos e] at h1'
    rw [e, B1 _ (by simpa using h1')]
  · rw [if_neg e] at h1'
    simp at h1'
    rw [B0 q.1 e h1'.1.1 h1'.1.2 h1'.2]

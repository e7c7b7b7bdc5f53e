/-! the reference: a tick -/
def SCg : List Nat := [0, 19, 20, 28, 30]
def Fw (b : Nat) (h h' : Mem) : Prop := (∀ i, i ∉ 214 :: 226 :: SCc → h' i = h i) ∧ (∀ j, j ∉ SCg → h' 214 j = h 214 j) ∧ ∀ j, j < b ∨ b + 382 ≤ j → h' 226 j = h 226 j
theorem Fw.rfl {b : Nat} {h : Mem} : Fw b h h := ⟨fun _ _ => Eq.refl _, fun _ _ => Eq.refl _, fun _ _ => Eq.refl _⟩
theorem Fw.trans {b : Nat} {h h1 h2 : Mem} (a : Fw b h h1) (c : Fw b h1 h2) : Fw b h h2 := ⟨fun i q => (c.1 i q).trans (a.1 i q), fun j q => (c.2.1 j q).trans (a.2.1 j q), fun j q => (c.2.2 j q).trans (a.2.2 j q)⟩
theorem Fw.lay {b : Nat} {h h' : Mem} (f : Fw b h h') (L : Lay h) : Lay h' := by
  refine Lay_fr L (fun q hq => ?_)
  have hn : LAYL.all (fun q => if q.1 = 214 then !(SCg.contains q.2.1) else !((226 :: SCc).contains q.1)) = true := by decide +kernel
  have h1 := List.all_eq_true.mp hn q hq
  by_cases e : q.1 = 214
  · rw [if_pos e] at h1
    rw [e]; exact f.2.1 _ (by simpa using h1)
  · rw [if_neg e] at h1
    rw [f.1 q.1 (by simp at h1 ⊢; exact ⟨e, h1⟩)]
theorem Fw.n220 {b : Nat} {h h' : Mem} (f : Fw b h h') : h' 220 = h 220 := f.1 220 (by decide)
theorem Fw.ofFm {b : Nat} {h h' : Mem} (f : Fm h h') (e : h' 214 32 = h 214 32) : Fw b h h' := ⟨fun i q => f.1 i (fun z => q (by
  rcases List.mem_cons.mp z with e | e
  · rw [e]; exact List.mem_cons_self
  · exact List.mem_cons_of_mem _ (List.mem_cons_of_mem _ e))), fun j hj => by
  by_cases e3 : j = 32
  · rw [e3]; exact e
  · exact f.2 j (fun z => hj (by simp [SCf] at z; simp [SCg]; omega)), fun j _ => by rw [f.1 226 (by decide)]⟩
theorem Fw.up {b : Nat} {h : Mem} {j : Nat} {v : Int} (hj : b ≤ j ∧ j < b + 382) : Fw b h (up h 226 j v) := ⟨fun i q => up_ne (fun e => q (by rw [e]; decide)), fun q _ => by rw [up_ne (by decide)], fun q hq => up_nj (by omega)⟩
theorem fld_fw {b : Nat} {h : Mem} {j : Nat} {v : Int} (hj : SCg.contains j = true) : Fw b h (up h 214 j v) := ⟨fun i q => up_ne (fun e => q (by rw [e]; exact List.mem_cons_self)), fun q hq => up_nj (fun e => hq (by rw [e]; simpa using hj)), fun q _ => by rw [up_ne (by decide)]⟩
theorem SF.fw {b : Nat} {h h' : Mem} (f : SF h h') : Fw b h h' := ⟨fun i q => f.1 i (fun z => q (by
  simp at z
  rcases z with e | e | e <;> rw [e] <;> decide)), fun j q => f.2 j (fun z => q (by
  simp at z
  rcases z with e | e <;> rw [e] <;> decide)), fun j _ => by rw [f.1 226 (by decide)]⟩
theorem up_fw {b : Nat} {h : Mem} {a j : Nat} {v : Int} (ha : SCc.contains a = true) : Fw b h (up h a j v) := Fw.ofFm (Fm.ofFr (cs := [a]) (Fr.up Fr.rfl List.mem_cons_self) (by simpa using ha)) (by rw [up_ne (fun e => by rw [← e] at ha; exact absurd ha (by decide))])
section RU
variable {h : Mem} {b : Nat} {T : TS}
theorem RS.us0 (R : RS (h 226) b T) : RS (up h 226 (b + 1) 0 226) b (tmT T, [], bzT T, gnT T, lsT T, ltT T, ptT T) := by
  obtain ⟨⟨r1, r2⟩, r3, r4, r5, r6⟩ := R
  refine ⟨⟨by rw [up_nj (by omega)]; exact r1, by rw [up_at]; rfl⟩, fun k hk => absurd hk (Nat.not_lt_zero k), fun n hn => by rw [up_nj (by omega)]; exact r4 n hn, fun f hf => ?_, fun f t hf ht => by rw [up_nj (by omega)]; exact r6 f t hf ht⟩
  rw [up_nj (by omega), up_nj (by omega), up_nj (by omega)]; exact r5 f hf
theorem RS.bz (R : RS (h 226) b T) (hl : (usT T).length ≤ 40) {n : Nat} (hn : n < 4) (v : Int) : RS (up h 226 (b + 122 + n) v 226) b (tmT T, usT T, (fun i => if i = n then v else bzT T i), gnT T, lsT T, ltT T, ptT T) := by
  obtain ⟨⟨r1, r2⟩, r3, r4, r5, r6⟩ := R
  refine ⟨⟨by rw [up_nj (by omega)]; exact r1, by rw [up_nj (by omega)]; exact r2⟩, fun k hk => ?_, fun n' hn' => ?_, fun f hf => ?_, fun f t hf ht => by rw [up_nj (by omega)]; exact r6 f t hf ht⟩
  · have hk : k < (usT T).length := hk
    rw [up_nj (by omega), up_nj (by omega), up_nj (by omega)]; exact r3 k hk
  · show _ = if n' = n then v else bzT T n'
    by_cases e : n' = n
    · subst e; rw [up_at, if_pos rfl]
    · rw [up_nj (by omega), if_neg e]; exact r4 n' hn'
  · rw [up_nj (by omega), up_nj (by omega), up_nj (by omega)]; exact r5 f hf
theorem RS.go (R : RS (h 226) b T) (hl : (usT T).length ≤ 40) {f : Nat} (hf : f < 4) (v w : Int) : RS (up (up h 226 (b + 126 + f) v) 226 (b + 134 + f) w 226) b (tmT T, usT T, bzT T, (fun i => if i = f then v else gnT T i), lsT T, (fun i => if i = f then w else ltT T i), ptT T) := by
  obtain ⟨⟨r1, r2⟩, r3, r4, r5, r6⟩ := R
  refine ⟨⟨by rw [up_nj (by omega), up_nj (by omega)]; exact r1, by rw [up_nj (by omega), up_nj (by omega)]; exact r2⟩, fun k hk => ?_, fun n' hn' => ?_, fun f' hf' => ?_, fun f' t hf' ht => by rw [up_nj (by omega), up_nj (by omega)]; exact r6 f' t hf' ht⟩
  · have hk : k < (usT T).length := hk
    rw [up_nj (by omega), up_nj (by omega), up_nj (by omega), up_nj (by omega), up_nj (by omega), up_nj (by omega)]; exact r3 k hk
  · rw [up_nj (by omega), up_nj (by omega)]; exact r4 n' hn'
  · show _ = (if f' = f then v else gnT T f') ∧ _ = lsT T f' ∧ _ = if f' = f then w else ltT T f'
    have r5 := r5 f' hf'
    refine ⟨?_, ?_, ?_⟩
    · rw [up_nj (by omega)]
      by_cases e : f' = f
      · subst e; rw [up_at, if_pos rfl]
      · rw [up_nj (by omega), if_neg e]; exact r5.1
    · rw [up_nj (by omega), up_nj (by omega)]; exact r5.2.1
    · by_cases e : f' = f
      · subst e; rw [up_at, if_pos rfl]
      · rw [up_nj (by omega), up_nj (by omega), if_neg e]; exact r5.2.2
theorem RS.tm (R : RS (h 226) b T) (hl : (usT T).length ≤ 40) (v : Nat) : RS (up h 226 b (v : Int) 226) b (v, usT T, bzT T, gnT T, lsT T, ltT T, ptT T) := by
  obtain ⟨⟨r1, r2⟩, r3, r4, r5, r6⟩ := R
  refine ⟨⟨by rw [up_at]; rfl, by rw [up_nj (by omega)]; exact r2⟩, fun k hk => ?_, fun n' hn' => by rw [up_nj (by omega)]; exact r4 n' hn', fun f' hf' => ?_, fun f' t hf' ht => by rw [up_nj (by omega)]; exact r6 f' t hf' ht⟩
  · have hk : k < (usT T).length := hk
    rw [up_nj (by omega), up_nj (by omega), up_nj (by omega)]; exact r3 k hk
  · rw [up_nj (by omega), up_nj (by omega), up_nj (by omega)]; exact r5 f' hf'
theorem RS.ls (R : RS (h 226) b T) (hl : (usT T).length ≤ 40) {f : Nat} (hf : f < 4) (v : Int) : RS (up h 226 (b + 130 + f) v 226) b (tmT T, usT T, bzT T, gnT T, (fun i => if i = f then v else lsT T i), ltT T, ptT T) := by
  obtain ⟨⟨r1, r2⟩, r3, r4, r5, r6⟩ := R
  refine ⟨⟨by rw [up_nj (by omega)]; exact r1, by rw [up_nj (by omega)]; exact r2⟩, fun k hk => ?_, fun n' hn' => by rw [up_nj (by omega)]; exact r4 n' hn', fun f' hf' => ?_, fun f' t hf' ht => by rw [up_nj (by omega)]; exact r6 f' t hf' ht⟩
  · have hk : k < (usT T).length := hk
    rw [up_nj (by omega), up_nj (by omega), up_nj (by omega)]; exact r3 k hk
  · show _ = gnT T f' ∧ _ = (if f' = f then v else lsT T f') ∧ _ = ltT T f'
    have r5 := r5 f' hf'
    refine ⟨by rw [up_nj (by omega)]; exact r5.1, ?_, by rw [up_nj (by omega)]; exact r5.2.2⟩
    by_cases e : f' = f
    · subst e; rw [up_at, if_pos rfl]
    · rw [up_nj (by omega), if_neg e]; exact r5.2.1
theorem RS.pt (R : RS (h 226) b T) (hl : (usT T).length ≤ 40) {f t : Nat} (hf : f < 4) (ht : t ≤ 60) (v : Int) : RS (up h 226 (b + 138 + 61 * f + t) v 226) b (tmT T, usT T, bzT T, gnT T, lsT T, ltT T, (fun i u => if i = f ∧ u = t then v else ptT T i u)) := by
  obtain ⟨⟨r1, r2⟩, r3, r4, r5, r6⟩ := R
  refine ⟨⟨by rw [up_nj (by omega)]; exact r1, by rw [up_nj (by omega)]; exact r2⟩, fun k hk => ?_, fun n' hn' => by rw [up_nj (by omega)]; exact r4 n' hn', fun f' hf' => ?_, fun f' u hf' hu => ?_⟩
  · have hk : k < (usT T).length := hk
    rw [up_nj (by omega), up_nj (by omega), up_nj (by omega)]; exact r3 k hk
  · rw [up_nj (by omega), up_nj (by omega), up_nj (by omega)]; exact r5 f' hf'
  · show _ = if f' = f ∧ u = t then v else ptT T f' u
    by_cases e : f' = f ∧ u = t
    · rw [e.1, e.2, up_at, if_pos ⟨rfl, rfl⟩]
    · rw [up_nj (by omega), if_neg e]; exact r6 f' u hf' hu
end RU
section MG
variable {l : Launch} {d : Nat} {h : Mem} {b : Nat} {T : TS}
theorem r_goes (L : Lay h) (hb : b + 382 ≤ 1628) {f : Nat} (hf : f < 4) (late : Int) : Cl l (d + 1) M_X11_goes [(2, 215), (0, (b : Int)), (0, (f : Int)), (0, late)] SHP h (Rt 0 SHP (up (up h 226 (b + 126 + f) (w32 (h 226 (b + 126 + f) + 1))) 226 (b + 134 + f) (max (h 226 (b + 134 + f)) late))) := by
  have a17 := ly_214_17 L
  have i1 : ((b : Int) + 126 + (f : Int)).toNat = b + 126 + f := by omega
  have i2 : ((b : Int) + 134 + (f : Int)).toNat = b + 134 + f := by omega
  obtain ⟨m, hm⟩ : ∃ m, m = up h 226 (b + 126 + f) (w32 (h 226 (b + 126 + f) + 1)) := ⟨_, rfl⟩
  have b17 : m 214 17 = 227 := by rw [hm, up_ne (by decide)]; exact a17
  have v1 : m 226 (b + 134 + f) = h 226 (b + 134 + f) := by rw [hm, up_nj (by omega)]
  rw [← hm]
  show V l (d + 1) 0 0 M_X11_goes 0 0 0 _ [(2, 215), (0, (b : Int)), (0, (f : Int)), (0, late), (9, 0)] [] SHP h
  refine S_X11_goes_0 _ _ _ _ ?_; simp (disch := omega) only [B_X11_goes_0, bi_0, x_ic, x_lc, x_ld, x_st, x_sl, x_inc, x_b32, x_b64, x_d32, x_d64, x_s64, x_un, x_lcmp, x_dup, x_pop, x_dup2, x_if, x_cmp, x_sw, swk, x_ald, x_ast, x_alen, x_getf, x_putf, x_inv, x_mm, x_copy, x_iret, x_lret, x_vret, ok1, pu, ct, rcv, rcs, ent0, List.getElem?_cons_zero, List.getElem?_cons_succ, List.getElem?_nil, List.set_cons_zero, List.set_cons_succ, List.take_succ_cons, List.take_zero, List.drop_succ_cons, List.drop_zero, List.reverse_cons, List.reverse_nil, List.nil_append, List.cons_append, List.length_cons, List.length_nil, true_and, and_true, and_self, ne_eq, not_true_eq_false, not_false_eq_true, reduceIte, true_or, or_true, false_or, or_false, Nat.reduceAdd, Nat.reduceSub, Nat.reduceMul, Nat.reduceLeDiff, Nat.reduceEqDiff, Nat.reduceLT, Nat.le_refl, Nat.zero_le, Int.reduceToNat, Int.reduceAdd, Int.reduceSub, Int.reduceMul, Int.reduceNeg, Int.reduceLT, Int.reduceLE, Int.reduceEq, Nat.zero_add, Nat.add_zero, Nat.reduceBEq, Nat.one_ne_zero, Nat.zero_ne_one, Nat.lt_irrefl, Nat.succ_ne_zero, w32_id, ixc, ixc2, Int.toNat_natCast, ob_214, a17, ln_226, i1, i2]
  rw [← hm, b17]
  (try simp (disch := omega) only [bi_0, x_ic, x_lc, x_ld, x_st, x_sl, x_inc, x_b32, x_b64, x_d32, x_d64, x_s64, x_un, x_lcmp, x_dup, x_pop, x_dup2, x_if, x_cmp, x_sw, swk, x_ald, x_ast, x_alen, x_getf, x_putf, x_inv, x_mm, x_copy, x_iret, x_lret, x_vret, ok1, pu, ct, rcv, rcs, ent0, List.getElem?_cons_zero, List.getElem?_cons_succ, List.getElem?_nil, List.set_cons_zero, List.set_cons_succ, List.take_succ_cons, List.take_zero, List.drop_succ_cons, List.drop_zero, List.reverse_cons, List.reverse_nil, List.nil_append, List.cons_append, List.length_cons, List.length_nil, true_and, and_true, and_self, ne_eq, not_true_eq_false, not_false_eq_true, reduceIte, true_or, or_true, false_or, or_false, Nat.reduceAdd, Nat.reduceSub, Nat.reduceMul, Nat.reduceLeDiff, Nat.reduceEqDiff, Nat.reduceLT, Nat.le_refl, Nat.zero_le, Int.reduceToNat, Int.reduceAdd, Int.reduceSub, Int.reduceMul, Int.reduceNeg, Int.reduceLT, Int.reduceLE, Int.reduceEq, Nat.zero_add, Nat.add_zero, Nat.reduceBEq, Nat.one_ne_zero, Nat.zero_ne_one, Nat.lt_irrefl, Nat.succ_ne_zero, w32_id, ixc, ixc2, Int.toNat_natCast, ob_214, ln_226, i2, v1])
  refine ⟨by omega, by omega, by omega, fun z => ?_, fun z => ?_⟩
  · refine S_X11_goes_45 _ _ _ _ ?_; simp (disch := omega) only [B_X11_goes_45, bi_0, x_ic, x_lc, x_ld, x_st, x_sl, x_inc, x_b32, x_b64, x_d32, x_d64, x_s64, x_un, x_lcmp, x_dup, x_pop, x_dup2, x_if, x_cmp, x_sw, swk, x_ald, x_ast, x_alen, x_getf, x_putf, x_inv, x_mm, x_copy, x_iret, x_lret, x_vret, ok1, pu, ct, rcv, rcs, ent0, List.getElem?_cons_zero, List.getElem?_cons_succ, List.getElem?_nil, List.set_cons_zero, List.set_cons_succ, List.take_succ_cons, List.take_zero, List.drop_succ_cons, List.drop_zero, List.reverse_cons, List.reverse_nil, List.nil_append, List.cons_append, List.length_cons, List.length_nil, true_and, and_true, and_self, ne_eq, not_true_eq_false, not_false_eq_true, reduceIte, true_or, or_true, false_or, or_false, Nat.reduceAdd, Nat.reduceSub, Nat.reduceMul, Nat.reduceLeDiff, Nat.reduceEqDiff, Nat.reduceLT, Nat.le_refl, Nat.zero_le, Int.reduceToNat, Int.reduceAdd, Int.reduceSub, Int.reduceMul, Int.reduceNeg, Int.reduceLT, Int.reduceLE, Int.reduceEq, Nat.zero_add, Nat.add_zero, Nat.reduceBEq, Nat.one_ne_zero, Nat.zero_ne_one, Nat.lt_irrefl, Nat.succ_ne_zero, w32_id, ixc, ixc2, Int.toNat_natCast, ob_214, b17, ln_226, i2, v1]
    refine ⟨by omega, ?_⟩
    refine S_X11_goes_52 _ _ _ _ ?_; simp (disch := omega) only [B_X11_goes_52, bi_0, x_ic, x_lc, x_ld, x_st, x_sl, x_inc, x_b32, x_b64, x_d32, x_d64, x_s64, x_un, x_lcmp, x_dup, x_pop, x_dup2, x_if, x_cmp, x_sw, swk, x_ald, x_ast, x_alen, x_getf, x_putf, x_inv, x_mm, x_copy, x_iret, x_lret, x_vret, ok1, pu, ct, rcv, rcs, ent0, List.getElem?_cons_zero, List.getElem?_cons_succ, List.getElem?_nil, List.set_cons_zero, List.set_cons_succ, List.take_succ_cons, List.take_zero, List.drop_succ_cons, List.drop_zero, List.reverse_cons, List.reverse_nil, List.nil_append, List.cons_append, List.length_cons, List.length_nil, true_and, and_true, and_self, ne_eq, not_true_eq_false, not_false_eq_true, reduceIte, true_or, or_true, false_or, or_false, Nat.reduceAdd, Nat.reduceSub, Nat.reduceMul, Nat.reduceLeDiff, Nat.reduceEqDiff, Nat.reduceLT, Nat.le_refl, Nat.zero_le, Int.reduceToNat, Int.reduceAdd, Int.reduceSub, Int.reduceMul, Int.reduceNeg, Int.reduceLT, Int.reduceLE, Int.reduceEq, Nat.zero_add, Nat.add_zero, Nat.reduceBEq, Nat.one_ne_zero, Nat.zero_ne_one, Nat.lt_irrefl, Nat.succ_ne_zero, w32_id, ixc, ixc2, Int.toNat_natCast, ln_226, i2]
    exact ⟨by omega, Rt_mk3 rfl rfl (by rw [Int.max_eq_left (by omega)])⟩
  · (try simp (disch := omega) only [bi_0, x_ic, x_lc, x_ld, x_st, x_sl, x_inc, x_b32, x_b64, x_d32, x_d64, x_s64, x_un, x_lcmp, x_dup, x_pop, x_dup2, x_if, x_cmp, x_sw, swk, x_ald, x_ast, x_alen, x_getf, x_putf, x_inv, x_mm, x_copy, x_iret, x_lret, x_vret, ok1, pu, ct, rcv, rcs, ent0, List.getElem?_cons_zero, List.getElem?_cons_succ, List.getElem?_nil, List.set_cons_zero, List.set_cons_succ, List.take_succ_cons, List.take_zero, List.drop_succ_cons, List.drop_zero, List.reverse_cons, List.reverse_nil, List.nil_append, List.cons_append, List.length_cons, List.length_nil, true_and, and_true, and_self, ne_eq, not_true_eq_false, not_false_eq_true, reduceIte, true_or, or_true, false_or, or_false, Nat.reduceAdd, Nat.reduceSub, Nat.reduceMul, Nat.reduceLeDiff, Nat.reduceEqDiff, Nat.reduceLT, Nat.le_refl, Nat.zero_le, Int.reduceToNat, Int.reduceAdd, Int.reduceSub, Int.reduceMul, Int.reduceNeg, Int.reduceLT, Int.reduceLE, Int.reduceEq, Nat.zero_add, Nat.add_zero, Nat.reduceBEq, Nat.one_ne_zero, Nat.zero_ne_one, Nat.lt_irrefl, Nat.succ_ne_zero, w32_id, ixc, ixc2, Int.toNat_natCast])
    refine S_X11_goes_52 _ _ _ _ ?_; simp (disch := omega) only [B_X11_goes_52, bi_0, x_ic, x_lc, x_ld, x_st, x_sl, x_inc, x_b32, x_b64, x_d32, x_d64, x_s64, x_un, x_lcmp, x_dup, x_pop, x_dup2, x_if, x_cmp, x_sw, swk, x_ald, x_ast, x_alen, x_getf, x_putf, x_inv, x_mm, x_copy, x_iret, x_lret, x_vret, ok1, pu, ct, rcv, rcs, ent0, List.getElem?_cons_zero, List.getElem?_cons_succ, List.getElem?_nil, List.set_cons_zero, List.set_cons_succ, List.take_succ_cons, List.take_zero, List.drop_succ_cons, List.drop_zero, List.reverse_cons, List.reverse_nil, List.nil_append, List.cons_append, List.length_cons, List.length_nil, true_and, and_true, and_self, ne_eq, not_true_eq_false, not_false_eq_true, reduceIte, true_or, or_true, false_or, or_false, Nat.reduceAdd, Nat.reduceSub, Nat.reduceMul, Nat.reduceLeDiff, Nat.reduceEqDiff, Nat.reduceLT, Nat.le_refl, Nat.zero_le, Int.reduceToNat, Int.reduceAdd, Int.reduceSub, Int.reduceMul, Int.reduceNeg, Int.reduceLT, Int.reduceLE, Int.reduceEq, Nat.zero_add, Nat.add_zero, Nat.reduceBEq, Nat.one_ne_zero, Nat.zero_ne_one, Nat.lt_irrefl, Nat.succ_ne_zero, w32_id, ixc, ixc2, Int.toNat_natCast, ln_226, i2]
    exact ⟨by omega, Rt_mk3 rfl rfl (by rw [Int.max_eq_right (by omega)])⟩
end MG
/-- the same, and draws -/
def Fz (b : Nat) (h h' : Mem) : Prop := (∀ i, i ∉ 214 :: 226 :: SCc → h' i = h i) ∧ (∀ j, j ∉ SCf → h' 214 j = h 214 j) ∧ ∀ j, j < b ∨ b + 382 ≤ j → h' 226 j = h 226 j
theorem Fw.z {b : Nat} {h h' : Mem} (f : Fw b h h') : Fz b h h' := ⟨f.1, fun j hj => f.2.1 j (fun z => hj (by simp [SCg] at z; simp [SCf]; omega)), f.2.2⟩
theorem Fz.trans {b : Nat} {h h1 h2 : Mem} (a : Fz b h h1) (c : Fz b h1 h2) : Fz b h h2 := ⟨fun i q => (c.1 i q).trans (a.1 i q), fun j q => (c.2.1 j q).trans (a.2.1 j q), fun j q => (c.2.2 j q).trans (a.2.2 j q)⟩
theorem Fz.lay {b : Nat} {h h' : Mem} (f : Fz b h h') (L : Lay h) : Lay h' := by
  refine Lay_fr L (fun q hq => ?_)
  have hn : LAYL.all (fun q => if q.1 = 214 then !(SCf.contains q.2.1) else !((226 :: SCc).contains q.1)) = true := by decide +kernel
  have h1 := List.all_eq_true.mp hn q hq
  by_cases e : q.1 = 214
  · rw [if_pos e] at h1
    rw [e]; exact f.2.1 _ (by simpa using h1)
  · rw [if_neg e] at h1
    rw [f.1 q.1 (by simp at h1 ⊢; exact ⟨e, h1⟩)]
theorem Fz.n220 {b : Nat} {h h' : Mem} (f : Fz b h h') : h' 220 = h 220 := f.1 220 (by decide)
theorem fld_fz {b : Nat} {h : Mem} {j : Nat} {v : Int} (hj : SCf.contains j = true) : Fz b h (up h 214 j v) := ⟨fun i q => up_ne (fun e => q (by rw [e]; exact List.mem_cons_self)), fun q hq => up_nj (fun e => hq (by rw [e]; simpa using hj)), fun q _ => by rw [up_ne (by decide)]⟩
theorem Fz.lw {b : Nat} {h h' : Mem} {P : Nat → Wd} {n : Nat} (f : Fz b h h') (Lw : LwR h P n) : LwR h' P n := by
  unfold LwR; rw [f.n220, f.1 221 (by decide)]; exact Lw

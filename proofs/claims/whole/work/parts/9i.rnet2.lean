/-! the reference: a net, read whole -/
section RNU
variable {l : Launch} {d : Nat} {h : Mem} {s : Nat → Int} {n : Nat}
theorem Lay_c {h h' : Mem} {c : Nat} (hc : LAYL.all (fun q => !(q.1 == c)) = true) (L : Lay h) (e : ∀ i, i ≠ c → h' i = h i) : Lay h' := by
  refine Lay_fr L (fun q hq => ?_)
  have h1 := List.all_eq_true.mp hc q hq
  rw [e q.1 (by simpa using h1)]
theorem r_stands (L : Lay h) {a : Nat} (ha : a ≤ 110) : Cl l (d + 1) M_X11_standsAsAlways [(2, 215), (0, (a : Int))] SHP h (fun r sh' h' => r = 0 ∧ sh' = SHP ∧ (∀ i, i ≠ 220 → h' i = h i) ∧ (∀ j, j < a ∨ a + 110 ≤ j → h' 220 j = h 220 j) ∧ ∀ j, j < 110 → h' 220 (a + j) = if j = 3 then -1 else 0) := by
  refine Cl_hide (fun Q hQ => ?_)
  show V l (d + 1) 0 0 M_X11_standsAsAlways 0 0 0 Q [(2, 215), (0, (a : Int)), (9, 0)] [] SHP h
  refine S_X11_standsAsAlways_0 _ _ _ _ ?_; simp (disch := omega) only [B_X11_standsAsAlways_0, bi_0, x_ic, x_lc, x_ld, x_st, x_sl, x_inc, x_b32, x_b64, x_d32, x_d64, x_s64, x_un, x_lcmp, x_dup, x_pop, x_dup2, x_if, x_cmp, x_sw, swk, x_ald, x_ast, x_alen, x_getf, x_putf, x_inv, x_mm, x_copy, x_iret, x_lret, x_vret, ok1, pu, ct, rcv, rcs, ent0, List.getElem?_cons_zero, List.getElem?_cons_succ, List.getElem?_nil, List.set_cons_zero, List.set_cons_succ, List.take_succ_cons, List.take_zero, List.drop_succ_cons, List.drop_zero, List.reverse_cons, List.reverse_nil, List.nil_append, List.cons_append, List.length_cons, List.length_nil, true_and, and_true, and_self, ne_eq, not_true_eq_false, not_false_eq_true, reduceIte, true_or, or_true, false_or, or_false, Nat.reduceAdd, Nat.reduceSub, Nat.reduceMul, Nat.reduceLeDiff, Nat.reduceEqDiff, Nat.reduceLT, Nat.le_refl, Nat.zero_le, Int.reduceToNat, Int.reduceAdd, Int.reduceSub, Int.reduceMul, Int.reduceNeg, Int.reduceLT, Int.reduceLE, Int.reduceEq, Nat.zero_add, Nat.add_zero, Nat.reduceBEq, Nat.one_ne_zero, Nat.zero_ne_one, Nat.lt_irrefl, Nat.succ_ne_zero, w32_id, ixc, ixc2, Int.toNat_natCast]
  refine V_jx (pc := 2) (fun k => [(2, 215), (0, (a : Int)), (0, (k : Int))]) (fun k m => (∀ i, i ≠ 220 → m i = h i) ∧ (∀ j, j < a ∨ a + 110 ≤ j → m 220 j = h 220 j) ∧ ∀ j, j < k → m 220 (a + j) = 0) 110 (fun k m hk J ih => ?_) (fun m J => ?_) h ⟨fun _ _ => rfl, fun _ _ => rfl, fun j q => absurd q (by omega)⟩
  · obtain ⟨J0, J1, J2⟩ := J
    have a10 := ly_214_10 (Lay_c (c := 220) (by decide +kernel) L J0)
    have ix : ((a : Int) + (k : Int)).toNat = a + k := by omega
    refine S_X11_standsAsAlways_2 _ _ _ _ ?_; simp (disch := omega) only [B_X11_standsAsAlways_2, bi_0, x_ic, x_lc, x_ld, x_st, x_sl, x_inc, x_b32, x_b64, x_d32, x_d64, x_s64, x_un, x_lcmp, x_dup, x_pop, x_dup2, x_if, x_cmp, x_sw, swk, x_ald, x_ast, x_alen, x_getf, x_putf, x_inv, x_mm, x_copy, x_iret, x_lret, x_vret, ok1, pu, ct, rcv, rcs, ent0, List.getElem?_cons_zero, List.getElem?_cons_succ, List.getElem?_nil, List.set_cons_zero, List.set_cons_succ, List.take_succ_cons, List.take_zero, List.drop_succ_cons, List.drop_zero, List.reverse_cons, List.reverse_nil, List.nil_append, List.cons_append, List.length_cons, List.length_nil, true_and, and_true, and_self, ne_eq, not_true_eq_false, not_false_eq_true, reduceIte, true_or, or_true, false_or, or_false, Nat.reduceAdd, Nat.reduceSub, Nat.reduceMul, Nat.reduceLeDiff, Nat.reduceEqDiff, Nat.reduceLT, Nat.le_refl, Nat.zero_le, Int.reduceToNat, Int.reduceAdd, Int.reduceSub, Int.reduceMul, Int.reduceNeg, Int.reduceLT, Int.reduceLE, Int.reduceEq, Nat.zero_add, Nat.add_zero, Nat.reduceBEq, Nat.one_ne_zero, Nat.zero_ne_one, Nat.lt_irrefl, Nat.succ_ne_zero, w32_id, ixc, ixc2, Int.toNat_natCast, ob_214, a10, ln_220, ix]
    refine ⟨fun z => absurd z (by omega), fun _ => ⟨by omega, ?_⟩⟩
    refine ih _ ⟨fun i hi => by rw [up_ne hi]; exact J0 i hi, fun j hj => by rw [up_nj (by omega)]; exact J1 j hj, fun j hj => ?_⟩
    by_cases e : j = k
    · rw [e, up_at]
    · rw [up_nj (by omega)]; exact J2 j (by omega)
  · obtain ⟨J0, J1, J2⟩ := J
    have a10 := ly_214_10 (Lay_c (c := 220) (by decide +kernel) L J0)
    have ix : ((a : Int) + 3).toNat = a + 3 := by omega
    refine S_X11_standsAsAlways_2 _ _ _ _ ?_; simp (disch := omega) only [B_X11_standsAsAlways_2, bi_0, x_ic, x_lc, x_ld, x_st, x_sl, x_inc, x_b32, x_b64, x_d32, x_d64, x_s64, x_un, x_lcmp, x_dup, x_pop, x_dup2, x_if, x_cmp, x_sw, swk, x_ald, x_ast, x_alen, x_getf, x_putf, x_inv, x_mm, x_copy, x_iret, x_lret, x_vret, ok1, pu, ct, rcv, rcs, ent0, List.getElem?_cons_zero, List.getElem?_cons_succ, List.getElem?_nil, List.set_cons_zero, List.set_cons_succ, List.take_succ_cons, List.take_zero, List.drop_succ_cons, List.drop_zero, List.reverse_cons, List.reverse_nil, List.nil_append, List.cons_append, List.length_cons, List.length_nil, true_and, and_true, and_self, ne_eq, not_true_eq_false, not_false_eq_true, reduceIte, true_or, or_true, false_or, or_false, Nat.reduceAdd, Nat.reduceSub, Nat.reduceMul, Nat.reduceLeDiff, Nat.reduceEqDiff, Nat.reduceLT, Nat.le_refl, Nat.zero_le, Int.reduceToNat, Int.reduceAdd, Int.reduceSub, Int.reduceMul, Int.reduceNeg, Int.reduceLT, Int.reduceLE, Int.reduceEq, Nat.zero_add, Nat.add_zero, Nat.reduceBEq, Nat.one_ne_zero, Nat.zero_ne_one, Nat.lt_irrefl, Nat.succ_ne_zero, w32_id, ixc, ixc2, Int.toNat_natCast]
    refine ⟨fun _ => ?_, fun z => absurd z (by omega)⟩
    refine S_X11_standsAsAlways_23 _ _ _ _ ?_; simp (disch := omega) only [B_X11_standsAsAlways_23, bi_0, x_ic, x_lc, x_ld, x_st, x_sl, x_inc, x_b32, x_b64, x_d32, x_d64, x_s64, x_un, x_lcmp, x_dup, x_pop, x_dup2, x_if, x_cmp, x_sw, swk, x_ald, x_ast, x_alen, x_getf, x_putf, x_inv, x_mm, x_copy, x_iret, x_lret, x_vret, ok1, pu, ct, rcv, rcs, ent0, List.getElem?_cons_zero, List.getElem?_cons_succ, List.getElem?_nil, List.set_cons_zero, List.set_cons_succ, List.take_succ_cons, List.take_zero, List.drop_succ_cons, List.drop_zero, List.reverse_cons, List.reverse_nil, List.nil_append, List.cons_append, List.length_cons, List.length_nil, true_and, and_true, and_self, ne_eq, not_true_eq_false, not_false_eq_true, reduceIte, true_or, or_true, false_or, or_false, Nat.reduceAdd, Nat.reduceSub, Nat.reduceMul, Nat.reduceLeDiff, Nat.reduceEqDiff, Nat.reduceLT, Nat.le_refl, Nat.zero_le, Int.reduceToNat, Int.reduceAdd, Int.reduceSub, Int.reduceMul, Int.reduceNeg, Int.reduceLT, Int.reduceLE, Int.reduceEq, Nat.zero_add, Nat.add_zero, Nat.reduceBEq, Nat.one_ne_zero, Nat.zero_ne_one, Nat.lt_irrefl, Nat.succ_ne_zero, w32_id, ixc, ixc2, Int.toNat_natCast, ob_214, a10, ln_220, ix]
    refine ⟨by omega, ?_⟩
    refine hQ _ _ _ ⟨rfl, rfl, fun i hi => by rw [up_ne hi]; exact J0 i hi, fun j hj => by rw [up_nj (by omega)]; exact J1 j hj, fun j hj => ?_⟩
    by_cases e : j = 3
    · rw [if_pos e, e, up_at]
    · rw [if_neg e, up_nj (by omega)]; exact J2 j hj
theorem r_begins (L : Lay h) : Cl l (d + 2) M_X11_begins [(2, 215)] SHP h (fun r sh' h' => r = 0 ∧ sh' = SHP ∧ (∀ i, i ≠ 214 → i ≠ 223 → i ≠ 226 → i ≠ 227 → h' i = h i) ∧ (∀ j, j ≠ 19 → h' 214 j = h 214 j) ∧ (∀ j, j ≠ 0 → h' 223 j = h 223 j) ∧ (∀ j, 383 ≤ j → h' 226 j = h 226 j) ∧ h' 214 19 = -1 ∧ h' 223 0 = 0 ∧ RS (h' 226) 0 rsT ∧ h' 226 382 = 0 ∧ h' 227 0 = 0 ∧ h' 227 1 = 0) := by
  refine Cl_hide (fun Q hQ => ?_)
  show V l (d + 2) 0 0 M_X11_begins 0 0 0 Q [(2, 215)] [] SHP h
  refine S_X11_begins_0 _ _ _ _ ?_; simp (disch := omega) only [B_X11_begins_0, bi_0, x_ic, x_lc, x_ld, x_st, x_sl, x_inc, x_b32, x_b64, x_d32, x_d64, x_s64, x_un, x_lcmp, x_dup, x_pop, x_dup2, x_if, x_cmp, x_sw, swk, x_ald, x_ast, x_alen, x_getf, x_putf, x_inv, x_mm, x_copy, x_iret, x_lret, x_vret, ok1, pu, ct, rcv, rcs, ent0, List.getElem?_cons_zero, List.getElem?_cons_succ, List.getElem?_nil, List.set_cons_zero, List.set_cons_succ, List.take_succ_cons, List.take_zero, List.drop_succ_cons, List.drop_zero, List.reverse_cons, List.reverse_nil, List.nil_append, List.cons_append, List.length_cons, List.length_nil, true_and, and_true, and_self, ne_eq, not_true_eq_false, not_false_eq_true, reduceIte, true_or, or_true, false_or, or_false, Nat.reduceAdd, Nat.reduceSub, Nat.reduceMul, Nat.reduceLeDiff, Nat.reduceEqDiff, Nat.reduceLT, Nat.le_refl, Nat.zero_le, Int.reduceToNat, Int.reduceAdd, Int.reduceSub, Int.reduceMul, Int.reduceNeg, Int.reduceLT, Int.reduceLE, Int.reduceEq, Nat.zero_add, Nat.add_zero, Nat.reduceBEq, Nat.one_ne_zero, Nat.zero_ne_one, Nat.lt_irrefl, Nat.succ_ne_zero, w32_id, ixc, ixc2, Int.toNat_natCast, ob_214]
  refine Cl.imp (r_starts (l := l) (d := d) (b := 0) L (by decide)) (fun r sh' m q => ?_)
  obtain ⟨rfl, rfl, F, e, R⟩ := q
  have Lm : Lay m := Lay_c (c := 226) (by decide +kernel) L e
  have z0 : nz 0 = 0 := rfl
  have a14 := ly_214_14 Lm
  have a17 := ly_214_17 Lm
  have a18 := ly_214_18 Lm
  have b18 : up (up (up m 226 382 0) 223 0 0) 214 19 (-1) 214 18 = 228 := by rw [up_nj (by decide), up_ne (by decide), up_ne (by decide)]; exact a18
  (try simp (disch := omega) only [bi_0, x_ic, x_lc, x_ld, x_st, x_sl, x_inc, x_b32, x_b64, x_d32, x_d64, x_s64, x_un, x_lcmp, x_dup, x_pop, x_dup2, x_if, x_cmp, x_sw, swk, x_ald, x_ast, x_alen, x_getf, x_putf, x_inv, x_mm, x_copy, x_iret, x_lret, x_vret, ok1, pu, ct, rcv, rcs, ent0, List.getElem?_cons_zero, List.getElem?_cons_succ, List.getElem?_nil, List.set_cons_zero, List.set_cons_succ, List.take_succ_cons, List.take_zero, List.drop_succ_cons, List.drop_zero, List.reverse_cons, List.reverse_nil, List.nil_append, List.cons_append, List.length_cons, List.length_nil, true_and, and_true, and_self, ne_eq, not_true_eq_false, not_false_eq_true, reduceIte, true_or, or_true, false_or, or_false, Nat.reduceAdd, Nat.reduceSub, Nat.reduceMul, Nat.reduceLeDiff, Nat.reduceEqDiff, Nat.reduceLT, Nat.le_refl, Nat.zero_le, Int.reduceToNat, Int.reduceAdd, Int.reduceSub, Int.reduceMul, Int.reduceNeg, Int.reduceLT, Int.reduceLE, Int.reduceEq, Nat.zero_add, Nat.add_zero, Nat.reduceBEq, Nat.one_ne_zero, Nat.zero_ne_one, Nat.lt_irrefl, Nat.succ_ne_zero, w32_id, ixc, ixc2, Int.toNat_natCast, ob_214, up_ne, a14, a17, a18, b18, ln_223, ln_226, ln_227, z0])
  refine hQ _ _ _ ⟨rfl, rfl, fun i p1 p2 p3 p4 => ?_, fun j hj => ?_, fun j hj => ?_, fun j hj => ?_, ?_, ?_, ?_, ?_, ?_, ?_⟩
  all_goals skip
  · rw [up_ne p4, up_ne p4, up_ne p1, up_ne p2, up_ne p3]; exact e i p3
  · rw [up_ne (by decide), up_ne (by decide), up_nj hj, up_ne (by decide), up_ne (by decide), e 214 (by decide)]
  · rw [up_ne (by decide), up_ne (by decide), up_ne (by decide), up_nj hj, up_ne (by decide), e 223 (by decide)]
  · rw [up_ne (by decide), up_ne (by decide), up_ne (by decide), up_ne (by decide), up_nj (by omega)]; exact F.2.2 j (by omega)
  · rw [up_ne (by decide), up_ne (by decide), up_at]
  · rw [up_ne (by decide), up_ne (by decide), up_ne (by decide), up_at]
  · rw [up_ne (by decide), up_ne (by decide), up_ne (by decide), up_ne (by decide)]
    exact RS.cong R (by decide) (fun j _ hj => up_nj (by omega))
  · rw [up_ne (by decide), up_ne (by decide), up_ne (by decide), up_ne (by decide), up_at]
  · rw [up_nj (by decide), up_at]
  · rw [up_at]
/-- nothing told yet -/
def zX (h : Mem) : NX := (fun j => if j = 3 then -1 else if j < 110 then 0 else h 220 (110 + j), fun j => h 222 (14 + j), fun _ => (0, 0), 0)
theorem r_net (L : Lay h) (W : WdR h) (Tp : TpR h (s, n)) (Tw : TpW (s, n)) : Cl l (d + 35) M_X11_net [(2, 215)] SHP h (fun r sh' h' => sh' = SHP ∧ Lay h' ∧ h' 214 2 = 0 ∧ r = (ntF s n 1000 0 (zX h)).1 ∧ (r ≠ 0 → (∀ i, i ≠ 214 → i ≠ 216 → i ≠ 217 → i ≠ 218 → i ≠ 220 → i ≠ 221 → i ≠ 222 → h' i = h i) ∧ (∀ j, j ≠ 0 → j ≠ 2 → j ≠ 3 → j ≠ 7 → j ≠ 8 → j ≠ 12 → h' 214 j = h 214 j) ∧ (∀ j, j < 110 → h' 220 j = h 220 j) ∧ (∀ j, j < 1100 → h' 221 j = h 221 j) ∧ ∀ j, j < 14 → h' 222 j = h 222 j) ∧ (r = 0 → (∀ i, i ≠ 214 → i ≠ 216 → i ≠ 217 → i ≠ 218 → i ≠ 220 → i ≠ 221 → i ≠ 222 → i ≠ 223 → i ≠ 226 → i ≠ 227 → h' i = h i) ∧ (∀ j, j ≠ 0 → j ≠ 2 → j ≠ 3 → j ≠ 7 → j ≠ 8 → j ≠ 12 → j ≠ 19 → h' 214 j = h 214 j) ∧ (∀ j, j < 110 → h' 220 j = (ntF s n 1000 0 (zX h)).2.1 j) ∧ (∀ j, j < 14 → h' 222 j = (ntF s n 1000 0 (zX h)).2.2.1 j) ∧ (((ntF s n 1000 0 (zX h)).2.1 3 = -1 ∧ (ntF s n 1000 0 (zX h)).2.2.2.2 = 0) ∨ ((ntF s n 1000 0 (zX h)).2.1 3 = 0 ∧ (ntF s n 1000 0 (zX h)).2.2.2.2 ≤ 1000 ∧ (∀ i, i < (ntF s n 1000 0 (zX h)).2.2.2.2 → h' 221 i = cdW ((ntF s n 1000 0 (zX h)).2.2.2.1 i)) ∧ h' 221 (ntF s n 1000 0 (zX h)).2.2.2.2 = 0)) ∧ (∀ j, 383 ≤ j → h' 226 j = h 226 j) ∧ h' 214 19 = -1 ∧ h' 223 0 = 0 ∧ RS (h' 226) 0 rsT ∧ h' 226 382 = 0 ∧ h' 227 0 = 0 ∧ h' 227 1 = 0)) := by
  refine Cl_hide (fun Q hQ => ?_)
  show V l (d + 35) 0 0 M_X11_net 0 0 0 Q [(2, 215), (9, 0)] [] SHP h
  have L0 : Lay (up h 214 0 0) := up_lay0 (Or.inl rfl) L
  have Tp0 : TpR (up h 214 0 0) (s, n) := ⟨by rw [up_nj (by decide)]; exact Tp.1, by rw [up_ne (by decide)]; exact Tp.2⟩
  refine S_X11_net_0 _ _ _ _ ?_; simp (disch := omega) only [B_X11_net_0, bi_0, x_ic, x_lc, x_ld, x_st, x_sl, x_inc, x_b32, x_b64, x_d32, x_d64, x_s64, x_un, x_lcmp, x_dup, x_pop, x_dup2, x_if, x_cmp, x_sw, swk, x_ald, x_ast, x_alen, x_getf, x_putf, x_inv, x_mm, x_copy, x_iret, x_lret, x_vret, ok1, pu, ct, rcv, rcs, ent0, List.getElem?_cons_zero, List.getElem?_cons_succ, List.getElem?_nil, List.set_cons_zero, List.set_cons_succ, List.take_succ_cons, List.take_zero, List.drop_succ_cons, List.drop_zero, List.reverse_cons, List.reverse_nil, List.nil_append, List.cons_append, List.length_cons, List.length_nil, true_and, and_true, and_self, ne_eq, not_true_eq_false, not_false_eq_true, reduceIte, true_or, or_true, false_or, or_false, Nat.reduceAdd, Nat.reduceSub, Nat.reduceMul, Nat.reduceLeDiff, Nat.reduceEqDiff, Nat.reduceLT, Nat.le_refl, Nat.zero_le, Int.reduceToNat, Int.reduceAdd, Int.reduceSub, Int.reduceMul, Int.reduceNeg, Int.reduceLT, Int.reduceLE, Int.reduceEq, Nat.zero_add, Nat.add_zero, Nat.reduceBEq, Nat.one_ne_zero, Nat.zero_ne_one, Nat.lt_irrefl, Nat.succ_ne_zero, w32_id, ixc, ixc2, Int.toNat_natCast, ob_214]
  refine Cl.imp (r_cutAll (l := l) (d := d + 31) L0 Tp0 Tw) (fun r sh' m1 q => ?_)
  obtain ⟨rfl, rfl, F, ⟨a2, a7, a8⟩, pos, t, C⟩ := q
  have Lm1 := F.lay L0
  obtain ⟨m2, hm2⟩ : ∃ m2, m2 = up m1 214 12 0 := ⟨_, rfl⟩
  have Lm2 : Lay m2 := by rw [hm2]; exact up_lay0 (Or.inr (Or.inl rfl)) Lm1
  (try simp (disch := omega) only [bi_0, x_ic, x_lc, x_ld, x_st, x_sl, x_inc, x_b32, x_b64, x_d32, x_d64, x_s64, x_un, x_lcmp, x_dup, x_pop, x_dup2, x_if, x_cmp, x_sw, swk, x_ald, x_ast, x_alen, x_getf, x_putf, x_inv, x_mm, x_copy, x_iret, x_lret, x_vret, ok1, pu, ct, rcv, rcs, ent0, List.getElem?_cons_zero, List.getElem?_cons_succ, List.getElem?_nil, List.set_cons_zero, List.set_cons_succ, List.take_succ_cons, List.take_zero, List.drop_succ_cons, List.drop_zero, List.reverse_cons, List.reverse_nil, List.nil_append, List.cons_append, List.length_cons, List.length_nil, true_and, and_true, and_self, ne_eq, not_true_eq_false, not_false_eq_true, reduceIte, true_or, or_true, false_or, or_false, Nat.reduceAdd, Nat.reduceSub, Nat.reduceMul, Nat.reduceLeDiff, Nat.reduceEqDiff, Nat.reduceLT, Nat.le_refl, Nat.zero_le, Int.reduceToNat, Int.reduceAdd, Int.reduceSub, Int.reduceMul, Int.reduceNeg, Int.reduceLT, Int.reduceLE, Int.reduceEq, Nat.zero_add, Nat.add_zero, Nat.reduceBEq, Nat.one_ne_zero, Nat.zero_ne_one, Nat.lt_irrefl, Nat.succ_ne_zero, w32_id, ixc, ixc2, Int.toNat_natCast, ob_214, ← hm2])
  refine Cl.imp (r_stands (l := l) (d := d + 33) Lm2 (a := 110) (by decide)) (fun r sh' m q => ?_)
  obtain ⟨rfl, rfl, G0, G1, G2⟩ := q
  have Lm : Lay m := Lay_c (c := 220) (by decide +kernel) Lm2 G0
  have fr1 : ∀ i, i ≠ 214 → i ≠ 216 → i ≠ 217 → i ≠ 218 → i ≠ 220 → m i = h i := fun i p1 p2 p3 p4 p5 => by rw [G0 i p5, hm2, up_ne p1, F.1 i p1 p2 p3 p4, up_ne p1]
  have fr2 : ∀ j, j ≠ 0 → j ≠ 2 → j ≠ 3 → j ≠ 7 → j ≠ 8 → j ≠ 12 → m 214 j = h 214 j := fun j p1 p2 p3 p4 p5 p6 => by rw [G0 214 (by decide), hm2, up_nj p6, F.2 j p2 p3 p4 p5, up_nj p1]
  have e220 : m2 220 = h 220 := by rw [hm2, up_ne (by decide), F.1 220 (by decide) (by decide) (by decide) (by decide), up_ne (by decide)]
  have fr3 : ∀ j, j < 110 → m 220 j = h 220 j := fun j hj => by rw [G1 j (Or.inl hj), e220]
  have Wm : WdR m := by unfold WdR; rw [fr1 219 (by decide) (by decide) (by decide) (by decide) (by decide)]; exact W
  have C' : Cuts s n pos (m 217) (m 216) (m 218) t := by
    rw [G0 217 (by decide), G0 216 (by decide), G0 218 (by decide), hm2, up_ne (by decide), up_ne (by decide), up_ne (by decide)]; exact C
  have b2 : m 214 2 = 0 := by rw [G0 214 (by decide), hm2, up_nj (by decide)]; exact a2
  have b7 : m 214 7 = 0 := by rw [G0 214 (by decide), hm2, up_nj (by decide)]; exact a7
  have b8 : m 214 8 = 0 := by rw [G0 214 (by decide), hm2, up_nj (by decide)]; exact a8
  have b12 : m 214 12 = 0 := by rw [G0 214 (by decide), hm2, up_at]
  obtain ⟨K, A⟩ := cut_kr Lm Wm Tw C' b7 b8
  have R0 : RX m (zX h) := by
    refine ⟨?_, ?_, Or.inl ⟨rfl, rfl, b12⟩⟩
    · funext j
      show m 220 (110 + j) = if j = 3 then -1 else if j < 110 then 0 else h 220 (110 + j)
      by_cases e : j < 110
      · rw [G2 j e, if_pos e]
      · rw [if_neg (by omega), if_neg e, G1 _ (Or.inr (by omega)), e220]
    · funext j
      show m 222 (14 + j) = h 222 (14 + j)
      rw [fr1 222 (by decide) (by decide) (by decide) (by decide) (by decide)]
  have W0z : W0 (zX h).1 := by
    unfold W0
    rw [show (zX h).1 0 = 0 from rfl, show (zX h).1 1 = 0 from rfl, show (zX h).1 2 = 0 from rfl]
    decide
  have N1 := K.n1
  obtain ⟨Z, hZ⟩ : ∃ Z, Z = ntF s n 1000 0 (zX h) := ⟨_, rfl⟩
  rw [← hZ] at hQ
  -- the copies
  have good : ∀ (m3 : Mem), Frx m m3 → RX m3 Z.2 → m3 214 8 = 0 → Z.1 = 0 → V l (d + 35) 0 0 M_X11_net 0 0 52 Q [(2, 215), (9, 0)] [] SHP m3 := by
    intro m3 H R g8 hz
    have L3 := H.lay Lm
    refine S_X11_net_52 _ _ _ _ ?_; simp (disch := omega) only [B_X11_net_52, bi_0, x_ic, x_lc, x_ld, x_st, x_sl, x_inc, x_b32, x_b64, x_d32, x_d64, x_s64, x_un, x_lcmp, x_dup, x_pop, x_dup2, x_if, x_cmp, x_sw, swk, x_ald, x_ast, x_alen, x_getf, x_putf, x_inv, x_mm, x_copy, x_iret, x_lret, x_vret, ok1, pu, ct, rcv, rcs, ent0, List.getElem?_cons_zero, List.getElem?_cons_succ, List.getElem?_nil, List.set_cons_zero, List.set_cons_succ, List.take_succ_cons, List.take_zero, List.drop_succ_cons, List.drop_zero, List.reverse_cons, List.reverse_nil, List.nil_append, List.cons_append, List.length_cons, List.length_nil, true_and, and_true, and_self, ne_eq, not_true_eq_false, not_false_eq_true, reduceIte, true_or, or_true, false_or, or_false, Nat.reduceAdd, Nat.reduceSub, Nat.reduceMul, Nat.reduceLeDiff, Nat.reduceEqDiff, Nat.reduceLT, Nat.le_refl, Nat.zero_le, Int.reduceToNat, Int.reduceAdd, Int.reduceSub, Int.reduceMul, Int.reduceNeg, Int.reduceLT, Int.reduceLE, Int.reduceEq, Nat.zero_add, Nat.add_zero, Nat.reduceBEq, Nat.one_ne_zero, Nat.zero_ne_one, Nat.lt_irrefl, Nat.succ_ne_zero, w32_id, ixc, ixc2, Int.toNat_natCast, ob_214, g8]
    refine ⟨fun _ => ?_, fun y => y.elim⟩
    refine S_X11_net_64 _ _ _ _ ?_; simp (disch := omega) only [B_X11_net_64, bi_0, x_ic, x_lc, x_ld, x_st, x_sl, x_inc, x_b32, x_b64, x_d32, x_d64, x_s64, x_un, x_lcmp, x_dup, x_pop, x_dup2, x_if, x_cmp, x_sw, swk, x_ald, x_ast, x_alen, x_getf, x_putf, x_inv, x_mm, x_copy, x_iret, x_lret, x_vret, ok1, pu, ct, rcv, rcs, ent0, List.getElem?_cons_zero, List.getElem?_cons_succ, List.getElem?_nil, List.set_cons_zero, List.set_cons_succ, List.take_succ_cons, List.take_zero, List.drop_succ_cons, List.drop_zero, List.reverse_cons, List.reverse_nil, List.nil_append, List.cons_append, List.length_cons, List.length_nil, true_and, and_true, and_self, ne_eq, not_true_eq_false, not_false_eq_true, reduceIte, true_or, or_true, false_or, or_false, Nat.reduceAdd, Nat.reduceSub, Nat.reduceMul, Nat.reduceLeDiff, Nat.reduceEqDiff, Nat.reduceLT, Nat.le_refl, Nat.zero_le, Int.reduceToNat, Int.reduceAdd, Int.reduceSub, Int.reduceMul, Int.reduceNeg, Int.reduceLT, Int.reduceLE, Int.reduceEq, Nat.zero_add, Nat.add_zero, Nat.reduceBEq, Nat.one_ne_zero, Nat.zero_ne_one, Nat.lt_irrefl, Nat.succ_ne_zero, w32_id, ixc, ixc2, Int.toNat_natCast]
    refine V_jx (pc := 66) (fun k => [(2, 215), (0, (k : Int))]) (fun k m4 => (∀ i, i ≠ 220 → m4 i = m3 i) ∧ (∀ j, k ≤ j → m4 220 j = m3 220 j) ∧ ∀ j, j < k → m4 220 j = m3 220 (110 + j)) 110 (fun k m4 hk J ih => ?_) (fun m4 J => ?_) m3 ⟨fun _ _ => rfl, fun _ _ => rfl, fun j q => absurd q (by omega)⟩
    · obtain ⟨J0, J1, J2⟩ := J
      have a10 := ly_214_10 (Lay_c (c := 220) (by decide +kernel) L3 J0)
      have ix : (110 + (k : Int)).toNat = 110 + k := by omega
      refine S_X11_net_66 _ _ _ _ ?_; simp (disch := omega) only [B_X11_net_66, bi_0, x_ic, x_lc, x_ld, x_st, x_sl, x_inc, x_b32, x_b64, x_d32, x_d64, x_s64, x_un, x_lcmp, x_dup, x_pop, x_dup2, x_if, x_cmp, x_sw, swk, x_ald, x_ast, x_alen, x_getf, x_putf, x_inv, x_mm, x_copy, x_iret, x_lret, x_vret, ok1, pu, ct, rcv, rcs, ent0, List.getElem?_cons_zero, List.getElem?_cons_succ, List.getElem?_nil, List.set_cons_zero, List.set_cons_succ, List.take_succ_cons, List.take_zero, List.drop_succ_cons, List.drop_zero, List.reverse_cons, List.reverse_nil, List.nil_append, List.cons_append, List.length_cons, List.length_nil, true_and, and_true, and_self, ne_eq, not_true_eq_false, not_false_eq_true, reduceIte, true_or, or_true, false_or, or_false, Nat.reduceAdd, Nat.reduceSub, Nat.reduceMul, Nat.reduceLeDiff, Nat.reduceEqDiff, Nat.reduceLT, Nat.le_refl, Nat.zero_le, Int.reduceToNat, Int.reduceAdd, Int.reduceSub, Int.reduceMul, Int.reduceNeg, Int.reduceLT, Int.reduceLE, Int.reduceEq, Nat.zero_add, Nat.add_zero, Nat.reduceBEq, Nat.one_ne_zero, Nat.zero_ne_one, Nat.lt_irrefl, Nat.succ_ne_zero, w32_id, ixc, ixc2, Int.toNat_natCast, ob_214, a10, ln_220, ix]
      refine ⟨fun z => absurd z (by omega), fun _ => ⟨by omega, by omega, ?_⟩⟩
      refine ih _ ⟨fun i hi => by rw [up_ne hi]; exact J0 i hi, fun j hj => by rw [up_nj (by omega)]; exact J1 j (by omega), fun j hj => ?_⟩
      by_cases e : j = k
      · rw [e, up_at, J1 _ (by omega)]
      · rw [up_nj e]; exact J2 j (by omega)
    obtain ⟨J0, _, J2⟩ := J
    have L4 : Lay m4 := Lay_c (c := 220) (by decide +kernel) L3 J0
    refine S_X11_net_66 _ _ _ _ ?_; simp (disch := omega) only [B_X11_net_66, bi_0, x_ic, x_lc, x_ld, x_st, x_sl, x_inc, x_b32, x_b64, x_d32, x_d64, x_s64, x_un, x_lcmp, x_dup, x_pop, x_dup2, x_if, x_cmp, x_sw, swk, x_ald, x_ast, x_alen, x_getf, x_putf, x_inv, x_mm, x_copy, x_iret, x_lret, x_vret, ok1, pu, ct, rcv, rcs, ent0, List.getElem?_cons_zero, List.getElem?_cons_succ, List.getElem?_nil, List.set_cons_zero, List.set_cons_succ, List.take_succ_cons, List.take_zero, List.drop_succ_cons, List.drop_zero, List.reverse_cons, List.reverse_nil, List.nil_append, List.cons_append, List.length_cons, List.length_nil, true_and, and_true, and_self, ne_eq, not_true_eq_false, not_false_eq_true, reduceIte, true_or, or_true, false_or, or_false, Nat.reduceAdd, Nat.reduceSub, Nat.reduceMul, Nat.reduceLeDiff, Nat.reduceEqDiff, Nat.reduceLT, Nat.le_refl, Nat.zero_le, Int.reduceToNat, Int.reduceAdd, Int.reduceSub, Int.reduceMul, Int.reduceNeg, Int.reduceLT, Int.reduceLE, Int.reduceEq, Nat.zero_add, Nat.add_zero, Nat.reduceBEq, Nat.one_ne_zero, Nat.zero_ne_one, Nat.lt_irrefl, Nat.succ_ne_zero, w32_id, ixc, ixc2, Int.toNat_natCast]
    refine ⟨fun _ => ?_, fun z => absurd (by decide) z⟩
    refine S_X11_net_93 _ _ _ _ ?_; simp (disch := omega) only [B_X11_net_93, bi_0, x_ic, x_lc, x_ld, x_st, x_sl, x_inc, x_b32, x_b64, x_d32, x_d64, x_s64, x_un, x_lcmp, x_dup, x_pop, x_dup2, x_if, x_cmp, x_sw, swk, x_ald, x_ast, x_alen, x_getf, x_putf, x_inv, x_mm, x_copy, x_iret, x_lret, x_vret, ok1, pu, ct, rcv, rcs, ent0, List.getElem?_cons_zero, List.getElem?_cons_succ, List.getElem?_nil, List.set_cons_zero, List.set_cons_succ, List.take_succ_cons, List.take_zero, List.drop_succ_cons, List.drop_zero, List.reverse_cons, List.reverse_nil, List.nil_append, List.cons_append, List.length_cons, List.length_nil, true_and, and_true, and_self, ne_eq, not_true_eq_false, not_false_eq_true, reduceIte, true_or, or_true, false_or, or_false, Nat.reduceAdd, Nat.reduceSub, Nat.reduceMul, Nat.reduceLeDiff, Nat.reduceEqDiff, Nat.reduceLT, Nat.le_refl, Nat.zero_le, Int.reduceToNat, Int.reduceAdd, Int.reduceSub, Int.reduceMul, Int.reduceNeg, Int.reduceLT, Int.reduceLE, Int.reduceEq, Nat.zero_add, Nat.add_zero, Nat.reduceBEq, Nat.one_ne_zero, Nat.zero_ne_one, Nat.lt_irrefl, Nat.succ_ne_zero, w32_id, ixc, ixc2, Int.toNat_natCast]
    obtain ⟨c, hc, hc1⟩ : ∃ c : Nat, m4 214 12 = (c : Int) ∧ c ≤ 1001 := by
      rw [J0 214 (by decide)]
      rcases R.2.2 with x | x
      · exact ⟨0, x.2.2, by decide⟩
      · exact ⟨Z.2.2.2.2 + 1, x.2.2.1, by have := x.2.1; omega⟩
    refine V_jx (pc := 95) (fun k => [(2, 215), (0, (k : Int))]) (fun k m5 => (∀ i, i ≠ 221 → m5 i = m4 i) ∧ (∀ j, k ≤ j → m5 221 j = m4 221 j) ∧ ∀ j, j < k → m5 221 j = m4 221 (1100 + j)) c (fun k m5 hk J ih => ?_) (fun m5 J => ?_) m4 ⟨fun _ _ => rfl, fun _ _ => rfl, fun j q => absurd q (by omega)⟩
    · obtain ⟨J0, J1, J2⟩ := J
      have a11 := ly_214_11 (Lay_c (c := 221) (by decide +kernel) L4 J0)
      have a12 : m5 214 12 = (c : Int) := by rw [J0 214 (by decide)]; exact hc
      have ix : (1100 + (k : Int)).toNat = 1100 + k := by omega
      refine S_X11_net_95 _ _ _ _ ?_; simp (disch := omega) only [B_X11_net_95, bi_0, x_ic, x_lc, x_ld, x_st, x_sl, x_inc, x_b32, x_b64, x_d32, x_d64, x_s64, x_un, x_lcmp, x_dup, x_pop, x_dup2, x_if, x_cmp, x_sw, swk, x_ald, x_ast, x_alen, x_getf, x_putf, x_inv, x_mm, x_copy, x_iret, x_lret, x_vret, ok1, pu, ct, rcv, rcs, ent0, List.getElem?_cons_zero, List.getElem?_cons_succ, List.getElem?_nil, List.set_cons_zero, List.set_cons_succ, List.take_succ_cons, List.take_zero, List.drop_succ_cons, List.drop_zero, List.reverse_cons, List.reverse_nil, List.nil_append, List.cons_append, List.length_cons, List.length_nil, true_and, and_true, and_self, ne_eq, not_true_eq_false, not_false_eq_true, reduceIte, true_or, or_true, false_or, or_false, Nat.reduceAdd, Nat.reduceSub, Nat.reduceMul, Nat.reduceLeDiff, Nat.reduceEqDiff, Nat.reduceLT, Nat.le_refl, Nat.zero_le, Int.reduceToNat, Int.reduceAdd, Int.reduceSub, Int.reduceMul, Int.reduceNeg, Int.reduceLT, Int.reduceLE, Int.reduceEq, Nat.zero_add, Nat.add_zero, Nat.reduceBEq, Nat.one_ne_zero, Nat.zero_ne_one, Nat.lt_irrefl, Nat.succ_ne_zero, w32_id, ixc, ixc2, Int.toNat_natCast, ob_214, a11, a12, ln_221, ix]
      refine ⟨fun z => absurd z (by omega), fun _ => ⟨by omega, by omega, ?_⟩⟩
      refine ih _ ⟨fun i hi => by rw [up_ne hi]; exact J0 i hi, fun j hj => by rw [up_nj (by omega)]; exact J1 j (by omega), fun j hj => ?_⟩
      by_cases e : j = k
      · rw [e, up_at, J1 _ (by omega)]
      · rw [up_nj e]; exact J2 j (by omega)
    obtain ⟨I0, _, I2⟩ := J
    have L5 : Lay m5 := Lay_c (c := 221) (by decide +kernel) L4 I0
    have a12 : m5 214 12 = (c : Int) := by rw [I0 214 (by decide)]; exact hc
    refine S_X11_net_95 _ _ _ _ ?_; simp (disch := omega) only [B_X11_net_95, bi_0, x_ic, x_lc, x_ld, x_st, x_sl, x_inc, x_b32, x_b64, x_d32, x_d64, x_s64, x_un, x_lcmp, x_dup, x_pop, x_dup2, x_if, x_cmp, x_sw, swk, x_ald, x_ast, x_alen, x_getf, x_putf, x_inv, x_mm, x_copy, x_iret, x_lret, x_vret, ok1, pu, ct, rcv, rcs, ent0, List.getElem?_cons_zero, List.getElem?_cons_succ, List.getElem?_nil, List.set_cons_zero, List.set_cons_succ, List.take_succ_cons, List.take_zero, List.drop_succ_cons, List.drop_zero, List.reverse_cons, List.reverse_nil, List.nil_append, List.cons_append, List.length_cons, List.length_nil, true_and, and_true, and_self, ne_eq, not_true_eq_false, not_false_eq_true, reduceIte, true_or, or_true, false_or, or_false, Nat.reduceAdd, Nat.reduceSub, Nat.reduceMul, Nat.reduceLeDiff, Nat.reduceEqDiff, Nat.reduceLT, Nat.le_refl, Nat.zero_le, Int.reduceToNat, Int.reduceAdd, Int.reduceSub, Int.reduceMul, Int.reduceNeg, Int.reduceLT, Int.reduceLE, Int.reduceEq, Nat.zero_add, Nat.add_zero, Nat.reduceBEq, Nat.one_ne_zero, Nat.zero_ne_one, Nat.lt_irrefl, Nat.succ_ne_zero, w32_id, ixc, ixc2, Int.toNat_natCast, ob_214, a12]
    refine ⟨fun _ => ?_, fun z => absurd (Int.le_refl _) z⟩
    refine S_X11_net_125 _ _ _ _ ?_; simp (disch := omega) only [B_X11_net_125, bi_0, x_ic, x_lc, x_ld, x_st, x_sl, x_inc, x_b32, x_b64, x_d32, x_d64, x_s64, x_un, x_lcmp, x_dup, x_pop, x_dup2, x_if, x_cmp, x_sw, swk, x_ald, x_ast, x_alen, x_getf, x_putf, x_inv, x_mm, x_copy, x_iret, x_lret, x_vret, ok1, pu, ct, rcv, rcs, ent0, List.getElem?_cons_zero, List.getElem?_cons_succ, List.getElem?_nil, List.set_cons_zero, List.set_cons_succ, List.take_succ_cons, List.take_zero, List.drop_succ_cons, List.drop_zero, List.reverse_cons, List.reverse_nil, List.nil_append, List.cons_append, List.length_cons, List.length_nil, true_and, and_true, and_self, ne_eq, not_true_eq_false, not_false_eq_true, reduceIte, true_or, or_true, false_or, or_false, Nat.reduceAdd, Nat.reduceSub, Nat.reduceMul, Nat.reduceLeDiff, Nat.reduceEqDiff, Nat.reduceLT, Nat.le_refl, Nat.zero_le, Int.reduceToNat, Int.reduceAdd, Int.reduceSub, Int.reduceMul, Int.reduceNeg, Int.reduceLT, Int.reduceLE, Int.reduceEq, Nat.zero_add, Nat.add_zero, Nat.reduceBEq, Nat.one_ne_zero, Nat.zero_ne_one, Nat.lt_irrefl, Nat.succ_ne_zero, w32_id, ixc, ixc2, Int.toNat_natCast]
    refine V_jx (pc := 127) (fun k => [(2, 215), (0, (k : Int))]) (fun k m6 => (∀ i, i ≠ 222 → m6 i = m5 i) ∧ (∀ j, k ≤ j → m6 222 j = m5 222 j) ∧ ∀ j, j < k → m6 222 j = m5 222 (14 + j)) 14 (fun k m6 hk J ih => ?_) (fun m6 J => ?_) m5 ⟨fun _ _ => rfl, fun _ _ => rfl, fun j q => absurd q (by omega)⟩
    · obtain ⟨J0, J1, J2⟩ := J
      have a13 := ly_214_13 (Lay_c (c := 222) (by decide +kernel) L5 J0)
      have ix : (14 + (k : Int)).toNat = 14 + k := by omega
      refine S_X11_net_127 _ _ _ _ ?_; simp (disch := omega) only [B_X11_net_127, bi_0, x_ic, x_lc, x_ld, x_st, x_sl, x_inc, x_b32, x_b64, x_d32, x_d64, x_s64, x_un, x_lcmp, x_dup, x_pop, x_dup2, x_if, x_cmp, x_sw, swk, x_ald, x_ast, x_alen, x_getf, x_putf, x_inv, x_mm, x_copy, x_iret, x_lret, x_vret, ok1, pu, ct, rcv, rcs, ent0, List.getElem?_cons_zero, List.getElem?_cons_succ, List.getElem?_nil, List.set_cons_zero, List.set_cons_succ, List.take_succ_cons, List.take_zero, List.drop_succ_cons, List.drop_zero, List.reverse_cons, List.reverse_nil, List.nil_append, List.cons_append, List.length_cons, List.length_nil, true_and, and_true, and_self, ne_eq, not_true_eq_false, not_false_eq_true, reduceIte, true_or, or_true, false_or, or_false, Nat.reduceAdd, Nat.reduceSub, Nat.reduceMul, Nat.reduceLeDiff, Nat.reduceEqDiff, Nat.reduceLT, Nat.le_refl, Nat.zero_le, Int.reduceToNat, Int.reduceAdd, Int.reduceSub, Int.reduceMul, Int.reduceNeg, Int.reduceLT, Int.reduceLE, Int.reduceEq, Nat.zero_add, Nat.add_zero, Nat.reduceBEq, Nat.one_ne_zero, Nat.zero_ne_one, Nat.lt_irrefl, Nat.succ_ne_zero, w32_id, ixc, ixc2, Int.toNat_natCast, ob_214, a13, ln_222, ix]
      refine ⟨fun z => absurd z (by omega), fun _ => ⟨by omega, by omega, ?_⟩⟩
      refine ih _ ⟨fun i hi => by rw [up_ne hi]; exact J0 i hi, fun j hj => by rw [up_nj (by omega)]; exact J1 j (by omega), fun j hj => ?_⟩
      by_cases e : j = k
      · rw [e, up_at, J1 _ (by omega)]
      · rw [up_nj e]; exact J2 j (by omega)
    obtain ⟨H0, _, H2⟩ := J
    have L6 : Lay m6 := Lay_c (c := 222) (by decide +kernel) L5 H0
    refine S_X11_net_127 _ _ _ _ ?_; simp (disch := omega) only [B_X11_net_127, bi_0, x_ic, x_lc, x_ld, x_st, x_sl, x_inc, x_b32, x_b64, x_d32, x_d64, x_s64, x_un, x_lcmp, x_dup, x_pop, x_dup2, x_if, x_cmp, x_sw, swk, x_ald, x_ast, x_alen, x_getf, x_putf, x_inv, x_mm, x_copy, x_iret, x_lret, x_vret, ok1, pu, ct, rcv, rcs, ent0, List.getElem?_cons_zero, List.getElem?_cons_succ, List.getElem?_nil, List.set_cons_zero, List.set_cons_succ, List.take_succ_cons, List.take_zero, List.drop_succ_cons, List.drop_zero, List.reverse_cons, List.reverse_nil, List.nil_append, List.cons_append, List.length_cons, List.length_nil, true_and, and_true, and_self, ne_eq, not_true_eq_false, not_false_eq_true, reduceIte, true_or, or_true, false_or, or_false, Nat.reduceAdd, Nat.reduceSub, Nat.reduceMul, Nat.reduceLeDiff, Nat.reduceEqDiff, Nat.reduceLT, Nat.le_refl, Nat.zero_le, Int.reduceToNat, Int.reduceAdd, Int.reduceSub, Int.reduceMul, Int.reduceNeg, Int.reduceLT, Int.reduceLE, Int.reduceEq, Nat.zero_add, Nat.add_zero, Nat.reduceBEq, Nat.one_ne_zero, Nat.zero_ne_one, Nat.lt_irrefl, Nat.succ_ne_zero, w32_id, ixc, ixc2, Int.toNat_natCast]
    refine ⟨fun _ => ?_, fun z => absurd (by decide) z⟩
    refine S_X11_net_154 _ _ _ _ ?_; simp (disch := omega) only [B_X11_net_154, bi_0, x_ic, x_lc, x_ld, x_st, x_sl, x_inc, x_b32, x_b64, x_d32, x_d64, x_s64, x_un, x_lcmp, x_dup, x_pop, x_dup2, x_if, x_cmp, x_sw, swk, x_ald, x_ast, x_alen, x_getf, x_putf, x_inv, x_mm, x_copy, x_iret, x_lret, x_vret, ok1, pu, ct, rcv, rcs, ent0, List.getElem?_cons_zero, List.getElem?_cons_succ, List.getElem?_nil, List.set_cons_zero, List.set_cons_succ, List.take_succ_cons, List.take_zero, List.drop_succ_cons, List.drop_zero, List.reverse_cons, List.reverse_nil, List.nil_append, List.cons_append, List.length_cons, List.length_nil, true_and, and_true, and_self, ne_eq, not_true_eq_false, not_false_eq_true, reduceIte, true_or, or_true, false_or, or_false, Nat.reduceAdd, Nat.reduceSub, Nat.reduceMul, Nat.reduceLeDiff, Nat.reduceEqDiff, Nat.reduceLT, Nat.le_refl, Nat.zero_le, Int.reduceToNat, Int.reduceAdd, Int.reduceSub, Int.reduceMul, Int.reduceNeg, Int.reduceLT, Int.reduceLE, Int.reduceEq, Nat.zero_add, Nat.add_zero, Nat.reduceBEq, Nat.one_ne_zero, Nat.zero_ne_one, Nat.lt_irrefl, Nat.succ_ne_zero, w32_id, ixc, ixc2, Int.toNat_natCast, ob_214]
    refine Cl.imp (r_begins (l := l) (d := d + 32) L6) (fun r sh' m7 q => ?_)
    obtain ⟨rfl, rfl, B0, B1, B2, B3, B4, B5, B6, B7, B8, B9⟩ := q
    (try simp (disch := omega) only [bi_0, x_ic, x_lc, x_ld, x_st, x_sl, x_inc, x_b32, x_b64, x_d32, x_d64, x_s64, x_un, x_lcmp, x_dup, x_pop, x_dup2, x_if, x_cmp, x_sw, swk, x_ald, x_ast, x_alen, x_getf, x_putf, x_inv, x_mm, x_copy, x_iret, x_lret, x_vret, ok1, pu, ct, rcv, rcs, ent0, List.getElem?_cons_zero, List.getElem?_cons_succ, List.getElem?_nil, List.set_cons_zero, List.set_cons_succ, List.take_succ_cons, List.take_zero, List.drop_succ_cons, List.drop_zero, List.reverse_cons, List.reverse_nil, List.nil_append, List.cons_append, List.length_cons, List.length_nil, true_and, and_true, and_self, ne_eq, not_true_eq_false, not_false_eq_true, reduceIte, true_or, or_true, false_or, or_false, Nat.reduceAdd, Nat.reduceSub, Nat.reduceMul, Nat.reduceLeDiff, Nat.reduceEqDiff, Nat.reduceLT, Nat.le_refl, Nat.zero_le, Int.reduceToNat, Int.reduceAdd, Int.reduceSub, Int.reduceMul, Int.reduceNeg, Int.reduceLT, Int.reduceLE, Int.reduceEq, Nat.zero_add, Nat.add_zero, Nat.reduceBEq, Nat.one_ne_zero, Nat.zero_ne_one, Nat.lt_irrefl, Nat.succ_ne_zero, w32_id, ixc, ixc2, Int.toNat_natCast])
    have ch : ∀ i, i ≠ 220 → i ≠ 221 → i ≠ 222 → m6 i = m3 i := fun i p1 p2 p3 => by rw [H0 i p3, I0 i p2, J0 i p1]
    have L7 : Lay m7 := by
      refine Lay_fr L6 (fun q hq => ?_)
      have hn : LAYL.all (fun q => if q.1 = 214 then !(q.2.1 == 19) else !(q.1 == 223) && !(q.1 == 226) && !(q.1 == 227)) = true := by decide +kernel
      have h1 := List.all_eq_true.mp hn q hq
      by_cases e : q.1 = 214
      · rw [if_pos e] at h1
        rw [e, B1 _ (by simpa using h1)]
      · rw [if_neg e] at h1
        simp at h1
        rw [B0 q.1 e h1.1.1 h1.1.2 h1.2]
    have fj : ∀ j, j ≠ 19 → m7 214 j = m3 214 j := fun j hj => by rw [B1 j hj, ch 214 (by decide) (by decide) (by decide)]
    refine hQ _ _ _ ⟨rfl, L7, ?_, hz.symm, fun x => absurd rfl x, fun _ => ⟨fun i p1 p2 p3 p4 p5 p6 p7 p8 p9 p10 => ?_, fun j p1 p2 p3 p4 p5 p6 p7 => ?_, fun j hj => ?_, fun j hj => ?_, ?_, fun j hj => ?_, B4, B5, B6, B7, B8, B9⟩⟩
    · rw [fj 2 (by decide), H.2.1 2 (by decide) (by decide) (by decide)]; exact b2
    · rw [B0 i p1 p8 p9 p10, ch i p5 p6 p7, H.1 i p1 p5 p6 p7, fr1 i p1 p2 p3 p4 p5]
    · rw [fj j p7, H.2.1 j p4 p5 p6, fr2 j p1 p2 p3 p4 p5 p6]
    · rw [B0 220 (by decide) (by decide) (by decide) (by decide), H0 220 (by decide), I0 220 (by decide), J2 j hj]
      exact congrFun R.1 j
    · rw [B0 222 (by decide) (by decide) (by decide) (by decide), H2 j hj, I0 222 (by decide), J0 222 (by decide)]
      exact congrFun R.2.1 j
    · rw [B0 221 (by decide) (by decide) (by decide) (by decide), H0 221 (by decide)]
      rcases R.2.2 with x | x
      · exact Or.inl ⟨x.1, x.2.1⟩
      · have ec : c = Z.2.2.2.2 + 1 := by
          have := x.2.2.1
          rw [← J0 214 (by decide), hc] at this
          omega
        refine Or.inr ⟨x.1, x.2.1, fun i hi => ?_, ?_⟩
        · rw [I2 i (by omega), J0 221 (by decide)]; exact x.2.2.2.1 i hi
        · rw [I2 _ (by omega), J0 221 (by decide)]; exact x.2.2.2.2
    · rw [B3 j hj, ch 226 (by decide) (by decide) (by decide), H.1 226 (by decide) (by decide) (by decide) (by decide), fr1 226 (by decide) (by decide) (by decide) (by decide) (by decide)]
  -- the lines
  have key : ∀ (g i : Nat) (X : NX) (m3 : Mem), t ≤ i + g → Frx m m3 → AtR m3 t i 0 → RX m3 X → W0 X.1 → ntF s n g i X = Z → V l (d + 35) 0 0 M_X11_net 0 0 20 Q [(2, 215), (9, 0)] [] SHP m3 := by
    intro g
    induction g with
    | zero =>
      intro i X m3 hN H A3 R W eZ
      have K3 := H.kr K
      have c7 := A3.1
      have c8 := A3.2.2
      have iN := A3.2.1
      have it : i = t := by omega
      have r216 := (K3.2.2.2.2.1 i iN).2.1
      have e0 : tkSo s n i = 0 := by rw [it]; exact K3.2.2.2.2.2.2
      rw [ntF] at eZ
      rw [e0] at r216
      refine S_X11_net_20 _ _ _ _ ?_; simp (disch := omega) only [B_X11_net_20, bi_0, x_ic, x_lc, x_ld, x_st, x_sl, x_inc, x_b32, x_b64, x_d32, x_d64, x_s64, x_un, x_lcmp, x_dup, x_pop, x_dup2, x_if, x_cmp, x_sw, swk, x_ald, x_ast, x_alen, x_getf, x_putf, x_inv, x_mm, x_copy, x_iret, x_lret, x_vret, ok1, pu, ct, rcv, rcs, ent0, List.getElem?_cons_zero, List.getElem?_cons_succ, List.getElem?_nil, List.set_cons_zero, List.set_cons_succ, List.take_succ_cons, List.take_zero, List.drop_succ_cons, List.drop_zero, List.reverse_cons, List.reverse_nil, List.nil_append, List.cons_append, List.length_cons, List.length_nil, true_and, and_true, and_self, ne_eq, not_true_eq_false, not_false_eq_true, reduceIte, true_or, or_true, false_or, or_false, Nat.reduceAdd, Nat.reduceSub, Nat.reduceMul, Nat.reduceLeDiff, Nat.reduceEqDiff, Nat.reduceLT, Nat.le_refl, Nat.zero_le, Int.reduceToNat, Int.reduceAdd, Int.reduceSub, Int.reduceMul, Int.reduceNeg, Int.reduceLT, Int.reduceLE, Int.reduceEq, Nat.zero_add, Nat.add_zero, Nat.reduceBEq, Nat.one_ne_zero, Nat.zero_ne_one, Nat.lt_irrefl, Nat.succ_ne_zero, w32_id, ixc, ixc2, Int.toNat_natCast, ob_214, c7, c8, ly_214_4 K3.1, ln_216, r216]
      refine ⟨fun _ => ⟨by omega, fun _ => ?_, fun y => y.elim⟩, fun y => y.elim⟩
      exact good m3 H (by rw [← eZ]; exact R) c8 (by rw [← eZ])
    | succ g ih =>
      intro i X m3 hN H A3 R W eZ
      have K3 := H.kr K
      have c7 := A3.1
      have c8 := A3.2.2
      have iN := A3.2.1
      have r216 := (K3.2.2.2.2.1 i iN).2.1
      rw [ntF] at eZ
      refine S_X11_net_20 _ _ _ _ ?_; simp (disch := omega) only [B_X11_net_20, bi_0, x_ic, x_lc, x_ld, x_st, x_sl, x_inc, x_b32, x_b64, x_d32, x_d64, x_s64, x_un, x_lcmp, x_dup, x_pop, x_dup2, x_if, x_cmp, x_sw, swk, x_ald, x_ast, x_alen, x_getf, x_putf, x_inv, x_mm, x_copy, x_iret, x_lret, x_vret, ok1, pu, ct, rcv, rcs, ent0, List.getElem?_cons_zero, List.getElem?_cons_succ, List.getElem?_nil, List.set_cons_zero, List.set_cons_succ, List.take_succ_cons, List.take_zero, List.drop_succ_cons, List.drop_zero, List.reverse_cons, List.reverse_nil, List.nil_append, List.cons_append, List.length_cons, List.length_nil, true_and, and_true, and_self, ne_eq, not_true_eq_false, not_false_eq_true, reduceIte, true_or, or_true, false_or, or_false, Nat.reduceAdd, Nat.reduceSub, Nat.reduceMul, Nat.reduceLeDiff, Nat.reduceEqDiff, Nat.reduceLT, Nat.le_refl, Nat.zero_le, Int.reduceToNat, Int.reduceAdd, Int.reduceSub, Int.reduceMul, Int.reduceNeg, Int.reduceLT, Int.reduceLE, Int.reduceEq, Nat.zero_add, Nat.add_zero, Nat.reduceBEq, Nat.one_ne_zero, Nat.zero_ne_one, Nat.lt_irrefl, Nat.succ_ne_zero, w32_id, ixc, ixc2, Int.toNat_natCast, ob_214, c7, c8, ly_214_4 K3.1, ln_216, r216]
      refine ⟨fun _ => ⟨by omega, fun z => ?_, fun z => ?_⟩, fun y => y.elim⟩
      · rw [iF_t z] at eZ
        exact good m3 H (by rw [← eZ]; exact R) c8 (by rw [← eZ])
      rw [iF_f z] at eZ
      refine Cl.imp (u_readLine (l := l) (d := d) K3 A3 (K3.lt iN z) R W) (fun r sh' m4 q => ?_)
      obtain ⟨rfl, rfl, H4, A4, q4⟩ := q
      have K4 := H4.kr K3
      (try simp (disch := omega) only [bi_0, x_ic, x_lc, x_ld, x_st, x_sl, x_inc, x_b32, x_b64, x_d32, x_d64, x_s64, x_un, x_lcmp, x_dup, x_pop, x_dup2, x_if, x_cmp, x_sw, swk, x_ald, x_ast, x_alen, x_getf, x_putf, x_inv, x_mm, x_copy, x_iret, x_lret, x_vret, ok1, pu, ct, rcv, rcs, ent0, List.getElem?_cons_zero, List.getElem?_cons_succ, List.getElem?_nil, List.set_cons_zero, List.set_cons_succ, List.take_succ_cons, List.take_zero, List.drop_succ_cons, List.drop_zero, List.reverse_cons, List.reverse_nil, List.nil_append, List.cons_append, List.length_cons, List.length_nil, true_and, and_true, and_self, ne_eq, not_true_eq_false, not_false_eq_true, reduceIte, true_or, or_true, false_or, or_false, Nat.reduceAdd, Nat.reduceSub, Nat.reduceMul, Nat.reduceLeDiff, Nat.reduceEqDiff, Nat.reduceLT, Nat.le_refl, Nat.zero_le, Int.reduceToNat, Int.reduceAdd, Int.reduceSub, Int.reduceMul, Int.reduceNeg, Int.reduceLT, Int.reduceLE, Int.reduceEq, Nat.zero_add, Nat.add_zero, Nat.reduceBEq, Nat.one_ne_zero, Nat.zero_ne_one, Nat.lt_irrefl, Nat.succ_ne_zero, w32_id, ixc, ixc2, Int.toNat_natCast, ob_214])
      refine Cl.imp (u_takeSign (l := l) (d := d + 32) K4 A4 59) (fun r sh' m5 q => ?_)
      obtain ⟨rfl, rfl, H5, A5⟩ := q
      have HH := H.trans (H4.trans H5.rx)
      rw [show orF (lnX s n X i).1 (snU s n (lnX s n X i).2.1 59) = lsF s n X i from rfl] at A5
      (try simp (disch := omega) only [bi_0, x_ic, x_lc, x_ld, x_st, x_sl, x_inc, x_b32, x_b64, x_d32, x_d64, x_s64, x_un, x_lcmp, x_dup, x_pop, x_dup2, x_if, x_cmp, x_sw, swk, x_ald, x_ast, x_alen, x_getf, x_putf, x_inv, x_mm, x_copy, x_iret, x_lret, x_vret, ok1, pu, ct, rcv, rcs, ent0, List.getElem?_cons_zero, List.getElem?_cons_succ, List.getElem?_nil, List.set_cons_zero, List.set_cons_succ, List.take_succ_cons, List.take_zero, List.drop_succ_cons, List.drop_zero, List.reverse_cons, List.reverse_nil, List.nil_append, List.cons_append, List.length_cons, List.length_nil, true_and, and_true, and_self, ne_eq, not_true_eq_false, not_false_eq_true, reduceIte, true_or, or_true, false_or, or_false, Nat.reduceAdd, Nat.reduceSub, Nat.reduceMul, Nat.reduceLeDiff, Nat.reduceEqDiff, Nat.reduceLT, Nat.le_refl, Nat.zero_le, Int.reduceToNat, Int.reduceAdd, Int.reduceSub, Int.reduceMul, Int.reduceNeg, Int.reduceLT, Int.reduceLE, Int.reduceEq, Nat.zero_add, Nat.add_zero, Nat.reduceBEq, Nat.one_ne_zero, Nat.zero_ne_one, Nat.lt_irrefl, Nat.succ_ne_zero, w32_id, ixc, ixc2, Int.toNat_natCast])
      by_cases e : lsF s n X i = 0
      · rw [iF_t e] at eZ
        rw [e] at A5
        have z1 := (orF_z.mp e).1
        obtain ⟨q5, q6⟩ := q4 z1
        exact ih _ _ m5 (by omega) HH A5.at0 (q5.fat H5) (W0_ln W z1) eZ
      · rw [iF_f e] at eZ
        have d8 := A5.1
        have d0 := A5.2.1
        refine S_X11_net_20 _ _ _ _ ?_; simp (disch := omega) only [B_X11_net_20, bi_0, x_ic, x_lc, x_ld, x_st, x_sl, x_inc, x_b32, x_b64, x_d32, x_d64, x_s64, x_un, x_lcmp, x_dup, x_pop, x_dup2, x_if, x_cmp, x_sw, swk, x_ald, x_ast, x_alen, x_getf, x_putf, x_inv, x_mm, x_copy, x_iret, x_lret, x_vret, ok1, pu, ct, rcv, rcs, ent0, List.getElem?_cons_zero, List.getElem?_cons_succ, List.getElem?_nil, List.set_cons_zero, List.set_cons_succ, List.take_succ_cons, List.take_zero, List.drop_succ_cons, List.drop_zero, List.reverse_cons, List.reverse_nil, List.nil_append, List.cons_append, List.length_cons, List.length_nil, true_and, and_true, and_self, ne_eq, not_true_eq_false, not_false_eq_true, reduceIte, true_or, or_true, false_or, or_false, Nat.reduceAdd, Nat.reduceSub, Nat.reduceMul, Nat.reduceLeDiff, Nat.reduceEqDiff, Nat.reduceLT, Nat.le_refl, Nat.zero_le, Int.reduceToNat, Int.reduceAdd, Int.reduceSub, Int.reduceMul, Int.reduceNeg, Int.reduceLT, Int.reduceLE, Int.reduceEq, Nat.zero_add, Nat.add_zero, Nat.reduceBEq, Nat.one_ne_zero, Nat.zero_ne_one, Nat.lt_irrefl, Nat.succ_ne_zero, w32_id, ixc, ixc2, Int.toNat_natCast, ob_214, d8]
        refine ⟨fun x => absurd x e, fun _ => ?_⟩
        refine S_X11_net_52 _ _ _ _ ?_; simp (disch := omega) only [B_X11_net_52, bi_0, x_ic, x_lc, x_ld, x_st, x_sl, x_inc, x_b32, x_b64, x_d32, x_d64, x_s64, x_un, x_lcmp, x_dup, x_pop, x_dup2, x_if, x_cmp, x_sw, swk, x_ald, x_ast, x_alen, x_getf, x_putf, x_inv, x_mm, x_copy, x_iret, x_lret, x_vret, ok1, pu, ct, rcv, rcs, ent0, List.getElem?_cons_zero, List.getElem?_cons_succ, List.getElem?_nil, List.set_cons_zero, List.set_cons_succ, List.take_succ_cons, List.take_zero, List.drop_succ_cons, List.drop_zero, List.reverse_cons, List.reverse_nil, List.nil_append, List.cons_append, List.length_cons, List.length_nil, true_and, and_true, and_self, ne_eq, not_true_eq_false, not_false_eq_true, reduceIte, true_or, or_true, false_or, or_false, Nat.reduceAdd, Nat.reduceSub, Nat.reduceMul, Nat.reduceLeDiff, Nat.reduceEqDiff, Nat.reduceLT, Nat.le_refl, Nat.zero_le, Int.reduceToNat, Int.reduceAdd, Int.reduceSub, Int.reduceMul, Int.reduceNeg, Int.reduceLT, Int.reduceLE, Int.reduceEq, Nat.zero_add, Nat.add_zero, Nat.reduceBEq, Nat.one_ne_zero, Nat.zero_ne_one, Nat.lt_irrefl, Nat.succ_ne_zero, w32_id, ixc, ixc2, Int.toNat_natCast, ob_214, d8]
        refine ⟨fun x => absurd x (by omega), fun _ => ?_⟩
        refine hQ _ _ _ ⟨rfl, HH.lay Lm, ?_, by rw [← eZ], fun _ => ⟨fun i p1 p2 p3 p4 p5 p6 p7 => ?_, fun j p1 p2 p3 p4 p5 p6 => ?_, fun j hj => ?_, fun j hj => ?_, fun j hj => ?_⟩, fun x => absurd x e⟩
        · rw [HH.2.1 2 (by decide) (by decide) (by decide)]; exact b2
        · rw [HH.1 i p1 p5 p6 p7, fr1 i p1 p2 p3 p4 p5]
        · rw [HH.2.1 j p4 p5 p6, fr2 j p1 p2 p3 p4 p5 p6]
        · rw [HH.2.2.1 j hj, fr3 j hj]
        · rw [HH.2.2.2.1 j hj, fr1 221 (by decide) (by decide) (by decide) (by decide) (by decide)]
        · rw [HH.2.2.2.2 j hj, fr1 222 (by decide) (by decide) (by decide) (by decide) (by decide)]
  (try simp (disch := omega) only [bi_0, x_ic, x_lc, x_ld, x_st, x_sl, x_inc, x_b32, x_b64, x_d32, x_d64, x_s64, x_un, x_lcmp, x_dup, x_pop, x_dup2, x_if, x_cmp, x_sw, swk, x_ald, x_ast, x_alen, x_getf, x_putf, x_inv, x_mm, x_copy, x_iret, x_lret, x_vret, ok1, pu, ct, rcv, rcs, ent0, List.getElem?_cons_zero, List.getElem?_cons_succ, List.getElem?_nil, List.set_cons_zero, List.set_cons_succ, List.take_succ_cons, List.take_zero, List.drop_succ_cons, List.drop_zero, List.reverse_cons, List.reverse_nil, List.nil_append, List.cons_append, List.length_cons, List.length_nil, true_and, and_true, and_self, ne_eq, not_true_eq_false, not_false_eq_true, reduceIte, true_or, or_true, false_or, or_false, Nat.reduceAdd, Nat.reduceSub, Nat.reduceMul, Nat.reduceLeDiff, Nat.reduceEqDiff, Nat.reduceLT, Nat.le_refl, Nat.zero_le, Int.reduceToNat, Int.reduceAdd, Int.reduceSub, Int.reduceMul, Int.reduceNeg, Int.reduceLT, Int.reduceLE, Int.reduceEq, Nat.zero_add, Nat.add_zero, Nat.reduceBEq, Nat.one_ne_zero, Nat.zero_ne_one, Nat.lt_irrefl, Nat.succ_ne_zero, w32_id, ixc, ixc2, Int.toNat_natCast])
  exact key 1000 0 (zX h) m (by omega) Frx.rfl A R0 W0z hZ.symm
end RNU

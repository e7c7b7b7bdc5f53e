/-! the reference: a net being read -/
/-- as it was, but what is being read -/
def Frx (h h' : Mem) : Prop := (∀ i, i ≠ 214 → i ≠ 220 → i ≠ 221 → i ≠ 222 → h' i = h i) ∧ (∀ j, j ≠ 7 → j ≠ 8 → j ≠ 12 → h' 214 j = h 214 j) ∧ (∀ j, j < 110 → h' 220 j = h 220 j) ∧ (∀ j, j < 1100 → h' 221 j = h 221 j) ∧ ∀ j, j < 14 → h' 222 j = h 222 j
theorem Frx.rfl {h : Mem} : Frx h h := ⟨fun _ _ _ _ _ => Eq.refl _, fun _ _ _ _ => Eq.refl _, fun _ _ => Eq.refl _, fun _ _ => Eq.refl _, fun _ _ => Eq.refl _⟩
theorem Frx.trans {h h1 h2 : Mem} (a : Frx h h1) (b : Frx h1 h2) : Frx h h2 := ⟨fun i p q r u => (b.1 i p q r u).trans (a.1 i p q r u), fun j p q r => (b.2.1 j p q r).trans (a.2.1 j p q r), fun j p => (b.2.2.1 j p).trans (a.2.2.1 j p), fun j p => (b.2.2.2.1 j p).trans (a.2.2.2.1 j p), fun j p => (b.2.2.2.2 j p).trans (a.2.2.2.2 j p)⟩
theorem Fat.rx {h h' : Mem} (a : Fat h h') : Frx h h' := ⟨fun i p _ _ _ => a.1 i p, fun j p q _ => a.2 j p q, fun j _ => by rw [a.1 220 (by decide)], fun j _ => by rw [a.1 221 (by decide)], fun j _ => by rw [a.1 222 (by decide)]⟩
theorem Frx_row {h : Mem} {j : Nat} {v : Int} (hj : 110 ≤ j) : Frx h (up h 220 j v) := ⟨fun i _ p _ _ => up_ne p, fun j _ _ _ => by rw [up_ne (by decide)], fun q hq => up_nj (by omega), fun q _ => by rw [up_ne (by decide)], fun q _ => by rw [up_ne (by decide)]⟩
theorem Frx_cd {h : Mem} {j : Nat} {v : Int} (hj : 1100 ≤ j) : Frx h (up h 221 j v) := ⟨fun i _ _ p _ => up_ne p, fun j _ _ _ => by rw [up_ne (by decide)], fun q _ => by rw [up_ne (by decide)], fun q hq => up_nj (by omega), fun q _ => by rw [up_ne (by decide)]⟩
theorem Frx_nm {h : Mem} {j : Nat} {v : Int} (hj : 14 ≤ j) : Frx h (up h 222 j v) := ⟨fun i _ _ _ p => up_ne p, fun j _ _ _ => by rw [up_ne (by decide)], fun q _ => by rw [up_ne (by decide)], fun q _ => by rw [up_ne (by decide)], fun q hq => up_nj (by omega)⟩
theorem Frx_12 {h : Mem} {v : Int} : Frx h (up h 214 12 v) := ⟨fun i p _ _ _ => up_ne p, fun j _ _ p => up_nj p, fun q _ => by rw [up_ne (by decide)], fun q _ => by rw [up_ne (by decide)], fun q _ => by rw [up_ne (by decide)]⟩
theorem Frx.lay {h h' : Mem} (f : Frx h h') (L : Lay h) : Lay h' := by
  refine Lay_fr L (fun q hq => ?_)
  have hn : LAYL.all (fun q => if q.1 = 214 then !(q.2.1 == 7) && !(q.2.1 == 8) && !(q.2.1 == 12) else !(q.1 == 220) && !(q.1 == 221) && !(q.1 == 222)) = true := by decide +kernel
  have h1 := List.all_eq_true.mp hn q hq
  by_cases e : q.1 = 214
  · rw [if_pos e] at h1
    simp at h1
    rw [e]; exact f.2.1 _ h1.1.1 h1.1.2 h1.2
  · rw [if_neg e] at h1
    simp at h1
    rw [f.1 q.1 e h1.1.1 h1.1.2 h1.2]
theorem Frx.kr {h h' : Mem} {s : Nat → Int} {n N : Nat} (f : Frx h h') (K : KR h s n N) : KR h' s n N := by
  obtain ⟨L, W, r⟩ := K
  refine ⟨f.lay L, ?_, ?_⟩
  · unfold WdR; rw [f.1 219 (by decide) (by decide) (by decide) (by decide)]; exact W
  · rw [f.1 216 (by decide) (by decide) (by decide) (by decide), f.1 217 (by decide) (by decide) (by decide) (by decide), f.1 218 (by decide) (by decide) (by decide) (by decide)]; exact r
def rowOf (h : Mem) : Nat → Int := fun j => h 220 (110 + j)
def nmOf (h : Mem) : Nat → Int := fun j => h 222 (14 + j)
theorem rowOf_up {h : Mem} {j k : Nat} {v : Int} (e : k = 110 + j) : rowOf (up h 220 k v) = ru (rowOf h) j v := by
  funext q
  unfold rowOf ru
  by_cases x : q = j
  · rw [if_pos x, x, e]; exact up_at
  · rw [if_neg x]; exact up_nj (by omega)
theorem rowOf_ne {h : Mem} {a j : Nat} {v : Int} (e : a ≠ 220) : rowOf (up h a j v) = rowOf h := by unfold rowOf; rw [up_ne (fun x => e x.symm)]
theorem nmOf_up {h : Mem} {j k : Nat} {v : Int} (e : k = 14 + j) : nmOf (up h 222 k v) = ru (nmOf h) j v := by
  funext q
  unfold nmOf ru
  by_cases x : q = j
  · rw [if_pos x, x, e]; exact up_at
  · rw [if_neg x]; exact up_nj (by omega)
theorem nmOf_ne {h : Mem} {a j : Nat} {v : Int} (e : a ≠ 222) : nmOf (up h a j v) = nmOf h := by unfold nmOf; rw [up_ne (fun x => e x.symm)]
theorem rowOf_cg {h h' : Mem} (e : h' 220 = h 220) : rowOf h' = rowOf h := by unfold rowOf; rw [e]
theorem nmOf_cg {h h' : Mem} (e : h' 222 = h 222) : nmOf h' = nmOf h := by unfold nmOf; rw [e]
theorem naF_nm {h : Mem} {v : Int} {a m : Nat} : naF (h 222) v (14 + a) m = naF (nmOf h) v a m := naF_cg (fun k _ => by show h 222 (14 + a + k) = h 222 (14 + (a + k)); rw [Nat.add_assoc])
/-- the row and the names; words of the law untouched -/
def Smx (h h' : Mem) : Prop := h' 221 = h 221 ∧ h' 214 12 = h 214 12
theorem Smx.rfl {h : Mem} : Smx h h := ⟨Eq.refl _, Eq.refl _⟩
theorem Smx.trans {h h1 h2 : Mem} (a : Smx h h1) (b : Smx h1 h2) : Smx h h2 := ⟨b.1.trans a.1, b.2.trans a.2⟩
theorem Fat.sm {h h' : Mem} (a : Fat h h') : Smx h h' := ⟨a.1 221 (by decide), a.2 12 (by decide) (by decide)⟩
theorem Fat.row {h h' : Mem} (a : Fat h h') : rowOf h' = rowOf h := rowOf_cg (a.1 220 (by decide))
theorem Fat.nm {h h' : Mem} (a : Fat h h') : nmOf h' = nmOf h := nmOf_cg (a.1 222 (by decide))
def W0 (row : Nat → Int) : Prop := (0 ≤ row 0 ∧ row 0 ≤ 6) ∧ (0 ≤ row 1 ∧ row 1 ≤ 4) ∧ (0 ≤ row 2 ∧ row 2 ≤ 4)
theorem tdU_0 {s : Nat → Int} {n i a m : Nat} {nm : Nat → Int} (hm : m ≤ 6) : tdU s n nm i a m (bitP 0) = tdU s n nm i a m (fun _ => False) := by
  unfold tdU
  have b := naF_b (nm := nm) (v := tkVa s n i) (a := a) (k := m)
  by_cases e : isNm s n i
  · rw [iF_t e, iF_t e]
    by_cases e2 : naF nm (tkVa s n i) a m < 0
    · rw [iF_t e2, iF_t e2]
    · rw [iF_f e2, iF_f e2, iF_f (bit0 (by omega)), iF_f (fun x => x)]
  · rw [iF_f e, iF_f e]
theorem tdU_cg {s : Nat → Int} {n i a a' m : Nat} {nm nm' : Nat → Int} {B : Int → Prop} (e : ∀ k, k < m → nm (a + k) = nm' (a' + k)) : tdU s n nm i a m B = tdU s n nm' i a' m B := by
  unfold tdU
  rw [naF_cg e]
section RNM
variable {l : Launch} {d : Nat} {h : Mem} {s : Nat → Int} {n N i : Nat}
theorem u_readName (K : KR h s n N) (A : AtR h N i 0) (hi : i < N) (W : W0 (rowOf h)) {fr many most : Nat} (hm : many ≤ most) (hf : fr + most ≤ 14) : Cl l (d + 5) M_X11_readName [(2, 215), (0, (fr : Int)), (0, (many : Int)), (0, (most : Int))] SHP h (fun r sh' h' => r = 0 ∧ sh' = SHP ∧ Frx h h' ∧ AtF h' N (i + 2) (nmU s n (rowOf h) (nmOf h) many most i) ∧ (rowOf h' = rowOf h ∧ Smx h h') ∧ (nmU s n (rowOf h) (nmOf h) many most i = 0 → nmOf h' = ru (nmOf h) (fr + many) (tkVa s n (i + 1)))) := by
  refine Cl_hide (fun Q hQ => ?_)
  have nN := K.2.2.2.1
  have n1 : n ≤ 1000 := K.2.2.1.1
  have a7 := A.1
  unfold nmU at hQ
  show V l (d + 5) 0 0 M_X11_readName 0 0 0 Q [(2, 215), (0, (fr : Int)), (0, (many : Int)), (0, (most : Int))] [] SHP h
  refine S_X11_readName_0 _ _ _ _ ?_; simp (disch := omega) only [B_X11_readName_0, bi_0, x_ic, x_lc, x_ld, x_st, x_sl, x_inc, x_b32, x_b64, x_d32, x_d64, x_s64, x_un, x_lcmp, x_dup, x_pop, x_dup2, x_if, x_cmp, x_sw, swk, x_ald, x_ast, x_alen, x_getf, x_putf, x_inv, x_mm, x_copy, x_iret, x_lret, x_vret, ok1, pu, ct, rcv, rcs, ent0, List.getElem?_cons_zero, List.getElem?_cons_succ, List.getElem?_nil, List.set_cons_zero, List.set_cons_succ, List.take_succ_cons, List.take_zero, List.drop_succ_cons, List.drop_zero, List.reverse_cons, List.reverse_nil, List.nil_append, List.cons_append, List.length_cons, List.length_nil, true_and, and_true, and_self, ne_eq, not_true_eq_false, not_false_eq_true, reduceIte, true_or, or_true, false_or, or_false, Nat.reduceAdd, Nat.reduceSub, Nat.reduceMul, Nat.reduceLeDiff, Nat.reduceEqDiff, Nat.reduceLT, Nat.le_refl, Nat.zero_le, Int.reduceToNat, Int.reduceAdd, Int.reduceSub, Int.reduceMul, Int.reduceNeg, Int.reduceLT, Int.reduceLE, Int.reduceEq, Nat.zero_add, Nat.add_zero, Nat.reduceBEq, Nat.one_ne_zero, Nat.zero_ne_one, Nat.lt_irrefl, Nat.succ_ne_zero, w32_id, ixc, ixc2, Int.toNat_natCast, ob_214]
  refine ⟨fun z => ?_, fun z => ?_⟩
  · refine Cl.app (r_wrong0 (l := l) (d := d + 3) K A (w := 5) (by decide)) ?_
    (try simp (disch := omega) only [bi_0, x_ic, x_lc, x_ld, x_st, x_sl, x_inc, x_b32, x_b64, x_d32, x_d64, x_s64, x_un, x_lcmp, x_dup, x_pop, x_dup2, x_if, x_cmp, x_sw, swk, x_ald, x_ast, x_alen, x_getf, x_putf, x_inv, x_mm, x_copy, x_iret, x_lret, x_vret, ok1, pu, ct, rcv, rcs, ent0, List.getElem?_cons_zero, List.getElem?_cons_succ, List.getElem?_nil, List.set_cons_zero, List.set_cons_succ, List.take_succ_cons, List.take_zero, List.drop_succ_cons, List.drop_zero, List.reverse_cons, List.reverse_nil, List.nil_append, List.cons_append, List.length_cons, List.length_nil, true_and, and_true, and_self, ne_eq, not_true_eq_false, not_false_eq_true, reduceIte, true_or, or_true, false_or, or_false, Nat.reduceAdd, Nat.reduceSub, Nat.reduceMul, Nat.reduceLeDiff, Nat.reduceEqDiff, Nat.reduceLT, Nat.le_refl, Nat.zero_le, Int.reduceToNat, Int.reduceAdd, Int.reduceSub, Int.reduceMul, Int.reduceNeg, Int.reduceLT, Int.reduceLE, Int.reduceEq, Nat.zero_add, Nat.add_zero, Nat.reduceBEq, Nat.one_ne_zero, Nat.zero_ne_one, Nat.lt_irrefl, Nat.succ_ne_zero, w32_id, ixc, ixc2, Int.toNat_natCast])
    rw [iF_t z] at hQ
    exact hQ _ _ _ ⟨rfl, rfl, (Fat_f (Or.inr rfl)).rx, A.f.no (flt_b (by decide)), ⟨rowOf_ne (by decide), (Fat_f (Or.inr rfl)).sm⟩, fun x => absurd x (by have := flt_b (s := s) (n := n) (i := i) (w := 5) (by decide); omega)⟩
  rw [iF_f z] at hQ
  obtain ⟨m, hm1⟩ : ∃ m, m = up h 214 7 ((i + 1 : Nat) : Int) := ⟨_, rfl⟩
  have em : up h 214 7 ((i : Int) + 1) = m := hm1.symm
  have F1 : Fat h m := by rw [hm1]; exact Fat_f (Or.inl rfl)
  have K1 := F1.kr K
  have A1 : AtF m N (i + 1) 0 := by rw [hm1]; exact A.f.go hi
  have B1 := A1.at0
  have r1 := F1.row
  have n2 := F1.nm
  have g8 := B1.2.2
  have g7 := B1.1
  -- behind a fault
  have bad : ∀ (w : Int), 1 ≤ w → (∀ r sh h_1, (r = 0 ∧ sh = SHP ∧ Frx h h_1 ∧ AtF h_1 N (i + 2) (flt s n (i + 1) w) ∧ (rowOf h_1 = rowOf h ∧ Smx h h_1)) → Q r sh h_1) → V l (d + 5) 0 0 M_X11_readName 0 0 83 Q [(2, 215), (0, (fr : Int)), (0, (many : Int)), (0, (most : Int))] [] SHP (up m 214 8 (flt s n (i + 1) w)) := by
    intro w hw q
    have bb := flt_b (s := s) (n := n) (i := i + 1) hw
    have e8 : up m 214 8 (flt s n (i + 1) w) 214 8 = flt s n (i + 1) w := up_at
    refine S_X11_readName_83 _ _ _ _ ?_; simp (disch := omega) only [B_X11_readName_83, bi_0, x_ic, x_lc, x_ld, x_st, x_sl, x_inc, x_b32, x_b64, x_d32, x_d64, x_s64, x_un, x_lcmp, x_dup, x_pop, x_dup2, x_if, x_cmp, x_sw, swk, x_ald, x_ast, x_alen, x_getf, x_putf, x_inv, x_mm, x_copy, x_iret, x_lret, x_vret, ok1, pu, ct, rcv, rcs, ent0, List.getElem?_cons_zero, List.getElem?_cons_succ, List.getElem?_nil, List.set_cons_zero, List.set_cons_succ, List.take_succ_cons, List.take_zero, List.drop_succ_cons, List.drop_zero, List.reverse_cons, List.reverse_nil, List.nil_append, List.cons_append, List.length_cons, List.length_nil, true_and, and_true, and_self, ne_eq, not_true_eq_false, not_false_eq_true, reduceIte, true_or, or_true, false_or, or_false, Nat.reduceAdd, Nat.reduceSub, Nat.reduceMul, Nat.reduceLeDiff, Nat.reduceEqDiff, Nat.reduceLT, Nat.le_refl, Nat.zero_le, Int.reduceToNat, Int.reduceAdd, Int.reduceSub, Int.reduceMul, Int.reduceNeg, Int.reduceLT, Int.reduceLE, Int.reduceEq, Nat.zero_add, Nat.add_zero, Nat.reduceBEq, Nat.one_ne_zero, Nat.zero_ne_one, Nat.lt_irrefl, Nat.succ_ne_zero, w32_id, ixc, ixc2, Int.toNat_natCast, ob_214, e8]
    refine ⟨fun y => absurd y (by omega), fun _ => ?_⟩
    refine S_X11_readName_120 _ _ _ _ ?_; simp (disch := omega) only [B_X11_readName_120, bi_0, x_ic, x_lc, x_ld, x_st, x_sl, x_inc, x_b32, x_b64, x_d32, x_d64, x_s64, x_un, x_lcmp, x_dup, x_pop, x_dup2, x_if, x_cmp, x_sw, swk, x_ald, x_ast, x_alen, x_getf, x_putf, x_inv, x_mm, x_copy, x_iret, x_lret, x_vret, ok1, pu, ct, rcv, rcs, ent0, List.getElem?_cons_zero, List.getElem?_cons_succ, List.getElem?_nil, List.set_cons_zero, List.set_cons_succ, List.take_succ_cons, List.take_zero, List.drop_succ_cons, List.drop_zero, List.reverse_cons, List.reverse_nil, List.nil_append, List.cons_append, List.length_cons, List.length_nil, true_and, and_true, and_self, ne_eq, not_true_eq_false, not_false_eq_true, reduceIte, true_or, or_true, false_or, or_false, Nat.reduceAdd, Nat.reduceSub, Nat.reduceMul, Nat.reduceLeDiff, Nat.reduceEqDiff, Nat.reduceLT, Nat.le_refl, Nat.zero_le, Int.reduceToNat, Int.reduceAdd, Int.reduceSub, Int.reduceMul, Int.reduceNeg, Int.reduceLT, Int.reduceLE, Int.reduceEq, Nat.zero_add, Nat.add_zero, Nat.reduceBEq, Nat.one_ne_zero, Nat.zero_ne_one, Nat.lt_irrefl, Nat.succ_ne_zero, w32_id, ixc, ixc2, Int.toNat_natCast]
    exact q _ _ _ ⟨rfl, rfl, F1.rx.trans (Fat_f (Or.inr rfl)).rx, A1.no bb, (rowOf_ne (by decide)).trans r1, F1.sm.trans (Fat_f (Or.inr rfl)).sm⟩
  refine S_X11_readName_11 _ _ _ _ ?_; simp (disch := omega) only [B_X11_readName_11, bi_0, x_ic, x_lc, x_ld, x_st, x_sl, x_inc, x_b32, x_b64, x_d32, x_d64, x_s64, x_un, x_lcmp, x_dup, x_pop, x_dup2, x_if, x_cmp, x_sw, swk, x_ald, x_ast, x_alen, x_getf, x_putf, x_inv, x_mm, x_copy, x_iret, x_lret, x_vret, ok1, pu, ct, rcv, rcs, ent0, List.getElem?_cons_zero, List.getElem?_cons_succ, List.getElem?_nil, List.set_cons_zero, List.set_cons_succ, List.take_succ_cons, List.take_zero, List.drop_succ_cons, List.drop_zero, List.reverse_cons, List.reverse_nil, List.nil_append, List.cons_append, List.length_cons, List.length_nil, true_and, and_true, and_self, ne_eq, not_true_eq_false, not_false_eq_true, reduceIte, true_or, or_true, false_or, or_false, Nat.reduceAdd, Nat.reduceSub, Nat.reduceMul, Nat.reduceLeDiff, Nat.reduceEqDiff, Nat.reduceLT, Nat.le_refl, Nat.zero_le, Int.reduceToNat, Int.reduceAdd, Int.reduceSub, Int.reduceMul, Int.reduceNeg, Int.reduceLT, Int.reduceLE, Int.reduceEq, Nat.zero_add, Nat.add_zero, Nat.reduceBEq, Nat.one_ne_zero, Nat.zero_ne_one, Nat.lt_irrefl, Nat.succ_ne_zero, w32_id, ixc, ixc2, Int.toNat_natCast, ob_214, a7, em]
  refine Cl.app (r_isName0 (l := l) (d := d + 1) K1 B1) ?_
  (try simp (disch := omega) only [bi_0, x_ic, x_lc, x_ld, x_st, x_sl, x_inc, x_b32, x_b64, x_d32, x_d64, x_s64, x_un, x_lcmp, x_dup, x_pop, x_dup2, x_if, x_cmp, x_sw, swk, x_ald, x_ast, x_alen, x_getf, x_putf, x_inv, x_mm, x_copy, x_iret, x_lret, x_vret, ok1, pu, ct, rcv, rcs, ent0, List.getElem?_cons_zero, List.getElem?_cons_succ, List.getElem?_nil, List.set_cons_zero, List.set_cons_succ, List.take_succ_cons, List.take_zero, List.drop_succ_cons, List.drop_zero, List.reverse_cons, List.reverse_nil, List.nil_append, List.cons_append, List.length_cons, List.length_nil, true_and, and_true, and_self, ne_eq, not_true_eq_false, not_false_eq_true, reduceIte, true_or, or_true, false_or, or_false, Nat.reduceAdd, Nat.reduceSub, Nat.reduceMul, Nat.reduceLeDiff, Nat.reduceEqDiff, Nat.reduceLT, Nat.le_refl, Nat.zero_le, Int.reduceToNat, Int.reduceAdd, Int.reduceSub, Int.reduceMul, Int.reduceNeg, Int.reduceLT, Int.reduceLE, Int.reduceEq, Nat.zero_add, Nat.add_zero, Nat.reduceBEq, Nat.one_ne_zero, Nat.zero_ne_one, Nat.lt_irrefl, Nat.succ_ne_zero, w32_id, ixc, ixc2, Int.toNat_natCast, bI_0, ob_214])
  refine ⟨fun y => ?_, fun y => ?_⟩
  · refine Cl.app (r_wrong0 (l := l) (d := d + 3) K1 B1 (w := 1) (by decide)) ?_
    (try simp (disch := omega) only [bi_0, x_ic, x_lc, x_ld, x_st, x_sl, x_inc, x_b32, x_b64, x_d32, x_d64, x_s64, x_un, x_lcmp, x_dup, x_pop, x_dup2, x_if, x_cmp, x_sw, swk, x_ald, x_ast, x_alen, x_getf, x_putf, x_inv, x_mm, x_copy, x_iret, x_lret, x_vret, ok1, pu, ct, rcv, rcs, ent0, List.getElem?_cons_zero, List.getElem?_cons_succ, List.getElem?_nil, List.set_cons_zero, List.set_cons_succ, List.take_succ_cons, List.take_zero, List.drop_succ_cons, List.drop_zero, List.reverse_cons, List.reverse_nil, List.nil_append, List.cons_append, List.length_cons, List.length_nil, true_and, and_true, and_self, ne_eq, not_true_eq_false, not_false_eq_true, reduceIte, true_or, or_true, false_or, or_false, Nat.reduceAdd, Nat.reduceSub, Nat.reduceMul, Nat.reduceLeDiff, Nat.reduceEqDiff, Nat.reduceLT, Nat.le_refl, Nat.zero_le, Int.reduceToNat, Int.reduceAdd, Int.reduceSub, Int.reduceMul, Int.reduceNeg, Int.reduceLT, Int.reduceLE, Int.reduceEq, Nat.zero_add, Nat.add_zero, Nat.reduceBEq, Nat.one_ne_zero, Nat.zero_ne_one, Nat.lt_irrefl, Nat.succ_ne_zero, w32_id, ixc, ixc2, Int.toNat_natCast])
    rw [iF_f y] at hQ
    exact bad 1 (by decide) (fun r sh h1 x => hQ r sh h1 ⟨x.1, x.2.1, x.2.2.1, x.2.2.2.1, x.2.2.2.2, fun x => absurd x (by have := flt_b (s := s) (n := n) (i := i + 1) (w := 1) (by decide); omega)⟩)
  have y := Classical.not_not.mp y
  rw [iF_t y] at hQ
  have L1 := K1.1
  obtain ⟨c0, hc0⟩ : ∃ c0 : Nat, c0 = (rowOf h 0).toNat := ⟨_, rfl⟩
  obtain ⟨c1, hc1⟩ : ∃ c1 : Nat, c1 = (rowOf h 1).toNat := ⟨_, rfl⟩
  obtain ⟨c2, hc2⟩ : ∃ c2 : Nat, c2 = (rowOf h 2).toNat := ⟨_, rfl⟩
  obtain ⟨⟨w1, w2⟩, ⟨w3, w4⟩, w5, w6⟩ := W
  have e0 : m 220 (110 + 0) = (c0 : Int) := by
    have : m 220 (110 + 0) = rowOf h 0 := by rw [← r1]; rfl
    omega
  have e1 : m 220 (110 + 1) = (c1 : Int) := by
    have : m 220 (110 + 1) = rowOf h 1 := by rw [← r1]; rfl
    omega
  have e2 : m 220 (110 + 2) = (c2 : Int) := by
    have : m 220 (110 + 2) = rowOf h 2 := by rw [← r1]; rfl
    omega
  have f0 := r_nameAt (l := l) (d := d + 3) K1 B1 y.1 (a := 14 + 0) (m := c0) (by omega)
  have f1 := r_nameAt (l := l) (d := d + 3) K1 B1 y.1 (a := 14 + 6) (m := c1) (by omega)
  have f2 := r_nameAt (l := l) (d := d + 3) K1 B1 y.1 (a := 14 + 10) (m := c2) (by omega)
  rw [naF_nm, n2] at f0 f1 f2
  unfold knP at hQ
  rw [← hc0, ← hc1, ← hc2] at hQ
  obtain ⟨v0, hv0⟩ : ∃ v, v = naF (nmOf h) (tkVa s n (i + 1)) 0 c0 := ⟨_, rfl⟩
  obtain ⟨v1, hv1⟩ : ∃ v, v = naF (nmOf h) (tkVa s n (i + 1)) 6 c1 := ⟨_, rfl⟩
  obtain ⟨v2, hv2⟩ : ∃ v, v = naF (nmOf h) (tkVa s n (i + 1)) 10 c2 := ⟨_, rfl⟩
  rw [← hv0, ← hv1, ← hv2] at hQ
  rw [← hv0] at f0
  rw [← hv1] at f1
  rw [← hv2] at f2
  have twice : (0 ≤ v0 ∨ 0 ≤ v1 ∨ 0 ≤ v2) → V l (d + 5) 0 0 M_X11_readName 0 0 78 Q [(2, 215), (0, (fr : Int)), (0, (many : Int)), (0, (most : Int))] [] SHP m := by
    intro x
    rw [iF_t x] at hQ
    refine S_X11_readName_78 _ _ _ _ ?_; simp (disch := omega) only [B_X11_readName_78, bi_0, x_ic, x_lc, x_ld, x_st, x_sl, x_inc, x_b32, x_b64, x_d32, x_d64, x_s64, x_un, x_lcmp, x_dup, x_pop, x_dup2, x_if, x_cmp, x_sw, swk, x_ald, x_ast, x_alen, x_getf, x_putf, x_inv, x_mm, x_copy, x_iret, x_lret, x_vret, ok1, pu, ct, rcv, rcs, ent0, List.getElem?_cons_zero, List.getElem?_cons_succ, List.getElem?_nil, List.set_cons_zero, List.set_cons_succ, List.take_succ_cons, List.take_zero, List.drop_succ_cons, List.drop_zero, List.reverse_cons, List.reverse_nil, List.nil_append, List.cons_append, List.length_cons, List.length_nil, true_and, and_true, and_self, ne_eq, not_true_eq_false, not_false_eq_true, reduceIte, true_or, or_true, false_or, or_false, Nat.reduceAdd, Nat.reduceSub, Nat.reduceMul, Nat.reduceLeDiff, Nat.reduceEqDiff, Nat.reduceLT, Nat.le_refl, Nat.zero_le, Int.reduceToNat, Int.reduceAdd, Int.reduceSub, Int.reduceMul, Int.reduceNeg, Int.reduceLT, Int.reduceLE, Int.reduceEq, Nat.zero_add, Nat.add_zero, Nat.reduceBEq, Nat.one_ne_zero, Nat.zero_ne_one, Nat.lt_irrefl, Nat.succ_ne_zero, w32_id, ixc, ixc2, Int.toNat_natCast, ob_214]
    refine Cl.app (r_wrong0 (l := l) (d := d + 3) K1 B1 (w := 3) (by decide)) ?_
    (try simp (disch := omega) only [bi_0, x_ic, x_lc, x_ld, x_st, x_sl, x_inc, x_b32, x_b64, x_d32, x_d64, x_s64, x_un, x_lcmp, x_dup, x_pop, x_dup2, x_if, x_cmp, x_sw, swk, x_ald, x_ast, x_alen, x_getf, x_putf, x_inv, x_mm, x_copy, x_iret, x_lret, x_vret, ok1, pu, ct, rcv, rcs, ent0, List.getElem?_cons_zero, List.getElem?_cons_succ, List.getElem?_nil, List.set_cons_zero, List.set_cons_succ, List.take_succ_cons, List.take_zero, List.drop_succ_cons, List.drop_zero, List.reverse_cons, List.reverse_nil, List.nil_append, List.cons_append, List.length_cons, List.length_nil, true_and, and_true, and_self, ne_eq, not_true_eq_false, not_false_eq_true, reduceIte, true_or, or_true, false_or, or_false, Nat.reduceAdd, Nat.reduceSub, Nat.reduceMul, Nat.reduceLeDiff, Nat.reduceEqDiff, Nat.reduceLT, Nat.le_refl, Nat.zero_le, Int.reduceToNat, Int.reduceAdd, Int.reduceSub, Int.reduceMul, Int.reduceNeg, Int.reduceLT, Int.reduceLE, Int.reduceEq, Nat.zero_add, Nat.add_zero, Nat.reduceBEq, Nat.one_ne_zero, Nat.zero_ne_one, Nat.lt_irrefl, Nat.succ_ne_zero, w32_id, ixc, ixc2, Int.toNat_natCast])
    exact bad 3 (by decide) (fun r sh h1 x => hQ r sh h1 ⟨x.1, x.2.1, x.2.2.1, x.2.2.2.1, x.2.2.2.2, fun x => absurd x (by have := flt_b (s := s) (n := n) (i := i + 1) (w := 3) (by decide); omega)⟩)
  refine S_X11_readName_36 _ _ _ _ ?_; simp (disch := omega) only [B_X11_readName_36, bi_0, x_ic, x_lc, x_ld, x_st, x_sl, x_inc, x_b32, x_b64, x_d32, x_d64, x_s64, x_un, x_lcmp, x_dup, x_pop, x_dup2, x_if, x_cmp, x_sw, swk, x_ald, x_ast, x_alen, x_getf, x_putf, x_inv, x_mm, x_copy, x_iret, x_lret, x_vret, ok1, pu, ct, rcv, rcs, ent0, List.getElem?_cons_zero, List.getElem?_cons_succ, List.getElem?_nil, List.set_cons_zero, List.set_cons_succ, List.take_succ_cons, List.take_zero, List.drop_succ_cons, List.drop_zero, List.reverse_cons, List.reverse_nil, List.nil_append, List.cons_append, List.length_cons, List.length_nil, true_and, and_true, and_self, ne_eq, not_true_eq_false, not_false_eq_true, reduceIte, true_or, or_true, false_or, or_false, Nat.reduceAdd, Nat.reduceSub, Nat.reduceMul, Nat.reduceLeDiff, Nat.reduceEqDiff, Nat.reduceLT, Nat.le_refl, Nat.zero_le, Int.reduceToNat, Int.reduceAdd, Int.reduceSub, Int.reduceMul, Int.reduceNeg, Int.reduceLT, Int.reduceLE, Int.reduceEq, Nat.zero_add, Nat.add_zero, Nat.reduceBEq, Nat.one_ne_zero, Nat.zero_ne_one, Nat.lt_irrefl, Nat.succ_ne_zero, w32_id, ixc, ixc2, Int.toNat_natCast, ob_214]
  refine Cl.app (r_read (l := l) (d := d + 3) L1 (w := 0) (by decide)) ?_
  (try simp (disch := omega) only [bi_0, x_ic, x_lc, x_ld, x_st, x_sl, x_inc, x_b32, x_b64, x_d32, x_d64, x_s64, x_un, x_lcmp, x_dup, x_pop, x_dup2, x_if, x_cmp, x_sw, swk, x_ald, x_ast, x_alen, x_getf, x_putf, x_inv, x_mm, x_copy, x_iret, x_lret, x_vret, ok1, pu, ct, rcv, rcs, ent0, List.getElem?_cons_zero, List.getElem?_cons_succ, List.getElem?_nil, List.set_cons_zero, List.set_cons_succ, List.take_succ_cons, List.take_zero, List.drop_succ_cons, List.drop_zero, List.reverse_cons, List.reverse_nil, List.nil_append, List.cons_append, List.length_cons, List.length_nil, true_and, and_true, and_self, ne_eq, not_true_eq_false, not_false_eq_true, reduceIte, true_or, or_true, false_or, or_false, Nat.reduceAdd, Nat.reduceSub, Nat.reduceMul, Nat.reduceLeDiff, Nat.reduceEqDiff, Nat.reduceLT, Nat.le_refl, Nat.zero_le, Int.reduceToNat, Int.reduceAdd, Int.reduceSub, Int.reduceMul, Int.reduceNeg, Int.reduceLT, Int.reduceLE, Int.reduceEq, Nat.zero_add, Nat.add_zero, Nat.reduceBEq, Nat.one_ne_zero, Nat.zero_ne_one, Nat.lt_irrefl, Nat.succ_ne_zero, w32_id, ixc, ixc2, Int.toNat_natCast, ob_214, e0])
  refine Cl.app f0 ?_
  (try simp (disch := omega) only [bi_0, x_ic, x_lc, x_ld, x_st, x_sl, x_inc, x_b32, x_b64, x_d32, x_d64, x_s64, x_un, x_lcmp, x_dup, x_pop, x_dup2, x_if, x_cmp, x_sw, swk, x_ald, x_ast, x_alen, x_getf, x_putf, x_inv, x_mm, x_copy, x_iret, x_lret, x_vret, ok1, pu, ct, rcv, rcs, ent0, List.getElem?_cons_zero, List.getElem?_cons_succ, List.getElem?_nil, List.set_cons_zero, List.set_cons_succ, List.take_succ_cons, List.take_zero, List.drop_succ_cons, List.drop_zero, List.reverse_cons, List.reverse_nil, List.nil_append, List.cons_append, List.length_cons, List.length_nil, true_and, and_true, and_self, ne_eq, not_true_eq_false, not_false_eq_true, reduceIte, true_or, or_true, false_or, or_false, Nat.reduceAdd, Nat.reduceSub, Nat.reduceMul, Nat.reduceLeDiff, Nat.reduceEqDiff, Nat.reduceLT, Nat.le_refl, Nat.zero_le, Int.reduceToNat, Int.reduceAdd, Int.reduceSub, Int.reduceMul, Int.reduceNeg, Int.reduceLT, Int.reduceLE, Int.reduceEq, Nat.zero_add, Nat.add_zero, Nat.reduceBEq, Nat.one_ne_zero, Nat.zero_ne_one, Nat.lt_irrefl, Nat.succ_ne_zero, w32_id, ixc, ixc2, Int.toNat_natCast, ob_214])
  refine ⟨fun x => twice (Or.inl x), fun x0 => ?_⟩
  refine Cl.app (r_read (l := l) (d := d + 3) L1 (w := 1) (by decide)) ?_
  (try simp (disch := omega) only [bi_0, x_ic, x_lc, x_ld, x_st, x_sl, x_inc, x_b32, x_b64, x_d32, x_d64, x_s64, x_un, x_lcmp, x_dup, x_pop, x_dup2, x_if, x_cmp, x_sw, swk, x_ald, x_ast, x_alen, x_getf, x_putf, x_inv, x_mm, x_copy, x_iret, x_lret, x_vret, ok1, pu, ct, rcv, rcs, ent0, List.getElem?_cons_zero, List.getElem?_cons_succ, List.getElem?_nil, List.set_cons_zero, List.set_cons_succ, List.take_succ_cons, List.take_zero, List.drop_succ_cons, List.drop_zero, List.reverse_cons, List.reverse_nil, List.nil_append, List.cons_append, List.length_cons, List.length_nil, true_and, and_true, and_self, ne_eq, not_true_eq_false, not_false_eq_true, reduceIte, true_or, or_true, false_or, or_false, Nat.reduceAdd, Nat.reduceSub, Nat.reduceMul, Nat.reduceLeDiff, Nat.reduceEqDiff, Nat.reduceLT, Nat.le_refl, Nat.zero_le, Int.reduceToNat, Int.reduceAdd, Int.reduceSub, Int.reduceMul, Int.reduceNeg, Int.reduceLT, Int.reduceLE, Int.reduceEq, Nat.zero_add, Nat.add_zero, Nat.reduceBEq, Nat.one_ne_zero, Nat.zero_ne_one, Nat.lt_irrefl, Nat.succ_ne_zero, w32_id, ixc, ixc2, Int.toNat_natCast, ob_214, e1])
  refine Cl.app f1 ?_
  (try simp (disch := omega) only [bi_0, x_ic, x_lc, x_ld, x_st, x_sl, x_inc, x_b32, x_b64, x_d32, x_d64, x_s64, x_un, x_lcmp, x_dup, x_pop, x_dup2, x_if, x_cmp, x_sw, swk, x_ald, x_ast, x_alen, x_getf, x_putf, x_inv, x_mm, x_copy, x_iret, x_lret, x_vret, ok1, pu, ct, rcv, rcs, ent0, List.getElem?_cons_zero, List.getElem?_cons_succ, List.getElem?_nil, List.set_cons_zero, List.set_cons_succ, List.take_succ_cons, List.take_zero, List.drop_succ_cons, List.drop_zero, List.reverse_cons, List.reverse_nil, List.nil_append, List.cons_append, List.length_cons, List.length_nil, true_and, and_true, and_self, ne_eq, not_true_eq_false, not_false_eq_true, reduceIte, true_or, or_true, false_or, or_false, Nat.reduceAdd, Nat.reduceSub, Nat.reduceMul, Nat.reduceLeDiff, Nat.reduceEqDiff, Nat.reduceLT, Nat.le_refl, Nat.zero_le, Int.reduceToNat, Int.reduceAdd, Int.reduceSub, Int.reduceMul, Int.reduceNeg, Int.reduceLT, Int.reduceLE, Int.reduceEq, Nat.zero_add, Nat.add_zero, Nat.reduceBEq, Nat.one_ne_zero, Nat.zero_ne_one, Nat.lt_irrefl, Nat.succ_ne_zero, w32_id, ixc, ixc2, Int.toNat_natCast, ob_214])
  refine ⟨fun x => twice (Or.inr (Or.inl x)), fun x1 => ?_⟩
  refine Cl.app (r_read (l := l) (d := d + 3) L1 (w := 2) (by decide)) ?_
  (try simp (disch := omega) only [bi_0, x_ic, x_lc, x_ld, x_st, x_sl, x_inc, x_b32, x_b64, x_d32, x_d64, x_s64, x_un, x_lcmp, x_dup, x_pop, x_dup2, x_if, x_cmp, x_sw, swk, x_ald, x_ast, x_alen, x_getf, x_putf, x_inv, x_mm, x_copy, x_iret, x_lret, x_vret, ok1, pu, ct, rcv, rcs, ent0, List.getElem?_cons_zero, List.getElem?_cons_succ, List.getElem?_nil, List.set_cons_zero, List.set_cons_succ, List.take_succ_cons, List.take_zero, List.drop_succ_cons, List.drop_zero, List.reverse_cons, List.reverse_nil, List.nil_append, List.cons_append, List.length_cons, List.length_nil, true_and, and_true, and_self, ne_eq, not_true_eq_false, not_false_eq_true, reduceIte, true_or, or_true, false_or, or_false, Nat.reduceAdd, Nat.reduceSub, Nat.reduceMul, Nat.reduceLeDiff, Nat.reduceEqDiff, Nat.reduceLT, Nat.le_refl, Nat.zero_le, Int.reduceToNat, Int.reduceAdd, Int.reduceSub, Int.reduceMul, Int.reduceNeg, Int.reduceLT, Int.reduceLE, Int.reduceEq, Nat.zero_add, Nat.add_zero, Nat.reduceBEq, Nat.one_ne_zero, Nat.zero_ne_one, Nat.lt_irrefl, Nat.succ_ne_zero, w32_id, ixc, ixc2, Int.toNat_natCast, ob_214, e2])
  refine Cl.app f2 ?_
  (try simp (disch := omega) only [bi_0, x_ic, x_lc, x_ld, x_st, x_sl, x_inc, x_b32, x_b64, x_d32, x_d64, x_s64, x_un, x_lcmp, x_dup, x_pop, x_dup2, x_if, x_cmp, x_sw, swk, x_ald, x_ast, x_alen, x_getf, x_putf, x_inv, x_mm, x_copy, x_iret, x_lret, x_vret, ok1, pu, ct, rcv, rcs, ent0, List.getElem?_cons_zero, List.getElem?_cons_succ, List.getElem?_nil, List.set_cons_zero, List.set_cons_succ, List.take_succ_cons, List.take_zero, List.drop_succ_cons, List.drop_zero, List.reverse_cons, List.reverse_nil, List.nil_append, List.cons_append, List.length_cons, List.length_nil, true_and, and_true, and_self, ne_eq, not_true_eq_false, not_false_eq_true, reduceIte, true_or, or_true, false_or, or_false, Nat.reduceAdd, Nat.reduceSub, Nat.reduceMul, Nat.reduceLeDiff, Nat.reduceEqDiff, Nat.reduceLT, Nat.le_refl, Nat.zero_le, Int.reduceToNat, Int.reduceAdd, Int.reduceSub, Int.reduceMul, Int.reduceNeg, Int.reduceLT, Int.reduceLE, Int.reduceEq, Nat.zero_add, Nat.add_zero, Nat.reduceBEq, Nat.one_ne_zero, Nat.zero_ne_one, Nat.lt_irrefl, Nat.succ_ne_zero, w32_id, ixc, ixc2, Int.toNat_natCast, ob_214])
  refine ⟨fun x2 => ?_, fun x => twice (Or.inr (Or.inr (by omega)))⟩
  rw [iF_f (by omega)] at hQ
  have iN : i + 1 < N := K1.lt B1.2.1 (so_nm y)
  have e218 : m 218 (i + 1) = tkVa s n (i + 1) := (K1.2.2.2.2.1 (i + 1) B1.2.1).2.2 (Or.inl y.1)
  have g7b : up m 222 (14 + (fr : Int) + (many : Int)).toNat (tkVa s n (i + 1)) 214 7 = ((i + 1 : Nat) : Int) := by rw [up_ne (by decide)]; exact g7
  refine S_X11_readName_83 _ _ _ _ ?_; simp (disch := omega) only [B_X11_readName_83, bi_0, x_ic, x_lc, x_ld, x_st, x_sl, x_inc, x_b32, x_b64, x_d32, x_d64, x_s64, x_un, x_lcmp, x_dup, x_pop, x_dup2, x_if, x_cmp, x_sw, swk, x_ald, x_ast, x_alen, x_getf, x_putf, x_inv, x_mm, x_copy, x_iret, x_lret, x_vret, ok1, pu, ct, rcv, rcs, ent0, List.getElem?_cons_zero, List.getElem?_cons_succ, List.getElem?_nil, List.set_cons_zero, List.set_cons_succ, List.take_succ_cons, List.take_zero, List.drop_succ_cons, List.drop_zero, List.reverse_cons, List.reverse_nil, List.nil_append, List.cons_append, List.length_cons, List.length_nil, true_and, and_true, and_self, ne_eq, not_true_eq_false, not_false_eq_true, reduceIte, true_or, or_true, false_or, or_false, Nat.reduceAdd, Nat.reduceSub, Nat.reduceMul, Nat.reduceLeDiff, Nat.reduceEqDiff, Nat.reduceLT, Nat.le_refl, Nat.zero_le, Int.reduceToNat, Int.reduceAdd, Int.reduceSub, Int.reduceMul, Int.reduceNeg, Int.reduceLT, Int.reduceLE, Int.reduceEq, Nat.zero_add, Nat.add_zero, Nat.reduceBEq, Nat.one_ne_zero, Nat.zero_ne_one, Nat.lt_irrefl, Nat.succ_ne_zero, w32_id, ixc, ixc2, Int.toNat_natCast, ob_214, g8, g7, ly_214_13 L1, ly_214_6 L1, ln_222, ln_218, e218, g7b]
  refine ⟨fun _ => ⟨by omega, by omega, ?_⟩, fun y => y.elim⟩
  refine S_X11_readName_120 _ _ _ _ ?_; simp (disch := omega) only [B_X11_readName_120, bi_0, x_ic, x_lc, x_ld, x_st, x_sl, x_inc, x_b32, x_b64, x_d32, x_d64, x_s64, x_un, x_lcmp, x_dup, x_pop, x_dup2, x_if, x_cmp, x_sw, swk, x_ald, x_ast, x_alen, x_getf, x_putf, x_inv, x_mm, x_copy, x_iret, x_lret, x_vret, ok1, pu, ct, rcv, rcs, ent0, List.getElem?_cons_zero, List.getElem?_cons_succ, List.getElem?_nil, List.set_cons_zero, List.set_cons_succ, List.take_succ_cons, List.take_zero, List.drop_succ_cons, List.drop_zero, List.reverse_cons, List.reverse_nil, List.nil_append, List.cons_append, List.length_cons, List.length_nil, true_and, and_true, and_self, ne_eq, not_true_eq_false, not_false_eq_true, reduceIte, true_or, or_true, false_or, or_false, Nat.reduceAdd, Nat.reduceSub, Nat.reduceMul, Nat.reduceLeDiff, Nat.reduceEqDiff, Nat.reduceLT, Nat.le_refl, Nat.zero_le, Int.reduceToNat, Int.reduceAdd, Int.reduceSub, Int.reduceMul, Int.reduceNeg, Int.reduceLT, Int.reduceLE, Int.reduceEq, Nat.zero_add, Nat.add_zero, Nat.reduceBEq, Nat.one_ne_zero, Nat.zero_ne_one, Nat.lt_irrefl, Nat.succ_ne_zero, w32_id, ixc, ixc2, Int.toNat_natCast]
  have u1 : nmOf (up m 222 (14 + (fr : Int) + (many : Int)).toNat (tkVa s n (i + 1))) = ru (nmOf m) (fr + many) (tkVa s n (i + 1)) := nmOf_up (by omega)
  refine hQ _ _ _ ⟨rfl, rfl, F1.rx.trans ((Frx_nm (by omega)).trans (Fat_f (Or.inl rfl)).rx), ?_, ⟨?_, ?_⟩, fun _ => ?_⟩
  · exact AtF.go (i := i + 1) (j := i + 2) (A1.fr (up_ne (by decide))) (by omega)
  · rw [rowOf_ne (by decide), rowOf_ne (by decide), r1]
  · exact F1.sm.trans ⟨by rw [up_ne (by decide), up_ne (by decide)], by rw [up_nj (by decide), up_ne (by decide)]⟩
  · rw [nmOf_ne (by decide), u1, n2]
theorem u_readNode (K : KR h s n N) (A : AtR h N i 0) (hi : i < N) (W : W0 (rowOf h)) : Cl l (d + 6) M_X11_readNode [(2, 215)] SHP h (fun r sh' h' => r = 0 ∧ sh' = SHP ∧ Frx h h' ∧ AtF h' N (i + 5) (ndU s n (rowOf h) (nmOf h) i) ∧ (ndU s n (rowOf h) (nmOf h) i = 0 → rowOf h' = ndRow s n (rowOf h) (nmOf h) i ∧ nmOf h' = ru (nmOf h) (6 + (rowOf h 1).toNat) (tkVa s n (i + 1)) ∧ Smx h h')) := by
  refine Cl_hide (fun Q hQ => ?_)
  have W' := W
  obtain ⟨⟨w1, w2⟩, ⟨w3, w4⟩, w5, w6⟩ := W
  obtain ⟨c, hc⟩ : ∃ c : Nat, c = (rowOf h 1).toNat := ⟨_, rfl⟩
  have e1 : h 220 (110 + 1) = (c : Int) := by
    have : h 220 (110 + 1) = rowOf h 1 := rfl
    omega
  have hr : rowOf h 1 = (c : Int) := by omega
  show V l (d + 6) 0 0 M_X11_readNode 0 0 0 Q [(2, 215), (9, 0), (9, 0), (9, 0)] [] SHP h
  unfold ndU ndRow at hQ
  rw [hr, Int.toNat_natCast] at hQ
  refine S_X11_readNode_0 _ _ _ _ ?_; simp (disch := omega) only [B_X11_readNode_0, bi_0, x_ic, x_lc, x_ld, x_st, x_sl, x_inc, x_b32, x_b64, x_d32, x_d64, x_s64, x_un, x_lcmp, x_dup, x_pop, x_dup2, x_if, x_cmp, x_sw, swk, x_ald, x_ast, x_alen, x_getf, x_putf, x_inv, x_mm, x_copy, x_iret, x_lret, x_vret, ok1, pu, ct, rcv, rcs, ent0, List.getElem?_cons_zero, List.getElem?_cons_succ, List.getElem?_nil, List.set_cons_zero, List.set_cons_succ, List.take_succ_cons, List.take_zero, List.drop_succ_cons, List.drop_zero, List.reverse_cons, List.reverse_nil, List.nil_append, List.cons_append, List.length_cons, List.length_nil, true_and, and_true, and_self, ne_eq, not_true_eq_false, not_false_eq_true, reduceIte, true_or, or_true, false_or, or_false, Nat.reduceAdd, Nat.reduceSub, Nat.reduceMul, Nat.reduceLeDiff, Nat.reduceEqDiff, Nat.reduceLT, Nat.le_refl, Nat.zero_le, Int.reduceToNat, Int.reduceAdd, Int.reduceSub, Int.reduceMul, Int.reduceNeg, Int.reduceLT, Int.reduceLE, Int.reduceEq, Nat.zero_add, Nat.add_zero, Nat.reduceBEq, Nat.one_ne_zero, Nat.zero_ne_one, Nat.lt_irrefl, Nat.succ_ne_zero, w32_id, ixc, ixc2, Int.toNat_natCast, ob_214]
  refine Cl.app (r_read (l := l) (d := d + 4) K.1 (w := 1) (by decide)) ?_
  (try simp (disch := omega) only [bi_0, x_ic, x_lc, x_ld, x_st, x_sl, x_inc, x_b32, x_b64, x_d32, x_d64, x_s64, x_un, x_lcmp, x_dup, x_pop, x_dup2, x_if, x_cmp, x_sw, swk, x_ald, x_ast, x_alen, x_getf, x_putf, x_inv, x_mm, x_copy, x_iret, x_lret, x_vret, ok1, pu, ct, rcv, rcs, ent0, List.getElem?_cons_zero, List.getElem?_cons_succ, List.getElem?_nil, List.set_cons_zero, List.set_cons_succ, List.take_succ_cons, List.take_zero, List.drop_succ_cons, List.drop_zero, List.reverse_cons, List.reverse_nil, List.nil_append, List.cons_append, List.length_cons, List.length_nil, true_and, and_true, and_self, ne_eq, not_true_eq_false, not_false_eq_true, reduceIte, true_or, or_true, false_or, or_false, Nat.reduceAdd, Nat.reduceSub, Nat.reduceMul, Nat.reduceLeDiff, Nat.reduceEqDiff, Nat.reduceLT, Nat.le_refl, Nat.zero_le, Int.reduceToNat, Int.reduceAdd, Int.reduceSub, Int.reduceMul, Int.reduceNeg, Int.reduceLT, Int.reduceLE, Int.reduceEq, Nat.zero_add, Nat.add_zero, Nat.reduceBEq, Nat.one_ne_zero, Nat.zero_ne_one, Nat.lt_irrefl, Nat.succ_ne_zero, w32_id, ixc, ixc2, Int.toNat_natCast, ob_214, e1])
  refine Cl.imp (u_readName (l := l) (d := d) K A hi W' (fr := 6) (many := c) (most := 4) (by omega) (by decide)) (fun r sh' m1 q => ?_)
  obtain ⟨rfl, rfl, F1, A1, q1⟩ := q
  obtain ⟨f1, hf1⟩ : ∃ f, f = nmU s n (rowOf h) (nmOf h) (c : Int) 4 i := ⟨_, rfl⟩
  rw [show ((4 : Nat) : Int) = 4 from rfl, ← hf1] at A1 q1
  rw [← hf1] at hQ
  have K1 := F1.kr K
  (try simp (disch := omega) only [bi_0, x_ic, x_lc, x_ld, x_st, x_sl, x_inc, x_b32, x_b64, x_d32, x_d64, x_s64, x_un, x_lcmp, x_dup, x_pop, x_dup2, x_if, x_cmp, x_sw, swk, x_ald, x_ast, x_alen, x_getf, x_putf, x_inv, x_mm, x_copy, x_iret, x_lret, x_vret, ok1, pu, ct, rcv, rcs, ent0, List.getElem?_cons_zero, List.getElem?_cons_succ, List.getElem?_nil, List.set_cons_zero, List.set_cons_succ, List.take_succ_cons, List.take_zero, List.drop_succ_cons, List.drop_zero, List.reverse_cons, List.reverse_nil, List.nil_append, List.cons_append, List.length_cons, List.length_nil, true_and, and_true, and_self, ne_eq, not_true_eq_false, not_false_eq_true, reduceIte, true_or, or_true, false_or, or_false, Nat.reduceAdd, Nat.reduceSub, Nat.reduceMul, Nat.reduceLeDiff, Nat.reduceEqDiff, Nat.reduceLT, Nat.le_refl, Nat.zero_le, Int.reduceToNat, Int.reduceAdd, Int.reduceSub, Int.reduceMul, Int.reduceNeg, Int.reduceLT, Int.reduceLE, Int.reduceEq, Nat.zero_add, Nat.add_zero, Nat.reduceBEq, Nat.one_ne_zero, Nat.zero_ne_one, Nat.lt_irrefl, Nat.succ_ne_zero, w32_id, ixc, ixc2, Int.toNat_natCast, ob_214])
  refine Cl.imp (u_takeOne (l := l) (d := d + 2) K1 A1 (w0 := 12) (m := 4) (by decide)) (fun r2 sh' m2 q => ?_)
  obtain ⟨rfl, F2, A2, q2⟩ := q
  have K2 := F2.kr K1
  (try simp (disch := omega) only [bi_0, x_ic, x_lc, x_ld, x_st, x_sl, x_inc, x_b32, x_b64, x_d32, x_d64, x_s64, x_un, x_lcmp, x_dup, x_pop, x_dup2, x_if, x_cmp, x_sw, swk, x_ald, x_ast, x_alen, x_getf, x_putf, x_inv, x_mm, x_copy, x_iret, x_lret, x_vret, ok1, pu, ct, rcv, rcs, ent0, List.getElem?_cons_zero, List.getElem?_cons_succ, List.getElem?_nil, List.set_cons_zero, List.set_cons_succ, List.take_succ_cons, List.take_zero, List.drop_succ_cons, List.drop_zero, List.reverse_cons, List.reverse_nil, List.nil_append, List.cons_append, List.length_cons, List.length_nil, true_and, and_true, and_self, ne_eq, not_true_eq_false, not_false_eq_true, reduceIte, true_or, or_true, false_or, or_false, Nat.reduceAdd, Nat.reduceSub, Nat.reduceMul, Nat.reduceLeDiff, Nat.reduceEqDiff, Nat.reduceLT, Nat.le_refl, Nat.zero_le, Int.reduceToNat, Int.reduceAdd, Int.reduceSub, Int.reduceMul, Int.reduceNeg, Int.reduceLT, Int.reduceLE, Int.reduceEq, Nat.zero_add, Nat.add_zero, Nat.reduceBEq, Nat.one_ne_zero, Nat.zero_ne_one, Nat.lt_irrefl, Nat.succ_ne_zero, w32_id, ixc, ixc2, Int.toNat_natCast, ob_214])
  refine Cl.imp (u_takeWord (l := l) (d := d + 2) K2 A2 (w := 5) (by decide)) (fun r sh' m3 q => ?_)
  obtain ⟨rfl, rfl, F3, A3⟩ := q
  have K3 := F3.kr K2
  obtain ⟨c0, hc0⟩ : ∃ c0 : Nat, c0 = (rowOf h 0).toNat := ⟨_, rfl⟩
  have F23 := F2.trans F3
  have e0 : m3 220 (110 + 0) = (c0 : Int) := by
    have : m3 220 (110 + 0) = rowOf h 0 := by rw [← q1.1.1, ← F23.row]; rfl
    omega
  rw [← hc0] at hQ
  (try simp (disch := omega) only [bi_0, x_ic, x_lc, x_ld, x_st, x_sl, x_inc, x_b32, x_b64, x_d32, x_d64, x_s64, x_un, x_lcmp, x_dup, x_pop, x_dup2, x_if, x_cmp, x_sw, swk, x_ald, x_ast, x_alen, x_getf, x_putf, x_inv, x_mm, x_copy, x_iret, x_lret, x_vret, ok1, pu, ct, rcv, rcs, ent0, List.getElem?_cons_zero, List.getElem?_cons_succ, List.getElem?_nil, List.set_cons_zero, List.set_cons_succ, List.take_succ_cons, List.take_zero, List.drop_succ_cons, List.drop_zero, List.reverse_cons, List.reverse_nil, List.nil_append, List.cons_append, List.length_cons, List.length_nil, true_and, and_true, and_self, ne_eq, not_true_eq_false, not_false_eq_true, reduceIte, true_or, or_true, false_or, or_false, Nat.reduceAdd, Nat.reduceSub, Nat.reduceMul, Nat.reduceLeDiff, Nat.reduceEqDiff, Nat.reduceLT, Nat.le_refl, Nat.zero_le, Int.reduceToNat, Int.reduceAdd, Int.reduceSub, Int.reduceMul, Int.reduceNeg, Int.reduceLT, Int.reduceLE, Int.reduceEq, Nat.zero_add, Nat.add_zero, Nat.reduceBEq, Nat.one_ne_zero, Nat.zero_ne_one, Nat.lt_irrefl, Nat.succ_ne_zero, w32_id, ixc, ixc2, Int.toNat_natCast, ob_214])
  refine Cl.app (r_read (l := l) (d := d + 4) K3.1 (w := 0) (by decide)) ?_
  (try simp (disch := omega) only [bi_0, x_ic, x_lc, x_ld, x_st, x_sl, x_inc, x_b32, x_b64, x_d32, x_d64, x_s64, x_un, x_lcmp, x_dup, x_pop, x_dup2, x_if, x_cmp, x_sw, swk, x_ald, x_ast, x_alen, x_getf, x_putf, x_inv, x_mm, x_copy, x_iret, x_lret, x_vret, ok1, pu, ct, rcv, rcs, ent0, List.getElem?_cons_zero, List.getElem?_cons_succ, List.getElem?_nil, List.set_cons_zero, List.set_cons_succ, List.take_succ_cons, List.take_zero, List.drop_succ_cons, List.drop_zero, List.reverse_cons, List.reverse_nil, List.nil_append, List.cons_append, List.length_cons, List.length_nil, true_and, and_true, and_self, ne_eq, not_true_eq_false, not_false_eq_true, reduceIte, true_or, or_true, false_or, or_false, Nat.reduceAdd, Nat.reduceSub, Nat.reduceMul, Nat.reduceLeDiff, Nat.reduceEqDiff, Nat.reduceLT, Nat.le_refl, Nat.zero_le, Int.reduceToNat, Int.reduceAdd, Int.reduceSub, Int.reduceMul, Int.reduceNeg, Int.reduceLT, Int.reduceLE, Int.reduceEq, Nat.zero_add, Nat.add_zero, Nat.reduceBEq, Nat.one_ne_zero, Nat.zero_ne_one, Nat.lt_irrefl, Nat.succ_ne_zero, w32_id, ixc, ixc2, Int.toNat_natCast, ob_214, e0])
  refine Cl.imp (u_takeTold (l := l) (d := d + 1) K3 A3 (a := 14 + 0) (m := c0) (by omega) 0) (fun r4 sh' m4 q => ?_)
  obtain ⟨rfl, F4, A4, q4⟩ := q
  have F24 := F23.trans F4
  have td : orF (orF (orF f1 (onU s n (i + 2) 12 4)) (wdU s n (i + 2 + 1) 5)) (tdU s n (m3 222) (i + 2 + 1 + 1) (14 + 0) c0 (bitP 0)) = orF (orF (orF f1 (onU s n (i + 2) 12 4)) (wdU s n (i + 3) 5)) (tdU s n (nmOf h) (i + 4) 0 c0 (fun _ => False)) := by
    by_cases e : f1 = 0
    · rw [tdU_0 (by omega), tdU_cg (nm' := nmOf h) (a' := 0) (fun k hk => ?_)]
      have := congrFun ((F23.nm).trans (q1.2 e)) (0 + k)
      rw [ru_ne (by omega)] at this
      rw [← this, Nat.add_assoc]; rfl
    · have x1 : orF f1 (onU s n (i + 2) 12 4) ≠ 0 := fun x => e (orF_z.mp x).1
      have x2 : orF (orF f1 (onU s n (i + 2) 12 4)) (wdU s n (i + 3) 5) ≠ 0 := fun x => x1 (orF_z.mp x).1
      rw [orF_n x2, orF_n x2]
  rw [td] at A4 q4
  obtain ⟨U, hU⟩ : ∃ U, U = orF (orF (orF f1 (onU s n (i + 2) 12 4)) (wdU s n (i + 3) 5)) (tdU s n (nmOf h) (i + 4) 0 c0 (fun _ => False)) := ⟨_, rfl⟩
  rw [← hU] at hQ A4 q4
  have g8 := A4.1
  have L4 := (F4.kr K3).1
  have row4 : rowOf m4 = rowOf h := F24.row.trans q1.1.1
  (try simp (disch := omega) only [bi_0, x_ic, x_lc, x_ld, x_st, x_sl, x_inc, x_b32, x_b64, x_d32, x_d64, x_s64, x_un, x_lcmp, x_dup, x_pop, x_dup2, x_if, x_cmp, x_sw, swk, x_ald, x_ast, x_alen, x_getf, x_putf, x_inv, x_mm, x_copy, x_iret, x_lret, x_vret, ok1, pu, ct, rcv, rcs, ent0, List.getElem?_cons_zero, List.getElem?_cons_succ, List.getElem?_nil, List.set_cons_zero, List.set_cons_succ, List.take_succ_cons, List.take_zero, List.drop_succ_cons, List.drop_zero, List.reverse_cons, List.reverse_nil, List.nil_append, List.cons_append, List.length_cons, List.length_nil, true_and, and_true, and_self, ne_eq, not_true_eq_false, not_false_eq_true, reduceIte, true_or, or_true, false_or, or_false, Nat.reduceAdd, Nat.reduceSub, Nat.reduceMul, Nat.reduceLeDiff, Nat.reduceEqDiff, Nat.reduceLT, Nat.le_refl, Nat.zero_le, Int.reduceToNat, Int.reduceAdd, Int.reduceSub, Int.reduceMul, Int.reduceNeg, Int.reduceLT, Int.reduceLE, Int.reduceEq, Nat.zero_add, Nat.add_zero, Nat.reduceBEq, Nat.one_ne_zero, Nat.zero_ne_one, Nat.lt_irrefl, Nat.succ_ne_zero, w32_id, ixc, ixc2, Int.toNat_natCast, ob_214, g8])
  refine ⟨fun z => ?_, fun z => ?_⟩
  · have z1 := orF_z.mp (hU.symm.trans z)
    have z2 := orF_z.mp z1.1
    have z3 := orF_z.mp z2.1
    have e4 : r4 = naF (nmOf h) (tkVa s n (i + 4)) 0 c0 := by
      rw [q4 z]
      refine naF_cg (fun k hk => ?_)
      have := congrFun ((F23.nm).trans (q1.2 z3.1)) (0 + k)
      rw [ru_ne (by omega)] at this
      rw [← this, Nat.add_assoc]; rfl
    have e2 : r2 = whF s n (i + 2) 12 4 := q2 (by rw [z3.1, z3.2]; rfl)
    have w4 : m4 220 111 = (c : Int) := by
      have : m4 220 111 = rowOf m4 1 := rfl
      rw [this, row4]; exact hr
    have w5 : up (up m4 220 (180 + 2 * (c : Int)).toNat r2) 220 (180 + 2 * (c : Int) + 1).toNat r4 220 111 = (c : Int) := by rw [up_nj (by omega), up_nj (by omega)]; exact w4
    (try simp (disch := omega) only [bi_0, x_ic, x_lc, x_ld, x_st, x_sl, x_inc, x_b32, x_b64, x_d32, x_d64, x_s64, x_un, x_lcmp, x_dup, x_pop, x_dup2, x_if, x_cmp, x_sw, swk, x_ald, x_ast, x_alen, x_getf, x_putf, x_inv, x_mm, x_copy, x_iret, x_lret, x_vret, ok1, pu, ct, rcv, rcs, ent0, List.getElem?_cons_zero, List.getElem?_cons_succ, List.getElem?_nil, List.set_cons_zero, List.set_cons_succ, List.take_succ_cons, List.take_zero, List.drop_succ_cons, List.drop_zero, List.reverse_cons, List.reverse_nil, List.nil_append, List.cons_append, List.length_cons, List.length_nil, true_and, and_true, and_self, ne_eq, not_true_eq_false, not_false_eq_true, reduceIte, true_or, or_true, false_or, or_false, Nat.reduceAdd, Nat.reduceSub, Nat.reduceMul, Nat.reduceLeDiff, Nat.reduceEqDiff, Nat.reduceLT, Nat.le_refl, Nat.zero_le, Int.reduceToNat, Int.reduceAdd, Int.reduceSub, Int.reduceMul, Int.reduceNeg, Int.reduceLT, Int.reduceLE, Int.reduceEq, Nat.zero_add, Nat.add_zero, Nat.reduceBEq, Nat.one_ne_zero, Nat.zero_ne_one, Nat.lt_irrefl, Nat.succ_ne_zero, w32_id, ixc, ixc2, Int.toNat_natCast, ob_214, up_ne, ly_214_10 L4, ln_220, w5])
    refine ⟨by omega, by omega, ?_⟩
    refine S_X11_readNode_86 _ _ _ _ ?_; simp (disch := omega) only [B_X11_readNode_86, bi_0, x_ic, x_lc, x_ld, x_st, x_sl, x_inc, x_b32, x_b64, x_d32, x_d64, x_s64, x_un, x_lcmp, x_dup, x_pop, x_dup2, x_if, x_cmp, x_sw, swk, x_ald, x_ast, x_alen, x_getf, x_putf, x_inv, x_mm, x_copy, x_iret, x_lret, x_vret, ok1, pu, ct, rcv, rcs, ent0, List.getElem?_cons_zero, List.getElem?_cons_succ, List.getElem?_nil, List.set_cons_zero, List.set_cons_succ, List.take_succ_cons, List.take_zero, List.drop_succ_cons, List.drop_zero, List.reverse_cons, List.reverse_nil, List.nil_append, List.cons_append, List.length_cons, List.length_nil, true_and, and_true, and_self, ne_eq, not_true_eq_false, not_false_eq_true, reduceIte, true_or, or_true, false_or, or_false, Nat.reduceAdd, Nat.reduceSub, Nat.reduceMul, Nat.reduceLeDiff, Nat.reduceEqDiff, Nat.reduceLT, Nat.le_refl, Nat.zero_le, Int.reduceToNat, Int.reduceAdd, Int.reduceSub, Int.reduceMul, Int.reduceNeg, Int.reduceLT, Int.reduceLE, Int.reduceEq, Nat.zero_add, Nat.add_zero, Nat.reduceBEq, Nat.one_ne_zero, Nat.zero_ne_one, Nat.lt_irrefl, Nat.succ_ne_zero, w32_id, ixc, ixc2, Int.toNat_natCast]
    refine hQ _ _ _ ⟨rfl, rfl, F1.trans (F24.rx.trans ((Frx_row (by omega)).trans ((Frx_row (by omega)).trans (Frx_row (by omega))))), ?_, fun _ => ⟨?_, ?_, ?_⟩⟩
    · exact A4.fr (by rw [up_ne (by decide), up_ne (by decide), up_ne (by decide)])
    · rw [rowOf_up (j := 1) (by rfl), rowOf_up (j := 71 + 2 * c) (by omega), rowOf_up (j := 70 + 2 * c) (by omega), row4, e2, e4]
    · rw [nmOf_ne (by decide), nmOf_ne (by decide), nmOf_ne (by decide), F24.nm, q1.2 z3.1]
    · exact q1.1.2.trans (F24.sm.trans ⟨by rw [up_ne (by decide), up_ne (by decide), up_ne (by decide)], by rw [up_ne (by decide), up_ne (by decide), up_ne (by decide)]⟩)
  · refine S_X11_readNode_86 _ _ _ _ ?_; simp (disch := omega) only [B_X11_readNode_86, bi_0, x_ic, x_lc, x_ld, x_st, x_sl, x_inc, x_b32, x_b64, x_d32, x_d64, x_s64, x_un, x_lcmp, x_dup, x_pop, x_dup2, x_if, x_cmp, x_sw, swk, x_ald, x_ast, x_alen, x_getf, x_putf, x_inv, x_mm, x_copy, x_iret, x_lret, x_vret, ok1, pu, ct, rcv, rcs, ent0, List.getElem?_cons_zero, List.getElem?_cons_succ, List.getElem?_nil, List.set_cons_zero, List.set_cons_succ, List.take_succ_cons, List.take_zero, List.drop_succ_cons, List.drop_zero, List.reverse_cons, List.reverse_nil, List.nil_append, List.cons_append, List.length_cons, List.length_nil, true_and, and_true, and_self, ne_eq, not_true_eq_false, not_false_eq_true, reduceIte, true_or, or_true, false_or, or_false, Nat.reduceAdd, Nat.reduceSub, Nat.reduceMul, Nat.reduceLeDiff, Nat.reduceEqDiff, Nat.reduceLT, Nat.le_refl, Nat.zero_le, Int.reduceToNat, Int.reduceAdd, Int.reduceSub, Int.reduceMul, Int.reduceNeg, Int.reduceLT, Int.reduceLE, Int.reduceEq, Nat.zero_add, Nat.add_zero, Nat.reduceBEq, Nat.one_ne_zero, Nat.zero_ne_one, Nat.lt_irrefl, Nat.succ_ne_zero, w32_id, ixc, ixc2, Int.toNat_natCast]
    exact hQ _ _ _ ⟨rfl, rfl, F1.trans F24.rx, A4, fun x => absurd x z⟩
end RNM

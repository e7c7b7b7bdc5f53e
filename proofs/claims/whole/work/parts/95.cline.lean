/-! the class: a run's lines read -/
/-- as it was, but the tape's token and fault, and a script -/
def Fsc (sb : Nat) (h h' : Mem) : Prop := (∀ i, i ≠ 1 → i ≠ sb → i ≠ sb + 1 → i ≠ sb + 2 → h' i = h i) ∧ (∀ j, j ≤ 2 → h' 1 j = h 1 j) ∧ ∀ j, j ≠ 2 → h' sb j = h sb j
theorem Fsc.rfl {sb : Nat} {h : Mem} : Fsc sb h h := ⟨fun _ _ _ _ _ => Eq.refl _, fun _ _ => Eq.refl _, fun _ _ => Eq.refl _⟩
theorem Fsc.trans {sb : Nat} {h h1 h2 : Mem} (a : Fsc sb h h1) (b : Fsc sb h1 h2) : Fsc sb h h2 := ⟨fun i p q r u => (b.1 i p q r u).trans (a.1 i p q r u), fun j p => (b.2.1 j p).trans (a.2.1 j p), fun j p => (b.2.2 j p).trans (a.2.2 j p)⟩
theorem Fs1.sc {sb : Nat} {h h' : Mem} (hs : sb = 66 ∨ sb = 69) (f : Fs1 h h') : Fsc sb h h' := ⟨fun i p _ _ _ => f.1 i p, fun j p => f.2 j (Or.inl p), fun j _ => by rw [f.1 sb (by omega)]⟩
theorem Fsc_8 {sb : Nat} {h : Mem} {v : Int} (hs : sb = 66 ∨ sb = 69) : Fsc sb h (up h 1 8 v) := ⟨fun i p _ _ _ => up_ne p, fun j p => up_nj (by omega), fun j _ => by rw [up_ne (by omega)]⟩
theorem Fsc_a {sb a j : Nat} {h : Mem} {v : Int} (hs : sb = 66 ∨ sb = 69) (ha : a = sb + 1 ∨ a = sb + 2) : Fsc sb h (up h a j v) := ⟨fun i _ _ q r => up_ne (by omega), fun j p => by rw [up_ne (by omega)], fun j _ => by rw [up_ne (by omega)]⟩
theorem Fsc_f {sb : Nat} {h : Mem} {v : Int} (hs : sb = 66 ∨ sb = 69) : Fsc sb h (up h sb 2 v) := ⟨fun i _ q _ _ => up_ne q, fun j p => by rw [up_ne (by omega)], fun j q => up_nj q⟩
def scC (sb : Nat) : Bool := LAYL.all (fun q => if q.1 = 1 then decide (q.2.1 ≤ 2) else if q.1 = sb then !(q.2.1 == 2) else !(q.1 == sb + 1) && !(q.1 == sb + 2))
theorem Fsc.lay {sb : Nat} (hs : sb = 66 ∨ sb = 69) {h h' : Mem} (f : Fsc sb h h') (L : Lay h) : Lay h' := by
  refine Lay_fr L (fun q hq => ?_)
  have hn : scC sb = true := by rcases hs with rfl | rfl <;> decide +kernel
  have h1 := List.all_eq_true.mp hn q hq
  by_cases e : q.1 = 1
  · rw [if_pos e] at h1
    rw [e]; exact f.2.1 _ (by simpa using h1)
  · rw [if_neg e] at h1
    by_cases e2 : q.1 = sb
    · rw [if_pos e2] at h1
      rw [e2]; exact f.2.2 _ (by simpa using h1)
    · rw [if_neg e2] at h1
      simp at h1
      rw [f.1 q.1 e e2 h1.1 h1.2]
theorem Fsc.tx {sb : Nat} (hs : sb = 66 ∨ sb = 69) {h h' : Mem} {s : Nat → Int} {n : Nat} (f : Fsc sb h h') (T : TxC h s n) : TxC h' s n := by
  obtain ⟨a, b, c, e⟩ := T
  refine ⟨f.lay hs a, ⟨by rw [f.2.1 2 (by omega)]; exact b.1, by rw [f.1 2 (by decide) (by omega) (by omega) (by omega)]; exact b.2⟩, c, ?_⟩
  unfold WdC; rw [f.1 3 (by decide) (by omega) (by omega) (by omega)]; exact e
theorem CuC.fr {h h' : Mem} {s : Nat → Int} {n i : Nat} (C : CuC h s n i) (e : h' 1 = h 1) : CuC h' s n i := by
  unfold CuC TkC; rw [e]; exact C
noncomputable def ptL (s : Nat → Int) (n : Nat) (nm : Nat → Int) (nf i : Nat) : Int :=
  iF (¬ isNm s n i) (flt s n i 1) (iF (naF nm (tkVa s n i) 10 nf < 0) (flt s n i 2) (iF (¬ tkSo s n (i + 1) = 2) (flt s n (i + 1) 1) (iF (¬ (1 ≤ tkVa s n (i + 1) ∧ tkVa s n (i + 1) ≤ 9)) (flt s n (i + 1) 4) 0)))
section CLN
variable {l : Launch} {d : Nat} {h : Mem} {s : Nat → Int} {n i nb sb k nf : Nat} {nm : Nat → Int}
theorem c_readPut (T : TxC h s n) (C : CuC h s n i) (hs : sb = 66 ∨ sb = 69) (hnb : nb = 4 ∨ nb = 34) (hk : h sb 2 = (k : Int)) (hk40 : k < 40) (hf : h nb 13 = (nf : Int)) (hf4 : nf ≤ 4) (Na : NaL nm (h (nb + 4)) 10 nf) : Cl l (d + 4) M_X5_readPut [(2, (sb : Int) + 1), (2, 2), (2, (nb : Int) + 1)] SHP h (fun r sh' h' => sh' = SHP ∧ Fsc sb h h' ∧ ((ptL s n nm nf i = 0 ∧ r = 1 ∧ CuC h' s n (i + 2) ∧ h' sb 2 = (k : Int) ∧ (h' (sb + 1) k = naF nm (tkVa s n i) 10 nf ∧ h' (sb + 2) k = tkVa s n (i + 1)) ∧ ∀ j, j ≠ k → h' (sb + 1) j = h (sb + 1) j ∧ h' (sb + 2) j = h (sb + 2) j) ∨ (ptL s n nm nf i ≠ 0 ∧ r = 0 ∧ h' 1 8 = ptL s n nm nf i))) := by
  refine Cl_hide (fun Q hQ => ?_)
  have o := sc_ob hs
  have s1 := (net_sh hnb).1
  have f0 := sc_f T.1 hs
  unfold ptL at hQ
  show V l (d + 4) 0 0 M_X5_readPut 0 0 0 Q [(2, (sb : Int) + 1), (2, 2), (2, (nb : Int) + 1)] [] SHP h
  refine S_X5_readPut_0 _ _ _ _ ?_; simp (disch := omega) only [B_X5_readPut_0, bi_0, x_ic, x_lc, x_ld, x_st, x_sl, x_inc, x_b32, x_b64, x_d32, x_d64, x_s64, x_un, x_lcmp, x_dup, x_pop, x_dup2, x_if, x_cmp, x_sw, swk, x_ald, x_ast, x_alen, x_getf, x_putf, x_inv, x_mm, x_copy, x_iret, x_lret, x_vret, ok1, pu, ct, rcv, rcs, ent0, List.getElem?_cons_zero, List.getElem?_cons_succ, List.getElem?_nil, List.set_cons_zero, List.set_cons_succ, List.take_succ_cons, List.take_zero, List.drop_succ_cons, List.drop_zero, List.reverse_cons, List.reverse_nil, List.nil_append, List.cons_append, List.length_cons, List.length_nil, true_and, and_true, and_self, ne_eq, not_true_eq_false, not_false_eq_true, reduceIte, true_or, or_true, false_or, or_false, Nat.reduceAdd, Nat.reduceSub, Nat.reduceMul, Nat.reduceLeDiff, Nat.reduceEqDiff, Nat.reduceLT, Nat.le_refl, Nat.zero_le, Int.reduceToNat, Int.reduceAdd, Int.reduceSub, Int.reduceMul, Int.reduceNeg, Int.reduceLT, Int.reduceLE, Int.reduceEq, Nat.zero_add, Nat.add_zero, Nat.reduceBEq, Nat.one_ne_zero, Nat.zero_ne_one, Nat.lt_irrefl, Nat.succ_ne_zero, w32_id, ixc, ixc2, Int.toNat_natCast, ob_1]
  refine Cl.app (c_isName (l := l) (d := d + 1) C) ?_
  (try simp (disch := omega) only [bi_0, x_ic, x_lc, x_ld, x_st, x_sl, x_inc, x_b32, x_b64, x_d32, x_d64, x_s64, x_un, x_lcmp, x_dup, x_pop, x_dup2, x_if, x_cmp, x_sw, swk, x_ald, x_ast, x_alen, x_getf, x_putf, x_inv, x_mm, x_copy, x_iret, x_lret, x_vret, ok1, pu, ct, rcv, rcs, ent0, List.getElem?_cons_zero, List.getElem?_cons_succ, List.getElem?_nil, List.set_cons_zero, List.set_cons_succ, List.take_succ_cons, List.take_zero, List.drop_succ_cons, List.drop_zero, List.reverse_cons, List.reverse_nil, List.nil_append, List.cons_append, List.length_cons, List.length_nil, true_and, and_true, and_self, ne_eq, not_true_eq_false, not_false_eq_true, reduceIte, true_or, or_true, false_or, or_false, Nat.reduceAdd, Nat.reduceSub, Nat.reduceMul, Nat.reduceLeDiff, Nat.reduceEqDiff, Nat.reduceLT, Nat.le_refl, Nat.zero_le, Int.reduceToNat, Int.reduceAdd, Int.reduceSub, Int.reduceMul, Int.reduceNeg, Int.reduceLT, Int.reduceLE, Int.reduceEq, Nat.zero_add, Nat.add_zero, Nat.reduceBEq, Nat.one_ne_zero, Nat.zero_ne_one, Nat.lt_irrefl, Nat.succ_ne_zero, w32_id, ixc, ixc2, Int.toNat_natCast, bI_0, ob_1])
  refine ⟨fun z => ?_, fun z => ?_⟩
  · refine Cl.app (c_wrong (l := l) (d := d + 2) T C (w := 1) (by decide)) ?_
    (try simp (disch := omega) only [bi_0, x_ic, x_lc, x_ld, x_st, x_sl, x_inc, x_b32, x_b64, x_d32, x_d64, x_s64, x_un, x_lcmp, x_dup, x_pop, x_dup2, x_if, x_cmp, x_sw, swk, x_ald, x_ast, x_alen, x_getf, x_putf, x_inv, x_mm, x_copy, x_iret, x_lret, x_vret, ok1, pu, ct, rcv, rcs, ent0, List.getElem?_cons_zero, List.getElem?_cons_succ, List.getElem?_nil, List.set_cons_zero, List.set_cons_succ, List.take_succ_cons, List.take_zero, List.drop_succ_cons, List.drop_zero, List.reverse_cons, List.reverse_nil, List.nil_append, List.cons_append, List.length_cons, List.length_nil, true_and, and_true, and_self, ne_eq, not_true_eq_false, not_false_eq_true, reduceIte, true_or, or_true, false_or, or_false, Nat.reduceAdd, Nat.reduceSub, Nat.reduceMul, Nat.reduceLeDiff, Nat.reduceEqDiff, Nat.reduceLT, Nat.le_refl, Nat.zero_le, Int.reduceToNat, Int.reduceAdd, Int.reduceSub, Int.reduceMul, Int.reduceNeg, Int.reduceLT, Int.reduceLE, Int.reduceEq, Nat.zero_add, Nat.add_zero, Nat.reduceBEq, Nat.one_ne_zero, Nat.zero_ne_one, Nat.lt_irrefl, Nat.succ_ne_zero, w32_id, ixc, ixc2, Int.toNat_natCast])
    rw [iF_t z] at hQ
    have b := flt_b (s := s) (n := n) (i := i) (w := 1) (by decide)
    exact hQ _ _ _ ⟨rfl, Fsc_8 hs, Or.inr ⟨by omega, rfl, up_at⟩⟩
  rw [iF_f z] at hQ
  have z := Classical.not_not.mp z
  have nn := C.2.2.2.2 z.1
  have nf3 : h nb 3 = ((nb + 4 : Nat) : Int) + 1 := by
    rcases hnb with rfl | rfl
    · exact ly_4_3 T.1
    · exact ly_34_3 T.1
  obtain ⟨v, hv⟩ : ∃ v, v = naF nm (tkVa s n i) 10 nf := ⟨_, rfl⟩
  have cf := c_find (l := l) (d := d + 2) (h := h) (x := nb + 4) (a := 10) (m := nf) (z := 4) (nln4 hnb) hf4 (by decide) Na nn
  rw [← hv] at hQ cf
  have vb := naF_b (nm := nm) (v := tkVa s n i) (a := 10) (k := nf)
  rw [← hv] at vb
  obtain ⟨m1, hm1⟩ : ∃ m1, m1 = up h (sb + 1) k v := ⟨_, rfl⟩
  have F1 : Fsc sb h m1 := by rw [hm1]; exact Fsc_a hs (Or.inl rfl)
  have T1 := F1.tx hs T
  have C1 : CuC m1 s n i := C.fr (by rw [hm1]; exact up_ne (by omega))
  have k1 : m1 sb 2 = (k : Int) := by rw [hm1, up_ne (by omega)]; exact hk
  have g1 : m1 sb 0 = ((sb + 1 : Nat) : Int) + 1 := (sc_f T1.1 hs).1
  have g2 : m1 (sb + 1) k = v := by rw [hm1, up_at]
  have em : up h (sb + 1) k v = m1 := hm1.symm
  refine S_X5_readPut_13 _ _ _ _ ?_; simp (disch := omega) only [B_X5_readPut_13, bi_0, x_ic, x_lc, x_ld, x_st, x_sl, x_inc, x_b32, x_b64, x_d32, x_d64, x_s64, x_un, x_lcmp, x_dup, x_pop, x_dup2, x_if, x_cmp, x_sw, swk, x_ald, x_ast, x_alen, x_getf, x_putf, x_inv, x_mm, x_copy, x_iret, x_lret, x_vret, ok1, pu, ct, rcv, rcs, ent0, List.getElem?_cons_zero, List.getElem?_cons_succ, List.getElem?_nil, List.set_cons_zero, List.set_cons_succ, List.take_succ_cons, List.take_zero, List.drop_succ_cons, List.drop_zero, List.reverse_cons, List.reverse_nil, List.nil_append, List.cons_append, List.length_cons, List.length_nil, true_and, and_true, and_self, ne_eq, not_true_eq_false, not_false_eq_true, reduceIte, true_or, or_true, false_or, or_false, Nat.reduceAdd, Nat.reduceSub, Nat.reduceMul, Nat.reduceLeDiff, Nat.reduceEqDiff, Nat.reduceLT, Nat.le_refl, Nat.zero_le, Int.reduceToNat, Int.reduceAdd, Int.reduceSub, Int.reduceMul, Int.reduceNeg, Int.reduceLT, Int.reduceLE, Int.reduceEq, Nat.zero_add, Nat.add_zero, Nat.reduceBEq, Nat.one_ne_zero, Nat.zero_ne_one, Nat.lt_irrefl, Nat.succ_ne_zero, w32_id, ixc, ixc2, Int.toNat_natCast, o, f0.1, hk, s1, nf3, hf, ob_1]
  refine Cl.app cf ?_
  (try simp (disch := omega) only [bi_0, x_ic, x_lc, x_ld, x_st, x_sl, x_inc, x_b32, x_b64, x_d32, x_d64, x_s64, x_un, x_lcmp, x_dup, x_pop, x_dup2, x_if, x_cmp, x_sw, swk, x_ald, x_ast, x_alen, x_getf, x_putf, x_inv, x_mm, x_copy, x_iret, x_lret, x_vret, ok1, pu, ct, rcv, rcs, ent0, List.getElem?_cons_zero, List.getElem?_cons_succ, List.getElem?_nil, List.set_cons_zero, List.set_cons_succ, List.take_succ_cons, List.take_zero, List.drop_succ_cons, List.drop_zero, List.reverse_cons, List.reverse_nil, List.nil_append, List.cons_append, List.length_cons, List.length_nil, true_and, and_true, and_self, ne_eq, not_true_eq_false, not_false_eq_true, reduceIte, true_or, or_true, false_or, or_false, Nat.reduceAdd, Nat.reduceSub, Nat.reduceMul, Nat.reduceLeDiff, Nat.reduceEqDiff, Nat.reduceLT, Nat.le_refl, Nat.zero_le, Int.reduceToNat, Int.reduceAdd, Int.reduceSub, Int.reduceMul, Int.reduceNeg, Int.reduceLT, Int.reduceLE, Int.reduceEq, Nat.zero_add, Nat.add_zero, Nat.reduceBEq, Nat.one_ne_zero, Nat.zero_ne_one, Nat.lt_irrefl, Nat.succ_ne_zero, w32_id, ixc, ixc2, Int.toNat_natCast, o, (sc_l hs).1, em, g1, k1, g2, ob_1])
  refine ⟨by omega, by omega, fun y => ?_, fun y => ?_⟩
  · refine Cl.app (c_wrong (l := l) (d := d + 2) T1 C1 (w := 2) (by decide)) ?_
    (try simp (disch := omega) only [bi_0, x_ic, x_lc, x_ld, x_st, x_sl, x_inc, x_b32, x_b64, x_d32, x_d64, x_s64, x_un, x_lcmp, x_dup, x_pop, x_dup2, x_if, x_cmp, x_sw, swk, x_ald, x_ast, x_alen, x_getf, x_putf, x_inv, x_mm, x_copy, x_iret, x_lret, x_vret, ok1, pu, ct, rcv, rcs, ent0, List.getElem?_cons_zero, List.getElem?_cons_succ, List.getElem?_nil, List.set_cons_zero, List.set_cons_succ, List.take_succ_cons, List.take_zero, List.drop_succ_cons, List.drop_zero, List.reverse_cons, List.reverse_nil, List.nil_append, List.cons_append, List.length_cons, List.length_nil, true_and, and_true, and_self, ne_eq, not_true_eq_false, not_false_eq_true, reduceIte, true_or, or_true, false_or, or_false, Nat.reduceAdd, Nat.reduceSub, Nat.reduceMul, Nat.reduceLeDiff, Nat.reduceEqDiff, Nat.reduceLT, Nat.le_refl, Nat.zero_le, Int.reduceToNat, Int.reduceAdd, Int.reduceSub, Int.reduceMul, Int.reduceNeg, Int.reduceLT, Int.reduceLE, Int.reduceEq, Nat.zero_add, Nat.add_zero, Nat.reduceBEq, Nat.one_ne_zero, Nat.zero_ne_one, Nat.lt_irrefl, Nat.succ_ne_zero, w32_id, ixc, ixc2, Int.toNat_natCast])
    rw [iF_t (by omega)] at hQ
    have b := flt_b (s := s) (n := n) (i := i) (w := 2) (by decide)
    exact hQ _ _ _ ⟨rfl, F1.trans (Fsc_8 hs), Or.inr ⟨by omega, rfl, up_at⟩⟩
  rw [iF_f (by omega)] at hQ
  refine S_X5_readPut_56 _ _ _ _ ?_; simp (disch := omega) only [B_X5_readPut_56, bi_0, x_ic, x_lc, x_ld, x_st, x_sl, x_inc, x_b32, x_b64, x_d32, x_d64, x_s64, x_un, x_lcmp, x_dup, x_pop, x_dup2, x_if, x_cmp, x_sw, swk, x_ald, x_ast, x_alen, x_getf, x_putf, x_inv, x_mm, x_copy, x_iret, x_lret, x_vret, ok1, pu, ct, rcv, rcs, ent0, List.getElem?_cons_zero, List.getElem?_cons_succ, List.getElem?_nil, List.set_cons_zero, List.set_cons_succ, List.take_succ_cons, List.take_zero, List.drop_succ_cons, List.drop_zero, List.reverse_cons, List.reverse_nil, List.nil_append, List.cons_append, List.length_cons, List.length_nil, true_and, and_true, and_self, ne_eq, not_true_eq_false, not_false_eq_true, reduceIte, true_or, or_true, false_or, or_false, Nat.reduceAdd, Nat.reduceSub, Nat.reduceMul, Nat.reduceLeDiff, Nat.reduceEqDiff, Nat.reduceLT, Nat.le_refl, Nat.zero_le, Int.reduceToNat, Int.reduceAdd, Int.reduceSub, Int.reduceMul, Int.reduceNeg, Int.reduceLT, Int.reduceLE, Int.reduceEq, Nat.zero_add, Nat.add_zero, Nat.reduceBEq, Nat.one_ne_zero, Nat.zero_ne_one, Nat.lt_irrefl, Nat.succ_ne_zero, w32_id, ixc, ixc2, Int.toNat_natCast, ob_1]
  refine Cl.imp (c_next (l := l) (d := d) T1 C1) (fun r sh' m2 q => ?_)
  obtain ⟨rfl, rfl, F2, C2⟩ := q
  have T2 := T1.fs F2
  (try simp (disch := omega) only [bi_0, x_ic, x_lc, x_ld, x_st, x_sl, x_inc, x_b32, x_b64, x_d32, x_d64, x_s64, x_un, x_lcmp, x_dup, x_pop, x_dup2, x_if, x_cmp, x_sw, swk, x_ald, x_ast, x_alen, x_getf, x_putf, x_inv, x_mm, x_copy, x_iret, x_lret, x_vret, ok1, pu, ct, rcv, rcs, ent0, List.getElem?_cons_zero, List.getElem?_cons_succ, List.getElem?_nil, List.set_cons_zero, List.set_cons_succ, List.take_succ_cons, List.take_zero, List.drop_succ_cons, List.drop_zero, List.reverse_cons, List.reverse_nil, List.nil_append, List.cons_append, List.length_cons, List.length_nil, true_and, and_true, and_self, ne_eq, not_true_eq_false, not_false_eq_true, reduceIte, true_or, or_true, false_or, or_false, Nat.reduceAdd, Nat.reduceSub, Nat.reduceMul, Nat.reduceLeDiff, Nat.reduceEqDiff, Nat.reduceLT, Nat.le_refl, Nat.zero_le, Int.reduceToNat, Int.reduceAdd, Int.reduceSub, Int.reduceMul, Int.reduceNeg, Int.reduceLT, Int.reduceLE, Int.reduceEq, Nat.zero_add, Nat.add_zero, Nat.reduceBEq, Nat.one_ne_zero, Nat.zero_ne_one, Nat.lt_irrefl, Nat.succ_ne_zero, w32_id, ixc, ixc2, Int.toNat_natCast, ob_1])
  refine Cl.imp (c_hasNumber (l := l) (d := d + 1) T2 C2 1 9) (fun r sh' m3 q => ?_)
  obtain ⟨rfl, q⟩ := q
  have F12 := F1.trans (F2.sc hs)
  rcases q with ⟨q1, q2, rfl, rfl, q5⟩ | ⟨q1, q2, rfl, rfl⟩ | ⟨q1, rfl, rfl⟩
  · (try simp (disch := omega) only [bi_0, x_ic, x_lc, x_ld, x_st, x_sl, x_inc, x_b32, x_b64, x_d32, x_d64, x_s64, x_un, x_lcmp, x_dup, x_pop, x_dup2, x_if, x_cmp, x_sw, swk, x_ald, x_ast, x_alen, x_getf, x_putf, x_inv, x_mm, x_copy, x_iret, x_lret, x_vret, ok1, pu, ct, rcv, rcs, ent0, List.getElem?_cons_zero, List.getElem?_cons_succ, List.getElem?_nil, List.set_cons_zero, List.set_cons_succ, List.take_succ_cons, List.take_zero, List.drop_succ_cons, List.drop_zero, List.reverse_cons, List.reverse_nil, List.nil_append, List.cons_append, List.length_cons, List.length_nil, true_and, and_true, and_self, ne_eq, not_true_eq_false, not_false_eq_true, reduceIte, true_or, or_true, false_or, or_false, Nat.reduceAdd, Nat.reduceSub, Nat.reduceMul, Nat.reduceLeDiff, Nat.reduceEqDiff, Nat.reduceLT, Nat.le_refl, Nat.zero_le, Int.reduceToNat, Int.reduceAdd, Int.reduceSub, Int.reduceMul, Int.reduceNeg, Int.reduceLT, Int.reduceLE, Int.reduceEq, Nat.zero_add, Nat.add_zero, Nat.reduceBEq, Nat.one_ne_zero, Nat.zero_ne_one, Nat.lt_irrefl, Nat.succ_ne_zero, w32_id, ixc, ixc2, Int.toNat_natCast])
    refine ⟨fun y => y.elim, fun _ => ?_⟩
    rw [iF_f (fun x => x q1), iF_f (fun x => x q2)] at hQ
    have g3 := (sc_f T2.1 hs).2
    have k2 : m3 sb 2 = (k : Int) := by rw [F2.1 sb (by omega)]; exact k1
    refine S_X5_readPut_72 _ _ _ _ ?_; simp (disch := omega) only [B_X5_readPut_72, bi_0, x_ic, x_lc, x_ld, x_st, x_sl, x_inc, x_b32, x_b64, x_d32, x_d64, x_s64, x_un, x_lcmp, x_dup, x_pop, x_dup2, x_if, x_cmp, x_sw, swk, x_ald, x_ast, x_alen, x_getf, x_putf, x_inv, x_mm, x_copy, x_iret, x_lret, x_vret, ok1, pu, ct, rcv, rcs, ent0, List.getElem?_cons_zero, List.getElem?_cons_succ, List.getElem?_nil, List.set_cons_zero, List.set_cons_succ, List.take_succ_cons, List.take_zero, List.drop_succ_cons, List.drop_zero, List.reverse_cons, List.reverse_nil, List.nil_append, List.cons_append, List.length_cons, List.length_nil, true_and, and_true, and_self, ne_eq, not_true_eq_false, not_false_eq_true, reduceIte, true_or, or_true, false_or, or_false, Nat.reduceAdd, Nat.reduceSub, Nat.reduceMul, Nat.reduceLeDiff, Nat.reduceEqDiff, Nat.reduceLT, Nat.le_refl, Nat.zero_le, Int.reduceToNat, Int.reduceAdd, Int.reduceSub, Int.reduceMul, Int.reduceNeg, Int.reduceLT, Int.reduceLE, Int.reduceEq, Nat.zero_add, Nat.add_zero, Nat.reduceBEq, Nat.one_ne_zero, Nat.zero_ne_one, Nat.lt_irrefl, Nat.succ_ne_zero, w32_id, ixc, ixc2, Int.toNat_natCast, o, g3, k2, q5, (sc_l hs).2, ob_1]
    refine ⟨by omega, ?_⟩
    have F3 : Fsc sb h (up m3 (sb + 2) k (tkVa s n (i + 1))) := F12.trans (Fsc_a hs (Or.inr rfl))
    refine Cl.imp (c_next (l := l) (d := d) (F3.tx hs T) (C2.fr (up_ne (by omega)))) (fun r sh' m4 q => ?_)
    obtain ⟨rfl, rfl, F4, C4⟩ := q
    (try simp (disch := omega) only [bi_0, x_ic, x_lc, x_ld, x_st, x_sl, x_inc, x_b32, x_b64, x_d32, x_d64, x_s64, x_un, x_lcmp, x_dup, x_pop, x_dup2, x_if, x_cmp, x_sw, swk, x_ald, x_ast, x_alen, x_getf, x_putf, x_inv, x_mm, x_copy, x_iret, x_lret, x_vret, ok1, pu, ct, rcv, rcs, ent0, List.getElem?_cons_zero, List.getElem?_cons_succ, List.getElem?_nil, List.set_cons_zero, List.set_cons_succ, List.take_succ_cons, List.take_zero, List.drop_succ_cons, List.drop_zero, List.reverse_cons, List.reverse_nil, List.nil_append, List.cons_append, List.length_cons, List.length_nil, true_and, and_true, and_self, ne_eq, not_true_eq_false, not_false_eq_true, reduceIte, true_or, or_true, false_or, or_false, Nat.reduceAdd, Nat.reduceSub, Nat.reduceMul, Nat.reduceLeDiff, Nat.reduceEqDiff, Nat.reduceLT, Nat.le_refl, Nat.zero_le, Int.reduceToNat, Int.reduceAdd, Int.reduceSub, Int.reduceMul, Int.reduceNeg, Int.reduceLT, Int.reduceLE, Int.reduceEq, Nat.zero_add, Nat.add_zero, Nat.reduceBEq, Nat.one_ne_zero, Nat.zero_ne_one, Nat.lt_irrefl, Nat.succ_ne_zero, w32_id, ixc, ixc2, Int.toNat_natCast])
    refine hQ _ _ _ ⟨rfl, F3.trans (F4.sc hs), Or.inl ⟨rfl, rfl, C4, ?_, ⟨?_, ?_⟩, fun j hj => ⟨?_, ?_⟩⟩⟩
    · rw [F4.1 sb (by omega), up_ne (by omega)]; exact k2
    · rw [F4.1 (sb + 1) (by omega), up_ne (by omega), F2.1 (sb + 1) (by omega)]; exact g2
    · rw [F4.1 (sb + 2) (by omega), up_at]
    · rw [F4.1 (sb + 1) (by omega), up_ne (by omega), F2.1 (sb + 1) (by omega), hm1, up_nj hj]
    · rw [F4.1 (sb + 2) (by omega), up_nj hj, F2.1 (sb + 2) (by omega), hm1, up_ne (by omega)]
  · (try simp (disch := omega) only [bi_0, x_ic, x_lc, x_ld, x_st, x_sl, x_inc, x_b32, x_b64, x_d32, x_d64, x_s64, x_un, x_lcmp, x_dup, x_pop, x_dup2, x_if, x_cmp, x_sw, swk, x_ald, x_ast, x_alen, x_getf, x_putf, x_inv, x_mm, x_copy, x_iret, x_lret, x_vret, ok1, pu, ct, rcv, rcs, ent0, List.getElem?_cons_zero, List.getElem?_cons_succ, List.getElem?_nil, List.set_cons_zero, List.set_cons_succ, List.take_succ_cons, List.take_zero, List.drop_succ_cons, List.drop_zero, List.reverse_cons, List.reverse_nil, List.nil_append, List.cons_append, List.length_cons, List.length_nil, true_and, and_true, and_self, ne_eq, not_true_eq_false, not_false_eq_true, reduceIte, true_or, or_true, false_or, or_false, Nat.reduceAdd, Nat.reduceSub, Nat.reduceMul, Nat.reduceLeDiff, Nat.reduceEqDiff, Nat.reduceLT, Nat.le_refl, Nat.zero_le, Int.reduceToNat, Int.reduceAdd, Int.reduceSub, Int.reduceMul, Int.reduceNeg, Int.reduceLT, Int.reduceLE, Int.reduceEq, Nat.zero_add, Nat.add_zero, Nat.reduceBEq, Nat.one_ne_zero, Nat.zero_ne_one, Nat.lt_irrefl, Nat.succ_ne_zero, w32_id, ixc, ixc2, Int.toNat_natCast])
    refine ⟨fun _ => ?_, fun y => y.elim⟩
    rw [iF_f (fun x => x q1), iF_t q2] at hQ
    have b := flt_b (s := s) (n := n) (i := i + 1) (w := 4) (by decide)
    exact hQ _ _ _ ⟨rfl, F12.trans (Fsc_8 hs), Or.inr ⟨by omega, rfl, up_at⟩⟩
  · (try simp (disch := omega) only [bi_0, x_ic, x_lc, x_ld, x_st, x_sl, x_inc, x_b32, x_b64, x_d32, x_d64, x_s64, x_un, x_lcmp, x_dup, x_pop, x_dup2, x_if, x_cmp, x_sw, swk, x_ald, x_ast, x_alen, x_getf, x_putf, x_inv, x_mm, x_copy, x_iret, x_lret, x_vret, ok1, pu, ct, rcv, rcs, ent0, List.getElem?_cons_zero, List.getElem?_cons_succ, List.getElem?_nil, List.set_cons_zero, List.set_cons_succ, List.take_succ_cons, List.take_zero, List.drop_succ_cons, List.drop_zero, List.reverse_cons, List.reverse_nil, List.nil_append, List.cons_append, List.length_cons, List.length_nil, true_and, and_true, and_self, ne_eq, not_true_eq_false, not_false_eq_true, reduceIte, true_or, or_true, false_or, or_false, Nat.reduceAdd, Nat.reduceSub, Nat.reduceMul, Nat.reduceLeDiff, Nat.reduceEqDiff, Nat.reduceLT, Nat.le_refl, Nat.zero_le, Int.reduceToNat, Int.reduceAdd, Int.reduceSub, Int.reduceMul, Int.reduceNeg, Int.reduceLT, Int.reduceLE, Int.reduceEq, Nat.zero_add, Nat.add_zero, Nat.reduceBEq, Nat.one_ne_zero, Nat.zero_ne_one, Nat.lt_irrefl, Nat.succ_ne_zero, w32_id, ixc, ixc2, Int.toNat_natCast])
    refine ⟨fun _ => ?_, fun y => y.elim⟩
    rw [iF_t q1] at hQ
    have b := flt_b (s := s) (n := n) (i := i + 1) (w := 1) (by decide)
    exact hQ _ _ _ ⟨rfl, F12.trans (Fsc_8 hs), Or.inr ⟨by omega, rfl, up_at⟩⟩
end CLN

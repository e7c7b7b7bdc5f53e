/-! the reference's steps, whether a fault stands or not -/
def AtF (h : Mem) (N i : Nat) (f : Int) : Prop := h 214 8 = f ∧ 0 ≤ f ∧ ∃ p : Nat, h 214 7 = (p : Int) ∧ p ≤ N ∧ (f = 0 → p = i)
/-- as it was, but place and fault -/
def Fat (h h' : Mem) : Prop := (∀ i, i ≠ 214 → h' i = h i) ∧ ∀ j, j ≠ 7 → j ≠ 8 → h' 214 j = h 214 j
theorem Fat.rfl {h : Mem} : Fat h h := ⟨fun _ _ => Eq.refl _, fun _ _ _ => Eq.refl _⟩
theorem Fat.trans {h h1 h2 : Mem} (a : Fat h h1) (b : Fat h1 h2) : Fat h h2 := ⟨fun i p => (b.1 i p).trans (a.1 i p), fun j p q => (b.2 j p q).trans (a.2 j p q)⟩
theorem Fat_f {h : Mem} {j : Nat} {v : Int} (hj : j = 7 ∨ j = 8) : Fat h (up h 214 j v) := ⟨fun i p => up_ne p, fun q _ _ => up_nj (by omega)⟩
theorem Fat.frn {h h' : Mem} (a : Fat h h') : Frn h h' := ⟨fun i p _ => a.1 i p, a.2, fun j _ => by rw [a.1 223 (by decide)]⟩
theorem Fat.kr {h h' : Mem} {s : Nat → Int} {n N : Nat} (a : Fat h h') (K : KR h s n N) : KR h' s n N := a.frn.kr K
theorem AtF.at0 {h : Mem} {N i : Nat} (A : AtF h N i 0) : AtR h N i 0 := by
  obtain ⟨a, _, p, b, c, e⟩ := A
  rw [e rfl] at b c
  exact ⟨b, c, a⟩
theorem AtF.at1 {h : Mem} {N i : Nat} {f : Int} (A : AtF h N i f) : ∃ p, AtR h N p f := ⟨A.2.2.choose, A.2.2.choose_spec.1, A.2.2.choose_spec.2.1, A.1⟩
theorem AtR.f {h : Mem} {N i : Nat} (A : AtR h N i 0) : AtF h N i 0 := ⟨A.2.2, Int.le_refl _, i, A.1, A.2.1, fun _ => rfl⟩
theorem AtF.nx {h : Mem} {N i j : Nat} {f : Int} (A : AtF h N i f) (e : f ≠ 0) : AtF h N j f := ⟨A.1, A.2.1, A.2.2.choose, A.2.2.choose_spec.1, A.2.2.choose_spec.2.1, fun x => absurd x e⟩
theorem AtF.go {h : Mem} {N i j : Nat} (A : AtF h N i 0) (hj : j ≤ N) : AtF (up h 214 7 ((j : Nat) : Int)) N j 0 := ⟨by rw [up_nj (by decide)]; exact A.1, Int.le_refl _, j, up_at, hj, fun _ => rfl⟩
theorem AtF.no {h : Mem} {N i j : Nat} {f : Int} (A : AtF h N i 0) (hf : 1 ≤ f) : AtF (up h 214 8 f) N j f := ⟨up_at, by omega, A.2.2.choose, by rw [up_nj (by decide)]; exact A.2.2.choose_spec.1, A.2.2.choose_spec.2.1, fun x => by omega⟩
theorem AtF.fr {h h' : Mem} {N i : Nat} {f : Int} (A : AtF h N i f) (e : h' 214 = h 214) : AtF h' N i f := by unfold AtF; rw [e]; exact A
section UST
variable {l : Launch} {d : Nat} {h : Mem} {s : Nat → Int} {n N i : Nat} {f : Int}
theorem so_wd {w : Nat} (a : isWd s n i w) : tkSo s n i ≠ 0 := by rw [a.1]; decide
theorem so_sn {c : Int} (a : isSn s n i c) : tkSo s n i ≠ 0 := by rw [a.1]; decide
theorem so_nm (a : isNm s n i) : tkSo s n i ≠ 0 := by rw [a.1]; decide
theorem u_takeWord (K : KR h s n N) (A : AtF h N i f) {w : Nat} (hw : w < 23) : Cl l (d + 3) M_X11_takeWord [(2, 215), (0, (w : Int))] SHP h (fun r sh' h' => r = 0 ∧ sh' = SHP ∧ Fat h h' ∧ AtF h' N (i + 1) (orF f (wdU s n i w))) := by
  by_cases e : f = 0
  · subst e
    refine Cl.imp (r_takeWord0 K A.at0 hw) (fun r sh' h' q => ?_)
    obtain ⟨q0, q1, q⟩ := q
    refine ⟨q0, q1, ?_⟩
    rw [orF_0]; unfold wdU
    rcases q with ⟨a, rfl⟩ | ⟨a, rfl⟩
    · rw [iF_t a]; exact ⟨Fat_f (Or.inl rfl), A.go (K.lt A.at0.2.1 (so_wd a))⟩
    · rw [iF_f a]; exact ⟨Fat_f (Or.inr rfl), A.no (flt_b (by decide))⟩
  · obtain ⟨p, A1⟩ := A.at1
    refine Cl.app (r_takeWord1 K A1 e _) ?_
    rw [orF_n e]
    exact ⟨rfl, rfl, Fat.rfl, A.nx e⟩
theorem u_takeSign (K : KR h s n N) (A : AtF h N i f) (c : Int) : Cl l (d + 2) M_X11_takeSign [(2, 215), (0, c)] SHP h (fun r sh' h' => r = 0 ∧ sh' = SHP ∧ Fat h h' ∧ AtF h' N (i + 1) (orF f (snU s n i c))) := by
  by_cases e : f = 0
  · subst e
    refine Cl.imp (r_takeSign0 K A.at0 c) (fun r sh' h' q => ?_)
    obtain ⟨q0, q1, q⟩ := q
    refine ⟨q0, q1, ?_⟩
    rw [orF_0]; unfold snU
    rcases q with ⟨a, rfl⟩ | ⟨a, rfl⟩
    · rw [iF_t a]; exact ⟨Fat_f (Or.inl rfl), A.go (K.lt A.at0.2.1 (so_sn a))⟩
    · rw [iF_f a]; exact ⟨Fat_f (Or.inr rfl), A.no (flt_b (by decide))⟩
  · refine Cl.app (r_takeSign1 A.1 e _) ?_
    rw [orF_n e]
    exact ⟨rfl, rfl, Fat.rfl, A.nx e⟩
theorem u_takeNumber (K : KR h s n N) (A : AtF h N i f) (lo hi : Int) : Cl l (d + 2) M_X11_takeNumber [(2, 215), (0, lo), (0, hi)] SHP h (fun r sh' h' => sh' = SHP ∧ Fat h h' ∧ AtF h' N (i + 1) (orF f (nuU s n i lo hi)) ∧ (orF f (nuU s n i lo hi) = 0 → r = tkVa s n i)) := by
  by_cases e : f = 0
  · subst e
    refine Cl.imp (r_takeNumber0 K A.at0 lo hi) (fun r sh' h' q => ?_)
    obtain ⟨q1, q⟩ := q
    refine ⟨q1, ?_⟩
    rw [orF_0]; unfold nuU
    rcases q with ⟨a, b, c, rfl⟩ | ⟨a, b, c, rfl⟩ | ⟨a, c, rfl⟩
    · rw [iF_t a, iF_t b]; exact ⟨Fat_f (Or.inl rfl), A.go (K.lt A.at0.2.1 (by omega)), fun _ => c⟩
    · rw [iF_t a, iF_f b]; exact ⟨Fat_f (Or.inr rfl), A.no (flt_b (by decide)), fun x => absurd x (by have := flt_b (s := s) (n := n) (i := i) (w := 4) (by decide); omega)⟩
    · rw [iF_f a]; exact ⟨Fat_f (Or.inr rfl), A.no (flt_b (by decide)), fun x => absurd x (by have := flt_b (s := s) (n := n) (i := i) (w := 1) (by decide); omega)⟩
  · refine Cl.app (r_takeNumber1 A.1 (by have := A.2.1; omega) lo hi) ?_
    rw [orF_n e]
    exact ⟨rfl, Fat.rfl, A.nx e, fun x => absurd x e⟩
theorem u_takeOne (K : KR h s n N) (A : AtF h N i f) {w0 m : Nat} (hw : w0 + m ≤ 23) : Cl l (d + 3) M_X11_takeOne [(2, 215), (0, (w0 : Int)), (0, (m : Int))] SHP h (fun r sh' h' => sh' = SHP ∧ Fat h h' ∧ AtF h' N (i + 1) (orF f (onU s n i w0 m)) ∧ (orF f (onU s n i w0 m) = 0 → r = whF s n i w0 m)) := by
  by_cases e : f = 0
  · subst e
    refine Cl.imp (r_takeOne0 K A.at0 hw) (fun r sh' h' q => ?_)
    obtain ⟨q1, q⟩ := q
    refine ⟨q1, ?_⟩
    rw [orF_0]; unfold onU
    rcases q with ⟨a, c, rfl⟩ | ⟨a, c, rfl⟩
    · rw [iF_t a]; exact ⟨Fat_f (Or.inl rfl), A.go (K.lt A.at0.2.1 (so_wd (whF_is a))), fun _ => c⟩
    · rw [iF_f (by omega)]; exact ⟨Fat_f (Or.inr rfl), A.no (flt_b (by decide)), fun x => absurd x (by have := flt_b (s := s) (n := n) (i := i) (w := 1) (by decide); omega)⟩
  · obtain ⟨p, A1⟩ := A.at1
    refine Cl.app (r_takeOne1 K A1 (by have := A.2.1; omega) _ _) ?_
    rw [orF_n e]
    exact ⟨rfl, Fat.rfl, A.nx e, fun x => absurd x e⟩
theorem u_takeTold (K : KR h s n N) (A : AtF h N i f) {a m : Nat} (ha : a + m ≤ 28) (b : Int) : Cl l (d + 4) M_X11_takeTold [(2, 215), (0, (a : Int)), (0, (m : Int)), (0, b)] SHP h (fun r sh' h' => sh' = SHP ∧ Fat h h' ∧ AtF h' N (i + 1) (orF f (tdU s n (h 222) i a m (bitP b))) ∧ (orF f (tdU s n (h 222) i a m (bitP b)) = 0 → r = naF (h 222) (tkVa s n i) a m)) := by
  by_cases e : f = 0
  · subst e
    refine Cl.imp (r_takeTold0 K A.at0 ha b) (fun r sh' h' q => ?_)
    obtain ⟨q1, q⟩ := q
    refine ⟨q1, ?_⟩
    rw [orF_0]; unfold tdU
    rcases q with ⟨a1, c, rfl⟩ | ⟨a1, a2, c, rfl⟩ | ⟨a1, a2, a3, c, rfl⟩ | ⟨a1, a2, a3, c, rfl⟩
    · rw [iF_f a1]; exact ⟨Fat_f (Or.inr rfl), A.no (flt_b (by decide)), fun x => absurd x (by have := flt_b (s := s) (n := n) (i := i) (w := 1) (by decide); omega)⟩
    · rw [iF_t a1, iF_t a2]; exact ⟨Fat_f (Or.inr rfl), A.no (flt_b (by decide)), fun x => absurd x (by have := flt_b (s := s) (n := n) (i := i) (w := 2) (by decide); omega)⟩
    · rw [iF_t a1, iF_f (by omega), iF_t a3]; exact ⟨Fat_f (Or.inr rfl), A.no (flt_b (by decide)), fun x => absurd x (by have := flt_b (s := s) (n := n) (i := i) (w := 3) (by decide); omega)⟩
    · rw [iF_t a1, iF_f (by omega), iF_f a3]; exact ⟨Fat_f (Or.inl rfl), A.go (K.lt A.at0.2.1 (so_nm a1)), fun _ => c⟩
  · obtain ⟨p, A1⟩ := A.at1
    refine Cl.app (r_takeTold1 K A1 (by have := A.2.1; omega) _ _ _) ?_
    rw [orF_n e]
    exact ⟨rfl, Fat.rfl, A.nx e, fun x => absurd x e⟩
theorem u_takeAfter (K : KR h s n N) (A : AtF h N i f) {w : Nat} (hw : w < 23) (lo hi : Int) : Cl l (d + 4) M_X11_takeAfter [(2, 215), (0, (w : Int)), (0, lo), (0, hi)] SHP h (fun r sh' h' => sh' = SHP ∧ Fat h h' ∧ AtF h' N (i + 2) (orF (orF f (wdU s n i w)) (nuU s n (i + 1) lo hi)) ∧ (orF (orF f (wdU s n i w)) (nuU s n (i + 1) lo hi) = 0 → r = tkVa s n (i + 1))) := by
  refine Cl_hide (fun Q hQ => ?_)
  show V l (d + 4) 0 0 M_X11_takeAfter 0 0 0 Q [(2, 215), (0, (w : Int)), (0, lo), (0, hi)] [] SHP h
  refine S_X11_takeAfter_0 _ _ _ _ ?_; simp (disch := omega) only [B_X11_takeAfter_0, bi_0, x_ic, x_lc, x_ld, x_st, x_sl, x_inc, x_b32, x_b64, x_d32, x_d64, x_s64, x_un, x_lcmp, x_dup, x_pop, x_dup2, x_if, x_cmp, x_sw, swk, x_ald, x_ast, x_alen, x_getf, x_putf, x_inv, x_mm, x_copy, x_iret, x_lret, x_vret, ok1, pu, ct, rcv, rcs, ent0, List.getElem?_cons_zero, List.getElem?_cons_succ, List.getElem?_nil, List.set_cons_zero, List.set_cons_succ, List.take_succ_cons, List.take_zero, List.drop_succ_cons, List.drop_zero, List.reverse_cons, List.reverse_nil, List.nil_append, List.cons_append, List.length_cons, List.length_nil, true_and, and_true, and_self, ne_eq, not_true_eq_false, not_false_eq_true, reduceIte, true_or, or_true, false_or, or_false, Nat.reduceAdd, Nat.reduceSub, Nat.reduceMul, Nat.reduceLeDiff, Nat.reduceEqDiff, Nat.reduceLT, Nat.le_refl, Nat.zero_le, Int.reduceToNat, Int.reduceAdd, Int.reduceSub, Int.reduceMul, Int.reduceNeg, Int.reduceLT, Int.reduceLE, Int.reduceEq, Nat.zero_add, Nat.add_zero, Nat.reduceBEq, Nat.one_ne_zero, Nat.zero_ne_one, Nat.lt_irrefl, Nat.succ_ne_zero, w32_id, ixc, ixc2, Int.toNat_natCast, ob_214]
  refine Cl.imp (u_takeWord (l := l) (d := d) K A hw) (fun r sh' h1 q => ?_)
  obtain ⟨rfl, rfl, F1, A1⟩ := q
  (try simp (disch := omega) only [bi_0, x_ic, x_lc, x_ld, x_st, x_sl, x_inc, x_b32, x_b64, x_d32, x_d64, x_s64, x_un, x_lcmp, x_dup, x_pop, x_dup2, x_if, x_cmp, x_sw, swk, x_ald, x_ast, x_alen, x_getf, x_putf, x_inv, x_mm, x_copy, x_iret, x_lret, x_vret, ok1, pu, ct, rcv, rcs, ent0, List.getElem?_cons_zero, List.getElem?_cons_succ, List.getElem?_nil, List.set_cons_zero, List.set_cons_succ, List.take_succ_cons, List.take_zero, List.drop_succ_cons, List.drop_zero, List.reverse_cons, List.reverse_nil, List.nil_append, List.cons_append, List.length_cons, List.length_nil, true_and, and_true, and_self, ne_eq, not_true_eq_false, not_false_eq_true, reduceIte, true_or, or_true, false_or, or_false, Nat.reduceAdd, Nat.reduceSub, Nat.reduceMul, Nat.reduceLeDiff, Nat.reduceEqDiff, Nat.reduceLT, Nat.le_refl, Nat.zero_le, Int.reduceToNat, Int.reduceAdd, Int.reduceSub, Int.reduceMul, Int.reduceNeg, Int.reduceLT, Int.reduceLE, Int.reduceEq, Nat.zero_add, Nat.add_zero, Nat.reduceBEq, Nat.one_ne_zero, Nat.zero_ne_one, Nat.lt_irrefl, Nat.succ_ne_zero, w32_id, ixc, ixc2, Int.toNat_natCast, ob_214])
  refine Cl.imp (u_takeNumber (l := l) (d := d + 1) (F1.kr K) A1 lo hi) (fun r sh' h2 q => ?_)
  obtain ⟨rfl, F2, A2, q⟩ := q
  (try simp (disch := omega) only [bi_0, x_ic, x_lc, x_ld, x_st, x_sl, x_inc, x_b32, x_b64, x_d32, x_d64, x_s64, x_un, x_lcmp, x_dup, x_pop, x_dup2, x_if, x_cmp, x_sw, swk, x_ald, x_ast, x_alen, x_getf, x_putf, x_inv, x_mm, x_copy, x_iret, x_lret, x_vret, ok1, pu, ct, rcv, rcs, ent0, List.getElem?_cons_zero, List.getElem?_cons_succ, List.getElem?_nil, List.set_cons_zero, List.set_cons_succ, List.take_succ_cons, List.take_zero, List.drop_succ_cons, List.drop_zero, List.reverse_cons, List.reverse_nil, List.nil_append, List.cons_append, List.length_cons, List.length_nil, true_and, and_true, and_self, ne_eq, not_true_eq_false, not_false_eq_true, reduceIte, true_or, or_true, false_or, or_false, Nat.reduceAdd, Nat.reduceSub, Nat.reduceMul, Nat.reduceLeDiff, Nat.reduceEqDiff, Nat.reduceLT, Nat.le_refl, Nat.zero_le, Int.reduceToNat, Int.reduceAdd, Int.reduceSub, Int.reduceMul, Int.reduceNeg, Int.reduceLT, Int.reduceLE, Int.reduceEq, Nat.zero_add, Nat.add_zero, Nat.reduceBEq, Nat.one_ne_zero, Nat.zero_ne_one, Nat.lt_irrefl, Nat.succ_ne_zero, w32_id, ixc, ixc2, Int.toNat_natCast])
  exact hQ _ _ _ ⟨rfl, F1.trans F2, A2, q⟩
theorem r_read (L : Lay h) {w : Nat} (hw : w < 110) : Cl l (d + 1) M_X11_read [(2, 215), (0, (w : Int))] SHP h (Rt (h 220 (110 + w)) SHP h) := by
  show V l (d + 1) 0 0 M_X11_read 0 0 0 _ [(2, 215), (0, (w : Int))] [] SHP h
  refine S_X11_read_0 _ _ _ _ ?_; simp (disch := omega) only [B_X11_read_0, bi_0, x_ic, x_lc, x_ld, x_st, x_sl, x_inc, x_b32, x_b64, x_d32, x_d64, x_s64, x_un, x_lcmp, x_dup, x_pop, x_dup2, x_if, x_cmp, x_sw, swk, x_ald, x_ast, x_alen, x_getf, x_putf, x_inv, x_mm, x_copy, x_iret, x_lret, x_vret, ok1, pu, ct, rcv, rcs, ent0, List.getElem?_cons_zero, List.getElem?_cons_succ, List.getElem?_nil, List.set_cons_zero, List.set_cons_succ, List.take_succ_cons, List.take_zero, List.drop_succ_cons, List.drop_zero, List.reverse_cons, List.reverse_nil, List.nil_append, List.cons_append, List.length_cons, List.length_nil, true_and, and_true, and_self, ne_eq, not_true_eq_false, not_false_eq_true, reduceIte, true_or, or_true, false_or, or_false, Nat.reduceAdd, Nat.reduceSub, Nat.reduceMul, Nat.reduceLeDiff, Nat.reduceEqDiff, Nat.reduceLT, Nat.le_refl, Nat.zero_le, Int.reduceToNat, Int.reduceAdd, Int.reduceSub, Int.reduceMul, Int.reduceNeg, Int.reduceLT, Int.reduceLE, Int.reduceEq, Nat.zero_add, Nat.add_zero, Nat.reduceBEq, Nat.one_ne_zero, Nat.zero_ne_one, Nat.lt_irrefl, Nat.succ_ne_zero, w32_id, ixc, ixc2, Int.toNat_natCast, ob_214, ly_214_10 L, ln_220]
  refine ⟨by omega, ?_⟩
  exact Rt_mk (by rw [show (110 + (w : Int)).toNat = 110 + w by omega])
end UST

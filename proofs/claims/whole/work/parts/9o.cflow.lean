/-! the class: a flow read -/
section CFL
variable {l : Launch} {d : Nat} {h : Mem} {s : Nat → Int} {n i nb c kk : Nat} {row nm : Nat → Int} {X : NX}
theorem c_hopW (L : Lay h) (hn : nb = 4 ∨ nb = 34) (hc : c < 4) {k : Nat} (hk : k ≤ 4) {g : Nat → Int} (e8 : h (nb + 8) c = (k : Int)) (ew : ∀ j, j < k → h (nb + 10 + c) j = g j) (v : Int) : Cl l (d + 1) M_X3_hopAt [(2, (nb : Int) + 1), (0, (c : Int)), (0, v)] SHP h (fun r sh' h' => sh' = SHP ∧ h' = h ∧ ((r = -1 ∧ ∀ j, j < k → g j ≠ v) ∨ (0 ≤ r ∧ ∃ j, j < k ∧ g j = v))) := by
  refine Cl_hide (fun Q hQ => ?_)
  have o := (net_sh hn).1
  have ixn : ((nb : Int) + 1).toNat - 1 = nb := by omega
  obtain ⟨w1, w2⟩ := net_w L hn hc
  have key : ∀ (g' j : Nat), j + g' = k → (∀ q, q < j → g q ≠ v) → V l (d + 1) 0 0 M_X3_hopAt 0 0 2 Q [(2, (nb : Int) + 1), (0, (c : Int)), (0, v), (0, (j : Int))] [] SHP h := by
    intro g'
    induction g' with
    | zero =>
      intro j hj no
      refine S_X3_hopAt_2 _ _ _ _ ?_; simp (disch := omega) only [B_X3_hopAt_2, bi_0, x_ic, x_lc, x_ld, x_st, x_sl, x_inc, x_b32, x_b64, x_d32, x_d64, x_s64, x_un, x_lcmp, x_dup, x_pop, x_dup2, x_if, x_cmp, x_sw, swk, x_ald, x_ast, x_alen, x_getf, x_putf, x_inv, x_mm, x_copy, x_iret, x_lret, x_vret, ok1, pu, ct, rcv, rcs, ent0, List.getElem?_cons_zero, List.getElem?_cons_succ, List.getElem?_nil, List.set_cons_zero, List.set_cons_succ, List.take_succ_cons, List.take_zero, List.drop_succ_cons, List.drop_zero, List.reverse_cons, List.reverse_nil, List.nil_append, List.cons_append, List.length_cons, List.length_nil, true_and, and_true, and_self, ne_eq, not_true_eq_false, not_false_eq_true, reduceIte, true_or, or_true, false_or, or_false, Nat.reduceAdd, Nat.reduceSub, Nat.reduceMul, Nat.reduceLeDiff, Nat.reduceEqDiff, Nat.reduceLT, Nat.le_refl, Nat.zero_le, Int.reduceToNat, Int.reduceAdd, Int.reduceSub, Int.reduceMul, Int.reduceNeg, Int.reduceLT, Int.reduceLE, Int.reduceEq, Nat.zero_add, Nat.add_zero, Nat.reduceBEq, Nat.one_ne_zero, Nat.zero_ne_one, Nat.lt_irrefl, Nat.succ_ne_zero, w32_id, ixc, ixc2, Int.toNat_natCast, o, ixn, nf7 L hn, nln8 hn, e8]
      refine ⟨by omega, fun _ => ?_, fun y => absurd (show (k : Int) ≤ j by omega) y⟩
      refine S_X3_hopAt_32 _ _ _ _ ?_; simp (disch := omega) only [B_X3_hopAt_32, bi_0, x_ic, x_lc, x_ld, x_st, x_sl, x_inc, x_b32, x_b64, x_d32, x_d64, x_s64, x_un, x_lcmp, x_dup, x_pop, x_dup2, x_if, x_cmp, x_sw, swk, x_ald, x_ast, x_alen, x_getf, x_putf, x_inv, x_mm, x_copy, x_iret, x_lret, x_vret, ok1, pu, ct, rcv, rcs, ent0, List.getElem?_cons_zero, List.getElem?_cons_succ, List.getElem?_nil, List.set_cons_zero, List.set_cons_succ, List.take_succ_cons, List.take_zero, List.drop_succ_cons, List.drop_zero, List.reverse_cons, List.reverse_nil, List.nil_append, List.cons_append, List.length_cons, List.length_nil, true_and, and_true, and_self, ne_eq, not_true_eq_false, not_false_eq_true, reduceIte, true_or, or_true, false_or, or_false, Nat.reduceAdd, Nat.reduceSub, Nat.reduceMul, Nat.reduceLeDiff, Nat.reduceEqDiff, Nat.reduceLT, Nat.le_refl, Nat.zero_le, Int.reduceToNat, Int.reduceAdd, Int.reduceSub, Int.reduceMul, Int.reduceNeg, Int.reduceLT, Int.reduceLE, Int.reduceEq, Nat.zero_add, Nat.add_zero, Nat.reduceBEq, Nat.one_ne_zero, Nat.zero_ne_one, Nat.lt_irrefl, Nat.succ_ne_zero, w32_id, ixc, ixc2, Int.toNat_natCast]
      exact hQ _ _ _ ⟨rfl, rfl, Or.inl ⟨rfl, fun q hq => no q (by omega)⟩⟩
    | succ g' ih =>
      intro j hj no
      have ej := ew j (by omega)
      refine S_X3_hopAt_2 _ _ _ _ ?_; simp (disch := omega) only [B_X3_hopAt_2, bi_0, x_ic, x_lc, x_ld, x_st, x_sl, x_inc, x_b32, x_b64, x_d32, x_d64, x_s64, x_un, x_lcmp, x_dup, x_pop, x_dup2, x_if, x_cmp, x_sw, swk, x_ald, x_ast, x_alen, x_getf, x_putf, x_inv, x_mm, x_copy, x_iret, x_lret, x_vret, ok1, pu, ct, rcv, rcs, ent0, List.getElem?_cons_zero, List.getElem?_cons_succ, List.getElem?_nil, List.set_cons_zero, List.set_cons_succ, List.take_succ_cons, List.take_zero, List.drop_succ_cons, List.drop_zero, List.reverse_cons, List.reverse_nil, List.nil_append, List.cons_append, List.length_cons, List.length_nil, true_and, and_true, and_self, ne_eq, not_true_eq_false, not_false_eq_true, reduceIte, true_or, or_true, false_or, or_false, Nat.reduceAdd, Nat.reduceSub, Nat.reduceMul, Nat.reduceLeDiff, Nat.reduceEqDiff, Nat.reduceLT, Nat.le_refl, Nat.zero_le, Int.reduceToNat, Int.reduceAdd, Int.reduceSub, Int.reduceMul, Int.reduceNeg, Int.reduceLT, Int.reduceLE, Int.reduceEq, Nat.zero_add, Nat.add_zero, Nat.reduceBEq, Nat.one_ne_zero, Nat.zero_ne_one, Nat.lt_irrefl, Nat.succ_ne_zero, w32_id, ixc, ixc2, Int.toNat_natCast, o, ixn, nf7 L hn, nf8 L hn, nln8 hn, nln9 hn, e8, w1, w2, ej]
      refine ⟨by omega, fun y => absurd y (by omega), fun _ => ⟨by omega, by omega, fun y => ?_, fun y => ?_⟩⟩
      · exact hQ _ _ _ ⟨rfl, rfl, Or.inr ⟨by omega, j, by omega, y⟩⟩
      · refine S_X3_hopAt_26 _ _ _ _ ?_; simp (disch := omega) only [B_X3_hopAt_26, bi_0, x_ic, x_lc, x_ld, x_st, x_sl, x_inc, x_b32, x_b64, x_d32, x_d64, x_s64, x_un, x_lcmp, x_dup, x_pop, x_dup2, x_if, x_cmp, x_sw, swk, x_ald, x_ast, x_alen, x_getf, x_putf, x_inv, x_mm, x_copy, x_iret, x_lret, x_vret, ok1, pu, ct, rcv, rcs, ent0, List.getElem?_cons_zero, List.getElem?_cons_succ, List.getElem?_nil, List.set_cons_zero, List.set_cons_succ, List.take_succ_cons, List.take_zero, List.drop_succ_cons, List.drop_zero, List.reverse_cons, List.reverse_nil, List.nil_append, List.cons_append, List.length_cons, List.length_nil, true_and, and_true, and_self, ne_eq, not_true_eq_false, not_false_eq_true, reduceIte, true_or, or_true, false_or, or_false, Nat.reduceAdd, Nat.reduceSub, Nat.reduceMul, Nat.reduceLeDiff, Nat.reduceEqDiff, Nat.reduceLT, Nat.le_refl, Nat.zero_le, Int.reduceToNat, Int.reduceAdd, Int.reduceSub, Int.reduceMul, Int.reduceNeg, Int.reduceLT, Int.reduceLE, Int.reduceEq, Nat.zero_add, Nat.add_zero, Nat.reduceBEq, Nat.one_ne_zero, Nat.zero_ne_one, Nat.lt_irrefl, Nat.succ_ne_zero, w32_id, ixc, ixc2, Int.toNat_natCast]
        refine ih (j + 1) (by omega) (fun q hq => ?_)
        by_cases x : q = j
        · rw [x]; exact y
        · exact no q (by omega)
  show V l (d + 1) 0 0 M_X3_hopAt 0 0 0 Q [(2, (nb : Int) + 1), (0, (c : Int)), (0, v), (9, 0)] [] SHP h
  refine S_X3_hopAt_0 _ _ _ _ ?_; simp (disch := omega) only [B_X3_hopAt_0, bi_0, x_ic, x_lc, x_ld, x_st, x_sl, x_inc, x_b32, x_b64, x_d32, x_d64, x_s64, x_un, x_lcmp, x_dup, x_pop, x_dup2, x_if, x_cmp, x_sw, swk, x_ald, x_ast, x_alen, x_getf, x_putf, x_inv, x_mm, x_copy, x_iret, x_lret, x_vret, ok1, pu, ct, rcv, rcs, ent0, List.getElem?_cons_zero, List.getElem?_cons_succ, List.getElem?_nil, List.set_cons_zero, List.set_cons_succ, List.take_succ_cons, List.take_zero, List.drop_succ_cons, List.drop_zero, List.reverse_cons, List.reverse_nil, List.nil_append, List.cons_append, List.length_cons, List.length_nil, true_and, and_true, and_self, ne_eq, not_true_eq_false, not_false_eq_true, reduceIte, true_or, or_true, false_or, or_false, Nat.reduceAdd, Nat.reduceSub, Nat.reduceMul, Nat.reduceLeDiff, Nat.reduceEqDiff, Nat.reduceLT, Nat.le_refl, Nat.zero_le, Int.reduceToNat, Int.reduceAdd, Int.reduceSub, Int.reduceMul, Int.reduceNeg, Int.reduceLT, Int.reduceLE, Int.reduceEq, Nat.zero_add, Nat.add_zero, Nat.reduceBEq, Nat.one_ne_zero, Nat.zero_ne_one, Nat.lt_irrefl, Nat.succ_ne_zero, w32_id, ixc, ixc2, Int.toNat_natCast]
  exact key k 0 (by omega) (fun q hq => absurd hq (by omega))
/-- the cells of a way, and the token -/
def Fwy (nb c : Nat) (h h' : Mem) : Prop := (∀ a, a ≠ 1 → a ≠ nb + 8 → a ≠ nb + 10 + c → a ≠ nb + 14 → h' a = h a) ∧ (∀ j, (j ≤ 2 ∨ j = 8) → h' 1 j = h 1 j) ∧ ∀ j, j ≠ c → h' (nb + 8) j = h (nb + 8) j
theorem Fwy.rfl {h : Mem} : Fwy nb c h h := ⟨fun _ _ _ _ _ => Eq.refl _, fun _ _ => Eq.refl _, fun _ _ => Eq.refl _⟩
theorem Fwy.trans {h h1 h2 : Mem} (a : Fwy nb c h h1) (b : Fwy nb c h1 h2) : Fwy nb c h h2 := ⟨fun i p q r u => (b.1 i p q r u).trans (a.1 i p q r u), fun j p => (b.2.1 j p).trans (a.2.1 j p), fun j p => (b.2.2 j p).trans (a.2.2 j p)⟩
theorem Fs1.wy {h h' : Mem} (hn : nb = 4 ∨ nb = 34) (f : Fs1 h h') : Fwy nb c h h' := ⟨fun i p _ _ _ => f.1 i p, f.2, fun j _ => by rw [f.1 (nb + 8) (by omega)]⟩
theorem Fwy.nt {h h' : Mem} (hn : nb = 4 ∨ nb = 34) (hc : c < 4) (f : Fwy nb c h h') : Fnt nb h h' := by
  refine ⟨fun i p q => f.1 i p (by omega) (by omega) (by omega), fun j p => f.2.1 j (Or.inl p), fun i j p q r => ?_⟩
  unfold ntW at r
  rw [f.1 i (by omega) (by omega) (by omega) (by omega)]
/-- flows over the node q, k hops of the flow c being told -/
noncomputable def ovK (s : Nat → Int) (n : Nat) (row nm : Nat → Int) (c kk i k q : Nat) : Nat → Bool := fun f => ovr row q f || (f == c && wyB s n nm kk i k q)
def WyS (h : Mem) (nb : Nat) (s : Nat → Int) (n : Nat) (row nm : Nat → Int) (c kk i k : Nat) : Prop := h (nb + 8) c = (k : Int) ∧ (∀ j, j < k → h (nb + 10 + c) j = hpN s n nm kk i j) ∧ ∀ q, q < 4 → h (nb + 14) q = v6 (ovK s n row nm c kk i k q)
theorem WyS.fs {h' : Mem} {k : Nat} (hn : nb = 4 ∨ nb = 34) (S : WyS h nb s n row nm c kk i k) (f : Fs1 h h') : WyS h' nb s n row nm c kk i k := by
  unfold WyS
  rw [f.1 (nb + 8) (by omega), f.1 (nb + 10 + c) (by omega), f.1 (nb + 14) (by omega)]
  exact S
theorem ovK_s {k v q : Nat} (hc : c < 6) (e : hpN s n nm kk i k = (v : Int)) : (q = v → o32 (fun x y => x ||| y) (v6 (ovK s n row nm c kk i k q)) (o32 (fun x y => x <<< (y &&& 31)) 1 (c : Int)) = v6 (ovK s n row nm c kk i (k + 1) q)) ∧ (q ≠ v → v6 (ovK s n row nm c kk i k q) = v6 (ovK s n row nm c kk i (k + 1) q)) := by
  constructor
  · intro hq
    rw [v6_or _ hc]
    refine v6_cong (fun f _ => ?_)
    have t : wyB s n nm kk i (k + 1) q = true := wyB_t.mpr ⟨k, by omega, by rw [hq]; exact e⟩
    unfold ovK
    rw [t]
    cases ovr row q f <;> cases (f == c) <;> cases wyB s n nm kk i k q <;> rfl
  · intro hq
    refine v6_cong (fun f _ => ?_)
    have t : wyB s n nm kk i (k + 1) q = wyB s n nm kk i k q := by
      rw [Bool.eq_iff_iff, wyB_t, wyB_t]
      constructor
      · rintro ⟨j, a, b⟩
        by_cases x : j = k
        · rw [x, e] at b; exact absurd (by omega) hq
        · exact ⟨j, by omega, b⟩
      · rintro ⟨j, a, b⟩
        exact ⟨j, by omega, b⟩
    unfold ovK
    rw [t]
theorem c_readHop (T : TxC h s n) {k : Nat} (C : CuC h s n (i + k)) (hn : nb = 4 ∨ nb = 34) (h64 : h 64 2 = (nb : Int) + 1) (hc : c < 4) (x12 : h nb 12 = (kk : Int)) (k4 : kk ≤ 4) (Na : NaL nm (h (nb + 3)) 6 kk) (O : wyO s n nm kk i k) (S : WyS h nb s n row nm c kk i k) : Cl l (d + 4) M_X4_readHop [(2, 65), (0, (c : Int))] SHP h (fun r sh' h' => sh' = SHP ∧ ((tdU s n nm (i + k) 6 kk (fun v => ∃ j, j < k ∧ hpN s n nm kk i j = v) = 0 ∧ r = 1 ∧ Fwy nb c h h' ∧ CuC h' s n (i + (k + 1)) ∧ WyS h' nb s n row nm c kk i (k + 1)) ∨ (tdU s n nm (i + k) 6 kk (fun v => ∃ j, j < k ∧ hpN s n nm kk i j = v) ≠ 0 ∧ r = 0 ∧ h' = up h 1 8 (tdU s n nm (i + k) 6 kk (fun v => ∃ j, j < k ∧ hpN s n nm kk i j = v))))) := by
  refine Cl_hide (fun Q hQ => ?_)
  have t0 := ly_64_0 T.1
  have o := (net_sh hn).1
  have ixn : ((nb : Int) + 1).toNat - 1 = nb := by omega
  have kb := O.le k4
  have b1 := flt_b (s := s) (n := n) (i := i + k) (w := 1) (by decide)
  have b2 := flt_b (s := s) (n := n) (i := i + k) (w := 2) (by decide)
  have b3 := flt_b (s := s) (n := n) (i := i + k) (w := 3) (by decide)
  have fullU : (tdU s n nm (i + k) 6 kk (fun v => ∃ j, j < k ∧ hpN s n nm kk i j = v)) = 0 → k + 1 ≤ 4 := fun e => by
    have O2 : wyO s n nm kk i (k + 1) := fun j hj => by
      by_cases x : j = k
      · rw [x]; exact e
      · exact O j (by omega)
    exact O2.le k4
  unfold tdU at hQ fullU
  show V l (d + 4) 0 0 M_X4_readHop 0 0 0 Q [(2, 65), (0, (c : Int)), (9, 0)] [] SHP h
  refine S_X4_readHop_0 _ _ _ _ ?_; simp (disch := omega) only [B_X4_readHop_0, bi_0, x_ic, x_lc, x_ld, x_st, x_sl, x_inc, x_b32, x_b64, x_d32, x_d64, x_s64, x_un, x_lcmp, x_dup, x_pop, x_dup2, x_if, x_cmp, x_sw, swk, x_ald, x_ast, x_alen, x_getf, x_putf, x_inv, x_mm, x_copy, x_iret, x_lret, x_vret, ok1, pu, ct, rcv, rcs, ent0, List.getElem?_cons_zero, List.getElem?_cons_succ, List.getElem?_nil, List.set_cons_zero, List.set_cons_succ, List.take_succ_cons, List.take_zero, List.drop_succ_cons, List.drop_zero, List.reverse_cons, List.reverse_nil, List.nil_append, List.cons_append, List.length_cons, List.length_nil, true_and, and_true, and_self, ne_eq, not_true_eq_false, not_false_eq_true, reduceIte, true_or, or_true, false_or, or_false, Nat.reduceAdd, Nat.reduceSub, Nat.reduceMul, Nat.reduceLeDiff, Nat.reduceEqDiff, Nat.reduceLT, Nat.le_refl, Nat.zero_le, Int.reduceToNat, Int.reduceAdd, Int.reduceSub, Int.reduceMul, Int.reduceNeg, Int.reduceLT, Int.reduceLE, Int.reduceEq, Nat.zero_add, Nat.add_zero, Nat.reduceBEq, Nat.one_ne_zero, Nat.zero_ne_one, Nat.lt_irrefl, Nat.succ_ne_zero, w32_id, ixc, ixc2, Int.toNat_natCast, ob_64, t0, ob_1]
  refine Cl.app (c_isName (l := l) (d := d + 1) C) ?_
  (try simp (disch := omega) only [bi_0, x_ic, x_lc, x_ld, x_st, x_sl, x_inc, x_b32, x_b64, x_d32, x_d64, x_s64, x_un, x_lcmp, x_dup, x_pop, x_dup2, x_if, x_cmp, x_sw, swk, x_ald, x_ast, x_alen, x_getf, x_putf, x_inv, x_mm, x_copy, x_iret, x_lret, x_vret, ok1, pu, ct, rcv, rcs, ent0, List.getElem?_cons_zero, List.getElem?_cons_succ, List.getElem?_nil, List.set_cons_zero, List.set_cons_succ, List.take_succ_cons, List.take_zero, List.drop_succ_cons, List.drop_zero, List.reverse_cons, List.reverse_nil, List.nil_append, List.cons_append, List.length_cons, List.length_nil, true_and, and_true, and_self, ne_eq, not_true_eq_false, not_false_eq_true, reduceIte, true_or, or_true, false_or, or_false, Nat.reduceAdd, Nat.reduceSub, Nat.reduceMul, Nat.reduceLeDiff, Nat.reduceEqDiff, Nat.reduceLT, Nat.le_refl, Nat.zero_le, Int.reduceToNat, Int.reduceAdd, Int.reduceSub, Int.reduceMul, Int.reduceNeg, Int.reduceLT, Int.reduceLE, Int.reduceEq, Nat.zero_add, Nat.add_zero, Nat.reduceBEq, Nat.one_ne_zero, Nat.zero_ne_one, Nat.lt_irrefl, Nat.succ_ne_zero, w32_id, ixc, ixc2, Int.toNat_natCast, bI_0, ob_64, t0, ob_1])
  refine ⟨fun y => ?_, fun y => ?_⟩
  · refine Cl.app (c_wrong (l := l) (d := d + 2) T C (w := 1) (by decide)) ?_
    (try simp (disch := omega) only [bi_0, x_ic, x_lc, x_ld, x_st, x_sl, x_inc, x_b32, x_b64, x_d32, x_d64, x_s64, x_un, x_lcmp, x_dup, x_pop, x_dup2, x_if, x_cmp, x_sw, swk, x_ald, x_ast, x_alen, x_getf, x_putf, x_inv, x_mm, x_copy, x_iret, x_lret, x_vret, ok1, pu, ct, rcv, rcs, ent0, List.getElem?_cons_zero, List.getElem?_cons_succ, List.getElem?_nil, List.set_cons_zero, List.set_cons_succ, List.take_succ_cons, List.take_zero, List.drop_succ_cons, List.drop_zero, List.reverse_cons, List.reverse_nil, List.nil_append, List.cons_append, List.length_cons, List.length_nil, true_and, and_true, and_self, ne_eq, not_true_eq_false, not_false_eq_true, reduceIte, true_or, or_true, false_or, or_false, Nat.reduceAdd, Nat.reduceSub, Nat.reduceMul, Nat.reduceLeDiff, Nat.reduceEqDiff, Nat.reduceLT, Nat.le_refl, Nat.zero_le, Int.reduceToNat, Int.reduceAdd, Int.reduceSub, Int.reduceMul, Int.reduceNeg, Int.reduceLT, Int.reduceLE, Int.reduceEq, Nat.zero_add, Nat.add_zero, Nat.reduceBEq, Nat.one_ne_zero, Nat.zero_ne_one, Nat.lt_irrefl, Nat.succ_ne_zero, w32_id, ixc, ixc2, Int.toNat_natCast])
    rw [iF_f y] at hQ
    exact hQ _ _ _ ⟨rfl, Or.inr ⟨by omega, rfl, rfl⟩⟩
  have y := Classical.not_not.mp y
  rw [iF_t y] at hQ fullU
  have nn := C.2.2.2.2 y.1
  have cf := c_find (l := l) (d := d + 2) (h := h) (x := nb + 3) (a := 6) (m := kk) (z := 4) (nln3 hn) (by omega) (by decide) Na nn
  obtain ⟨v, hv⟩ : ∃ v, v = naF nm (tkVa s n (i + k)) 6 kk := ⟨_, rfl⟩
  have vb := naF_b (nm := nm) (v := tkVa s n (i + k)) (a := 6) (k := kk)
  rw [← hv] at hQ cf vb fullU
  refine S_X4_readHop_19 _ _ _ _ ?_; simp (disch := omega) only [B_X4_readHop_19, bi_0, x_ic, x_lc, x_ld, x_st, x_sl, x_inc, x_b32, x_b64, x_d32, x_d64, x_s64, x_un, x_lcmp, x_dup, x_pop, x_dup2, x_if, x_cmp, x_sw, swk, x_ald, x_ast, x_alen, x_getf, x_putf, x_inv, x_mm, x_copy, x_iret, x_lret, x_vret, ok1, pu, ct, rcv, rcs, ent0, List.getElem?_cons_zero, List.getElem?_cons_succ, List.getElem?_nil, List.set_cons_zero, List.set_cons_succ, List.take_succ_cons, List.take_zero, List.drop_succ_cons, List.drop_zero, List.reverse_cons, List.reverse_nil, List.nil_append, List.cons_append, List.length_cons, List.length_nil, true_and, and_true, and_self, ne_eq, not_true_eq_false, not_false_eq_true, reduceIte, true_or, or_true, false_or, or_false, Nat.reduceAdd, Nat.reduceSub, Nat.reduceMul, Nat.reduceLeDiff, Nat.reduceEqDiff, Nat.reduceLT, Nat.le_refl, Nat.zero_le, Int.reduceToNat, Int.reduceAdd, Int.reduceSub, Int.reduceMul, Int.reduceNeg, Int.reduceLT, Int.reduceLE, Int.reduceEq, Nat.zero_add, Nat.add_zero, Nat.reduceBEq, Nat.one_ne_zero, Nat.zero_ne_one, Nat.lt_irrefl, Nat.succ_ne_zero, w32_id, ixc, ixc2, Int.toNat_natCast, ob_64, t0, h64, ob_1, o, ixn, nf2 T.1 hn, x12]
  refine Cl.app cf ?_
  (try simp (disch := omega) only [bi_0, x_ic, x_lc, x_ld, x_st, x_sl, x_inc, x_b32, x_b64, x_d32, x_d64, x_s64, x_un, x_lcmp, x_dup, x_pop, x_dup2, x_if, x_cmp, x_sw, swk, x_ald, x_ast, x_alen, x_getf, x_putf, x_inv, x_mm, x_copy, x_iret, x_lret, x_vret, ok1, pu, ct, rcv, rcs, ent0, List.getElem?_cons_zero, List.getElem?_cons_succ, List.getElem?_nil, List.set_cons_zero, List.set_cons_succ, List.take_succ_cons, List.take_zero, List.drop_succ_cons, List.drop_zero, List.reverse_cons, List.reverse_nil, List.nil_append, List.cons_append, List.length_cons, List.length_nil, true_and, and_true, and_self, ne_eq, not_true_eq_false, not_false_eq_true, reduceIte, true_or, or_true, false_or, or_false, Nat.reduceAdd, Nat.reduceSub, Nat.reduceMul, Nat.reduceLeDiff, Nat.reduceEqDiff, Nat.reduceLT, Nat.le_refl, Nat.zero_le, Int.reduceToNat, Int.reduceAdd, Int.reduceSub, Int.reduceMul, Int.reduceNeg, Int.reduceLT, Int.reduceLE, Int.reduceEq, Nat.zero_add, Nat.add_zero, Nat.reduceBEq, Nat.one_ne_zero, Nat.zero_ne_one, Nat.lt_irrefl, Nat.succ_ne_zero, w32_id, ixc, ixc2, Int.toNat_natCast, ob_64, t0, ob_1])
  refine ⟨fun z => ?_, fun z => ?_⟩
  · refine Cl.app (c_wrong (l := l) (d := d + 2) T C (w := 2) (by decide)) ?_
    (try simp (disch := omega) only [bi_0, x_ic, x_lc, x_ld, x_st, x_sl, x_inc, x_b32, x_b64, x_d32, x_d64, x_s64, x_un, x_lcmp, x_dup, x_pop, x_dup2, x_if, x_cmp, x_sw, swk, x_ald, x_ast, x_alen, x_getf, x_putf, x_inv, x_mm, x_copy, x_iret, x_lret, x_vret, ok1, pu, ct, rcv, rcs, ent0, List.getElem?_cons_zero, List.getElem?_cons_succ, List.getElem?_nil, List.set_cons_zero, List.set_cons_succ, List.take_succ_cons, List.take_zero, List.drop_succ_cons, List.drop_zero, List.reverse_cons, List.reverse_nil, List.nil_append, List.cons_append, List.length_cons, List.length_nil, true_and, and_true, and_self, ne_eq, not_true_eq_false, not_false_eq_true, reduceIte, true_or, or_true, false_or, or_false, Nat.reduceAdd, Nat.reduceSub, Nat.reduceMul, Nat.reduceLeDiff, Nat.reduceEqDiff, Nat.reduceLT, Nat.le_refl, Nat.zero_le, Int.reduceToNat, Int.reduceAdd, Int.reduceSub, Int.reduceMul, Int.reduceNeg, Int.reduceLT, Int.reduceLE, Int.reduceEq, Nat.zero_add, Nat.add_zero, Nat.reduceBEq, Nat.one_ne_zero, Nat.zero_ne_one, Nat.lt_irrefl, Nat.succ_ne_zero, w32_id, ixc, ixc2, Int.toNat_natCast])
    rw [iF_t (by omega)] at hQ
    exact hQ _ _ _ ⟨rfl, Or.inr ⟨by omega, rfl, rfl⟩⟩
  rw [iF_f (by omega)] at hQ fullU
  have twice : (∃ j, j < k ∧ hpN s n nm kk i j = v) → V l (d + 4) 0 0 M_X4_readHop 0 0 84 Q [(2, 65), (0, (c : Int)), (0, v)] [] SHP h := by
    intro x
    rw [iF_t x] at hQ
    refine S_X4_readHop_84 _ _ _ _ ?_; simp (disch := omega) only [B_X4_readHop_84, bi_0, x_ic, x_lc, x_ld, x_st, x_sl, x_inc, x_b32, x_b64, x_d32, x_d64, x_s64, x_un, x_lcmp, x_dup, x_pop, x_dup2, x_if, x_cmp, x_sw, swk, x_ald, x_ast, x_alen, x_getf, x_putf, x_inv, x_mm, x_copy, x_iret, x_lret, x_vret, ok1, pu, ct, rcv, rcs, ent0, List.getElem?_cons_zero, List.getElem?_cons_succ, List.getElem?_nil, List.set_cons_zero, List.set_cons_succ, List.take_succ_cons, List.take_zero, List.drop_succ_cons, List.drop_zero, List.reverse_cons, List.reverse_nil, List.nil_append, List.cons_append, List.length_cons, List.length_nil, true_and, and_true, and_self, ne_eq, not_true_eq_false, not_false_eq_true, reduceIte, true_or, or_true, false_or, or_false, Nat.reduceAdd, Nat.reduceSub, Nat.reduceMul, Nat.reduceLeDiff, Nat.reduceEqDiff, Nat.reduceLT, Nat.le_refl, Nat.zero_le, Int.reduceToNat, Int.reduceAdd, Int.reduceSub, Int.reduceMul, Int.reduceNeg, Int.reduceLT, Int.reduceLE, Int.reduceEq, Nat.zero_add, Nat.add_zero, Nat.reduceBEq, Nat.one_ne_zero, Nat.zero_ne_one, Nat.lt_irrefl, Nat.succ_ne_zero, w32_id, ixc, ixc2, Int.toNat_natCast, ob_64, t0, ob_1]
    refine Cl.app (c_wrong (l := l) (d := d + 2) T C (w := 3) (by decide)) ?_
    (try simp (disch := omega) only [bi_0, x_ic, x_lc, x_ld, x_st, x_sl, x_inc, x_b32, x_b64, x_d32, x_d64, x_s64, x_un, x_lcmp, x_dup, x_pop, x_dup2, x_if, x_cmp, x_sw, swk, x_ald, x_ast, x_alen, x_getf, x_putf, x_inv, x_mm, x_copy, x_iret, x_lret, x_vret, ok1, pu, ct, rcv, rcs, ent0, List.getElem?_cons_zero, List.getElem?_cons_succ, List.getElem?_nil, List.set_cons_zero, List.set_cons_succ, List.take_succ_cons, List.take_zero, List.drop_succ_cons, List.drop_zero, List.reverse_cons, List.reverse_nil, List.nil_append, List.cons_append, List.length_cons, List.length_nil, true_and, and_true, and_self, ne_eq, not_true_eq_false, not_false_eq_true, reduceIte, true_or, or_true, false_or, or_false, Nat.reduceAdd, Nat.reduceSub, Nat.reduceMul, Nat.reduceLeDiff, Nat.reduceEqDiff, Nat.reduceLT, Nat.le_refl, Nat.zero_le, Int.reduceToNat, Int.reduceAdd, Int.reduceSub, Int.reduceMul, Int.reduceNeg, Int.reduceLT, Int.reduceLE, Int.reduceEq, Nat.zero_add, Nat.add_zero, Nat.reduceBEq, Nat.one_ne_zero, Nat.zero_ne_one, Nat.lt_irrefl, Nat.succ_ne_zero, w32_id, ixc, ixc2, Int.toNat_natCast])
    exact hQ _ _ _ ⟨rfl, Or.inr ⟨by omega, rfl, rfl⟩⟩
  refine S_X4_readHop_58 _ _ _ _ ?_; simp (disch := omega) only [B_X4_readHop_58, bi_0, x_ic, x_lc, x_ld, x_st, x_sl, x_inc, x_b32, x_b64, x_d32, x_d64, x_s64, x_un, x_lcmp, x_dup, x_pop, x_dup2, x_if, x_cmp, x_sw, swk, x_ald, x_ast, x_alen, x_getf, x_putf, x_inv, x_mm, x_copy, x_iret, x_lret, x_vret, ok1, pu, ct, rcv, rcs, ent0, List.getElem?_cons_zero, List.getElem?_cons_succ, List.getElem?_nil, List.set_cons_zero, List.set_cons_succ, List.take_succ_cons, List.take_zero, List.drop_succ_cons, List.drop_zero, List.reverse_cons, List.reverse_nil, List.nil_append, List.cons_append, List.length_cons, List.length_nil, true_and, and_true, and_self, ne_eq, not_true_eq_false, not_false_eq_true, reduceIte, true_or, or_true, false_or, or_false, Nat.reduceAdd, Nat.reduceSub, Nat.reduceMul, Nat.reduceLeDiff, Nat.reduceEqDiff, Nat.reduceLT, Nat.le_refl, Nat.zero_le, Int.reduceToNat, Int.reduceAdd, Int.reduceSub, Int.reduceMul, Int.reduceNeg, Int.reduceLT, Int.reduceLE, Int.reduceEq, Nat.zero_add, Nat.add_zero, Nat.reduceBEq, Nat.one_ne_zero, Nat.zero_ne_one, Nat.lt_irrefl, Nat.succ_ne_zero, w32_id, ixc, ixc2, Int.toNat_natCast, ob_64, h64, o]
  refine Cl.imp (c_hopW (l := l) (d := d + 2) T.1 hn hc kb S.1 S.2.1 v) (fun r sh' h' q => ?_)
  obtain ⟨rfl, rfl, q⟩ := q
  rcases q with ⟨rfl, q⟩ | ⟨q0, q⟩
  rotate_left
  · (try simp (disch := omega) only [bi_0, x_ic, x_lc, x_ld, x_st, x_sl, x_inc, x_b32, x_b64, x_d32, x_d64, x_s64, x_un, x_lcmp, x_dup, x_pop, x_dup2, x_if, x_cmp, x_sw, swk, x_ald, x_ast, x_alen, x_getf, x_putf, x_inv, x_mm, x_copy, x_iret, x_lret, x_vret, ok1, pu, ct, rcv, rcs, ent0, List.getElem?_cons_zero, List.getElem?_cons_succ, List.getElem?_nil, List.set_cons_zero, List.set_cons_succ, List.take_succ_cons, List.take_zero, List.drop_succ_cons, List.drop_zero, List.reverse_cons, List.reverse_nil, List.nil_append, List.cons_append, List.length_cons, List.length_nil, true_and, and_true, and_self, ne_eq, not_true_eq_false, not_false_eq_true, reduceIte, true_or, or_true, false_or, or_false, Nat.reduceAdd, Nat.reduceSub, Nat.reduceMul, Nat.reduceLeDiff, Nat.reduceEqDiff, Nat.reduceLT, Nat.le_refl, Nat.zero_le, Int.reduceToNat, Int.reduceAdd, Int.reduceSub, Int.reduceMul, Int.reduceNeg, Int.reduceLT, Int.reduceLE, Int.reduceEq, Nat.zero_add, Nat.add_zero, Nat.reduceBEq, Nat.one_ne_zero, Nat.zero_ne_one, Nat.lt_irrefl, Nat.succ_ne_zero, w32_id, ixc, ixc2, Int.toNat_natCast])
    refine ⟨fun x => absurd x (by omega), fun _ => twice q⟩
  have nB : ¬ ∃ j, j < k ∧ hpN s n nm kk i j = v := fun ⟨j, a, b⟩ => q j a b
  rw [iF_f nB] at hQ fullU
  have k3 := fullU rfl
  obtain ⟨s8, sw, so⟩ := S
  (try simp (disch := omega) only [bi_0, x_ic, x_lc, x_ld, x_st, x_sl, x_inc, x_b32, x_b64, x_d32, x_d64, x_s64, x_un, x_lcmp, x_dup, x_pop, x_dup2, x_if, x_cmp, x_sw, swk, x_ald, x_ast, x_alen, x_getf, x_putf, x_inv, x_mm, x_copy, x_iret, x_lret, x_vret, ok1, pu, ct, rcv, rcs, ent0, List.getElem?_cons_zero, List.getElem?_cons_succ, List.getElem?_nil, List.set_cons_zero, List.set_cons_succ, List.take_succ_cons, List.take_zero, List.drop_succ_cons, List.drop_zero, List.reverse_cons, List.reverse_nil, List.nil_append, List.cons_append, List.length_cons, List.length_nil, true_and, and_true, and_self, ne_eq, not_true_eq_false, not_false_eq_true, reduceIte, true_or, or_true, false_or, or_false, Nat.reduceAdd, Nat.reduceSub, Nat.reduceMul, Nat.reduceLeDiff, Nat.reduceEqDiff, Nat.reduceLT, Nat.le_refl, Nat.zero_le, Int.reduceToNat, Int.reduceAdd, Int.reduceSub, Int.reduceMul, Int.reduceNeg, Int.reduceLT, Int.reduceLE, Int.reduceEq, Nat.zero_add, Nat.add_zero, Nat.reduceBEq, Nat.one_ne_zero, Nat.zero_ne_one, Nat.lt_irrefl, Nat.succ_ne_zero, w32_id, ixc, ixc2, Int.toNat_natCast, ob_64, h64, o, ixn, nf7 T.1 hn, nln8 hn, s8])
  refine ⟨fun _ => ⟨by omega, fun x => ?_, fun x => absurd x (by omega)⟩, fun x => x.elim⟩
  obtain ⟨vn, hvn⟩ : ∃ vn : Nat, v = (vn : Int) := ⟨v.toNat, by omega⟩
  have ehp : hpN s n nm kk i k = (vn : Int) := by rw [← hvn, hv]; rfl
  obtain ⟨w1, w2⟩ := net_w T.1 hn hc
  have ov := ovK_s (s := s) (n := n) (i := i) (nm := nm) (kk := kk) (row := row) (k := k) (v := vn) (q := vn) (c := c) (by omega) ehp
  rw [hvn]
  obtain ⟨m1, hm1⟩ : ∃ m1, m1 = up h' (nb + 10 + c) k (vn : Int) := ⟨_, rfl⟩
  obtain ⟨m2, hm2⟩ : ∃ m2, m2 = up m1 (nb + 8) c ((k + 1 : Nat) : Int) := ⟨_, rfl⟩
  obtain ⟨m3, hm3⟩ : ∃ m3, m3 = up m2 (nb + 14) vn (v6 (ovK s n row nm c kk i (k + 1) vn)) := ⟨_, rfl⟩
  have N1 : Fnt nb h' m1 := by rw [hm1]; exact Fnt_up hn (by unfold ntW; omega)
  have N2 : Fnt nb h' m2 := by rw [hm2]; exact N1.trans (Fnt_up hn (by unfold ntW; omega))
  have N3 : Fnt nb h' m3 := by rw [hm3]; exact N2.trans (Fnt_up hn (by unfold ntW; omega))
  have L1 := N1.lay hn T.1
  have L2 := N2.lay hn T.1
  have T3 := N3.tx hn T
  have t3 := ly_64_0 T3.1
  have a1 : m1 64 2 = (nb : Int) + 1 := by rw [N1.1 64 (by decide) (by omega)]; exact h64
  have a2 : m2 64 2 = (nb : Int) + 1 := by rw [N2.1 64 (by decide) (by omega)]; exact h64
  have e81 : m1 (nb + 8) c = (k : Int) := by rw [hm1, up_ne (by omega)]; exact s8
  have e142 : m2 (nb + 14) vn = v6 (ovK s n row nm c kk i k vn) := by rw [hm2, up_ne (by omega), hm1, up_ne (by omega)]; exact so vn (by omega)
  have C3 : CuC m3 s n (i + k) := C.fr (by rw [hm3, up_ne (by omega), hm2, up_ne (by omega), hm1, up_ne (by omega)])
  have em2 : up m1 (nb + 8) c ((k : Int) + 1) = m2 := hm2.symm
  refine S_X4_readHop_93 _ _ _ _ ?_; simp (disch := omega) only [B_X4_readHop_93, bi_0, x_ic, x_lc, x_ld, x_st, x_sl, x_inc, x_b32, x_b64, x_d32, x_d64, x_s64, x_un, x_lcmp, x_dup, x_pop, x_dup2, x_if, x_cmp, x_sw, swk, x_ald, x_ast, x_alen, x_getf, x_putf, x_inv, x_mm, x_copy, x_iret, x_lret, x_vret, ok1, pu, ct, rcv, rcs, ent0, List.getElem?_cons_zero, List.getElem?_cons_succ, List.getElem?_nil, List.set_cons_zero, List.set_cons_succ, List.take_succ_cons, List.take_zero, List.drop_succ_cons, List.drop_zero, List.reverse_cons, List.reverse_nil, List.nil_append, List.cons_append, List.length_cons, List.length_nil, true_and, and_true, and_self, ne_eq, not_true_eq_false, not_false_eq_true, reduceIte, true_or, or_true, false_or, or_false, Nat.reduceAdd, Nat.reduceSub, Nat.reduceMul, Nat.reduceLeDiff, Nat.reduceEqDiff, Nat.reduceLT, Nat.le_refl, Nat.zero_le, Int.reduceToNat, Int.reduceAdd, Int.reduceSub, Int.reduceMul, Int.reduceNeg, Int.reduceLT, Int.reduceLE, Int.reduceEq, Nat.zero_add, Nat.add_zero, Nat.reduceBEq, Nat.one_ne_zero, Nat.zero_ne_one, Nat.lt_irrefl, Nat.succ_ne_zero, w32_id, ixc, ixc2, Int.toNat_natCast, ob_64, h64, o, ixn, nf7 T.1 hn, nf8 T.1 hn, nln8 hn, nln9 hn, s8, w1, w2, ← hm1, a1, nf7 L1 hn, e81, em2, a2, nf9 L2 hn, nln14 hn, e142, ov.1 rfl, ← hm3, t3, ob_1]
  refine ⟨by omega, by omega, by omega, by omega, by omega, by omega, by omega, ?_⟩
  refine Cl.imp (c_next (l := l) (d := d) T3 C3) (fun r sh' m4 q => ?_)
  obtain ⟨rfl, rfl, F4, C4⟩ := q
  (try simp (disch := omega) only [bi_0, x_ic, x_lc, x_ld, x_st, x_sl, x_inc, x_b32, x_b64, x_d32, x_d64, x_s64, x_un, x_lcmp, x_dup, x_pop, x_dup2, x_if, x_cmp, x_sw, swk, x_ald, x_ast, x_alen, x_getf, x_putf, x_inv, x_mm, x_copy, x_iret, x_lret, x_vret, ok1, pu, ct, rcv, rcs, ent0, List.getElem?_cons_zero, List.getElem?_cons_succ, List.getElem?_nil, List.set_cons_zero, List.set_cons_succ, List.take_succ_cons, List.take_zero, List.drop_succ_cons, List.drop_zero, List.reverse_cons, List.reverse_nil, List.nil_append, List.cons_append, List.length_cons, List.length_nil, true_and, and_true, and_self, ne_eq, not_true_eq_false, not_false_eq_true, reduceIte, true_or, or_true, false_or, or_false, Nat.reduceAdd, Nat.reduceSub, Nat.reduceMul, Nat.reduceLeDiff, Nat.reduceEqDiff, Nat.reduceLT, Nat.le_refl, Nat.zero_le, Int.reduceToNat, Int.reduceAdd, Int.reduceSub, Int.reduceMul, Int.reduceNeg, Int.reduceLT, Int.reduceLE, Int.reduceEq, Nat.zero_add, Nat.add_zero, Nat.reduceBEq, Nat.one_ne_zero, Nat.zero_ne_one, Nat.lt_irrefl, Nat.succ_ne_zero, w32_id, ixc, ixc2, Int.toNat_natCast])
  refine hQ _ _ _ ⟨rfl, Or.inl ⟨rfl, rfl, ⟨fun a p1 p2 p3 p4 => ?_, fun j p => ?_, fun j p => ?_⟩, C4, ?_, fun j hj => ?_, fun q hq => ?_⟩⟩
  · rw [F4.1 a p1, hm3, up_ne p4, hm2, up_ne p2, hm1, up_ne p3]
  · rw [F4.2 j p, hm3, up_ne (by omega), hm2, up_ne (by omega), hm1, up_ne (by omega)]
  · rw [F4.1 (nb + 8) (by omega), hm3, up_ne (by omega), hm2, up_nj p, hm1, up_ne (by omega)]
  · rw [F4.1 (nb + 8) (by omega), hm3, up_ne (by omega), hm2, up_at]
  · rw [F4.1 (nb + 10 + c) (by omega), hm3, up_ne (by omega), hm2, up_ne (by omega), hm1]
    by_cases x : j = k
    · rw [x, up_at, ehp]
    · rw [up_nj x]; exact sw j (by omega)
  · rw [F4.1 (nb + 14) (by omega), hm3]
    by_cases x : q = vn
    · rw [x, up_at]
    · rw [up_nj x, hm2, up_ne (by omega), hm1, up_ne (by omega), so q hq]
      exact (ovK_s (s := s) (n := n) (i := i) (nm := nm) (kk := kk) (row := row) (k := k) (v := vn) (q := q) (c := c) (by omega) ehp).2 x
theorem c_readWay (T : TxC h s n) (C : CuC h s n i) (hn : nb = 4 ∨ nb = 34) (h64 : h 64 2 = (nb : Int) + 1) (hc : c < 4) (x12 : h nb 12 = (kk : Int)) (k4 : kk ≤ 4) (Na : NaL nm (h (nb + 3)) 6 kk) (So : ∀ q, q < 4 → h (nb + 14) q = v6 (ovr row q)) : Cl l (d + 5) M_X4_readWay [(2, 65), (0, (c : Int))] SHP h (fun r sh' h' => sh' = SHP ∧ (((wyF s n nm kk i 5 0).1 = 0 ∧ r = 1 ∧ Fwy nb c h h' ∧ CuC h' s n (i + (wyF s n nm kk i 5 0).2) ∧ WyS h' nb s n row nm c kk i (wyF s n nm kk i 5 0).2) ∨ ((wyF s n nm kk i 5 0).1 ≠ 0 ∧ r = 0 ∧ Fnt nb h h' ∧ h' 1 8 = (wyF s n nm kk i 5 0).1))) := by
  refine Cl_hide (fun Q hQ => ?_)
  have o := (net_sh hn).1
  have ixn : ((nb : Int) + 1).toNat - 1 = nb := by omega
  have key : ∀ (g k : Nat) (m : Mem), k + g = 5 → 1 ≤ g → wyF s n nm kk i g k = wyF s n nm kk i 5 0 → wyO s n nm kk i k → Fwy nb c h m → CuC m s n (i + k) → WyS m nb s n row nm c kk i k → V l (d + 5) 0 0 M_X4_readWay 0 0 31 Q [(2, 65), (0, (c : Int)), (0, (k : Int))] [] SHP m := by
    intro g
    induction g with
    | zero => intro k m _ h1; omega
    | succ g ih =>
      intro k m hg _ ev O F Cm Sm
      have N := F.nt hn hc
      have Tm := N.tx hn T
      have a2 : m 64 2 = (nb : Int) + 1 := by rw [N.1 64 (by decide) (by omega)]; exact h64
      rw [wyF] at ev
      refine S_X4_readWay_31 _ _ _ _ ?_; simp (disch := omega) only [B_X4_readWay_31, bi_0, x_ic, x_lc, x_ld, x_st, x_sl, x_inc, x_b32, x_b64, x_d32, x_d64, x_s64, x_un, x_lcmp, x_dup, x_pop, x_dup2, x_if, x_cmp, x_sw, swk, x_ald, x_ast, x_alen, x_getf, x_putf, x_inv, x_mm, x_copy, x_iret, x_lret, x_vret, ok1, pu, ct, rcv, rcs, ent0, List.getElem?_cons_zero, List.getElem?_cons_succ, List.getElem?_nil, List.set_cons_zero, List.set_cons_succ, List.take_succ_cons, List.take_zero, List.drop_succ_cons, List.drop_zero, List.reverse_cons, List.reverse_nil, List.nil_append, List.cons_append, List.length_cons, List.length_nil, true_and, and_true, and_self, ne_eq, not_true_eq_false, not_false_eq_true, reduceIte, true_or, or_true, false_or, or_false, Nat.reduceAdd, Nat.reduceSub, Nat.reduceMul, Nat.reduceLeDiff, Nat.reduceEqDiff, Nat.reduceLT, Nat.le_refl, Nat.zero_le, Int.reduceToNat, Int.reduceAdd, Int.reduceSub, Int.reduceMul, Int.reduceNeg, Int.reduceLT, Int.reduceLE, Int.reduceEq, Nat.zero_add, Nat.add_zero, Nat.reduceBEq, Nat.one_ne_zero, Nat.zero_ne_one, Nat.lt_irrefl, Nat.succ_ne_zero, w32_id, ixc, ixc2, Int.toNat_natCast, ob_64]
      refine Cl.imp (c_readHop (l := l) (d := d) Tm Cm hn a2 hc (by rw [F.1 nb (by omega) (by omega) (by omega) (by omega)]; exact x12) k4 (by rw [F.1 (nb + 3) (by omega) (by omega) (by omega) (by omega)]; exact Na) O Sm) (fun r sh' m1 q => ?_)
      obtain ⟨rfl, q⟩ := q
      rcases q with ⟨q1, rfl, F1, C1, S1⟩ | ⟨q1, rfl, e1⟩
      · rw [iF_t q1] at ev
        have O2 : wyO s n nm kk i (k + 1) := fun j hj => by
          by_cases x : j = k
          · rw [x]; exact q1
          · exact O j (by omega)
        have k5 := O2.le k4
        have FF := F.trans F1
        have T1 := (FF.nt hn hc).tx hn T
        have t1 := ly_64_0 T1.1
        (try simp (disch := omega) only [bi_0, x_ic, x_lc, x_ld, x_st, x_sl, x_inc, x_b32, x_b64, x_d32, x_d64, x_s64, x_un, x_lcmp, x_dup, x_pop, x_dup2, x_if, x_cmp, x_sw, swk, x_ald, x_ast, x_alen, x_getf, x_putf, x_inv, x_mm, x_copy, x_iret, x_lret, x_vret, ok1, pu, ct, rcv, rcs, ent0, List.getElem?_cons_zero, List.getElem?_cons_succ, List.getElem?_nil, List.set_cons_zero, List.set_cons_succ, List.take_succ_cons, List.take_zero, List.drop_succ_cons, List.drop_zero, List.reverse_cons, List.reverse_nil, List.nil_append, List.cons_append, List.length_cons, List.length_nil, true_and, and_true, and_self, ne_eq, not_true_eq_false, not_false_eq_true, reduceIte, true_or, or_true, false_or, or_false, Nat.reduceAdd, Nat.reduceSub, Nat.reduceMul, Nat.reduceLeDiff, Nat.reduceEqDiff, Nat.reduceLT, Nat.le_refl, Nat.zero_le, Int.reduceToNat, Int.reduceAdd, Int.reduceSub, Int.reduceMul, Int.reduceNeg, Int.reduceLT, Int.reduceLE, Int.reduceEq, Nat.zero_add, Nat.add_zero, Nat.reduceBEq, Nat.one_ne_zero, Nat.zero_ne_one, Nat.lt_irrefl, Nat.succ_ne_zero, w32_id, ixc, ixc2, Int.toNat_natCast])
        refine ⟨fun y => y.elim, fun _ => ?_⟩
        refine S_X4_readWay_41 _ _ _ _ ?_; simp (disch := omega) only [B_X4_readWay_41, bi_0, x_ic, x_lc, x_ld, x_st, x_sl, x_inc, x_b32, x_b64, x_d32, x_d64, x_s64, x_un, x_lcmp, x_dup, x_pop, x_dup2, x_if, x_cmp, x_sw, swk, x_ald, x_ast, x_alen, x_getf, x_putf, x_inv, x_mm, x_copy, x_iret, x_lret, x_vret, ok1, pu, ct, rcv, rcs, ent0, List.getElem?_cons_zero, List.getElem?_cons_succ, List.getElem?_nil, List.set_cons_zero, List.set_cons_succ, List.take_succ_cons, List.take_zero, List.drop_succ_cons, List.drop_zero, List.reverse_cons, List.reverse_nil, List.nil_append, List.cons_append, List.length_cons, List.length_nil, true_and, and_true, and_self, ne_eq, not_true_eq_false, not_false_eq_true, reduceIte, true_or, or_true, false_or, or_false, Nat.reduceAdd, Nat.reduceSub, Nat.reduceMul, Nat.reduceLeDiff, Nat.reduceEqDiff, Nat.reduceLT, Nat.le_refl, Nat.zero_le, Int.reduceToNat, Int.reduceAdd, Int.reduceSub, Int.reduceMul, Int.reduceNeg, Int.reduceLT, Int.reduceLE, Int.reduceEq, Nat.zero_add, Nat.add_zero, Nat.reduceBEq, Nat.one_ne_zero, Nat.zero_ne_one, Nat.lt_irrefl, Nat.succ_ne_zero, w32_id, ixc, ixc2, Int.toNat_natCast]
        refine S_X4_readWay_12 _ _ _ _ ?_; simp (disch := omega) only [B_X4_readWay_12, bi_0, x_ic, x_lc, x_ld, x_st, x_sl, x_inc, x_b32, x_b64, x_d32, x_d64, x_s64, x_un, x_lcmp, x_dup, x_pop, x_dup2, x_if, x_cmp, x_sw, swk, x_ald, x_ast, x_alen, x_getf, x_putf, x_inv, x_mm, x_copy, x_iret, x_lret, x_vret, ok1, pu, ct, rcv, rcs, ent0, List.getElem?_cons_zero, List.getElem?_cons_succ, List.getElem?_nil, List.set_cons_zero, List.set_cons_succ, List.take_succ_cons, List.take_zero, List.drop_succ_cons, List.drop_zero, List.reverse_cons, List.reverse_nil, List.nil_append, List.cons_append, List.length_cons, List.length_nil, true_and, and_true, and_self, ne_eq, not_true_eq_false, not_false_eq_true, reduceIte, true_or, or_true, false_or, or_false, Nat.reduceAdd, Nat.reduceSub, Nat.reduceMul, Nat.reduceLeDiff, Nat.reduceEqDiff, Nat.reduceLT, Nat.le_refl, Nat.zero_le, Int.reduceToNat, Int.reduceAdd, Int.reduceSub, Int.reduceMul, Int.reduceNeg, Int.reduceLT, Int.reduceLE, Int.reduceEq, Nat.zero_add, Nat.add_zero, Nat.reduceBEq, Nat.one_ne_zero, Nat.zero_ne_one, Nat.lt_irrefl, Nat.succ_ne_zero, w32_id, ixc, ixc2, Int.toNat_natCast, ob_64, t1, ob_1]
        refine ⟨fun y => absurd y (by omega), fun _ => ⟨fun y => absurd y (by omega), fun _ => ?_⟩⟩
        refine Cl.app (c_isName (l := l) (d := d + 2) C1) ?_
        (try simp (disch := omega) only [bi_0, x_ic, x_lc, x_ld, x_st, x_sl, x_inc, x_b32, x_b64, x_d32, x_d64, x_s64, x_un, x_lcmp, x_dup, x_pop, x_dup2, x_if, x_cmp, x_sw, swk, x_ald, x_ast, x_alen, x_getf, x_putf, x_inv, x_mm, x_copy, x_iret, x_lret, x_vret, ok1, pu, ct, rcv, rcs, ent0, List.getElem?_cons_zero, List.getElem?_cons_succ, List.getElem?_nil, List.set_cons_zero, List.set_cons_succ, List.take_succ_cons, List.take_zero, List.drop_succ_cons, List.drop_zero, List.reverse_cons, List.reverse_nil, List.nil_append, List.cons_append, List.length_cons, List.length_nil, true_and, and_true, and_self, ne_eq, not_true_eq_false, not_false_eq_true, reduceIte, true_or, or_true, false_or, or_false, Nat.reduceAdd, Nat.reduceSub, Nat.reduceMul, Nat.reduceLeDiff, Nat.reduceEqDiff, Nat.reduceLT, Nat.le_refl, Nat.zero_le, Int.reduceToNat, Int.reduceAdd, Int.reduceSub, Int.reduceMul, Int.reduceNeg, Int.reduceLT, Int.reduceLE, Int.reduceEq, Nat.zero_add, Nat.add_zero, Nat.reduceBEq, Nat.one_ne_zero, Nat.zero_ne_one, Nat.lt_irrefl, Nat.succ_ne_zero, w32_id, ixc, ixc2, Int.toNat_natCast, bI_0])
        rw [show i + (k + 1) = i + k + 1 by omega]
        refine ⟨fun y => ?_, fun y => ?_⟩
        · rw [iF_f y] at ev
          refine S_X4_readWay_47 _ _ _ _ ?_; simp (disch := omega) only [B_X4_readWay_47, bi_0, x_ic, x_lc, x_ld, x_st, x_sl, x_inc, x_b32, x_b64, x_d32, x_d64, x_s64, x_un, x_lcmp, x_dup, x_pop, x_dup2, x_if, x_cmp, x_sw, swk, x_ald, x_ast, x_alen, x_getf, x_putf, x_inv, x_mm, x_copy, x_iret, x_lret, x_vret, ok1, pu, ct, rcv, rcs, ent0, List.getElem?_cons_zero, List.getElem?_cons_succ, List.getElem?_nil, List.set_cons_zero, List.set_cons_succ, List.take_succ_cons, List.take_zero, List.drop_succ_cons, List.drop_zero, List.reverse_cons, List.reverse_nil, List.nil_append, List.cons_append, List.length_cons, List.length_nil, true_and, and_true, and_self, ne_eq, not_true_eq_false, not_false_eq_true, reduceIte, true_or, or_true, false_or, or_false, Nat.reduceAdd, Nat.reduceSub, Nat.reduceMul, Nat.reduceLeDiff, Nat.reduceEqDiff, Nat.reduceLT, Nat.le_refl, Nat.zero_le, Int.reduceToNat, Int.reduceAdd, Int.reduceSub, Int.reduceMul, Int.reduceNeg, Int.reduceLT, Int.reduceLE, Int.reduceEq, Nat.zero_add, Nat.add_zero, Nat.reduceBEq, Nat.one_ne_zero, Nat.zero_ne_one, Nat.lt_irrefl, Nat.succ_ne_zero, w32_id, ixc, ixc2, Int.toNat_natCast]
          rw [← ev] at hQ
          exact hQ _ _ _ ⟨rfl, Or.inl ⟨rfl, rfl, FF, C1, S1⟩⟩
        · rw [iF_t (Classical.not_not.mp y)] at ev
          exact ih (k + 1) m1 (by omega) (by omega) ev O2 FF C1 S1
      · rw [iF_f q1] at ev
        (try simp (disch := omega) only [bi_0, x_ic, x_lc, x_ld, x_st, x_sl, x_inc, x_b32, x_b64, x_d32, x_d64, x_s64, x_un, x_lcmp, x_dup, x_pop, x_dup2, x_if, x_cmp, x_sw, swk, x_ald, x_ast, x_alen, x_getf, x_putf, x_inv, x_mm, x_copy, x_iret, x_lret, x_vret, ok1, pu, ct, rcv, rcs, ent0, List.getElem?_cons_zero, List.getElem?_cons_succ, List.getElem?_nil, List.set_cons_zero, List.set_cons_succ, List.take_succ_cons, List.take_zero, List.drop_succ_cons, List.drop_zero, List.reverse_cons, List.reverse_nil, List.nil_append, List.cons_append, List.length_cons, List.length_nil, true_and, and_true, and_self, ne_eq, not_true_eq_false, not_false_eq_true, reduceIte, true_or, or_true, false_or, or_false, Nat.reduceAdd, Nat.reduceSub, Nat.reduceMul, Nat.reduceLeDiff, Nat.reduceEqDiff, Nat.reduceLT, Nat.le_refl, Nat.zero_le, Int.reduceToNat, Int.reduceAdd, Int.reduceSub, Int.reduceMul, Int.reduceNeg, Int.reduceLT, Int.reduceLE, Int.reduceEq, Nat.zero_add, Nat.add_zero, Nat.reduceBEq, Nat.one_ne_zero, Nat.zero_ne_one, Nat.lt_irrefl, Nat.succ_ne_zero, w32_id, ixc, ixc2, Int.toNat_natCast])
        refine ⟨fun _ => ?_, fun y => y.elim⟩
        rw [← ev] at hQ
        exact hQ _ _ _ ⟨rfl, Or.inr ⟨q1, rfl, by rw [e1]; exact N.trans (Fnt_8 hn), by rw [e1]; exact up_at⟩⟩
  have F0 : Fwy nb c h (up h (nb + 8) c 0) := ⟨fun a _ p _ _ => up_ne p, fun j _ => by rw [up_ne (by omega)], fun j p => up_nj p⟩
  show V l (d + 5) 0 0 M_X4_readWay 0 0 0 Q [(2, 65), (0, (c : Int)), (9, 0)] [] SHP h
  refine S_X4_readWay_0 _ _ _ _ ?_; simp (disch := omega) only [B_X4_readWay_0, bi_0, x_ic, x_lc, x_ld, x_st, x_sl, x_inc, x_b32, x_b64, x_d32, x_d64, x_s64, x_un, x_lcmp, x_dup, x_pop, x_dup2, x_if, x_cmp, x_sw, swk, x_ald, x_ast, x_alen, x_getf, x_putf, x_inv, x_mm, x_copy, x_iret, x_lret, x_vret, ok1, pu, ct, rcv, rcs, ent0, List.getElem?_cons_zero, List.getElem?_cons_succ, List.getElem?_nil, List.set_cons_zero, List.set_cons_succ, List.take_succ_cons, List.take_zero, List.drop_succ_cons, List.drop_zero, List.reverse_cons, List.reverse_nil, List.nil_append, List.cons_append, List.length_cons, List.length_nil, true_and, and_true, and_self, ne_eq, not_true_eq_false, not_false_eq_true, reduceIte, true_or, or_true, false_or, or_false, Nat.reduceAdd, Nat.reduceSub, Nat.reduceMul, Nat.reduceLeDiff, Nat.reduceEqDiff, Nat.reduceLT, Nat.le_refl, Nat.zero_le, Int.reduceToNat, Int.reduceAdd, Int.reduceSub, Int.reduceMul, Int.reduceNeg, Int.reduceLT, Int.reduceLE, Int.reduceEq, Nat.zero_add, Nat.add_zero, Nat.reduceBEq, Nat.one_ne_zero, Nat.zero_ne_one, Nat.lt_irrefl, Nat.succ_ne_zero, w32_id, ixc, ixc2, Int.toNat_natCast, ob_64, h64, o, ixn, nf7 T.1 hn, nln8 hn]
  refine ⟨by omega, ?_⟩
  refine S_X4_readWay_12 _ _ _ _ ?_; simp (disch := omega) only [B_X4_readWay_12, bi_0, x_ic, x_lc, x_ld, x_st, x_sl, x_inc, x_b32, x_b64, x_d32, x_d64, x_s64, x_un, x_lcmp, x_dup, x_pop, x_dup2, x_if, x_cmp, x_sw, swk, x_ald, x_ast, x_alen, x_getf, x_putf, x_inv, x_mm, x_copy, x_iret, x_lret, x_vret, ok1, pu, ct, rcv, rcs, ent0, List.getElem?_cons_zero, List.getElem?_cons_succ, List.getElem?_nil, List.set_cons_zero, List.set_cons_succ, List.take_succ_cons, List.take_zero, List.drop_succ_cons, List.drop_zero, List.reverse_cons, List.reverse_nil, List.nil_append, List.cons_append, List.length_cons, List.length_nil, true_and, and_true, and_self, ne_eq, not_true_eq_false, not_false_eq_true, reduceIte, true_or, or_true, false_or, or_false, Nat.reduceAdd, Nat.reduceSub, Nat.reduceMul, Nat.reduceLeDiff, Nat.reduceEqDiff, Nat.reduceLT, Nat.le_refl, Nat.zero_le, Int.reduceToNat, Int.reduceAdd, Int.reduceSub, Int.reduceMul, Int.reduceNeg, Int.reduceLT, Int.reduceLE, Int.reduceEq, Nat.zero_add, Nat.add_zero, Nat.reduceBEq, Nat.one_ne_zero, Nat.zero_ne_one, Nat.lt_irrefl, Nat.succ_ne_zero, w32_id, ixc, ixc2, Int.toNat_natCast, ob_64, ob_1]
  refine ⟨fun y => y.elim, fun _ => ⟨fun _ => ?_, fun y => y.elim⟩⟩
  refine key 5 0 _ rfl (by decide) rfl (fun j hj => absurd hj (by omega)) F0 (C.fr (up_ne (by omega))) ⟨up_at, fun j hj => absurd hj (by omega), fun q hq => ?_⟩
  rw [up_ne (by omega), So q hq]
  refine v6_cong (fun f _ => ?_)
  unfold ovK
  have : wyB s n nm kk i 0 q = false := by
    rw [Bool.eq_false_iff]
    exact fun x => by obtain ⟨j, a, _⟩ := wyB_t.mp x; omega
  rw [this, Bool.and_false, Bool.or_false]
end CFL

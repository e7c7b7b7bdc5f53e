/-! the reference: a curve read -/
section RCV
variable {l : Launch} {d : Nat} {h : Mem} {s : Nat → Int} {n N i : Nat}
theorem nuU_z {lo hi : Int} (e : nuU s n i lo hi = 0) : tkSo s n i = 2 ∧ lo ≤ tkVa s n i ∧ tkVa s n i ≤ hi := by
  unfold nuU at e
  have b1 := flt_b (s := s) (n := n) (i := i) (w := 1) (by decide)
  have b4 := flt_b (s := s) (n := n) (i := i) (w := 4) (by decide)
  by_cases a : tkSo s n i = 2
  · rw [iF_t a] at e
    by_cases b : lo ≤ tkVa s n i ∧ tkVa s n i ≤ hi
    · exact ⟨a, b⟩
    · rw [iF_f b] at e; omega
  · rw [iF_f a] at e; omega
theorem vlF_ok : ∀ (g m : Nat), m + g = 9 → 1 ≤ g → (vlF s n i g m).1 = 0 → (m < (vlF s n i g m).2 ∧ (vlF s n i g m).2 ≤ 8) ∧ ∀ j, m ≤ j → j < (vlF s n i g m).2 → nuU s n (i + j) (lwV s n i j) 99 = 0
  | 0, m, _, h1, _ => absurd h1 (by decide)
  | g + 1, m, hg, _, h0 => by
    rw [vlF] at h0 ⊢
    by_cases a : nuU s n (i + m) (lwV s n i m) 99 = 0
    · rw [iF_t a] at h0 ⊢
      by_cases b : m = 8
      · rw [iF_t b] at h0
        have b5 := flt_b (s := s) (n := n) (i := i + m) (w := 5) (by decide)
        dsimp only at h0
        omega
      · rw [iF_f b] at h0 ⊢
        by_cases c : tkSo s n (i + m + 1) = 2
        · rw [iF_t c] at h0 ⊢
          obtain ⟨x, y⟩ := vlF_ok g (m + 1) (by omega) (by omega) h0
          refine ⟨by omega, fun j h1 h2 => ?_⟩
          by_cases e : j = m
          · rw [e]; exact a
          · exact y j (by omega) h2
        · rw [iF_f c]
          refine ⟨⟨by dsimp only; omega, by dsimp only; omega⟩, fun j h1 h2 => ?_⟩
          dsimp only at h2
          rw [show j = m by omega]; exact a
    · rw [iF_f a] at h0; exact absurd h0 a
theorem vlRow_s {row : Nat → Int} {b k : Nat} : ru (vlRow s n row b i k) (b + k) (tkVa s n (i + k)) = vlRow s n row b i (k + 1) := by
  funext q
  unfold ru vlRow
  by_cases e : q = b + k
  · rw [if_pos e, if_pos (by omega), e, show b + k - b = k by omega]
  · rw [if_neg e]
    by_cases e2 : b ≤ q ∧ q < b + k
    · rw [if_pos e2, if_pos (by omega)]
    · rw [if_neg e2, if_neg (by omega)]
theorem vlRow_0 {row : Nat → Int} {b : Nat} : vlRow s n row b i 0 = row := by
  funext q
  unfold vlRow
  rw [if_neg (by omega)]
theorem u_readCurve (K : KR h s n N) (A : AtR h N i 0) (hi : i < N) (W : W0 (rowOf h)) : Cl l (d + 6) M_X11_readCurve [(2, 215)] SHP h (fun r sh' h' => r = 0 ∧ sh' = SHP ∧ Frx h h' ∧ AtF h' N (i + 7 + cvM s n i) (cvU s n (rowOf h) (nmOf h) i) ∧ (cvU s n (rowOf h) (nmOf h) i = 0 → rowOf h' = cvRow s n (rowOf h) i ∧ nmOf h' = ru (nmOf h) (rowOf h 0).toNat (tkVa s n (i + 1)) ∧ Smx h h')) := by
  refine Cl_hide (fun Q hQ => ?_)
  have W' := W
  obtain ⟨⟨w1, w2⟩, ⟨w3, w4⟩, w5, w6⟩ := W
  have nN := K.2.2.2.1
  have n1 : n ≤ 1000 := K.2.2.1.1
  obtain ⟨c, hc⟩ : ∃ c : Nat, c = (rowOf h 0).toNat := ⟨_, rfl⟩
  have e1 : h 220 (110 + 0) = (c : Int) := by
    have : h 220 (110 + 0) = rowOf h 0 := rfl
    omega
  have hr : rowOf h 0 = (c : Int) := by omega
  unfold cvU cvRow at hQ
  rw [hr, Int.toNat_natCast] at hQ
  obtain ⟨M, hM⟩ : ∃ M, M = cvM s n i := ⟨_, rfl⟩
  obtain ⟨fv, hfv⟩ : ∃ fv, fv = (vlF s n (i + 3) 9 0).1 := ⟨_, rfl⟩
  obtain ⟨f1, hf1⟩ : ∃ f, f = nmU s n (rowOf h) (nmOf h) (c : Int) 6 i := ⟨_, rfl⟩
  rw [← hM, ← hfv, ← hf1] at hQ
  have okv : fv = 0 → (0 < M ∧ M ≤ 8) ∧ ∀ j, j < M → nuU s n (i + 3 + j) (lwV s n (i + 3) j) 99 = 0 := by
    intro x
    rw [hM]; unfold cvM
    have := vlF_ok (s := s) (n := n) (i := i + 3) 9 0 rfl (by decide) (hfv.symm.trans x)
    exact ⟨this.1, fun j hj => this.2 j (Nat.zero_le _) hj⟩
  obtain ⟨F2, hF2⟩ : ∃ f, f = orF f1 (wdU s n (i + 2) 1) := ⟨_, rfl⟩
  rw [← hF2] at hQ
  obtain ⟨F3, hF3⟩ : ∃ f, f = orF F2 fv := ⟨_, rfl⟩
  rw [← hF3] at hQ
  -- from the word again on
  have tail : ∀ (m : Mem) (many low : Int) (x5 : PV), Frx h m → Smx h m → AtF m N (i + 3 + M) F3 → (F3 = 0 → many = (M : Int) ∧ low = tkVa s n (i + 2 + M) ∧ rowOf m = vlRow s n (rowOf h) (7 + 11 * c) (i + 3) M ∧ nmOf m = ru (nmOf h) c (tkVa s n (i + 1))) → V l (d + 6) 0 0 M_X11_readCurve 0 0 116 Q [(2, 215), (0, (c : Int)), (0, 114 + 11 * (c : Int)), (0, many), (0, low), x5, (9, 0)] [] SHP m := by
    intro m many low x5 F S A3 ok
    have K3 := F.kr K
    refine S_X11_readCurve_116 _ _ _ _ ?_; simp (disch := omega) only [B_X11_readCurve_116, bi_0, x_ic, x_lc, x_ld, x_st, x_sl, x_inc, x_b32, x_b64, x_d32, x_d64, x_s64, x_un, x_lcmp, x_dup, x_pop, x_dup2, x_if, x_cmp, x_sw, swk, x_ald, x_ast, x_alen, x_getf, x_putf, x_inv, x_mm, x_copy, x_iret, x_lret, x_vret, ok1, pu, ct, rcv, rcs, ent0, List.getElem?_cons_zero, List.getElem?_cons_succ, List.getElem?_nil, List.set_cons_zero, List.set_cons_succ, List.take_succ_cons, List.take_zero, List.drop_succ_cons, List.drop_zero, List.reverse_cons, List.reverse_nil, List.nil_append, List.cons_append, List.length_cons, List.length_nil, true_and, and_true, and_self, ne_eq, not_true_eq_false, not_false_eq_true, reduceIte, true_or, or_true, false_or, or_false, Nat.reduceAdd, Nat.reduceSub, Nat.reduceMul, Nat.reduceLeDiff, Nat.reduceEqDiff, Nat.reduceLT, Nat.le_refl, Nat.zero_le, Int.reduceToNat, Int.reduceAdd, Int.reduceSub, Int.reduceMul, Int.reduceNeg, Int.reduceLT, Int.reduceLE, Int.reduceEq, Nat.zero_add, Nat.add_zero, Nat.reduceBEq, Nat.one_ne_zero, Nat.zero_ne_one, Nat.lt_irrefl, Nat.succ_ne_zero, w32_id, ixc, ixc2, Int.toNat_natCast, ob_214]
    refine Cl.imp (u_takeAfter (l := l) (d := d + 1) K3 A3 (w := 2) (by decide) 1 many) (fun r5 sh' m2 q => ?_)
    obtain ⟨rfl, G2, A4, q2⟩ := q
    have K4 := G2.kr K3
    have cm : orF (orF F3 (wdU s n (i + 3 + M) 2)) (nuU s n (i + 3 + M + 1) 1 many) = orF (orF F3 (wdU s n (i + 3 + M) 2)) (nuU s n (i + 4 + M) 1 (M : Int)) := by
      by_cases e : F3 = 0
      · rw [(ok e).1, show i + 3 + M + 1 = i + 4 + M by omega]
      · have x : orF F3 (wdU s n (i + 3 + M) 2) ≠ 0 := fun x => e (orF_z.mp x).1
        rw [orF_n x, orF_n x]
    rw [cm] at A4 q2
    obtain ⟨F4, hF4⟩ : ∃ f, f = orF (orF F3 (wdU s n (i + 3 + M) 2)) (nuU s n (i + 4 + M) 1 (M : Int)) := ⟨_, rfl⟩
    rw [← hF4] at A4 q2 hQ
    have g8 := A4.1
    have g0 := A4.2.1
    (try simp (disch := omega) only [bi_0, x_ic, x_lc, x_ld, x_st, x_sl, x_inc, x_b32, x_b64, x_d32, x_d64, x_s64, x_un, x_lcmp, x_dup, x_pop, x_dup2, x_if, x_cmp, x_sw, swk, x_ald, x_ast, x_alen, x_getf, x_putf, x_inv, x_mm, x_copy, x_iret, x_lret, x_vret, ok1, pu, ct, rcv, rcs, ent0, List.getElem?_cons_zero, List.getElem?_cons_succ, List.getElem?_nil, List.set_cons_zero, List.set_cons_succ, List.take_succ_cons, List.take_zero, List.drop_succ_cons, List.drop_zero, List.reverse_cons, List.reverse_nil, List.nil_append, List.cons_append, List.length_cons, List.length_nil, true_and, and_true, and_self, ne_eq, not_true_eq_false, not_false_eq_true, reduceIte, true_or, or_true, false_or, or_false, Nat.reduceAdd, Nat.reduceSub, Nat.reduceMul, Nat.reduceLeDiff, Nat.reduceEqDiff, Nat.reduceLT, Nat.le_refl, Nat.zero_le, Int.reduceToNat, Int.reduceAdd, Int.reduceSub, Int.reduceMul, Int.reduceNeg, Int.reduceLT, Int.reduceLE, Int.reduceEq, Nat.zero_add, Nat.add_zero, Nat.reduceBEq, Nat.one_ne_zero, Nat.zero_ne_one, Nat.lt_irrefl, Nat.succ_ne_zero, w32_id, ixc, ixc2, Int.toNat_natCast, ob_214, g8])
    refine ⟨fun z => ?_, fun z => ?_⟩
    · have z : F4 = 0 := by omega
      have z1 := orF_z.mp (hF4.symm.trans z)
      have z2 := orF_z.mp z1.1
      have zu := nuU_z z1.2
      obtain ⟨k1, k2, k3, k4⟩ := ok z2.1
      have zv := orF_z.mp (hF3.symm.trans z2.1)
      obtain ⟨o1, o2⟩ := okv zv.2
      have e5 : r5 = tkVa s n (i + 4 + M) := by rw [q2 z, show i + 3 + M + 1 = i + 4 + M by omega]
      obtain ⟨a, ha⟩ : ∃ a : Nat, a = (tkVa s n (i + 4 + M)).toNat := ⟨_, rfl⟩
      have ea : tkVa s n (i + 4 + M) = (a : Int) := by omega
      rw [ea] at zu
      have vb := nuU_z (o2 (M - a) (by omega))
      have vc := nuU_z (o2 (M - 1) (by omega))
      have nb1 := tkVa_n vb.1
      have nb2 := tkVa_n vc.1
      rw [show i + 3 + (M - 1) = i + 2 + M by omega] at nb2 vc
      rw [show i + 3 + (M - a) = i + 3 + M - a by omega] at nb1 vb
      have rv : m2 220 (114 + 11 * (c : Int) + 3 + (M : Int) - (a : Int)).toNat = tkVa s n (i + 3 + M - a) := by
        have : m2 220 (114 + 11 * (c : Int) + 3 + (M : Int) - (a : Int)).toNat = rowOf m2 (7 + 11 * c + M - a) := by
          show _ = m2 220 (110 + (7 + 11 * c + M - a))
          rw [show (114 + 11 * (c : Int) + 3 + (M : Int) - (a : Int)).toNat = 110 + (7 + 11 * c + M - a) by omega]
        rw [this, G2.row, k3]
        unfold vlRow
        rw [if_pos (by omega), show i + 3 + (7 + 11 * c + M - a - (7 + 11 * c)) = i + 3 + M - a by omega]
      rw [e5, ea, k1, k2]
      refine S_X11_readCurve_136 _ _ _ _ ?_; simp (disch := omega) only [B_X11_readCurve_136, bi_0, x_ic, x_lc, x_ld, x_st, x_sl, x_inc, x_b32, x_b64, x_d32, x_d64, x_s64, x_un, x_lcmp, x_dup, x_pop, x_dup2, x_if, x_cmp, x_sw, swk, x_ald, x_ast, x_alen, x_getf, x_putf, x_inv, x_mm, x_copy, x_iret, x_lret, x_vret, ok1, pu, ct, rcv, rcs, ent0, List.getElem?_cons_zero, List.getElem?_cons_succ, List.getElem?_nil, List.set_cons_zero, List.set_cons_succ, List.take_succ_cons, List.take_zero, List.drop_succ_cons, List.drop_zero, List.reverse_cons, List.reverse_nil, List.nil_append, List.cons_append, List.length_cons, List.length_nil, true_and, and_true, and_self, ne_eq, not_true_eq_false, not_false_eq_true, reduceIte, true_or, or_true, false_or, or_false, Nat.reduceAdd, Nat.reduceSub, Nat.reduceMul, Nat.reduceLeDiff, Nat.reduceEqDiff, Nat.reduceLT, Nat.le_refl, Nat.zero_le, Int.reduceToNat, Int.reduceAdd, Int.reduceSub, Int.reduceMul, Int.reduceNeg, Int.reduceLT, Int.reduceLE, Int.reduceEq, Nat.zero_add, Nat.add_zero, Nat.reduceBEq, Nat.one_ne_zero, Nat.zero_ne_one, Nat.lt_irrefl, Nat.succ_ne_zero, w32_id, ixc, ixc2, Int.toNat_natCast, ob_214, ly_214_10 K4.1, ln_220, rv]
      refine ⟨by omega, ?_⟩
      rw [z] at A4
      refine Cl.imp (u_takeAfter (l := l) (d := d + 1) K4 A4 (w := 3) (by decide) (tkVa s n (i + 2 + M) - tkVa s n (i + 3 + M - a)) 99) (fun r6 sh' m3 q => ?_)
      obtain ⟨rfl, G3, A5, q3⟩ := q
      have K5 := G3.kr K4
      rw [orF_0, show i + 3 + M + 2 = i + 5 + M by omega, show i + 5 + M + 1 = i + 6 + M by omega, show i + 5 + M + 2 = i + 7 + M by omega] at A5
      rw [orF_0, show i + 3 + M + 2 = i + 5 + M by omega, show i + 5 + M + 1 = i + 6 + M by omega] at q3
      rw [z, orF_0, ea, Int.toNat_natCast] at hQ
      obtain ⟨U, hU⟩ : ∃ U, U = orF (wdU s n (i + 5 + M) 3) (nuU s n (i + 6 + M) (tkVa s n (i + 2 + M) - tkVa s n (i + 3 + M - a)) 99) := ⟨_, rfl⟩
      rw [← hU] at A5 q3 hQ
      have G23 := G2.trans G3
      have g8 := A5.1
      have row5 := G23.row.trans k3
      (try simp (disch := omega) only [bi_0, x_ic, x_lc, x_ld, x_st, x_sl, x_inc, x_b32, x_b64, x_d32, x_d64, x_s64, x_un, x_lcmp, x_dup, x_pop, x_dup2, x_if, x_cmp, x_sw, swk, x_ald, x_ast, x_alen, x_getf, x_putf, x_inv, x_mm, x_copy, x_iret, x_lret, x_vret, ok1, pu, ct, rcv, rcs, ent0, List.getElem?_cons_zero, List.getElem?_cons_succ, List.getElem?_nil, List.set_cons_zero, List.set_cons_succ, List.take_succ_cons, List.take_zero, List.drop_succ_cons, List.drop_zero, List.reverse_cons, List.reverse_nil, List.nil_append, List.cons_append, List.length_cons, List.length_nil, true_and, and_true, and_self, ne_eq, not_true_eq_false, not_false_eq_true, reduceIte, true_or, or_true, false_or, or_false, Nat.reduceAdd, Nat.reduceSub, Nat.reduceMul, Nat.reduceLeDiff, Nat.reduceEqDiff, Nat.reduceLT, Nat.le_refl, Nat.zero_le, Int.reduceToNat, Int.reduceAdd, Int.reduceSub, Int.reduceMul, Int.reduceNeg, Int.reduceLT, Int.reduceLE, Int.reduceEq, Nat.zero_add, Nat.add_zero, Nat.reduceBEq, Nat.one_ne_zero, Nat.zero_ne_one, Nat.lt_irrefl, Nat.succ_ne_zero, w32_id, ixc, ixc2, Int.toNat_natCast])
      refine S_X11_readCurve_159 _ _ _ _ ?_; simp (disch := omega) only [B_X11_readCurve_159, bi_0, x_ic, x_lc, x_ld, x_st, x_sl, x_inc, x_b32, x_b64, x_d32, x_d64, x_s64, x_un, x_lcmp, x_dup, x_pop, x_dup2, x_if, x_cmp, x_sw, swk, x_ald, x_ast, x_alen, x_getf, x_putf, x_inv, x_mm, x_copy, x_iret, x_lret, x_vret, ok1, pu, ct, rcv, rcs, ent0, List.getElem?_cons_zero, List.getElem?_cons_succ, List.getElem?_nil, List.set_cons_zero, List.set_cons_succ, List.take_succ_cons, List.take_zero, List.drop_succ_cons, List.drop_zero, List.reverse_cons, List.reverse_nil, List.nil_append, List.cons_append, List.length_cons, List.length_nil, true_and, and_true, and_self, ne_eq, not_true_eq_false, not_false_eq_true, reduceIte, true_or, or_true, false_or, or_false, Nat.reduceAdd, Nat.reduceSub, Nat.reduceMul, Nat.reduceLeDiff, Nat.reduceEqDiff, Nat.reduceLT, Nat.le_refl, Nat.zero_le, Int.reduceToNat, Int.reduceAdd, Int.reduceSub, Int.reduceMul, Int.reduceNeg, Int.reduceLT, Int.reduceLE, Int.reduceEq, Nat.zero_add, Nat.add_zero, Nat.reduceBEq, Nat.one_ne_zero, Nat.zero_ne_one, Nat.lt_irrefl, Nat.succ_ne_zero, w32_id, ixc, ixc2, Int.toNat_natCast, ob_214, g8]
      refine ⟨fun z => ?_, fun z => ?_⟩
      · have e0 : m3 220 110 = (c : Int) := by
          have : m3 220 110 = rowOf m3 0 := rfl
          rw [this, row5]; unfold vlRow; rw [if_neg (by omega)]; exact hr
        have e0b : up (up (up m3 220 (114 + 11 * (c : Int)).toNat (M : Int)) 220 (114 + 11 * (c : Int) + 1).toNat (a : Int)) 220 (114 + 11 * (c : Int) + 2).toNat r6 220 110 = (c : Int) := by
          rw [up_nj (by omega), up_nj (by omega), up_nj (by omega)]; exact e0
        (try simp (disch := omega) only [bi_0, x_ic, x_lc, x_ld, x_st, x_sl, x_inc, x_b32, x_b64, x_d32, x_d64, x_s64, x_un, x_lcmp, x_dup, x_pop, x_dup2, x_if, x_cmp, x_sw, swk, x_ald, x_ast, x_alen, x_getf, x_putf, x_inv, x_mm, x_copy, x_iret, x_lret, x_vret, ok1, pu, ct, rcv, rcs, ent0, List.getElem?_cons_zero, List.getElem?_cons_succ, List.getElem?_nil, List.set_cons_zero, List.set_cons_succ, List.take_succ_cons, List.take_zero, List.drop_succ_cons, List.drop_zero, List.reverse_cons, List.reverse_nil, List.nil_append, List.cons_append, List.length_cons, List.length_nil, true_and, and_true, and_self, ne_eq, not_true_eq_false, not_false_eq_true, reduceIte, true_or, or_true, false_or, or_false, Nat.reduceAdd, Nat.reduceSub, Nat.reduceMul, Nat.reduceLeDiff, Nat.reduceEqDiff, Nat.reduceLT, Nat.le_refl, Nat.zero_le, Int.reduceToNat, Int.reduceAdd, Int.reduceSub, Int.reduceMul, Int.reduceNeg, Int.reduceLT, Int.reduceLE, Int.reduceEq, Nat.zero_add, Nat.add_zero, Nat.reduceBEq, Nat.one_ne_zero, Nat.zero_ne_one, Nat.lt_irrefl, Nat.succ_ne_zero, w32_id, ixc, ixc2, Int.toNat_natCast, ob_214, up_ne, ly_214_10 K5.1, ln_220, e0b])
        refine ⟨by omega, by omega, by omega, ?_⟩
        refine S_X11_readCurve_206 _ _ _ _ ?_; simp (disch := omega) only [B_X11_readCurve_206, bi_0, x_ic, x_lc, x_ld, x_st, x_sl, x_inc, x_b32, x_b64, x_d32, x_d64, x_s64, x_un, x_lcmp, x_dup, x_pop, x_dup2, x_if, x_cmp, x_sw, swk, x_ald, x_ast, x_alen, x_getf, x_putf, x_inv, x_mm, x_copy, x_iret, x_lret, x_vret, ok1, pu, ct, rcv, rcs, ent0, List.getElem?_cons_zero, List.getElem?_cons_succ, List.getElem?_nil, List.set_cons_zero, List.set_cons_succ, List.take_succ_cons, List.take_zero, List.drop_succ_cons, List.drop_zero, List.reverse_cons, List.reverse_nil, List.nil_append, List.cons_append, List.length_cons, List.length_nil, true_and, and_true, and_self, ne_eq, not_true_eq_false, not_false_eq_true, reduceIte, true_or, or_true, false_or, or_false, Nat.reduceAdd, Nat.reduceSub, Nat.reduceMul, Nat.reduceLeDiff, Nat.reduceEqDiff, Nat.reduceLT, Nat.le_refl, Nat.zero_le, Int.reduceToNat, Int.reduceAdd, Int.reduceSub, Int.reduceMul, Int.reduceNeg, Int.reduceLT, Int.reduceLE, Int.reduceEq, Nat.zero_add, Nat.add_zero, Nat.reduceBEq, Nat.one_ne_zero, Nat.zero_ne_one, Nat.lt_irrefl, Nat.succ_ne_zero, w32_id, ixc, ixc2, Int.toNat_natCast]
        refine hQ _ _ _ ⟨rfl, rfl, F.trans (G23.rx.trans ((Frx_row (by omega)).trans ((Frx_row (by omega)).trans ((Frx_row (by omega)).trans (Frx_row (by omega)))))), ?_, fun _ => ⟨?_, ?_, ?_⟩⟩
        · exact A5.fr (by rw [up_ne (by decide), up_ne (by decide), up_ne (by decide), up_ne (by decide)])
        · rw [rowOf_up (j := 0) (by rfl), rowOf_up (j := 6 + 11 * c) (by omega), rowOf_up (j := 5 + 11 * c) (by omega), rowOf_up (j := 4 + 11 * c) (by omega), row5, q3 z]
        · rw [nmOf_ne (by decide), nmOf_ne (by decide), nmOf_ne (by decide), nmOf_ne (by decide), G23.nm, k4]
        · exact S.trans (G23.sm.trans ⟨by rw [up_ne (by decide), up_ne (by decide), up_ne (by decide), up_ne (by decide)], by rw [up_ne (by decide), up_ne (by decide), up_ne (by decide), up_ne (by decide)]⟩)
      · refine S_X11_readCurve_206 _ _ _ _ ?_; simp (disch := omega) only [B_X11_readCurve_206, bi_0, x_ic, x_lc, x_ld, x_st, x_sl, x_inc, x_b32, x_b64, x_d32, x_d64, x_s64, x_un, x_lcmp, x_dup, x_pop, x_dup2, x_if, x_cmp, x_sw, swk, x_ald, x_ast, x_alen, x_getf, x_putf, x_inv, x_mm, x_copy, x_iret, x_lret, x_vret, ok1, pu, ct, rcv, rcs, ent0, List.getElem?_cons_zero, List.getElem?_cons_succ, List.getElem?_nil, List.set_cons_zero, List.set_cons_succ, List.take_succ_cons, List.take_zero, List.drop_succ_cons, List.drop_zero, List.reverse_cons, List.reverse_nil, List.nil_append, List.cons_append, List.length_cons, List.length_nil, true_and, and_true, and_self, ne_eq, not_true_eq_false, not_false_eq_true, reduceIte, true_or, or_true, false_or, or_false, Nat.reduceAdd, Nat.reduceSub, Nat.reduceMul, Nat.reduceLeDiff, Nat.reduceEqDiff, Nat.reduceLT, Nat.le_refl, Nat.zero_le, Int.reduceToNat, Int.reduceAdd, Int.reduceSub, Int.reduceMul, Int.reduceNeg, Int.reduceLT, Int.reduceLE, Int.reduceEq, Nat.zero_add, Nat.add_zero, Nat.reduceBEq, Nat.one_ne_zero, Nat.zero_ne_one, Nat.lt_irrefl, Nat.succ_ne_zero, w32_id, ixc, ixc2, Int.toNat_natCast]
        exact hQ _ _ _ ⟨rfl, rfl, F.trans G23.rx, A5, fun x => absurd x z⟩
    · have z : F4 ≠ 0 := by omega
      refine S_X11_readCurve_159 _ _ _ _ ?_; simp (disch := omega) only [B_X11_readCurve_159, bi_0, x_ic, x_lc, x_ld, x_st, x_sl, x_inc, x_b32, x_b64, x_d32, x_d64, x_s64, x_un, x_lcmp, x_dup, x_pop, x_dup2, x_if, x_cmp, x_sw, swk, x_ald, x_ast, x_alen, x_getf, x_putf, x_inv, x_mm, x_copy, x_iret, x_lret, x_vret, ok1, pu, ct, rcv, rcs, ent0, List.getElem?_cons_zero, List.getElem?_cons_succ, List.getElem?_nil, List.set_cons_zero, List.set_cons_succ, List.take_succ_cons, List.take_zero, List.drop_succ_cons, List.drop_zero, List.reverse_cons, List.reverse_nil, List.nil_append, List.cons_append, List.length_cons, List.length_nil, true_and, and_true, and_self, ne_eq, not_true_eq_false, not_false_eq_true, reduceIte, true_or, or_true, false_or, or_false, Nat.reduceAdd, Nat.reduceSub, Nat.reduceMul, Nat.reduceLeDiff, Nat.reduceEqDiff, Nat.reduceLT, Nat.le_refl, Nat.zero_le, Int.reduceToNat, Int.reduceAdd, Int.reduceSub, Int.reduceMul, Int.reduceNeg, Int.reduceLT, Int.reduceLE, Int.reduceEq, Nat.zero_add, Nat.add_zero, Nat.reduceBEq, Nat.one_ne_zero, Nat.zero_ne_one, Nat.lt_irrefl, Nat.succ_ne_zero, w32_id, ixc, ixc2, Int.toNat_natCast, ob_214, g8]
      refine ⟨fun x => absurd x z, fun _ => ?_⟩
      refine S_X11_readCurve_206 _ _ _ _ ?_; simp (disch := omega) only [B_X11_readCurve_206, bi_0, x_ic, x_lc, x_ld, x_st, x_sl, x_inc, x_b32, x_b64, x_d32, x_d64, x_s64, x_un, x_lcmp, x_dup, x_pop, x_dup2, x_if, x_cmp, x_sw, swk, x_ald, x_ast, x_alen, x_getf, x_putf, x_inv, x_mm, x_copy, x_iret, x_lret, x_vret, ok1, pu, ct, rcv, rcs, ent0, List.getElem?_cons_zero, List.getElem?_cons_succ, List.getElem?_nil, List.set_cons_zero, List.set_cons_succ, List.take_succ_cons, List.take_zero, List.drop_succ_cons, List.drop_zero, List.reverse_cons, List.reverse_nil, List.nil_append, List.cons_append, List.length_cons, List.length_nil, true_and, and_true, and_self, ne_eq, not_true_eq_false, not_false_eq_true, reduceIte, true_or, or_true, false_or, or_false, Nat.reduceAdd, Nat.reduceSub, Nat.reduceMul, Nat.reduceLeDiff, Nat.reduceEqDiff, Nat.reduceLT, Nat.le_refl, Nat.zero_le, Int.reduceToNat, Int.reduceAdd, Int.reduceSub, Int.reduceMul, Int.reduceNeg, Int.reduceLT, Int.reduceLE, Int.reduceEq, Nat.zero_add, Nat.add_zero, Nat.reduceBEq, Nat.one_ne_zero, Nat.zero_ne_one, Nat.lt_irrefl, Nat.succ_ne_zero, w32_id, ixc, ixc2, Int.toNat_natCast]
      rw [orF_n z, orF_n z] at hQ
      exact hQ _ _ _ ⟨rfl, rfl, F.trans G2.rx, A4.nx z, fun x => absurd x z⟩
  -- behind a fault
  have skip : ∀ (m : Mem) (many low : Int) (x5 : PV), Frx h m → Smx h m → AtF m N (i + 3 + M) F3 → F3 ≠ 0 → V l (d + 6) 0 0 M_X11_readCurve 0 0 70 Q [(2, 215), (0, (c : Int)), (0, 114 + 11 * (c : Int)), (0, many), (0, low), x5, (9, 0)] [] SHP m := by
    intro m many low x5 F S A3 e
    have g8 := A3.1
    refine S_X11_readCurve_70 _ _ _ _ ?_; simp (disch := omega) only [B_X11_readCurve_70, bi_0, x_ic, x_lc, x_ld, x_st, x_sl, x_inc, x_b32, x_b64, x_d32, x_d64, x_s64, x_un, x_lcmp, x_dup, x_pop, x_dup2, x_if, x_cmp, x_sw, swk, x_ald, x_ast, x_alen, x_getf, x_putf, x_inv, x_mm, x_copy, x_iret, x_lret, x_vret, ok1, pu, ct, rcv, rcs, ent0, List.getElem?_cons_zero, List.getElem?_cons_succ, List.getElem?_nil, List.set_cons_zero, List.set_cons_succ, List.take_succ_cons, List.take_zero, List.drop_succ_cons, List.drop_zero, List.reverse_cons, List.reverse_nil, List.nil_append, List.cons_append, List.length_cons, List.length_nil, true_and, and_true, and_self, ne_eq, not_true_eq_false, not_false_eq_true, reduceIte, true_or, or_true, false_or, or_false, Nat.reduceAdd, Nat.reduceSub, Nat.reduceMul, Nat.reduceLeDiff, Nat.reduceEqDiff, Nat.reduceLT, Nat.le_refl, Nat.zero_le, Int.reduceToNat, Int.reduceAdd, Int.reduceSub, Int.reduceMul, Int.reduceNeg, Int.reduceLT, Int.reduceLE, Int.reduceEq, Nat.zero_add, Nat.add_zero, Nat.reduceBEq, Nat.one_ne_zero, Nat.zero_ne_one, Nat.lt_irrefl, Nat.succ_ne_zero, w32_id, ixc, ixc2, Int.toNat_natCast, ob_214, g8]
    refine ⟨fun x => absurd x e, fun _ => ?_⟩
    refine S_X11_readCurve_96 _ _ _ _ ?_; simp (disch := omega) only [B_X11_readCurve_96, bi_0, x_ic, x_lc, x_ld, x_st, x_sl, x_inc, x_b32, x_b64, x_d32, x_d64, x_s64, x_un, x_lcmp, x_dup, x_pop, x_dup2, x_if, x_cmp, x_sw, swk, x_ald, x_ast, x_alen, x_getf, x_putf, x_inv, x_mm, x_copy, x_iret, x_lret, x_vret, ok1, pu, ct, rcv, rcs, ent0, List.getElem?_cons_zero, List.getElem?_cons_succ, List.getElem?_nil, List.set_cons_zero, List.set_cons_succ, List.take_succ_cons, List.take_zero, List.drop_succ_cons, List.drop_zero, List.reverse_cons, List.reverse_nil, List.nil_append, List.cons_append, List.length_cons, List.length_nil, true_and, and_true, and_self, ne_eq, not_true_eq_false, not_false_eq_true, reduceIte, true_or, or_true, false_or, or_false, Nat.reduceAdd, Nat.reduceSub, Nat.reduceMul, Nat.reduceLeDiff, Nat.reduceEqDiff, Nat.reduceLT, Nat.le_refl, Nat.zero_le, Int.reduceToNat, Int.reduceAdd, Int.reduceSub, Int.reduceMul, Int.reduceNeg, Int.reduceLT, Int.reduceLE, Int.reduceEq, Nat.zero_add, Nat.add_zero, Nat.reduceBEq, Nat.one_ne_zero, Nat.zero_ne_one, Nat.lt_irrefl, Nat.succ_ne_zero, w32_id, ixc, ixc2, Int.toNat_natCast, ob_214, g8]
    refine ⟨fun x => absurd x e, fun _ => ?_⟩
    exact tail m many low x5 F S A3 (fun x => absurd x e)
  -- the values
  have key : F2 = 0 → ∀ (g k : Nat) (m : Mem) (x5 : PV), k + g = 9 → 1 ≤ g → (vlF s n (i + 3) g k).1 = fv → (vlF s n (i + 3) g k).2 = M → Frx h m → Smx h m → AtF m N (i + 3 + k) 0 → rowOf m = vlRow s n (rowOf h) (7 + 11 * c) (i + 3) k → nmOf m = ru (nmOf h) c (tkVa s n (i + 1)) → V l (d + 6) 0 0 M_X11_readCurve 0 0 32 Q [(2, 215), (0, (c : Int)), (0, 114 + 11 * (c : Int)), (0, (k : Int)), (0, lwV s n (i + 3) k), x5, (9, 0)] [] SHP m := by
    intro hF20 g
    have h30 : F3 = fv := by rw [hF3, hF20, orF_0]
    induction g with
    | zero => intro k m x5 _ h1; omega
    | succ g ih =>
      intro k m x5 hg _ v1 v2 F S A3 hrow hnm
      have K3 := F.kr K
      refine S_X11_readCurve_32 _ _ _ _ ?_; simp (disch := omega) only [B_X11_readCurve_32, bi_0, x_ic, x_lc, x_ld, x_st, x_sl, x_inc, x_b32, x_b64, x_d32, x_d64, x_s64, x_un, x_lcmp, x_dup, x_pop, x_dup2, x_if, x_cmp, x_sw, swk, x_ald, x_ast, x_alen, x_getf, x_putf, x_inv, x_mm, x_copy, x_iret, x_lret, x_vret, ok1, pu, ct, rcv, rcs, ent0, List.getElem?_cons_zero, List.getElem?_cons_succ, List.getElem?_nil, List.set_cons_zero, List.set_cons_succ, List.take_succ_cons, List.take_zero, List.drop_succ_cons, List.drop_zero, List.reverse_cons, List.reverse_nil, List.nil_append, List.cons_append, List.length_cons, List.length_nil, true_and, and_true, and_self, ne_eq, not_true_eq_false, not_false_eq_true, reduceIte, true_or, or_true, false_or, or_false, Nat.reduceAdd, Nat.reduceSub, Nat.reduceMul, Nat.reduceLeDiff, Nat.reduceEqDiff, Nat.reduceLT, Nat.le_refl, Nat.zero_le, Int.reduceToNat, Int.reduceAdd, Int.reduceSub, Int.reduceMul, Int.reduceNeg, Int.reduceLT, Int.reduceLE, Int.reduceEq, Nat.zero_add, Nat.add_zero, Nat.reduceBEq, Nat.one_ne_zero, Nat.zero_ne_one, Nat.lt_irrefl, Nat.succ_ne_zero, w32_id, ixc, ixc2, Int.toNat_natCast, ob_214]
      refine Cl.imp (u_takeNumber (l := l) (d := d + 3) K3 A3 (lwV s n (i + 3) k) 99) (fun r5 sh' m2 q => ?_)
      obtain ⟨rfl, G2, A4, q2⟩ := q
      rw [orF_0] at A4 q2
      have K4 := G2.kr K3
      have g8 := A4.1
      rw [vlF] at v1 v2
      (try simp (disch := omega) only [bi_0, x_ic, x_lc, x_ld, x_st, x_sl, x_inc, x_b32, x_b64, x_d32, x_d64, x_s64, x_un, x_lcmp, x_dup, x_pop, x_dup2, x_if, x_cmp, x_sw, swk, x_ald, x_ast, x_alen, x_getf, x_putf, x_inv, x_mm, x_copy, x_iret, x_lret, x_vret, ok1, pu, ct, rcv, rcs, ent0, List.getElem?_cons_zero, List.getElem?_cons_succ, List.getElem?_nil, List.set_cons_zero, List.set_cons_succ, List.take_succ_cons, List.take_zero, List.drop_succ_cons, List.drop_zero, List.reverse_cons, List.reverse_nil, List.nil_append, List.cons_append, List.length_cons, List.length_nil, true_and, and_true, and_self, ne_eq, not_true_eq_false, not_false_eq_true, reduceIte, true_or, or_true, false_or, or_false, Nat.reduceAdd, Nat.reduceSub, Nat.reduceMul, Nat.reduceLeDiff, Nat.reduceEqDiff, Nat.reduceLT, Nat.le_refl, Nat.zero_le, Int.reduceToNat, Int.reduceAdd, Int.reduceSub, Int.reduceMul, Int.reduceNeg, Int.reduceLT, Int.reduceLE, Int.reduceEq, Nat.zero_add, Nat.add_zero, Nat.reduceBEq, Nat.one_ne_zero, Nat.zero_ne_one, Nat.lt_irrefl, Nat.succ_ne_zero, w32_id, ixc, ixc2, Int.toNat_natCast, ob_214, g8])
      refine ⟨fun z => ?_, fun z => ?_⟩
      · rw [iF_t z] at v1 v2
        rw [z] at A4
        have B4 := A4.at0
        have e7 := B4.1
        have i4 := B4.2.1
        refine ⟨fun y => ?_, fun y => ?_⟩
        · have y : k = 8 := by omega
          rw [iF_t y] at v1 v2
          dsimp only at v1 v2
          have em : up m2 214 7 (((i + 3 + k : Nat)) : Int) = up m2 214 7 (((i + 3 + k + 1 : Nat) : Int) - 1) := by rw [show (((i + 3 + k + 1 : Nat) : Int) - 1) = ((i + 3 + k : Nat) : Int) by omega]
          obtain ⟨m3, hm3⟩ : ∃ m3, m3 = up m2 214 7 (((i + 3 + k : Nat)) : Int) := ⟨_, rfl⟩
          have A5 : AtF m3 N (i + 3 + k) 0 := by rw [hm3]; exact A4.go (by omega)
          have G3 : Fat m2 m3 := by rw [hm3]; exact Fat_f (Or.inl rfl)
          rw [← hm3] at em
          (try simp (disch := omega) only [bi_0, x_ic, x_lc, x_ld, x_st, x_sl, x_inc, x_b32, x_b64, x_d32, x_d64, x_s64, x_un, x_lcmp, x_dup, x_pop, x_dup2, x_if, x_cmp, x_sw, swk, x_ald, x_ast, x_alen, x_getf, x_putf, x_inv, x_mm, x_copy, x_iret, x_lret, x_vret, ok1, pu, ct, rcv, rcs, ent0, List.getElem?_cons_zero, List.getElem?_cons_succ, List.getElem?_nil, List.set_cons_zero, List.set_cons_succ, List.take_succ_cons, List.take_zero, List.drop_succ_cons, List.drop_zero, List.reverse_cons, List.reverse_nil, List.nil_append, List.cons_append, List.length_cons, List.length_nil, true_and, and_true, and_self, ne_eq, not_true_eq_false, not_false_eq_true, reduceIte, true_or, or_true, false_or, or_false, Nat.reduceAdd, Nat.reduceSub, Nat.reduceMul, Nat.reduceLeDiff, Nat.reduceEqDiff, Nat.reduceLT, Nat.le_refl, Nat.zero_le, Int.reduceToNat, Int.reduceAdd, Int.reduceSub, Int.reduceMul, Int.reduceNeg, Int.reduceLT, Int.reduceLE, Int.reduceEq, Nat.zero_add, Nat.add_zero, Nat.reduceBEq, Nat.one_ne_zero, Nat.zero_ne_one, Nat.lt_irrefl, Nat.succ_ne_zero, w32_id, ixc, ixc2, Int.toNat_natCast, ob_214, e7, ← em])
          refine Cl.app (r_wrong0 (l := l) (d := d + 4) (G3.kr K4) A5.at0 (w := 5) (by decide)) ?_
          (try simp (disch := omega) only [bi_0, x_ic, x_lc, x_ld, x_st, x_sl, x_inc, x_b32, x_b64, x_d32, x_d64, x_s64, x_un, x_lcmp, x_dup, x_pop, x_dup2, x_if, x_cmp, x_sw, swk, x_ald, x_ast, x_alen, x_getf, x_putf, x_inv, x_mm, x_copy, x_iret, x_lret, x_vret, ok1, pu, ct, rcv, rcs, ent0, List.getElem?_cons_zero, List.getElem?_cons_succ, List.getElem?_nil, List.set_cons_zero, List.set_cons_succ, List.take_succ_cons, List.take_zero, List.drop_succ_cons, List.drop_zero, List.reverse_cons, List.reverse_nil, List.nil_append, List.cons_append, List.length_cons, List.length_nil, true_and, and_true, and_self, ne_eq, not_true_eq_false, not_false_eq_true, reduceIte, true_or, or_true, false_or, or_false, Nat.reduceAdd, Nat.reduceSub, Nat.reduceMul, Nat.reduceLeDiff, Nat.reduceEqDiff, Nat.reduceLT, Nat.le_refl, Nat.zero_le, Int.reduceToNat, Int.reduceAdd, Int.reduceSub, Int.reduceMul, Int.reduceNeg, Int.reduceLT, Int.reduceLE, Int.reduceEq, Nat.zero_add, Nat.add_zero, Nat.reduceBEq, Nat.one_ne_zero, Nat.zero_ne_one, Nat.lt_irrefl, Nat.succ_ne_zero, w32_id, ixc, ixc2, Int.toNat_natCast])
          have bb := flt_b (s := s) (n := n) (i := i + 3 + k) (w := 5) (by decide)
          rw [v1]
          have e3 : F3 ≠ 0 := by rw [h30]; omega
          refine skip _ _ _ _ (F.trans (G2.rx.trans (G3.rx.trans (Fat_f (Or.inr rfl)).rx))) (S.trans (G2.sm.trans (G3.sm.trans (Fat_f (Or.inr rfl)).sm))) ?_ e3
          rw [h30]
          exact A5.no (by omega)
        · have y : k ≠ 8 := by omega
          rw [iF_f y] at v1 v2
          have e5 := q2 z
          have g8 : m2 214 8 = 0 := A4.1
          obtain ⟨m3, hm3⟩ : ∃ m3, m3 = up m2 220 (114 + 11 * (c : Int) + 3 + (k : Int)).toNat r5 := ⟨_, rfl⟩
          have A5 : AtF m3 N (i + 3 + (k + 1)) 0 := by rw [hm3]; exact A4.fr (up_ne (by decide))
          have B5 := A5.at0
          have b7 := B5.1
          have b8 := B5.2.2
          have i5 := B5.2.1
          have Fm3 : Frx m2 m3 := by rw [hm3]; exact Frx_row (by omega)
          have Sm3 : Smx m2 m3 := by rw [hm3]; exact ⟨up_ne (by decide), by rw [up_ne (by decide)]⟩
          have K5 := Fm3.kr K4
          have row5 : rowOf m3 = vlRow s n (rowOf h) (7 + 11 * c) (i + 3) (k + 1) := by
            rw [hm3, rowOf_up (j := 7 + 11 * c + k) (by omega), G2.row, hrow, e5, vlRow_s]
          have nm5 : nmOf m3 = ru (nmOf h) c (tkVa s n (i + 1)) := by rw [hm3, nmOf_ne (by decide), G2.nm, hnm]
          have r216 := (K5.2.2.2.2.1 _ i5).2.1
          have el : r5 = lwV s n (i + 3) (k + 1) := by
            rw [e5]; unfold lwV; rw [if_neg (by omega), show i + 3 + (k + 1) - 1 = i + 3 + k by omega]
          have FF := F.trans (G2.rx.trans Fm3)
          have SS := S.trans (G2.sm.trans Sm3)
          refine S_X11_readCurve_70 _ _ _ _ ?_; simp (disch := omega) only [B_X11_readCurve_70, bi_0, x_ic, x_lc, x_ld, x_st, x_sl, x_inc, x_b32, x_b64, x_d32, x_d64, x_s64, x_un, x_lcmp, x_dup, x_pop, x_dup2, x_if, x_cmp, x_sw, swk, x_ald, x_ast, x_alen, x_getf, x_putf, x_inv, x_mm, x_copy, x_iret, x_lret, x_vret, ok1, pu, ct, rcv, rcs, ent0, List.getElem?_cons_zero, List.getElem?_cons_succ, List.getElem?_nil, List.set_cons_zero, List.set_cons_succ, List.take_succ_cons, List.take_zero, List.drop_succ_cons, List.drop_zero, List.reverse_cons, List.reverse_nil, List.nil_append, List.cons_append, List.length_cons, List.length_nil, true_and, and_true, and_self, ne_eq, not_true_eq_false, not_false_eq_true, reduceIte, true_or, or_true, false_or, or_false, Nat.reduceAdd, Nat.reduceSub, Nat.reduceMul, Nat.reduceLeDiff, Nat.reduceEqDiff, Nat.reduceLT, Nat.le_refl, Nat.zero_le, Int.reduceToNat, Int.reduceAdd, Int.reduceSub, Int.reduceMul, Int.reduceNeg, Int.reduceLT, Int.reduceLE, Int.reduceEq, Nat.zero_add, Nat.add_zero, Nat.reduceBEq, Nat.one_ne_zero, Nat.zero_ne_one, Nat.lt_irrefl, Nat.succ_ne_zero, w32_id, ixc, ixc2, Int.toNat_natCast, ob_214, g8, ly_214_10 K4.1, ln_220, ← hm3]
          refine ⟨fun _ => ⟨by omega, ?_⟩, fun y => y.elim⟩
          rw [el]
          refine S_X11_readCurve_96 _ _ _ _ ?_; simp (disch := omega) only [B_X11_readCurve_96, bi_0, x_ic, x_lc, x_ld, x_st, x_sl, x_inc, x_b32, x_b64, x_d32, x_d64, x_s64, x_un, x_lcmp, x_dup, x_pop, x_dup2, x_if, x_cmp, x_sw, swk, x_ald, x_ast, x_alen, x_getf, x_putf, x_inv, x_mm, x_copy, x_iret, x_lret, x_vret, ok1, pu, ct, rcv, rcs, ent0, List.getElem?_cons_zero, List.getElem?_cons_succ, List.getElem?_nil, List.set_cons_zero, List.set_cons_succ, List.take_succ_cons, List.take_zero, List.drop_succ_cons, List.drop_zero, List.reverse_cons, List.reverse_nil, List.nil_append, List.cons_append, List.length_cons, List.length_nil, true_and, and_true, and_self, ne_eq, not_true_eq_false, not_false_eq_true, reduceIte, true_or, or_true, false_or, or_false, Nat.reduceAdd, Nat.reduceSub, Nat.reduceMul, Nat.reduceLeDiff, Nat.reduceEqDiff, Nat.reduceLT, Nat.le_refl, Nat.zero_le, Int.reduceToNat, Int.reduceAdd, Int.reduceSub, Int.reduceMul, Int.reduceNeg, Int.reduceLT, Int.reduceLE, Int.reduceEq, Nat.zero_add, Nat.add_zero, Nat.reduceBEq, Nat.one_ne_zero, Nat.zero_ne_one, Nat.lt_irrefl, Nat.succ_ne_zero, w32_id, ixc, ixc2, Int.toNat_natCast, ob_214, b7, b8, ly_214_4 K5.1, ln_216, r216]
          refine ⟨fun _ => ⟨by omega, fun x => ?_, fun x => ?_⟩, fun y => y.elim⟩
          · rw [show i + 3 + (k + 1) = i + 3 + k + 1 by omega] at x
            rw [iF_t x] at v1 v2
            exact ih (k + 1) m3 _ (by omega) (by omega) v1 v2 FF SS A5 row5 nm5
          · rw [show i + 3 + (k + 1) = i + 3 + k + 1 by omega] at x
            rw [iF_f x] at v1 v2
            dsimp only at v1 v2
            have e3 : F3 = 0 := h30.trans v1.symm
            refine tail m3 _ _ _ FF SS ?_ (fun _ => ⟨?_, ?_, ?_, nm5⟩)
            · rw [e3, ← v2]; exact A5
            · rw [← v2]; rfl
            · rw [← v2]; unfold lwV; rw [if_neg (by omega), show i + 3 + (k + 1) - 1 = i + 2 + (k + 1) by omega]
            · rw [← v2]; exact row5
      · rw [iF_f z] at v1 v2
        dsimp only at v1 v2
        have e3 : F3 ≠ 0 := by rw [h30, ← v1]; exact z
        refine skip _ _ _ _ (F.trans G2.rx) (S.trans G2.sm) ?_ e3
        rw [h30, ← v1]
        exact A4.nx z
  show V l (d + 6) 0 0 M_X11_readCurve 0 0 0 Q [(2, 215), (9, 0), (9, 0), (9, 0), (9, 0), (9, 0), (9, 0)] [] SHP h
  refine S_X11_readCurve_0 _ _ _ _ ?_; simp (disch := omega) only [B_X11_readCurve_0, bi_0, x_ic, x_lc, x_ld, x_st, x_sl, x_inc, x_b32, x_b64, x_d32, x_d64, x_s64, x_un, x_lcmp, x_dup, x_pop, x_dup2, x_if, x_cmp, x_sw, swk, x_ald, x_ast, x_alen, x_getf, x_putf, x_inv, x_mm, x_copy, x_iret, x_lret, x_vret, ok1, pu, ct, rcv, rcs, ent0, List.getElem?_cons_zero, List.getElem?_cons_succ, List.getElem?_nil, List.set_cons_zero, List.set_cons_succ, List.take_succ_cons, List.take_zero, List.drop_succ_cons, List.drop_zero, List.reverse_cons, List.reverse_nil, List.nil_append, List.cons_append, List.length_cons, List.length_nil, true_and, and_true, and_self, ne_eq, not_true_eq_false, not_false_eq_true, reduceIte, true_or, or_true, false_or, or_false, Nat.reduceAdd, Nat.reduceSub, Nat.reduceMul, Nat.reduceLeDiff, Nat.reduceEqDiff, Nat.reduceLT, Nat.le_refl, Nat.zero_le, Int.reduceToNat, Int.reduceAdd, Int.reduceSub, Int.reduceMul, Int.reduceNeg, Int.reduceLT, Int.reduceLE, Int.reduceEq, Nat.zero_add, Nat.add_zero, Nat.reduceBEq, Nat.one_ne_zero, Nat.zero_ne_one, Nat.lt_irrefl, Nat.succ_ne_zero, w32_id, ixc, ixc2, Int.toNat_natCast, ob_214]
  refine Cl.app (r_read (l := l) (d := d + 4) K.1 (w := 0) (by decide)) ?_
  (try simp (disch := omega) only [bi_0, x_ic, x_lc, x_ld, x_st, x_sl, x_inc, x_b32, x_b64, x_d32, x_d64, x_s64, x_un, x_lcmp, x_dup, x_pop, x_dup2, x_if, x_cmp, x_sw, swk, x_ald, x_ast, x_alen, x_getf, x_putf, x_inv, x_mm, x_copy, x_iret, x_lret, x_vret, ok1, pu, ct, rcv, rcs, ent0, List.getElem?_cons_zero, List.getElem?_cons_succ, List.getElem?_nil, List.set_cons_zero, List.set_cons_succ, List.take_succ_cons, List.take_zero, List.drop_succ_cons, List.drop_zero, List.reverse_cons, List.reverse_nil, List.nil_append, List.cons_append, List.length_cons, List.length_nil, true_and, and_true, and_self, ne_eq, not_true_eq_false, not_false_eq_true, reduceIte, true_or, or_true, false_or, or_false, Nat.reduceAdd, Nat.reduceSub, Nat.reduceMul, Nat.reduceLeDiff, Nat.reduceEqDiff, Nat.reduceLT, Nat.le_refl, Nat.zero_le, Int.reduceToNat, Int.reduceAdd, Int.reduceSub, Int.reduceMul, Int.reduceNeg, Int.reduceLT, Int.reduceLE, Int.reduceEq, Nat.zero_add, Nat.add_zero, Nat.reduceBEq, Nat.one_ne_zero, Nat.zero_ne_one, Nat.lt_irrefl, Nat.succ_ne_zero, w32_id, ixc, ixc2, Int.toNat_natCast, ob_214, e1])
  refine Cl.imp (u_readName (l := l) (d := d) K A hi W' (fr := 0) (many := c) (most := 6) (by omega) (by decide)) (fun r sh' m1 q => ?_)
  obtain ⟨rfl, rfl, G1, A1, q1⟩ := q
  rw [show ((6 : Nat) : Int) = 6 from rfl, ← hf1] at A1 q1
  have K1 := G1.kr K
  (try simp (disch := omega) only [bi_0, x_ic, x_lc, x_ld, x_st, x_sl, x_inc, x_b32, x_b64, x_d32, x_d64, x_s64, x_un, x_lcmp, x_dup, x_pop, x_dup2, x_if, x_cmp, x_sw, swk, x_ald, x_ast, x_alen, x_getf, x_putf, x_inv, x_mm, x_copy, x_iret, x_lret, x_vret, ok1, pu, ct, rcv, rcs, ent0, List.getElem?_cons_zero, List.getElem?_cons_succ, List.getElem?_nil, List.set_cons_zero, List.set_cons_succ, List.take_succ_cons, List.take_zero, List.drop_succ_cons, List.drop_zero, List.reverse_cons, List.reverse_nil, List.nil_append, List.cons_append, List.length_cons, List.length_nil, true_and, and_true, and_self, ne_eq, not_true_eq_false, not_false_eq_true, reduceIte, true_or, or_true, false_or, or_false, Nat.reduceAdd, Nat.reduceSub, Nat.reduceMul, Nat.reduceLeDiff, Nat.reduceEqDiff, Nat.reduceLT, Nat.le_refl, Nat.zero_le, Int.reduceToNat, Int.reduceAdd, Int.reduceSub, Int.reduceMul, Int.reduceNeg, Int.reduceLT, Int.reduceLE, Int.reduceEq, Nat.zero_add, Nat.add_zero, Nat.reduceBEq, Nat.one_ne_zero, Nat.zero_ne_one, Nat.lt_irrefl, Nat.succ_ne_zero, w32_id, ixc, ixc2, Int.toNat_natCast, ob_214])
  refine Cl.imp (u_takeWord (l := l) (d := d + 2) K1 A1 (w := 1) (by decide)) (fun r sh' m2 q => ?_)
  obtain ⟨rfl, rfl, G2, A2⟩ := q
  rw [← hF2] at A2
  have K2 := G2.kr K1
  (try simp (disch := omega) only [bi_0, x_ic, x_lc, x_ld, x_st, x_sl, x_inc, x_b32, x_b64, x_d32, x_d64, x_s64, x_un, x_lcmp, x_dup, x_pop, x_dup2, x_if, x_cmp, x_sw, swk, x_ald, x_ast, x_alen, x_getf, x_putf, x_inv, x_mm, x_copy, x_iret, x_lret, x_vret, ok1, pu, ct, rcv, rcs, ent0, List.getElem?_cons_zero, List.getElem?_cons_succ, List.getElem?_nil, List.set_cons_zero, List.set_cons_succ, List.take_succ_cons, List.take_zero, List.drop_succ_cons, List.drop_zero, List.reverse_cons, List.reverse_nil, List.nil_append, List.cons_append, List.length_cons, List.length_nil, true_and, and_true, and_self, ne_eq, not_true_eq_false, not_false_eq_true, reduceIte, true_or, or_true, false_or, or_false, Nat.reduceAdd, Nat.reduceSub, Nat.reduceMul, Nat.reduceLeDiff, Nat.reduceEqDiff, Nat.reduceLT, Nat.le_refl, Nat.zero_le, Int.reduceToNat, Int.reduceAdd, Int.reduceSub, Int.reduceMul, Int.reduceNeg, Int.reduceLT, Int.reduceLE, Int.reduceEq, Nat.zero_add, Nat.add_zero, Nat.reduceBEq, Nat.one_ne_zero, Nat.zero_ne_one, Nat.lt_irrefl, Nat.succ_ne_zero, w32_id, ixc, ixc2, Int.toNat_natCast])
  have FF := G1.trans G2.rx
  have SS := q1.1.2.trans G2.sm
  by_cases e : F2 = 0
  · have z1 := orF_z.mp (hF2.symm.trans e)
    have row2 := G2.row.trans q1.1.1
    have nm2 : nmOf m2 = ru (nmOf h) c (tkVa s n (i + 1)) := by rw [G2.nm, q1.2 z1.1, Nat.zero_add]
    rw [e] at A2
    exact key e 9 0 m2 _ rfl (by decide) hfv.symm (by rw [hM]; rfl) FF SS A2 (by rw [vlRow_0]; exact row2) nm2
  · have e3 : F3 = F2 := by rw [hF3, orF_n e]
    have g8 := A2.1
    have A2' := A2
    refine S_X11_readCurve_32 _ _ _ _ ?_; simp (disch := omega) only [B_X11_readCurve_32, bi_0, x_ic, x_lc, x_ld, x_st, x_sl, x_inc, x_b32, x_b64, x_d32, x_d64, x_s64, x_un, x_lcmp, x_dup, x_pop, x_dup2, x_if, x_cmp, x_sw, swk, x_ald, x_ast, x_alen, x_getf, x_putf, x_inv, x_mm, x_copy, x_iret, x_lret, x_vret, ok1, pu, ct, rcv, rcs, ent0, List.getElem?_cons_zero, List.getElem?_cons_succ, List.getElem?_nil, List.set_cons_zero, List.set_cons_succ, List.take_succ_cons, List.take_zero, List.drop_succ_cons, List.drop_zero, List.reverse_cons, List.reverse_nil, List.nil_append, List.cons_append, List.length_cons, List.length_nil, true_and, and_true, and_self, ne_eq, not_true_eq_false, not_false_eq_true, reduceIte, true_or, or_true, false_or, or_false, Nat.reduceAdd, Nat.reduceSub, Nat.reduceMul, Nat.reduceLeDiff, Nat.reduceEqDiff, Nat.reduceLT, Nat.le_refl, Nat.zero_le, Int.reduceToNat, Int.reduceAdd, Int.reduceSub, Int.reduceMul, Int.reduceNeg, Int.reduceLT, Int.reduceLE, Int.reduceEq, Nat.zero_add, Nat.add_zero, Nat.reduceBEq, Nat.one_ne_zero, Nat.zero_ne_one, Nat.lt_irrefl, Nat.succ_ne_zero, w32_id, ixc, ixc2, Int.toNat_natCast, ob_214]
    refine Cl.imp (u_takeNumber (l := l) (d := d + 3) K2 A2 0 99) (fun r5 sh' m3 q => ?_)
    obtain ⟨rfl, G3, A3, _⟩ := q
    rw [orF_n e] at A3
    have g8 := A3.1
    (try simp (disch := omega) only [bi_0, x_ic, x_lc, x_ld, x_st, x_sl, x_inc, x_b32, x_b64, x_d32, x_d64, x_s64, x_un, x_lcmp, x_dup, x_pop, x_dup2, x_if, x_cmp, x_sw, swk, x_ald, x_ast, x_alen, x_getf, x_putf, x_inv, x_mm, x_copy, x_iret, x_lret, x_vret, ok1, pu, ct, rcv, rcs, ent0, List.getElem?_cons_zero, List.getElem?_cons_succ, List.getElem?_nil, List.set_cons_zero, List.set_cons_succ, List.take_succ_cons, List.take_zero, List.drop_succ_cons, List.drop_zero, List.reverse_cons, List.reverse_nil, List.nil_append, List.cons_append, List.length_cons, List.length_nil, true_and, and_true, and_self, ne_eq, not_true_eq_false, not_false_eq_true, reduceIte, true_or, or_true, false_or, or_false, Nat.reduceAdd, Nat.reduceSub, Nat.reduceMul, Nat.reduceLeDiff, Nat.reduceEqDiff, Nat.reduceLT, Nat.le_refl, Nat.zero_le, Int.reduceToNat, Int.reduceAdd, Int.reduceSub, Int.reduceMul, Int.reduceNeg, Int.reduceLT, Int.reduceLE, Int.reduceEq, Nat.zero_add, Nat.add_zero, Nat.reduceBEq, Nat.one_ne_zero, Nat.zero_ne_one, Nat.lt_irrefl, Nat.succ_ne_zero, w32_id, ixc, ixc2, Int.toNat_natCast, ob_214, g8])
    refine ⟨fun x => absurd x e, fun _ => ?_⟩
    exact skip _ _ _ _ (FF.trans G3.rx) (SS.trans G3.sm) (by rw [e3]; exact A3.nx e) (by rw [e3]; exact e)
end RCV

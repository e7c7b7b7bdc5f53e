/-! the class: a net read whole -/
theorem NdT.z {s : Nat → Int} {n N : Nat} (E : NdT s n N) : ∀ j, N ≤ j → tkSo s n j = 0 := by
  intro j
  induction j with
  | zero => intro h; rw [← show N = 0 by omega]; exact E.2.2
  | succ j ih =>
    intro h
    by_cases e : N = j + 1
    · rw [← e]; exact E.2.2
    · have z := ih (by omega)
      have t := tk_t s n j
      have e1 : tkB s n (j + 1) = n := by
        rcases t.2 with q | q | q | q
        · exact q.2.2
        · have := q.2.1; omega
        · have := q.2.1; omega
        · have := q.2.1; omega
      have t2 := (tk_t s n (j + 1)).le
      by_cases x : tkSo s n (j + 1) = 0
      · exact x
      · have := t2.2.2.2.1 x
        have := t2.2.2.1
        omega
theorem NdT.li {s : Nat → Int} {n N j : Nat} (E : NdT s n N) (h : tkSo s n j ≠ 0) : j < N := by
  by_cases e : N ≤ j
  · exact absurd (E.z j e) h
  · omega
/-- nothing told yet -/
def Z0X (X : NX) : Prop := X.1 0 = 0 ∧ X.1 1 = 0 ∧ X.1 2 = 0 ∧ X.1 3 = -1 ∧ X.2.2.2 = 0
theorem zX_z {h : Mem} : Z0X (zX h) := ⟨rfl, rfl, rfl, rfl, rfl⟩
theorem Z0X.wq {X : NX} (Z : Z0X X) : WQ X.1 := by
  obtain ⟨a, b, c, _, _⟩ := Z
  refine ⟨?_, fun q hq => absurd hq (by omega), fun q hq => absurd hq (by omega), fun q hq => absurd hq (by omega)⟩
  unfold W0; rw [a, b, c]; decide
section CRD
variable {l : Launch} {d : Nat} {h : Mem} {s : Nat → Int} {n N nb : Nat} {X : NX}
theorem c_nreset (L : Lay h) (hn : nb = 4 ∨ nb = 34) (Z : Z0X X) : Cl l (d + 2) M_X3_reset [(2, (nb : Int) + 1)] SHP h (fun r sh' h' => r = 0 ∧ sh' = SHP ∧ Fnt nb h h' ∧ h' 1 = h 1 ∧ CNX h' nb X) := by
  refine Cl_hide (fun Q hQ => ?_)
  have o := (net_sh hn).1
  have ixn : ((nb : Int) + 1).toNat - 1 = nb := by omega
  have o15 := nob15 hn
  obtain ⟨z0, z1, z2, z3, z4⟩ := Z
  show V l (d + 2) 0 0 M_X3_reset 0 0 0 Q [(2, (nb : Int) + 1), (9, 0)] [] SHP h
  obtain ⟨m0, hm0⟩ : ∃ m0, m0 = up (up (up (up h nb 11 0) nb 12 0) nb 13 0) nb 14 0 := ⟨_, rfl⟩
  have N0 : Fnt nb h m0 := by
    rw [hm0]
    exact (Fnt_up hn (by unfold ntW; omega)).trans ((Fnt_up hn (by unfold ntW; omega)).trans ((Fnt_up hn (by unfold ntW; omega)).trans (Fnt_up hn (by unfold ntW; omega))))
  have L0 := N0.lay hn L
  have lr : Cl l (d + 1) M_X1_reset [(2, ((nb + 15 : Nat) : Int) + 1)] SHP m0 (Rt 0 SHP (up m0 (nb + 15) 2 0)) := by
    have ix : (((nb + 15 : Nat) : Int) + 1).toNat - 1 = nb + 15 := by omega
    show V l (d + 1) 0 0 M_X1_reset 0 0 0 _ [(2, ((nb + 15 : Nat) : Int) + 1)] [] SHP m0
    refine S_X1_reset_0 _ _ _ _ ?_; simp (disch := omega) only [B_X1_reset_0, bi_0, x_ic, x_lc, x_ld, x_st, x_sl, x_inc, x_b32, x_b64, x_d32, x_d64, x_s64, x_un, x_lcmp, x_dup, x_pop, x_dup2, x_if, x_cmp, x_sw, swk, x_ald, x_ast, x_alen, x_getf, x_putf, x_inv, x_mm, x_copy, x_iret, x_lret, x_vret, ok1, pu, ct, rcv, rcs, ent0, List.getElem?_cons_zero, List.getElem?_cons_succ, List.getElem?_nil, List.set_cons_zero, List.set_cons_succ, List.take_succ_cons, List.take_zero, List.drop_succ_cons, List.drop_zero, List.reverse_cons, List.reverse_nil, List.nil_append, List.cons_append, List.length_cons, List.length_nil, true_and, and_true, and_self, ne_eq, not_true_eq_false, not_false_eq_true, reduceIte, true_or, or_true, false_or, or_false, Nat.reduceAdd, Nat.reduceSub, Nat.reduceMul, Nat.reduceLeDiff, Nat.reduceEqDiff, Nat.reduceLT, Nat.le_refl, Nat.zero_le, Int.reduceToNat, Int.reduceAdd, Int.reduceSub, Int.reduceMul, Int.reduceNeg, Int.reduceLT, Int.reduceLE, Int.reduceEq, Nat.zero_add, Nat.add_zero, Nat.reduceBEq, Nat.one_ne_zero, Nat.zero_ne_one, Nat.lt_irrefl, Nat.succ_ne_zero, w32_id, ixc, ixc2, Int.toNat_natCast, o15, ix]
    exact Rt_mk rfl
  refine S_X3_reset_0 _ _ _ _ ?_; simp (disch := omega) only [B_X3_reset_0, bi_0, x_ic, x_lc, x_ld, x_st, x_sl, x_inc, x_b32, x_b64, x_d32, x_d64, x_s64, x_un, x_lcmp, x_dup, x_pop, x_dup2, x_if, x_cmp, x_sw, swk, x_ald, x_ast, x_alen, x_getf, x_putf, x_inv, x_mm, x_copy, x_iret, x_lret, x_vret, ok1, pu, ct, rcv, rcs, ent0, List.getElem?_cons_zero, List.getElem?_cons_succ, List.getElem?_nil, List.set_cons_zero, List.set_cons_succ, List.take_succ_cons, List.take_zero, List.drop_succ_cons, List.drop_zero, List.reverse_cons, List.reverse_nil, List.nil_append, List.cons_append, List.length_cons, List.length_nil, true_and, and_true, and_self, ne_eq, not_true_eq_false, not_false_eq_true, reduceIte, true_or, or_true, false_or, or_false, Nat.reduceAdd, Nat.reduceSub, Nat.reduceMul, Nat.reduceLeDiff, Nat.reduceEqDiff, Nat.reduceLT, Nat.le_refl, Nat.zero_le, Int.reduceToNat, Int.reduceAdd, Int.reduceSub, Int.reduceMul, Int.reduceNeg, Int.reduceLT, Int.reduceLE, Int.reduceEq, Nat.zero_add, Nat.add_zero, Nat.reduceBEq, Nat.one_ne_zero, Nat.zero_ne_one, Nat.lt_irrefl, Nat.succ_ne_zero, w32_id, ixc, ixc2, Int.toNat_natCast, o, ixn, ← hm0, nf10 L0 hn, o15]
  refine Cl.app lr ?_
  (try simp (disch := omega) only [bi_0, x_ic, x_lc, x_ld, x_st, x_sl, x_inc, x_b32, x_b64, x_d32, x_d64, x_s64, x_un, x_lcmp, x_dup, x_pop, x_dup2, x_if, x_cmp, x_sw, swk, x_ald, x_ast, x_alen, x_getf, x_putf, x_inv, x_mm, x_copy, x_iret, x_lret, x_vret, ok1, pu, ct, rcv, rcs, ent0, List.getElem?_cons_zero, List.getElem?_cons_succ, List.getElem?_nil, List.set_cons_zero, List.set_cons_succ, List.take_succ_cons, List.take_zero, List.drop_succ_cons, List.drop_zero, List.reverse_cons, List.reverse_nil, List.nil_append, List.cons_append, List.length_cons, List.length_nil, true_and, and_true, and_self, ne_eq, not_true_eq_false, not_false_eq_true, reduceIte, true_or, or_true, false_or, or_false, Nat.reduceAdd, Nat.reduceSub, Nat.reduceMul, Nat.reduceLeDiff, Nat.reduceEqDiff, Nat.reduceLT, Nat.le_refl, Nat.zero_le, Int.reduceToNat, Int.reduceAdd, Int.reduceSub, Int.reduceMul, Int.reduceNeg, Int.reduceLT, Int.reduceLE, Int.reduceEq, Nat.zero_add, Nat.add_zero, Nat.reduceBEq, Nat.one_ne_zero, Nat.zero_ne_one, Nat.lt_irrefl, Nat.succ_ne_zero, w32_id, ixc, ixc2, Int.toNat_natCast])
  obtain ⟨m1, hm1⟩ : ∃ m1, m1 = up m0 (nb + 15) 2 0 := ⟨_, rfl⟩
  have N1 : Fnt nb h m1 := by rw [hm1]; exact N0.trans (Fnt_up hn (by unfold ntW; omega))
  rw [← hm1]
  refine V_jx (pc := 29) (fun k => [(2, (nb : Int) + 1), (0, (k : Int))]) (fun k m => Fnt nb h m ∧ (∀ a, a ≠ nb + 14 → m a = m1 a) ∧ ∀ q, q < k → m (nb + 14) q = 0) 4 (fun k m hk J ih => ?_) (fun m J => ?_) m1 ⟨N1, fun _ _ => rfl, fun q hq => absurd hq (by omega)⟩
  · obtain ⟨J0, J1, J2⟩ := J
    have Lm := J0.lay hn L
    refine S_X3_reset_29 _ _ _ _ ?_; simp (disch := omega) only [B_X3_reset_29, bi_0, x_ic, x_lc, x_ld, x_st, x_sl, x_inc, x_b32, x_b64, x_d32, x_d64, x_s64, x_un, x_lcmp, x_dup, x_pop, x_dup2, x_if, x_cmp, x_sw, swk, x_ald, x_ast, x_alen, x_getf, x_putf, x_inv, x_mm, x_copy, x_iret, x_lret, x_vret, ok1, pu, ct, rcv, rcs, ent0, List.getElem?_cons_zero, List.getElem?_cons_succ, List.getElem?_nil, List.set_cons_zero, List.set_cons_succ, List.take_succ_cons, List.take_zero, List.drop_succ_cons, List.drop_zero, List.reverse_cons, List.reverse_nil, List.nil_append, List.cons_append, List.length_cons, List.length_nil, true_and, and_true, and_self, ne_eq, not_true_eq_false, not_false_eq_true, reduceIte, true_or, or_true, false_or, or_false, Nat.reduceAdd, Nat.reduceSub, Nat.reduceMul, Nat.reduceLeDiff, Nat.reduceEqDiff, Nat.reduceLT, Nat.le_refl, Nat.zero_le, Int.reduceToNat, Int.reduceAdd, Int.reduceSub, Int.reduceMul, Int.reduceNeg, Int.reduceLT, Int.reduceLE, Int.reduceEq, Nat.zero_add, Nat.add_zero, Nat.reduceBEq, Nat.one_ne_zero, Nat.zero_ne_one, Nat.lt_irrefl, Nat.succ_ne_zero, w32_id, ixc, ixc2, Int.toNat_natCast, o, ixn, nf9 Lm hn, nln14 hn]
    refine ⟨fun z => absurd z (by omega), fun _ => ⟨by omega, ?_⟩⟩
    refine ih _ ⟨J0.trans (Fnt_up hn (by unfold ntW; omega)), fun a ha => by rw [up_ne ha]; exact J1 a ha, fun q hq => ?_⟩
    by_cases x : q = k
    · rw [x, up_at]
    · rw [up_nj x]; exact J2 q (by omega)
  · obtain ⟨J0, J1, J2⟩ := J
    refine S_X3_reset_29 _ _ _ _ ?_; simp (disch := omega) only [B_X3_reset_29, bi_0, x_ic, x_lc, x_ld, x_st, x_sl, x_inc, x_b32, x_b64, x_d32, x_d64, x_s64, x_un, x_lcmp, x_dup, x_pop, x_dup2, x_if, x_cmp, x_sw, swk, x_ald, x_ast, x_alen, x_getf, x_putf, x_inv, x_mm, x_copy, x_iret, x_lret, x_vret, ok1, pu, ct, rcv, rcs, ent0, List.getElem?_cons_zero, List.getElem?_cons_succ, List.getElem?_nil, List.set_cons_zero, List.set_cons_succ, List.take_succ_cons, List.take_zero, List.drop_succ_cons, List.drop_zero, List.reverse_cons, List.reverse_nil, List.nil_append, List.cons_append, List.length_cons, List.length_nil, true_and, and_true, and_self, ne_eq, not_true_eq_false, not_false_eq_true, reduceIte, true_or, or_true, false_or, or_false, Nat.reduceAdd, Nat.reduceSub, Nat.reduceMul, Nat.reduceLeDiff, Nat.reduceEqDiff, Nat.reduceLT, Nat.le_refl, Nat.zero_le, Int.reduceToNat, Int.reduceAdd, Int.reduceSub, Int.reduceMul, Int.reduceNeg, Int.reduceLT, Int.reduceLE, Int.reduceEq, Nat.zero_add, Nat.add_zero, Nat.reduceBEq, Nat.one_ne_zero, Nat.zero_ne_one, Nat.lt_irrefl, Nat.succ_ne_zero, w32_id, ixc, ixc2, Int.toNat_natCast]
    refine ⟨fun _ => ?_, fun z => absurd (by decide) z⟩
    refine S_X3_reset_47 _ _ _ _ ?_; simp (disch := omega) only [B_X3_reset_47, bi_0, x_ic, x_lc, x_ld, x_st, x_sl, x_inc, x_b32, x_b64, x_d32, x_d64, x_s64, x_un, x_lcmp, x_dup, x_pop, x_dup2, x_if, x_cmp, x_sw, swk, x_ald, x_ast, x_alen, x_getf, x_putf, x_inv, x_mm, x_copy, x_iret, x_lret, x_vret, ok1, pu, ct, rcv, rcs, ent0, List.getElem?_cons_zero, List.getElem?_cons_succ, List.getElem?_nil, List.set_cons_zero, List.set_cons_succ, List.take_succ_cons, List.take_zero, List.drop_succ_cons, List.drop_zero, List.reverse_cons, List.reverse_nil, List.nil_append, List.cons_append, List.length_cons, List.length_nil, true_and, and_true, and_self, ne_eq, not_true_eq_false, not_false_eq_true, reduceIte, true_or, or_true, false_or, or_false, Nat.reduceAdd, Nat.reduceSub, Nat.reduceMul, Nat.reduceLeDiff, Nat.reduceEqDiff, Nat.reduceLT, Nat.le_refl, Nat.zero_le, Int.reduceToNat, Int.reduceAdd, Int.reduceSub, Int.reduceMul, Int.reduceNeg, Int.reduceLT, Int.reduceLE, Int.reduceEq, Nat.zero_add, Nat.add_zero, Nat.reduceBEq, Nat.one_ne_zero, Nat.zero_ne_one, Nat.lt_irrefl, Nat.succ_ne_zero, w32_id, ixc, ixc2, Int.toNat_natCast]
    have f11 : m nb 11 = 0 := by rw [J1 nb (by omega), hm1, up_ne (by omega), hm0, up_nj (by decide), up_nj (by decide), up_nj (by decide), up_at]
    have f12 : m nb 12 = 0 := by rw [J1 nb (by omega), hm1, up_ne (by omega), hm0, up_nj (by decide), up_nj (by decide), up_at]
    have f13 : m nb 13 = 0 := by rw [J1 nb (by omega), hm1, up_ne (by omega), hm0, up_nj (by decide), up_at]
    have f14 : m nb 14 = 0 := by rw [J1 nb (by omega), hm1, up_ne (by omega), hm0, up_at]
    have g2 : m (nb + 15) 2 = 0 := by rw [J1 _ (by omega), hm1, up_at]
    refine hQ _ _ _ ⟨rfl, rfl, J0, ?_, ⟨⟨by rw [f11, z0], by rw [f12, z1], by rw [f13, z2]⟩, ?_, ?_, ?_⟩, fun c hc => absurd hc (by omega), fun q hq => absurd hq (by omega), fun q hq => ?_, fun f hf => absurd hf (by omega), Or.inl ⟨z3, f14, z4, g2⟩⟩
    · rw [J1 1 (by omega), hm1, up_ne (by omega), hm0, up_ne (by omega), up_ne (by omega), up_ne (by omega), up_ne (by omega)]
    · rw [z0]; exact ⟨fun k hk => absurd hk (Nat.not_lt_zero k), fun j k hj => absurd hj (Nat.not_lt_zero j)⟩
    · rw [z1]; exact ⟨fun k hk => absurd hk (Nat.not_lt_zero k), fun j k hj => absurd hj (Nat.not_lt_zero j)⟩
    · rw [z2]; exact ⟨fun k hk => absurd hk (Nat.not_lt_zero k), fun j k hj => absurd hj (Nat.not_lt_zero j)⟩
    · rw [J2 q hq, v6_cong (c := fun _ => false) (fun f _ => by unfold ovr; rw [z2, decide_eq_false (by omega), Bool.false_and])]
      rfl
theorem c_nread (T : TxC h s n) (E : NdT s n N) (hn : nb = 4 ∨ nb = 34) (Z : Z0X X) : Cl l (d + 42) M_X4_read [(2, 65), (2, (nb : Int) + 1)] SHP h (fun r sh' h' => sh' = SHP ∧ Fnt nb (up h 64 2 ((nb : Int) + 1)) h' ∧ r = (ntF s n 1000 0 X).1 ∧ (r = 0 → CNX h' nb (ntF s n 1000 0 X).2)) := by
  refine Cl_hide (fun Q hQ => ?_)
  show V l (d + 42) 0 0 M_X4_read 0 0 0 Q [(2, 65), (2, (nb : Int) + 1), (9, 0)] [] SHP h
  obtain ⟨h0, hh0⟩ : ∃ h0, h0 = up h 64 2 ((nb : Int) + 1) := ⟨_, rfl⟩
  have o := (net_sh hn).1
  have L0 : Lay h0 := by
    refine Lay_fr T.1 (fun q hq => ?_)
    have hc : LAYL.all (fun q => !(q.1 == 64 && q.2.1 == 2)) = true := by decide +kernel
    have h1 := List.all_eq_true.mp hc q hq
    rw [hh0]
    by_cases e : q.1 = 64
    · simp [e] at h1
      rw [e, up_nj h1]
    · rw [up_ne e]
  have T0 : TxC h0 s n := by
    refine ⟨L0, ⟨by rw [hh0, up_ne (by decide)]; exact T.2.1.1, by rw [hh0, up_ne (by decide)]; exact T.2.1.2⟩, T.2.2.1, ?_⟩
    unfold WdC; rw [hh0, up_ne (by decide)]; exact T.2.2.2
  have e2 : h0 64 2 = (nb : Int) + 1 := by rw [hh0, up_at]
  rw [← hh0] at hQ
  obtain ⟨Y, hY⟩ : ∃ Y, Y = ntF s n 1000 0 X := ⟨_, rfl⟩
  rw [← hY] at hQ
  -- the lines
  have key : ∀ (g j i : Nat) (X' : NX) (m : Mem), j + g = 1000 → Fnt nb h0 m → CuC m s n i → CNX m nb X' → WQ X'.1 → i ≤ N → m 1 8 = 0 → ntF s n g i X' = Y → V l (d + 42) 0 0 M_X4_read 0 0 21 Q [(2, 65), (2, (nb : Int) + 1), (0, (j : Int))] [] SHP m := by
    intro g
    induction g with
    | zero =>
      intro j i X' m hj F C R W iN m8 eY
      have Tm := F.tx hn T0
      have t0 := ly_64_0 Tm.1
      rw [ntF] at eY
      refine S_X4_read_21 _ _ _ _ ?_; simp (disch := omega) only [B_X4_read_21, bi_0, x_ic, x_lc, x_ld, x_st, x_sl, x_inc, x_b32, x_b64, x_d32, x_d64, x_s64, x_un, x_lcmp, x_dup, x_pop, x_dup2, x_if, x_cmp, x_sw, swk, x_ald, x_ast, x_alen, x_getf, x_putf, x_inv, x_mm, x_copy, x_iret, x_lret, x_vret, ok1, pu, ct, rcv, rcs, ent0, List.getElem?_cons_zero, List.getElem?_cons_succ, List.getElem?_nil, List.set_cons_zero, List.set_cons_succ, List.take_succ_cons, List.take_zero, List.drop_succ_cons, List.drop_zero, List.reverse_cons, List.reverse_nil, List.nil_append, List.cons_append, List.length_cons, List.length_nil, true_and, and_true, and_self, ne_eq, not_true_eq_false, not_false_eq_true, reduceIte, true_or, or_true, false_or, or_false, Nat.reduceAdd, Nat.reduceSub, Nat.reduceMul, Nat.reduceLeDiff, Nat.reduceEqDiff, Nat.reduceLT, Nat.le_refl, Nat.zero_le, Int.reduceToNat, Int.reduceAdd, Int.reduceSub, Int.reduceMul, Int.reduceNeg, Int.reduceLT, Int.reduceLE, Int.reduceEq, Nat.zero_add, Nat.add_zero, Nat.reduceBEq, Nat.one_ne_zero, Nat.zero_ne_one, Nat.lt_irrefl, Nat.succ_ne_zero, w32_id, ixc, ixc2, Int.toNat_natCast]
      refine ⟨fun _ => ?_, fun z => absurd (by omega) z⟩
      refine S_X4_read_151 _ _ _ _ ?_; simp (disch := omega) only [B_X4_read_151, bi_0, x_ic, x_lc, x_ld, x_st, x_sl, x_inc, x_b32, x_b64, x_d32, x_d64, x_s64, x_un, x_lcmp, x_dup, x_pop, x_dup2, x_if, x_cmp, x_sw, swk, x_ald, x_ast, x_alen, x_getf, x_putf, x_inv, x_mm, x_copy, x_iret, x_lret, x_vret, ok1, pu, ct, rcv, rcs, ent0, List.getElem?_cons_zero, List.getElem?_cons_succ, List.getElem?_nil, List.set_cons_zero, List.set_cons_succ, List.take_succ_cons, List.take_zero, List.drop_succ_cons, List.drop_zero, List.reverse_cons, List.reverse_nil, List.nil_append, List.cons_append, List.length_cons, List.length_nil, true_and, and_true, and_self, ne_eq, not_true_eq_false, not_false_eq_true, reduceIte, true_or, or_true, false_or, or_false, Nat.reduceAdd, Nat.reduceSub, Nat.reduceMul, Nat.reduceLeDiff, Nat.reduceEqDiff, Nat.reduceLT, Nat.le_refl, Nat.zero_le, Int.reduceToNat, Int.reduceAdd, Int.reduceSub, Int.reduceMul, Int.reduceNeg, Int.reduceLT, Int.reduceLE, Int.reduceEq, Nat.zero_add, Nat.add_zero, Nat.reduceBEq, Nat.one_ne_zero, Nat.zero_ne_one, Nat.lt_irrefl, Nat.succ_ne_zero, w32_id, ixc, ixc2, Int.toNat_natCast, ob_64, t0, ob_1, m8]
      exact hQ _ _ _ ⟨rfl, F, by rw [← eY], fun _ => by rw [← eY]; exact R⟩
    | succ g ih =>
      intro j i X' m hj F C R W iN m8 eY
      have Tm := F.tx hn T0
      have t0 := ly_64_0 Tm.1
      have a2 : m 64 2 = (nb : Int) + 1 := by rw [F.1 64 (by decide) (by omega)]; exact e2
      have k0 := kd_0 C
      have w0 : m 1 5 = 128 ↔ isWd s n i 0 := kd_w C (w := 0) (by decide)
      have w4 : m 1 5 = 132 ↔ isWd s n i 4 := kd_w C (w := 4) (by decide)
      have w6 : m 1 5 = 134 ↔ isWd s n i 6 := kd_w C (w := 6) (by decide)
      have w9 : m 1 5 = 137 ↔ isWd s n i 9 := kd_w C (w := 9) (by decide)
      rw [ntF] at eY
      -- behind a line
      have go : ∀ (m2 : Mem), tkSo s n i ≠ 0 → Fnt nb m m2 → ((lsF s n X' i = 0 ∧ m2 1 8 = m 1 8 ∧ CuC m2 s n ((lnX s n X' i).2.1 + 1) ∧ CNX m2 nb (lnX s n X' i).2.2) ∨ (lsF s n X' i ≠ 0 ∧ m2 1 8 = lsF s n X' i)) → V l (d + 42) 0 0 M_X4_read 0 0 145 Q [(2, 65), (2, (nb : Int) + 1), (0, (j : Int))] [] SHP m2 := by
        intro m2 nz F2 q
        rw [iF_f nz] at eY
        have FF := F.trans F2
        have T2 := FF.tx hn T0
        have t2 := ly_64_0 T2.1
        refine S_X4_read_145 _ _ _ _ ?_; simp (disch := omega) only [B_X4_read_145, bi_0, x_ic, x_lc, x_ld, x_st, x_sl, x_inc, x_b32, x_b64, x_d32, x_d64, x_s64, x_un, x_lcmp, x_dup, x_pop, x_dup2, x_if, x_cmp, x_sw, swk, x_ald, x_ast, x_alen, x_getf, x_putf, x_inv, x_mm, x_copy, x_iret, x_lret, x_vret, ok1, pu, ct, rcv, rcs, ent0, List.getElem?_cons_zero, List.getElem?_cons_succ, List.getElem?_nil, List.set_cons_zero, List.set_cons_succ, List.take_succ_cons, List.take_zero, List.drop_succ_cons, List.drop_zero, List.reverse_cons, List.reverse_nil, List.nil_append, List.cons_append, List.length_cons, List.length_nil, true_and, and_true, and_self, ne_eq, not_true_eq_false, not_false_eq_true, reduceIte, true_or, or_true, false_or, or_false, Nat.reduceAdd, Nat.reduceSub, Nat.reduceMul, Nat.reduceLeDiff, Nat.reduceEqDiff, Nat.reduceLT, Nat.le_refl, Nat.zero_le, Int.reduceToNat, Int.reduceAdd, Int.reduceSub, Int.reduceMul, Int.reduceNeg, Int.reduceLT, Int.reduceLE, Int.reduceEq, Nat.zero_add, Nat.add_zero, Nat.reduceBEq, Nat.one_ne_zero, Nat.zero_ne_one, Nat.lt_irrefl, Nat.succ_ne_zero, w32_id, ixc, ixc2, Int.toNat_natCast]
        rcases q with ⟨q1, q2, q3, q4⟩ | ⟨q1, q2⟩
        · rw [iF_t q1] at eY
          have z1 := orF_z.mp q1
          have sn : isSn s n (lnX s n X' i).2.1 59 := by
            by_cases x : isSn s n (lnX s n X' i).2.1 59
            · exact x
            · have b := flt_b (s := s) (n := n) (i := (lnX s n X' i).2.1) (w := 1) (by decide)
              have := z1.2
              unfold snU at this
              rw [iF_f x] at this
              omega
          exact ih (j + 1) _ _ m2 (by omega) FF q3 q4 (WQ_ln W z1.1) (E.li (so_sn sn)) (by rw [q2]; exact m8) eY
        · rw [iF_f q1] at eY
          have fin : V l (d + 42) 0 0 M_X4_read 0 0 151 Q [(2, 65), (2, (nb : Int) + 1), (0, (j : Int) + 1)] [] SHP m2 := by
            refine S_X4_read_151 _ _ _ _ ?_; simp (disch := omega) only [B_X4_read_151, bi_0, x_ic, x_lc, x_ld, x_st, x_sl, x_inc, x_b32, x_b64, x_d32, x_d64, x_s64, x_un, x_lcmp, x_dup, x_pop, x_dup2, x_if, x_cmp, x_sw, swk, x_ald, x_ast, x_alen, x_getf, x_putf, x_inv, x_mm, x_copy, x_iret, x_lret, x_vret, ok1, pu, ct, rcv, rcs, ent0, List.getElem?_cons_zero, List.getElem?_cons_succ, List.getElem?_nil, List.set_cons_zero, List.set_cons_succ, List.take_succ_cons, List.take_zero, List.drop_succ_cons, List.drop_zero, List.reverse_cons, List.reverse_nil, List.nil_append, List.cons_append, List.length_cons, List.length_nil, true_and, and_true, and_self, ne_eq, not_true_eq_false, not_false_eq_true, reduceIte, true_or, or_true, false_or, or_false, Nat.reduceAdd, Nat.reduceSub, Nat.reduceMul, Nat.reduceLeDiff, Nat.reduceEqDiff, Nat.reduceLT, Nat.le_refl, Nat.zero_le, Int.reduceToNat, Int.reduceAdd, Int.reduceSub, Int.reduceMul, Int.reduceNeg, Int.reduceLT, Int.reduceLE, Int.reduceEq, Nat.zero_add, Nat.add_zero, Nat.reduceBEq, Nat.one_ne_zero, Nat.zero_ne_one, Nat.lt_irrefl, Nat.succ_ne_zero, w32_id, ixc, ixc2, Int.toNat_natCast, ob_64, t2, ob_1, q2]
            exact hQ _ _ _ ⟨rfl, FF, by rw [← eY], fun x => absurd x q1⟩
          refine S_X4_read_21 _ _ _ _ ?_; simp (disch := omega) only [B_X4_read_21, bi_0, x_ic, x_lc, x_ld, x_st, x_sl, x_inc, x_b32, x_b64, x_d32, x_d64, x_s64, x_un, x_lcmp, x_dup, x_pop, x_dup2, x_if, x_cmp, x_sw, swk, x_ald, x_ast, x_alen, x_getf, x_putf, x_inv, x_mm, x_copy, x_iret, x_lret, x_vret, ok1, pu, ct, rcv, rcs, ent0, List.getElem?_cons_zero, List.getElem?_cons_succ, List.getElem?_nil, List.set_cons_zero, List.set_cons_succ, List.take_succ_cons, List.take_zero, List.drop_succ_cons, List.drop_zero, List.reverse_cons, List.reverse_nil, List.nil_append, List.cons_append, List.length_cons, List.length_nil, true_and, and_true, and_self, ne_eq, not_true_eq_false, not_false_eq_true, reduceIte, true_or, or_true, false_or, or_false, Nat.reduceAdd, Nat.reduceSub, Nat.reduceMul, Nat.reduceLeDiff, Nat.reduceEqDiff, Nat.reduceLT, Nat.le_refl, Nat.zero_le, Int.reduceToNat, Int.reduceAdd, Int.reduceSub, Int.reduceMul, Int.reduceNeg, Int.reduceLT, Int.reduceLE, Int.reduceEq, Nat.zero_add, Nat.add_zero, Nat.reduceBEq, Nat.one_ne_zero, Nat.zero_ne_one, Nat.lt_irrefl, Nat.succ_ne_zero, w32_id, ixc, ixc2, Int.toNat_natCast, ob_64, t2, ob_1, q2]
          refine ⟨fun _ => fin, fun _ => ⟨fun x => absurd x q1, fun _ => fin⟩⟩
      refine S_X4_read_21 _ _ _ _ ?_; simp (disch := omega) only [B_X4_read_21, bi_0, x_ic, x_lc, x_ld, x_st, x_sl, x_inc, x_b32, x_b64, x_d32, x_d64, x_s64, x_un, x_lcmp, x_dup, x_pop, x_dup2, x_if, x_cmp, x_sw, swk, x_ald, x_ast, x_alen, x_getf, x_putf, x_inv, x_mm, x_copy, x_iret, x_lret, x_vret, ok1, pu, ct, rcv, rcs, ent0, List.getElem?_cons_zero, List.getElem?_cons_succ, List.getElem?_nil, List.set_cons_zero, List.set_cons_succ, List.take_succ_cons, List.take_zero, List.drop_succ_cons, List.drop_zero, List.reverse_cons, List.reverse_nil, List.nil_append, List.cons_append, List.length_cons, List.length_nil, true_and, and_true, and_self, ne_eq, not_true_eq_false, not_false_eq_true, reduceIte, true_or, or_true, false_or, or_false, Nat.reduceAdd, Nat.reduceSub, Nat.reduceMul, Nat.reduceLeDiff, Nat.reduceEqDiff, Nat.reduceLT, Nat.le_refl, Nat.zero_le, Int.reduceToNat, Int.reduceAdd, Int.reduceSub, Int.reduceMul, Int.reduceNeg, Int.reduceLT, Int.reduceLE, Int.reduceEq, Nat.zero_add, Nat.add_zero, Nat.reduceBEq, Nat.one_ne_zero, Nat.zero_ne_one, Nat.lt_irrefl, Nat.succ_ne_zero, w32_id, ixc, ixc2, Int.toNat_natCast, ob_64, t0, ob_1, m8]
      refine ⟨fun z => absurd z (by omega), fun _ => ⟨fun _ => ⟨fun z => ?_, fun z => ?_⟩, fun y => y.elim⟩⟩
      · rw [iF_t (k0.mp z)] at eY
        refine S_X4_read_151 _ _ _ _ ?_; simp (disch := omega) only [B_X4_read_151, bi_0, x_ic, x_lc, x_ld, x_st, x_sl, x_inc, x_b32, x_b64, x_d32, x_d64, x_s64, x_un, x_lcmp, x_dup, x_pop, x_dup2, x_if, x_cmp, x_sw, swk, x_ald, x_ast, x_alen, x_getf, x_putf, x_inv, x_mm, x_copy, x_iret, x_lret, x_vret, ok1, pu, ct, rcv, rcs, ent0, List.getElem?_cons_zero, List.getElem?_cons_succ, List.getElem?_nil, List.set_cons_zero, List.set_cons_succ, List.take_succ_cons, List.take_zero, List.drop_succ_cons, List.drop_zero, List.reverse_cons, List.reverse_nil, List.nil_append, List.cons_append, List.length_cons, List.length_nil, true_and, and_true, and_self, ne_eq, not_true_eq_false, not_false_eq_true, reduceIte, true_or, or_true, false_or, or_false, Nat.reduceAdd, Nat.reduceSub, Nat.reduceMul, Nat.reduceLeDiff, Nat.reduceEqDiff, Nat.reduceLT, Nat.le_refl, Nat.zero_le, Int.reduceToNat, Int.reduceAdd, Int.reduceSub, Int.reduceMul, Int.reduceNeg, Int.reduceLT, Int.reduceLE, Int.reduceEq, Nat.zero_add, Nat.add_zero, Nat.reduceBEq, Nat.one_ne_zero, Nat.zero_ne_one, Nat.lt_irrefl, Nat.succ_ne_zero, w32_id, ixc, ixc2, Int.toNat_natCast, ob_64, t0, ob_1, m8]
        exact hQ _ _ _ ⟨rfl, F, by rw [← eY], fun _ => by rw [← eY]; exact R⟩
      have nz : tkSo s n i ≠ 0 := fun x => z (k0.mpr x)
      have iN2 : i < N := E.lt iN nz
      have c108 : m 1 5 = 128 → V l (d + 42) 0 0 M_X4_read 0 0 108 Q [(2, 65), (2, (nb : Int) + 1), (0, (j : Int))] [] SHP m := by
        intro e
        have a := w0.mp e
        have el : lnX s n X' i = (cvU s n X'.1 X'.2.1 i, i + 7 + cvM s n i, cvX s n X' i) := by unfold lnX; rw [iF_t a]; rfl
        refine S_X4_read_108 _ _ _ _ ?_; simp (disch := omega) only [B_X4_read_108, bi_0, x_ic, x_lc, x_ld, x_st, x_sl, x_inc, x_b32, x_b64, x_d32, x_d64, x_s64, x_un, x_lcmp, x_dup, x_pop, x_dup2, x_if, x_cmp, x_sw, swk, x_ald, x_ast, x_alen, x_getf, x_putf, x_inv, x_mm, x_copy, x_iret, x_lret, x_vret, ok1, pu, ct, rcv, rcs, ent0, List.getElem?_cons_zero, List.getElem?_cons_succ, List.getElem?_nil, List.set_cons_zero, List.set_cons_succ, List.take_succ_cons, List.take_zero, List.drop_succ_cons, List.drop_zero, List.reverse_cons, List.reverse_nil, List.nil_append, List.cons_append, List.length_cons, List.length_nil, true_and, and_true, and_self, ne_eq, not_true_eq_false, not_false_eq_true, reduceIte, true_or, or_true, false_or, or_false, Nat.reduceAdd, Nat.reduceSub, Nat.reduceMul, Nat.reduceLeDiff, Nat.reduceEqDiff, Nat.reduceLT, Nat.le_refl, Nat.zero_le, Int.reduceToNat, Int.reduceAdd, Int.reduceSub, Int.reduceMul, Int.reduceNeg, Int.reduceLT, Int.reduceLE, Int.reduceEq, Nat.zero_add, Nat.add_zero, Nat.reduceBEq, Nat.one_ne_zero, Nat.zero_ne_one, Nat.lt_irrefl, Nat.succ_ne_zero, w32_id, ixc, ixc2, Int.toNat_natCast, ob_64]
        refine Cl.imp (c_readCurve (l := l) (d := d + 36) Tm C hn a2 W R) (fun r sh' m2 q => ?_)
        obtain ⟨rfl, rfl, F2, q⟩ := q
        (try simp (disch := omega) only [bi_0, x_ic, x_lc, x_ld, x_st, x_sl, x_inc, x_b32, x_b64, x_d32, x_d64, x_s64, x_un, x_lcmp, x_dup, x_pop, x_dup2, x_if, x_cmp, x_sw, swk, x_ald, x_ast, x_alen, x_getf, x_putf, x_inv, x_mm, x_copy, x_iret, x_lret, x_vret, ok1, pu, ct, rcv, rcs, ent0, List.getElem?_cons_zero, List.getElem?_cons_succ, List.getElem?_nil, List.set_cons_zero, List.set_cons_succ, List.take_succ_cons, List.take_zero, List.drop_succ_cons, List.drop_zero, List.reverse_cons, List.reverse_nil, List.nil_append, List.cons_append, List.length_cons, List.length_nil, true_and, and_true, and_self, ne_eq, not_true_eq_false, not_false_eq_true, reduceIte, true_or, or_true, false_or, or_false, Nat.reduceAdd, Nat.reduceSub, Nat.reduceMul, Nat.reduceLeDiff, Nat.reduceEqDiff, Nat.reduceLT, Nat.le_refl, Nat.zero_le, Int.reduceToNat, Int.reduceAdd, Int.reduceSub, Int.reduceMul, Int.reduceNeg, Int.reduceLT, Int.reduceLE, Int.reduceEq, Nat.zero_add, Nat.add_zero, Nat.reduceBEq, Nat.one_ne_zero, Nat.zero_ne_one, Nat.lt_irrefl, Nat.succ_ne_zero, w32_id, ixc, ixc2, Int.toNat_natCast])
        refine go m2 nz F2 ?_
        unfold lsF
        rw [el]
        exact q
      have c115 : m 1 5 = 132 → V l (d + 42) 0 0 M_X4_read 0 0 115 Q [(2, 65), (2, (nb : Int) + 1), (0, (j : Int))] [] SHP m := by
        intro e
        have a := w4.mp e
        have el : lnX s n X' i = (ndU s n X'.1 X'.2.1 i, i + 5, ndX s n X' i) := by unfold lnX; rw [iF_f (fun x => by have := w0.mpr x; omega), iF_t a]; rfl
        refine S_X4_read_115 _ _ _ _ ?_; simp (disch := omega) only [B_X4_read_115, bi_0, x_ic, x_lc, x_ld, x_st, x_sl, x_inc, x_b32, x_b64, x_d32, x_d64, x_s64, x_un, x_lcmp, x_dup, x_pop, x_dup2, x_if, x_cmp, x_sw, swk, x_ald, x_ast, x_alen, x_getf, x_putf, x_inv, x_mm, x_copy, x_iret, x_lret, x_vret, ok1, pu, ct, rcv, rcs, ent0, List.getElem?_cons_zero, List.getElem?_cons_succ, List.getElem?_nil, List.set_cons_zero, List.set_cons_succ, List.take_succ_cons, List.take_zero, List.drop_succ_cons, List.drop_zero, List.reverse_cons, List.reverse_nil, List.nil_append, List.cons_append, List.length_cons, List.length_nil, true_and, and_true, and_self, ne_eq, not_true_eq_false, not_false_eq_true, reduceIte, true_or, or_true, false_or, or_false, Nat.reduceAdd, Nat.reduceSub, Nat.reduceMul, Nat.reduceLeDiff, Nat.reduceEqDiff, Nat.reduceLT, Nat.le_refl, Nat.zero_le, Int.reduceToNat, Int.reduceAdd, Int.reduceSub, Int.reduceMul, Int.reduceNeg, Int.reduceLT, Int.reduceLE, Int.reduceEq, Nat.zero_add, Nat.add_zero, Nat.reduceBEq, Nat.one_ne_zero, Nat.zero_ne_one, Nat.lt_irrefl, Nat.succ_ne_zero, w32_id, ixc, ixc2, Int.toNat_natCast, ob_64]
        refine Cl.imp (c_readNode (l := l) (d := d + 36) Tm C hn a2 W R) (fun r sh' m2 q => ?_)
        obtain ⟨rfl, rfl, F2, q⟩ := q
        (try simp (disch := omega) only [bi_0, x_ic, x_lc, x_ld, x_st, x_sl, x_inc, x_b32, x_b64, x_d32, x_d64, x_s64, x_un, x_lcmp, x_dup, x_pop, x_dup2, x_if, x_cmp, x_sw, swk, x_ald, x_ast, x_alen, x_getf, x_putf, x_inv, x_mm, x_copy, x_iret, x_lret, x_vret, ok1, pu, ct, rcv, rcs, ent0, List.getElem?_cons_zero, List.getElem?_cons_succ, List.getElem?_nil, List.set_cons_zero, List.set_cons_succ, List.take_succ_cons, List.take_zero, List.drop_succ_cons, List.drop_zero, List.reverse_cons, List.reverse_nil, List.nil_append, List.cons_append, List.length_cons, List.length_nil, true_and, and_true, and_self, ne_eq, not_true_eq_false, not_false_eq_true, reduceIte, true_or, or_true, false_or, or_false, Nat.reduceAdd, Nat.reduceSub, Nat.reduceMul, Nat.reduceLeDiff, Nat.reduceEqDiff, Nat.reduceLT, Nat.le_refl, Nat.zero_le, Int.reduceToNat, Int.reduceAdd, Int.reduceSub, Int.reduceMul, Int.reduceNeg, Int.reduceLT, Int.reduceLE, Int.reduceEq, Nat.zero_add, Nat.add_zero, Nat.reduceBEq, Nat.one_ne_zero, Nat.zero_ne_one, Nat.lt_irrefl, Nat.succ_ne_zero, w32_id, ixc, ixc2, Int.toNat_natCast])
        refine go m2 nz F2 ?_
        unfold lsF
        rw [el]
        exact q
      have c122 : m 1 5 = 134 → V l (d + 42) 0 0 M_X4_read 0 0 122 Q [(2, 65), (2, (nb : Int) + 1), (0, (j : Int))] [] SHP m := by
        intro e
        have a := w6.mp e
        have el : lnX s n X' i = (flU s n X'.1 X'.2.1 i, i + 5 + flM s n X'.1 X'.2.1 i, flX s n X' i) := by unfold lnX; rw [iF_f (fun x => by have := w0.mpr x; omega), iF_f (fun x => by have := w4.mpr x; omega), iF_t a]; rfl
        refine S_X4_read_122 _ _ _ _ ?_; simp (disch := omega) only [B_X4_read_122, bi_0, x_ic, x_lc, x_ld, x_st, x_sl, x_inc, x_b32, x_b64, x_d32, x_d64, x_s64, x_un, x_lcmp, x_dup, x_pop, x_dup2, x_if, x_cmp, x_sw, swk, x_ald, x_ast, x_alen, x_getf, x_putf, x_inv, x_mm, x_copy, x_iret, x_lret, x_vret, ok1, pu, ct, rcv, rcs, ent0, List.getElem?_cons_zero, List.getElem?_cons_succ, List.getElem?_nil, List.set_cons_zero, List.set_cons_succ, List.take_succ_cons, List.take_zero, List.drop_succ_cons, List.drop_zero, List.reverse_cons, List.reverse_nil, List.nil_append, List.cons_append, List.length_cons, List.length_nil, true_and, and_true, and_self, ne_eq, not_true_eq_false, not_false_eq_true, reduceIte, true_or, or_true, false_or, or_false, Nat.reduceAdd, Nat.reduceSub, Nat.reduceMul, Nat.reduceLeDiff, Nat.reduceEqDiff, Nat.reduceLT, Nat.le_refl, Nat.zero_le, Int.reduceToNat, Int.reduceAdd, Int.reduceSub, Int.reduceMul, Int.reduceNeg, Int.reduceLT, Int.reduceLE, Int.reduceEq, Nat.zero_add, Nat.add_zero, Nat.reduceBEq, Nat.one_ne_zero, Nat.zero_ne_one, Nat.lt_irrefl, Nat.succ_ne_zero, w32_id, ixc, ixc2, Int.toNat_natCast, ob_64]
        refine Cl.imp (c_readFlow (l := l) (d := d + 35) Tm C hn a2 W R) (fun r sh' m2 q => ?_)
        obtain ⟨rfl, rfl, F2, q⟩ := q
        (try simp (disch := omega) only [bi_0, x_ic, x_lc, x_ld, x_st, x_sl, x_inc, x_b32, x_b64, x_d32, x_d64, x_s64, x_un, x_lcmp, x_dup, x_pop, x_dup2, x_if, x_cmp, x_sw, swk, x_ald, x_ast, x_alen, x_getf, x_putf, x_inv, x_mm, x_copy, x_iret, x_lret, x_vret, ok1, pu, ct, rcv, rcs, ent0, List.getElem?_cons_zero, List.getElem?_cons_succ, List.getElem?_nil, List.set_cons_zero, List.set_cons_succ, List.take_succ_cons, List.take_zero, List.drop_succ_cons, List.drop_zero, List.reverse_cons, List.reverse_nil, List.nil_append, List.cons_append, List.length_cons, List.length_nil, true_and, and_true, and_self, ne_eq, not_true_eq_false, not_false_eq_true, reduceIte, true_or, or_true, false_or, or_false, Nat.reduceAdd, Nat.reduceSub, Nat.reduceMul, Nat.reduceLeDiff, Nat.reduceEqDiff, Nat.reduceLT, Nat.le_refl, Nat.zero_le, Int.reduceToNat, Int.reduceAdd, Int.reduceSub, Int.reduceMul, Int.reduceNeg, Int.reduceLT, Int.reduceLE, Int.reduceEq, Nat.zero_add, Nat.add_zero, Nat.reduceBEq, Nat.one_ne_zero, Nat.zero_ne_one, Nat.lt_irrefl, Nat.succ_ne_zero, w32_id, ixc, ixc2, Int.toNat_natCast])
        refine go m2 nz F2 ?_
        unfold lsF
        rw [el]
        exact q
      have c129 : m 1 5 = 137 → V l (d + 42) 0 0 M_X4_read 0 0 129 Q [(2, 65), (2, (nb : Int) + 1), (0, (j : Int))] [] SHP m := by
        intro e
        have a := w9.mp e
        have el : lnX s n X' i = lwX s n X' i := by unfold lnX; rw [iF_f (fun x => by have := w0.mpr x; omega), iF_f (fun x => by have := w4.mpr x; omega), iF_f (fun x => by have := w6.mpr x; omega), iF_t a]
        refine S_X4_read_129 _ _ _ _ ?_; simp (disch := omega) only [B_X4_read_129, bi_0, x_ic, x_lc, x_ld, x_st, x_sl, x_inc, x_b32, x_b64, x_d32, x_d64, x_s64, x_un, x_lcmp, x_dup, x_pop, x_dup2, x_if, x_cmp, x_sw, swk, x_ald, x_ast, x_alen, x_getf, x_putf, x_inv, x_mm, x_copy, x_iret, x_lret, x_vret, ok1, pu, ct, rcv, rcs, ent0, List.getElem?_cons_zero, List.getElem?_cons_succ, List.getElem?_nil, List.set_cons_zero, List.set_cons_succ, List.take_succ_cons, List.take_zero, List.drop_succ_cons, List.drop_zero, List.reverse_cons, List.reverse_nil, List.nil_append, List.cons_append, List.length_cons, List.length_nil, true_and, and_true, and_self, ne_eq, not_true_eq_false, not_false_eq_true, reduceIte, true_or, or_true, false_or, or_false, Nat.reduceAdd, Nat.reduceSub, Nat.reduceMul, Nat.reduceLeDiff, Nat.reduceEqDiff, Nat.reduceLT, Nat.le_refl, Nat.zero_le, Int.reduceToNat, Int.reduceAdd, Int.reduceSub, Int.reduceMul, Int.reduceNeg, Int.reduceLT, Int.reduceLE, Int.reduceEq, Nat.zero_add, Nat.add_zero, Nat.reduceBEq, Nat.one_ne_zero, Nat.zero_ne_one, Nat.lt_irrefl, Nat.succ_ne_zero, w32_id, ixc, ixc2, Int.toNat_natCast, ob_64]
        refine Cl.imp (c_readLoses (l := l) (d := d + 1) Tm C E iN2 hn a2 W.1 R) (fun r sh' m2 q => ?_)
        obtain ⟨rfl, rfl, F2, q⟩ := q
        (try simp (disch := omega) only [bi_0, x_ic, x_lc, x_ld, x_st, x_sl, x_inc, x_b32, x_b64, x_d32, x_d64, x_s64, x_un, x_lcmp, x_dup, x_pop, x_dup2, x_if, x_cmp, x_sw, swk, x_ald, x_ast, x_alen, x_getf, x_putf, x_inv, x_mm, x_copy, x_iret, x_lret, x_vret, ok1, pu, ct, rcv, rcs, ent0, List.getElem?_cons_zero, List.getElem?_cons_succ, List.getElem?_nil, List.set_cons_zero, List.set_cons_succ, List.take_succ_cons, List.take_zero, List.drop_succ_cons, List.drop_zero, List.reverse_cons, List.reverse_nil, List.nil_append, List.cons_append, List.length_cons, List.length_nil, true_and, and_true, and_self, ne_eq, not_true_eq_false, not_false_eq_true, reduceIte, true_or, or_true, false_or, or_false, Nat.reduceAdd, Nat.reduceSub, Nat.reduceMul, Nat.reduceLeDiff, Nat.reduceEqDiff, Nat.reduceLT, Nat.le_refl, Nat.zero_le, Int.reduceToNat, Int.reduceAdd, Int.reduceSub, Int.reduceMul, Int.reduceNeg, Int.reduceLT, Int.reduceLE, Int.reduceEq, Nat.zero_add, Nat.add_zero, Nat.reduceBEq, Nat.one_ne_zero, Nat.zero_ne_one, Nat.lt_irrefl, Nat.succ_ne_zero, w32_id, ixc, ixc2, Int.toNat_natCast])
        refine go m2 nz F2 ?_
        unfold lsF
        rw [el]
        exact q
      have c136 : m 1 5 ≠ 128 → m 1 5 ≠ 132 → m 1 5 ≠ 134 → m 1 5 ≠ 137 → V l (d + 42) 0 0 M_X4_read 0 0 136 Q [(2, 65), (2, (nb : Int) + 1), (0, (j : Int))] [] SHP m := by
        intro e0 e4 e6 e9
        have el : lnX s n X' i = (flt s n i 1, i, X') := by unfold lnX; rw [iF_f (fun x => e0 (w0.mpr x)), iF_f (fun x => e4 (w4.mpr x)), iF_f (fun x => e6 (w6.mpr x)), iF_f (fun x => e9 (w9.mpr x))]
        have bb := flt_b (s := s) (n := n) (i := i) (w := 1) (by decide)
        refine S_X4_read_136 _ _ _ _ ?_; simp (disch := omega) only [B_X4_read_136, bi_0, x_ic, x_lc, x_ld, x_st, x_sl, x_inc, x_b32, x_b64, x_d32, x_d64, x_s64, x_un, x_lcmp, x_dup, x_pop, x_dup2, x_if, x_cmp, x_sw, swk, x_ald, x_ast, x_alen, x_getf, x_putf, x_inv, x_mm, x_copy, x_iret, x_lret, x_vret, ok1, pu, ct, rcv, rcs, ent0, List.getElem?_cons_zero, List.getElem?_cons_succ, List.getElem?_nil, List.set_cons_zero, List.set_cons_succ, List.take_succ_cons, List.take_zero, List.drop_succ_cons, List.drop_zero, List.reverse_cons, List.reverse_nil, List.nil_append, List.cons_append, List.length_cons, List.length_nil, true_and, and_true, and_self, ne_eq, not_true_eq_false, not_false_eq_true, reduceIte, true_or, or_true, false_or, or_false, Nat.reduceAdd, Nat.reduceSub, Nat.reduceMul, Nat.reduceLeDiff, Nat.reduceEqDiff, Nat.reduceLT, Nat.le_refl, Nat.zero_le, Int.reduceToNat, Int.reduceAdd, Int.reduceSub, Int.reduceMul, Int.reduceNeg, Int.reduceLT, Int.reduceLE, Int.reduceEq, Nat.zero_add, Nat.add_zero, Nat.reduceBEq, Nat.one_ne_zero, Nat.zero_ne_one, Nat.lt_irrefl, Nat.succ_ne_zero, w32_id, ixc, ixc2, Int.toNat_natCast, ob_64, t0, ob_1]
        refine Cl.app (c_wrong (l := l) (d := d + 40) Tm C (w := 1) (by decide)) ?_
        (try simp (disch := omega) only [bi_0, x_ic, x_lc, x_ld, x_st, x_sl, x_inc, x_b32, x_b64, x_d32, x_d64, x_s64, x_un, x_lcmp, x_dup, x_pop, x_dup2, x_if, x_cmp, x_sw, swk, x_ald, x_ast, x_alen, x_getf, x_putf, x_inv, x_mm, x_copy, x_iret, x_lret, x_vret, ok1, pu, ct, rcv, rcs, ent0, List.getElem?_cons_zero, List.getElem?_cons_succ, List.getElem?_nil, List.set_cons_zero, List.set_cons_succ, List.take_succ_cons, List.take_zero, List.drop_succ_cons, List.drop_zero, List.reverse_cons, List.reverse_nil, List.nil_append, List.cons_append, List.length_cons, List.length_nil, true_and, and_true, and_self, ne_eq, not_true_eq_false, not_false_eq_true, reduceIte, true_or, or_true, false_or, or_false, Nat.reduceAdd, Nat.reduceSub, Nat.reduceMul, Nat.reduceLeDiff, Nat.reduceEqDiff, Nat.reduceLT, Nat.le_refl, Nat.zero_le, Int.reduceToNat, Int.reduceAdd, Int.reduceSub, Int.reduceMul, Int.reduceNeg, Int.reduceLT, Int.reduceLE, Int.reduceEq, Nat.zero_add, Nat.add_zero, Nat.reduceBEq, Nat.one_ne_zero, Nat.zero_ne_one, Nat.lt_irrefl, Nat.succ_ne_zero, w32_id, ixc, ixc2, Int.toNat_natCast])
        refine go _ nz (Fnt_8 hn) (Or.inr ?_)
        unfold lsF
        rw [el]
        dsimp only
        rw [orF_n (by omega)]
        exact ⟨by omega, up_at⟩
      refine ⟨c108, fun n1 => ⟨fun e => c136 (by omega) (by omega) (by omega) (by omega), fun _ => ⟨fun e => c136 (by omega) (by omega) (by omega) (by omega), fun _ => ⟨fun e => c136 (by omega) (by omega) (by omega) (by omega), fun _ => ⟨c115, fun n2 => ⟨fun e => c136 (by omega) (by omega) (by omega) (by omega), fun _ => ⟨c122, fun n3 => ⟨fun e => c136 (by omega) (by omega) (by omega) (by omega), fun _ => ⟨fun e => c136 (by omega) (by omega) (by omega) (by omega), fun _ => ⟨c129, fun n4 => c136 n1 n2 n3 n4⟩⟩⟩⟩⟩⟩⟩⟩⟩⟩
  have t0 := ly_64_0 T0.1
  refine S_X4_read_0 _ _ _ _ ?_; simp (disch := omega) only [B_X4_read_0, bi_0, x_ic, x_lc, x_ld, x_st, x_sl, x_inc, x_b32, x_b64, x_d32, x_d64, x_s64, x_un, x_lcmp, x_dup, x_pop, x_dup2, x_if, x_cmp, x_sw, swk, x_ald, x_ast, x_alen, x_getf, x_putf, x_inv, x_mm, x_copy, x_iret, x_lret, x_vret, ok1, pu, ct, rcv, rcs, ent0, List.getElem?_cons_zero, List.getElem?_cons_succ, List.getElem?_nil, List.set_cons_zero, List.set_cons_succ, List.take_succ_cons, List.take_zero, List.drop_succ_cons, List.drop_zero, List.reverse_cons, List.reverse_nil, List.nil_append, List.cons_append, List.length_cons, List.length_nil, true_and, and_true, and_self, ne_eq, not_true_eq_false, not_false_eq_true, reduceIte, true_or, or_true, false_or, or_false, Nat.reduceAdd, Nat.reduceSub, Nat.reduceMul, Nat.reduceLeDiff, Nat.reduceEqDiff, Nat.reduceLT, Nat.le_refl, Nat.zero_le, Int.reduceToNat, Int.reduceAdd, Int.reduceSub, Int.reduceMul, Int.reduceNeg, Int.reduceLT, Int.reduceLE, Int.reduceEq, Nat.zero_add, Nat.add_zero, Nat.reduceBEq, Nat.one_ne_zero, Nat.zero_ne_one, Nat.lt_irrefl, Nat.succ_ne_zero, w32_id, ixc, ixc2, Int.toNat_natCast, ob_64, ← hh0, e2, o]
  refine Cl.imp (c_nreset (l := l) (d := d + 39) L0 hn Z) (fun r sh' m1 q => ?_)
  obtain ⟨rfl, rfl, F1, e1, R1⟩ := q
  have T1 := F1.tx hn T0
  have t1 := ly_64_0 T1.1
  (try simp (disch := omega) only [bi_0, x_ic, x_lc, x_ld, x_st, x_sl, x_inc, x_b32, x_b64, x_d32, x_d64, x_s64, x_un, x_lcmp, x_dup, x_pop, x_dup2, x_if, x_cmp, x_sw, swk, x_ald, x_ast, x_alen, x_getf, x_putf, x_inv, x_mm, x_copy, x_iret, x_lret, x_vret, ok1, pu, ct, rcv, rcs, ent0, List.getElem?_cons_zero, List.getElem?_cons_succ, List.getElem?_nil, List.set_cons_zero, List.set_cons_succ, List.take_succ_cons, List.take_zero, List.drop_succ_cons, List.drop_zero, List.reverse_cons, List.reverse_nil, List.nil_append, List.cons_append, List.length_cons, List.length_nil, true_and, and_true, and_self, ne_eq, not_true_eq_false, not_false_eq_true, reduceIte, true_or, or_true, false_or, or_false, Nat.reduceAdd, Nat.reduceSub, Nat.reduceMul, Nat.reduceLeDiff, Nat.reduceEqDiff, Nat.reduceLT, Nat.le_refl, Nat.zero_le, Int.reduceToNat, Int.reduceAdd, Int.reduceSub, Int.reduceMul, Int.reduceNeg, Int.reduceLT, Int.reduceLE, Int.reduceEq, Nat.zero_add, Nat.add_zero, Nat.reduceBEq, Nat.one_ne_zero, Nat.zero_ne_one, Nat.lt_irrefl, Nat.succ_ne_zero, w32_id, ixc, ixc2, Int.toNat_natCast, ob_64, t1, ob_1])
  refine Cl.imp (c_begin (l := l) (d := d + 37) T1) (fun r sh' m2 q => ?_)
  obtain ⟨rfl, rfl, F2, C2⟩ := q
  (try simp (disch := omega) only [bi_0, x_ic, x_lc, x_ld, x_st, x_sl, x_inc, x_b32, x_b64, x_d32, x_d64, x_s64, x_un, x_lcmp, x_dup, x_pop, x_dup2, x_if, x_cmp, x_sw, swk, x_ald, x_ast, x_alen, x_getf, x_putf, x_inv, x_mm, x_copy, x_iret, x_lret, x_vret, ok1, pu, ct, rcv, rcs, ent0, List.getElem?_cons_zero, List.getElem?_cons_succ, List.getElem?_nil, List.set_cons_zero, List.set_cons_succ, List.take_succ_cons, List.take_zero, List.drop_succ_cons, List.drop_zero, List.reverse_cons, List.reverse_nil, List.nil_append, List.cons_append, List.length_cons, List.length_nil, true_and, and_true, and_self, ne_eq, not_true_eq_false, not_false_eq_true, reduceIte, true_or, or_true, false_or, or_false, Nat.reduceAdd, Nat.reduceSub, Nat.reduceMul, Nat.reduceLeDiff, Nat.reduceEqDiff, Nat.reduceLT, Nat.le_refl, Nat.zero_le, Int.reduceToNat, Int.reduceAdd, Int.reduceSub, Int.reduceMul, Int.reduceNeg, Int.reduceLT, Int.reduceLE, Int.reduceEq, Nat.zero_add, Nat.add_zero, Nat.reduceBEq, Nat.one_ne_zero, Nat.zero_ne_one, Nat.lt_irrefl, Nat.succ_ne_zero, w32_id, ixc, ixc2, Int.toNat_natCast])
  have g2 : ∀ a, a ≠ 1 → m2 a = m1 a := fun a ha => by rw [F2.1 a ha, up_ne ha]
  refine key 1000 0 0 X m2 rfl (F1.trans ((Fnt_8 hn).trans (F2.nt hn))) C2 ?_ Z.wq (Nat.zero_le _) (by rw [F2.2 8 (Or.inr rfl), up_at]) hY.symm
  obtain ⟨RX, Rc, Rn, Ro, Rf, Rl⟩ := R1
  exact ⟨RX.fr (g2 _ (by omega)) (g2 _ (by omega)) (g2 _ (by omega)) (g2 _ (by omega)), Rc.fr Z.wq.1 (fun i a b => g2 _ (by omega)), Rn.fr (g2 _ (by omega)) (g2 _ (by omega)), Ro.fr (g2 _ (by omega)), Rf.fr Z.wq.1 (fun i a b => g2 _ (by omega)), Rl.fr (by rw [g2 _ (by omega)]) (g2 _ (by omega)) (g2 _ (by omega))⟩
end CRD

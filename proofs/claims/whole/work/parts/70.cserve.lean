/-! the class: who is served -/
theorem sel_len {kind : Int} {fl : Nat → Nat} : ∀ {q : Nat} {t : Int} {I : List Nat}, (∀ k, k ∈ I → (fl k : Int) < 4) → (sel kind fl q t I).1.length + (sel kind fl q t I).2.length = I.length ∧ (sel kind fl q t I).1.length ≤ q ∧ ((sel kind fl q t I).1.length = q ∨ (sel kind fl q t I).2 = [])
  | 0, t, I, _ => by unfold sel; simp
  | q + 1, t, I, h4 => by
    by_cases e : I = []
    · subst e; rw [sel_n]; simp
    · have hl : 0 < I.length := List.length_pos_iff.mpr e
      have pb := pkP_b (kind := kind) (x := fun j => (fl (I.getD j 0) : Int)) (t := t) hl (fun j hj => ⟨by omega, h4 _ (gD_mem 0 hj)⟩)
      rw [sel_s e]
      generalize hp : (pkP kind (fun j => (fl (I.getD j 0) : Int)) I.length t).toNat = p at *
      have hp2 : p < I.length := by omega
      have ih := sel_len (kind := kind) (fl := fl) (q := q) (t := (fl (I.getD p 0) : Int)) (I := I.eraseIdx p) (fun k hk => h4 k (er_mem hk))
      have := er_len hp2
      dsimp only
      rw [List.length_cons]
      refine ⟨by omega, by omega, ?_⟩
      rcases ih.2.2 with a | a
      · exact Or.inl (by omega)
      · exact Or.inr a
theorem sel_big {kind : Int} {fl : Nat → Nat} : ∀ {q : Nat} {t : Int} {I : List Nat}, (∀ k, k ∈ I → (fl k : Int) < 4) → I.length ≤ q → sel kind fl q t I = sel kind fl I.length t I
  | 0, t, I, _, h => by rw [show I.length = 0 by omega]
  | q + 1, t, I, h4, h => by
    by_cases e : I = []
    · subst e; rw [sel_n, sel_n]
    · have hl : 0 < I.length := List.length_pos_iff.mpr e
      have pb := pkP_b (kind := kind) (x := fun j => (fl (I.getD j 0) : Int)) (t := t) hl (fun j hj => ⟨by omega, h4 _ (gD_mem 0 hj)⟩)
      obtain ⟨r, hr⟩ : ∃ r, I.length = r + 1 := ⟨I.length - 1, by omega⟩
      have e1 : sel kind fl I.length t I = sel kind fl (r + 1) t I := by rw [hr]
      rw [e1, sel_s e, sel_s e]
      generalize hp : (pkP kind (fun j => (fl (I.getD j 0) : Int)) I.length t).toNat = p at *
      have hp2 : p < I.length := by omega
      have := er_len hp2
      have ih := sel_big (kind := kind) (fl := fl) (q := q) (t := (fl (I.getD p 0) : Int)) (I := I.eraseIdx p) (fun k hk => h4 k (er_mem hk)) (by omega)
      rw [ih, show (I.eraseIdx p).length = r by omega]
theorem map_er {α β : Type} (f : α → β) : ∀ (l : List α) (p : Nat), (l.eraseIdx p).map f = (l.map f).eraseIdx p
  | [], _ => rfl
  | _ :: _, 0 => rfl
  | x :: l, p + 1 => by rw [List.eraseIdx_cons_succ, List.map_cons, List.map_cons, List.eraseIdx_cons_succ, map_er f l p]
section CV
variable {l : Launch} {d : Nat} {h : Mem} {tb nb : Nat}
theorem c_takeOut (L : Lay h) (ht : Trf tb) {n p : Nat} (hn : n < 4) {Lq : List Int} (Qh : QR h tb n Lq) (hl : Lq.length ≤ 40) (hp : p < Lq.length) : Cl l (d + 1) M_X9_takeOut [(2, (tb : Int) + 1), (0, (n : Int)), (0, (p : Int))] SHP h (fun r sh' h' => r = 0 ∧ sh' = SHP ∧ Fr [tb + 2 + n, tb + 16] h h' ∧ QR h' tb n (Lq.eraseIdx p) ∧ ∀ n', n' ≠ n → h' (tb + 16) n' = h (tb + 16) n') := by
  have o := tf_ob ht
  obtain ⟨q1, q2⟩ := Qh
  refine Cl_hide (fun Q hQ => ?_)
  have kn : ∀ {m}, Fr [tb + 2 + n] h m → Lay m ∧ m (tb + 16) n = (Lq.length : Int) := fun {m} F => by
    have Fx1 : Fx tb h m := ⟨fun i q => F i (by simp; omega), fun j _ => by rw [F tb (by simp; omega)], fun i q => F i (by simp; omega)⟩
    exact ⟨Fx1.lay ht L, by rw [F (tb + 16) (by simp; omega)]; exact q1⟩
  show V l (d + 1) 0 0 M_X9_takeOut 0 0 0 Q [(2, (tb : Int) + 1), (0, (n : Int)), (0, (p : Int)), (9, 0)] [] SHP h
  refine S_X9_takeOut_0 _ _ _ _ ?_; simp (disch := omega) only [B_X9_takeOut_0, bi_0, x_ic, x_lc, x_ld, x_st, x_sl, x_inc, x_b32, x_b64, x_d32, x_d64, x_s64, x_un, x_lcmp, x_dup, x_pop, x_dup2, x_if, x_cmp, x_sw, swk, x_ald, x_ast, x_alen, x_getf, x_putf, x_inv, x_mm, x_copy, x_iret, x_lret, x_vret, ok1, pu, ct, rcv, rcs, ent0, List.getElem?_cons_zero, List.getElem?_cons_succ, List.getElem?_nil, List.set_cons_zero, List.set_cons_succ, List.take_succ_cons, List.take_zero, List.drop_succ_cons, List.drop_zero, List.reverse_cons, List.reverse_nil, List.nil_append, List.cons_append, List.length_cons, List.length_nil, true_and, and_true, and_self, ne_eq, not_true_eq_false, not_false_eq_true, reduceIte, true_or, or_true, false_or, or_false, Nat.reduceAdd, Nat.reduceSub, Nat.reduceMul, Nat.reduceLeDiff, Nat.reduceEqDiff, Nat.reduceLT, Nat.le_refl, Nat.zero_le, Int.reduceToNat, Int.reduceAdd, Int.reduceSub, Int.reduceMul, Int.reduceNeg, Int.reduceLT, Int.reduceLE, Int.reduceEq, Nat.zero_add, Nat.add_zero, Nat.reduceBEq, Nat.one_ne_zero, Nat.zero_ne_one, Nat.lt_irrefl, Nat.succ_ne_zero, w32_id, ixc, ixc2, Int.toNat_natCast]
  refine V_jx (pc := 4) (fun j => [(2, (tb : Int) + 1), (0, (n : Int)), (0, (p : Int)), (0, ((p + 1 + j : Nat) : Int))]) (fun j m => Fr [tb + 2 + n] h m ∧ ∀ x, m (tb + 2 + n) x = if p ≤ x ∧ x < p + j then h (tb + 2 + n) (x + 1) else h (tb + 2 + n) x) (Lq.length - (p + 1)) (fun j m hj J ih => ?_) (fun m J => ?_) h ⟨Fr.rfl, fun x => by rw [if_neg (by omega)]⟩
  · obtain ⟨F, hm⟩ := J
    obtain ⟨Lm, mq⟩ := kn F
    have i1 : (((p + 1 + j : Nat) : Int) - 1).toNat = p + j := by omega
    have v1 : m (tb + 2 + n) (p + 1 + j) = h (tb + 2 + n) (p + 1 + j) := by rw [hm, if_neg (by omega)]
    refine S_X9_takeOut_4 _ _ _ _ ?_; simp (disch := omega) only [B_X9_takeOut_4, bi_0, x_ic, x_lc, x_ld, x_st, x_sl, x_inc, x_b32, x_b64, x_d32, x_d64, x_s64, x_un, x_lcmp, x_dup, x_pop, x_dup2, x_if, x_cmp, x_sw, swk, x_ald, x_ast, x_alen, x_getf, x_putf, x_inv, x_mm, x_copy, x_iret, x_lret, x_vret, ok1, pu, ct, rcv, rcs, ent0, List.getElem?_cons_zero, List.getElem?_cons_succ, List.getElem?_nil, List.set_cons_zero, List.set_cons_succ, List.take_succ_cons, List.take_zero, List.drop_succ_cons, List.drop_zero, List.reverse_cons, List.reverse_nil, List.nil_append, List.cons_append, List.length_cons, List.length_nil, true_and, and_true, and_self, ne_eq, not_true_eq_false, not_false_eq_true, reduceIte, true_or, or_true, false_or, or_false, Nat.reduceAdd, Nat.reduceSub, Nat.reduceMul, Nat.reduceLeDiff, Nat.reduceEqDiff, Nat.reduceLT, Nat.le_refl, Nat.zero_le, Int.reduceToNat, Int.reduceAdd, Int.reduceSub, Int.reduceMul, Int.reduceNeg, Int.reduceLT, Int.reduceLE, Int.reduceEq, Nat.zero_add, Nat.add_zero, Nat.reduceBEq, Nat.one_ne_zero, Nat.zero_ne_one, Nat.lt_irrefl, Nat.succ_ne_zero, w32_id, ixc, ixc2, Int.toNat_natCast, o, tf3 Lm ht, tl16 ht, mq, tf0 Lm ht, tl1 ht, tf_q Lm ht hn, tlq ht hn, i1, v1]
    (repeat' (first | assumption | (with_reducible refine And.intro ?_ ?_) | (refine im (fun hq => ?_); (try (exfalso; omega; done))) | omega))
    refine ih _ ?_
    refine ⟨Fr.up F (by simp), fun x => ?_⟩
    by_cases e : x = p + j
    · subst e; rw [up_at, if_pos (by omega), show p + j + 1 = p + 1 + j by omega]
    · rw [up_nj e, hm]
      by_cases e2 : p ≤ x ∧ x < p + j
      · rw [if_pos e2, if_pos (by omega)]
      · rw [if_neg e2, if_neg (by omega)]
  · obtain ⟨F, hm⟩ := J
    obtain ⟨Lm, mq⟩ := kn F
    refine S_X9_takeOut_4 _ _ _ _ ?_; simp (disch := omega) only [B_X9_takeOut_4, bi_0, x_ic, x_lc, x_ld, x_st, x_sl, x_inc, x_b32, x_b64, x_d32, x_d64, x_s64, x_un, x_lcmp, x_dup, x_pop, x_dup2, x_if, x_cmp, x_sw, swk, x_ald, x_ast, x_alen, x_getf, x_putf, x_inv, x_mm, x_copy, x_iret, x_lret, x_vret, ok1, pu, ct, rcv, rcs, ent0, List.getElem?_cons_zero, List.getElem?_cons_succ, List.getElem?_nil, List.set_cons_zero, List.set_cons_succ, List.take_succ_cons, List.take_zero, List.drop_succ_cons, List.drop_zero, List.reverse_cons, List.reverse_nil, List.nil_append, List.cons_append, List.length_cons, List.length_nil, true_and, and_true, and_self, ne_eq, not_true_eq_false, not_false_eq_true, reduceIte, true_or, or_true, false_or, or_false, Nat.reduceAdd, Nat.reduceSub, Nat.reduceMul, Nat.reduceLeDiff, Nat.reduceEqDiff, Nat.reduceLT, Nat.le_refl, Nat.zero_le, Int.reduceToNat, Int.reduceAdd, Int.reduceSub, Int.reduceMul, Int.reduceNeg, Int.reduceLT, Int.reduceLE, Int.reduceEq, Nat.zero_add, Nat.add_zero, Nat.reduceBEq, Nat.one_ne_zero, Nat.zero_ne_one, Nat.lt_irrefl, Nat.succ_ne_zero, w32_id, ixc, ixc2, Int.toNat_natCast, o, tf3 Lm ht, tl16 ht, mq]
    (repeat' (first | assumption | (with_reducible refine And.intro ?_ ?_) | (refine im (fun hq => ?_); (try (exfalso; omega; done))) | omega))
    refine S_X9_takeOut_38 _ _ _ _ ?_; simp (disch := omega) only [B_X9_takeOut_38, bi_0, x_ic, x_lc, x_ld, x_st, x_sl, x_inc, x_b32, x_b64, x_d32, x_d64, x_s64, x_un, x_lcmp, x_dup, x_pop, x_dup2, x_if, x_cmp, x_sw, swk, x_ald, x_ast, x_alen, x_getf, x_putf, x_inv, x_mm, x_copy, x_iret, x_lret, x_vret, ok1, pu, ct, rcv, rcs, ent0, List.getElem?_cons_zero, List.getElem?_cons_succ, List.getElem?_nil, List.set_cons_zero, List.set_cons_succ, List.take_succ_cons, List.take_zero, List.drop_succ_cons, List.drop_zero, List.reverse_cons, List.reverse_nil, List.nil_append, List.cons_append, List.length_cons, List.length_nil, true_and, and_true, and_self, ne_eq, not_true_eq_false, not_false_eq_true, reduceIte, true_or, or_true, false_or, or_false, Nat.reduceAdd, Nat.reduceSub, Nat.reduceMul, Nat.reduceLeDiff, Nat.reduceEqDiff, Nat.reduceLT, Nat.le_refl, Nat.zero_le, Int.reduceToNat, Int.reduceAdd, Int.reduceSub, Int.reduceMul, Int.reduceNeg, Int.reduceLT, Int.reduceLE, Int.reduceEq, Nat.zero_add, Nat.add_zero, Nat.reduceBEq, Nat.one_ne_zero, Nat.zero_ne_one, Nat.lt_irrefl, Nat.succ_ne_zero, w32_id, ixc, ixc2, Int.toNat_natCast, o, tf3 Lm ht, tl16 ht, mq]
    (repeat' (first | assumption | (with_reducible refine And.intro ?_ ?_) | (refine im (fun hq => ?_); (try (exfalso; omega; done))) | omega))
    have el := er_len hp
    refine hQ _ _ _ ⟨rfl, rfl, Fr.up (F.wd (by simp)) (by simp), ⟨?_, fun i hi => ?_⟩, fun n' hn' => by rw [up_nj hn', F (tb + 16) (by simp; omega)]⟩
    · rw [up_at]; omega
    · rw [up_ne (by omega), hm, gD_er]
      by_cases e : i < p
      · rw [if_neg (by omega), if_pos e]; exact q2 i (by omega)
      · rw [if_pos (by omega), if_neg e]; exact q2 (i + 1) (by omega)
theorem c_quota (L : Lay h) (ht : Trf tb) (hnb : nb = 4 ∨ nb = 34) (R : RN h nb) (W : WN (h 220)) {n : Nat} (hn : (n : Int) < h 220 1) {bz : Nat → Int} (hz : h (tb + 17) n = bz n) (hb : 0 ≤ bz n ∧ bz n ≤ 60) : Cl l (d + 2) M_X9_quota [(2, (tb : Int) + 1), (2, (nb : Int) + 1), (0, (n : Int))] SHP h (Rt (quo (h 220) bz n) SHP h) := by
  have o := tf_ob ht
  have nn := W.nn
  have w6 := W.wc.1
  have s1 := (net_sh hnb).1
  have y0 := net_p L hnb
  have hn4 : n < 4 := by omega
  have cb := W.cuB n hn
  obtain ⟨c, ec⟩ : ∃ c : Nat, cu (h 220) n = (c : Int) := ⟨(cu (h 220) n).toNat, by omega⟩
  have x2 := (R.2.2.1 n hn).2.1
  rw [ec] at x2
  have hcm : (c : Int) < h 220 0 := by omega
  have yc1 := (net_c L hnb (show c < 6 by omega)).1
  have v1 := vOf_b (W.wc.2 _ cb.1 cb.2) (t := bz n + 1) (by omega) (by omega)
  have v2 := vOf_b (W.wc.2 _ cb.1 cb.2) (t := bz n) (by omega) (by omega)
  have a1 := c_at (l := l) (d := d) (net_c L hnb (show c < 6 by omega)).2 (R.1.cg W.wc hcm) (t := bz n + 1) (by omega) (by omega)
  have a2 := c_at (l := l) (d := d) (net_c L hnb (show c < 6 by omega)).2 (R.1.cg W.wc hcm) (t := bz n) (by omega) (by omega)
  rw [R.1.va W.wc hcm (by omega), ← ec] at a1 a2
  show V l (d + 2) 0 0 M_X9_quota 0 0 0 _ [(2, (tb : Int) + 1), (2, (nb : Int) + 1), (0, (n : Int)), (9, 0)] [] SHP h
  refine S_X9_quota_0 _ _ _ _ ?_; simp (disch := omega) only [B_X9_quota_0, bi_0, x_ic, x_lc, x_ld, x_st, x_sl, x_inc, x_b32, x_b64, x_d32, x_d64, x_s64, x_un, x_lcmp, x_dup, x_pop, x_dup2, x_if, x_cmp, x_sw, swk, x_ald, x_ast, x_alen, x_getf, x_putf, x_inv, x_mm, x_copy, x_iret, x_lret, x_vret, ok1, pu, ct, rcv, rcs, ent0, List.getElem?_cons_zero, List.getElem?_cons_succ, List.getElem?_nil, List.set_cons_zero, List.set_cons_succ, List.take_succ_cons, List.take_zero, List.drop_succ_cons, List.drop_zero, List.reverse_cons, List.reverse_nil, List.nil_append, List.cons_append, List.length_cons, List.length_nil, true_and, and_true, and_self, ne_eq, not_true_eq_false, not_false_eq_true, reduceIte, true_or, or_true, false_or, or_false, Nat.reduceAdd, Nat.reduceSub, Nat.reduceMul, Nat.reduceLeDiff, Nat.reduceEqDiff, Nat.reduceLT, Nat.le_refl, Nat.zero_le, Int.reduceToNat, Int.reduceAdd, Int.reduceSub, Int.reduceMul, Int.reduceNeg, Int.reduceLT, Int.reduceLE, Int.reduceEq, Nat.zero_add, Nat.add_zero, Nat.reduceBEq, Nat.one_ne_zero, Nat.zero_ne_one, Nat.lt_irrefl, Nat.succ_ne_zero, w32_id, ixc, ixc2, Int.toNat_natCast, s1, y0, nf5 L hnb, nln6 hnb, x2, (net_sh hnb).2, ixc2, yc1, o, tf4 L ht, tl17 ht, hz]
  have oc := (net_c L hnb (show c < 6 by omega)).2.1.1
  (repeat' (first | assumption | (with_reducible refine And.intro ?_ ?_) | (refine im (fun hq => ?_); (try (exfalso; omega; done))) | omega))
  refine Cl.app a1 ?_
  (try simp (disch := omega) only [bi_0, x_ic, x_lc, x_ld, x_st, x_sl, x_inc, x_b32, x_b64, x_d32, x_d64, x_s64, x_un, x_lcmp, x_dup, x_pop, x_dup2, x_if, x_cmp, x_sw, swk, x_ald, x_ast, x_alen, x_getf, x_putf, x_inv, x_mm, x_copy, x_iret, x_lret, x_vret, ok1, pu, ct, rcv, rcs, ent0, List.getElem?_cons_zero, List.getElem?_cons_succ, List.getElem?_nil, List.set_cons_zero, List.set_cons_succ, List.take_succ_cons, List.take_zero, List.drop_succ_cons, List.drop_zero, List.reverse_cons, List.reverse_nil, List.nil_append, List.cons_append, List.length_cons, List.length_nil, true_and, and_true, and_self, ne_eq, not_true_eq_false, not_false_eq_true, reduceIte, true_or, or_true, false_or, or_false, Nat.reduceAdd, Nat.reduceSub, Nat.reduceMul, Nat.reduceLeDiff, Nat.reduceEqDiff, Nat.reduceLT, Nat.le_refl, Nat.zero_le, Int.reduceToNat, Int.reduceAdd, Int.reduceSub, Int.reduceMul, Int.reduceNeg, Int.reduceLT, Int.reduceLE, Int.reduceEq, Nat.zero_add, Nat.add_zero, Nat.reduceBEq, Nat.one_ne_zero, Nat.zero_ne_one, Nat.lt_irrefl, Nat.succ_ne_zero, w32_id, ixc, ixc2, Int.toNat_natCast, o, tf4 L ht, tl17 ht, hz])
  (repeat' (first | assumption | (with_reducible refine And.intro ?_ ?_) | (refine im (fun hq => ?_); (try (exfalso; omega; done))) | omega))
  refine Cl.app a2 ?_
  (try simp (disch := omega) only [bi_0, x_ic, x_lc, x_ld, x_st, x_sl, x_inc, x_b32, x_b64, x_d32, x_d64, x_s64, x_un, x_lcmp, x_dup, x_pop, x_dup2, x_if, x_cmp, x_sw, swk, x_ald, x_ast, x_alen, x_getf, x_putf, x_inv, x_mm, x_copy, x_iret, x_lret, x_vret, ok1, pu, ct, rcv, rcs, ent0, List.getElem?_cons_zero, List.getElem?_cons_succ, List.getElem?_nil, List.set_cons_zero, List.set_cons_succ, List.take_succ_cons, List.take_zero, List.drop_succ_cons, List.drop_zero, List.reverse_cons, List.reverse_nil, List.nil_append, List.cons_append, List.length_cons, List.length_nil, true_and, and_true, and_self, ne_eq, not_true_eq_false, not_false_eq_true, reduceIte, true_or, or_true, false_or, or_false, Nat.reduceAdd, Nat.reduceSub, Nat.reduceMul, Nat.reduceLeDiff, Nat.reduceEqDiff, Nat.reduceLT, Nat.le_refl, Nat.zero_le, Int.reduceToNat, Int.reduceAdd, Int.reduceSub, Int.reduceMul, Int.reduceNeg, Int.reduceLT, Int.reduceLE, Int.reduceEq, Nat.zero_add, Nat.add_zero, Nat.reduceBEq, Nat.one_ne_zero, Nat.zero_ne_one, Nat.lt_irrefl, Nat.succ_ne_zero, w32_id, ixc, ixc2, Int.toNat_natCast])
  exact Rt_mk rfl
theorem c_hopAt (L : Lay h) (hnb : nb = 4 ∨ nb = 34) (R : RN h nb) (W : WN (h 220)) {f : Nat} (hf : (f : Int) < h 220 2) (n : Int) : Cl l (d + 1) M_X3_hopAt [(2, (nb : Int) + 1), (0, (f : Int)), (0, n)] SHP h (Rt (hop (h 220) f n) SHP h) := by
  have nf := W.nf
  have s1 := (net_sh hnb).1
  have hh := W.hpB f hf
  obtain ⟨x1, x2, x3⟩ := R.2.2.2 f hf
  have hf4 : f < 4 := by omega
  show V l (d + 1) 0 0 M_X3_hopAt 0 0 0 _ [(2, (nb : Int) + 1), (0, (f : Int)), (0, n), (9, 0)] [] SHP h
  refine S_X3_hopAt_0 _ _ _ _ ?_; simp (disch := omega) only [B_X3_hopAt_0, bi_0, x_ic, x_lc, x_ld, x_st, x_sl, x_inc, x_b32, x_b64, x_d32, x_d64, x_s64, x_un, x_lcmp, x_dup, x_pop, x_dup2, x_if, x_cmp, x_sw, swk, x_ald, x_ast, x_alen, x_getf, x_putf, x_inv, x_mm, x_copy, x_iret, x_lret, x_vret, ok1, pu, ct, rcv, rcs, ent0, List.getElem?_cons_zero, List.getElem?_cons_succ, List.getElem?_nil, List.set_cons_zero, List.set_cons_succ, List.take_succ_cons, List.take_zero, List.drop_succ_cons, List.drop_zero, List.reverse_cons, List.reverse_nil, List.nil_append, List.cons_append, List.length_cons, List.length_nil, true_and, and_true, and_self, ne_eq, not_true_eq_false, not_false_eq_true, reduceIte, true_or, or_true, false_or, or_false, Nat.reduceAdd, Nat.reduceSub, Nat.reduceMul, Nat.reduceLeDiff, Nat.reduceEqDiff, Nat.reduceLT, Nat.le_refl, Nat.zero_le, Int.reduceToNat, Int.reduceAdd, Int.reduceSub, Int.reduceMul, Int.reduceNeg, Int.reduceLT, Int.reduceLE, Int.reduceEq, Nat.zero_add, Nat.add_zero, Nat.reduceBEq, Nat.one_ne_zero, Nat.zero_ne_one, Nat.lt_irrefl, Nat.succ_ne_zero, w32_id, ixc, ixc2, Int.toNat_natCast]
  have key : ∀ (g k : Nat), (k : Int) + g = hp (h 220) f → (∀ k' : Nat, k' < k → nd (h 220) f k' ≠ n) → V l (d + 1) 0 0 M_X3_hopAt 0 0 2 (Rt (hop (h 220) f n) SHP h) [(2, (nb : Int) + 1), (0, (f : Int)), (0, n), (0, (k : Int))] [] SHP h := by
    intro g
    induction g with
    | zero =>
      intro k hk hno
      refine S_X3_hopAt_2 _ _ _ _ ?_; simp (disch := omega) only [B_X3_hopAt_2, bi_0, x_ic, x_lc, x_ld, x_st, x_sl, x_inc, x_b32, x_b64, x_d32, x_d64, x_s64, x_un, x_lcmp, x_dup, x_pop, x_dup2, x_if, x_cmp, x_sw, swk, x_ald, x_ast, x_alen, x_getf, x_putf, x_inv, x_mm, x_copy, x_iret, x_lret, x_vret, ok1, pu, ct, rcv, rcs, ent0, List.getElem?_cons_zero, List.getElem?_cons_succ, List.getElem?_nil, List.set_cons_zero, List.set_cons_succ, List.take_succ_cons, List.take_zero, List.drop_succ_cons, List.drop_zero, List.reverse_cons, List.reverse_nil, List.nil_append, List.cons_append, List.length_cons, List.length_nil, true_and, and_true, and_self, ne_eq, not_true_eq_false, not_false_eq_true, reduceIte, true_or, or_true, false_or, or_false, Nat.reduceAdd, Nat.reduceSub, Nat.reduceMul, Nat.reduceLeDiff, Nat.reduceEqDiff, Nat.reduceLT, Nat.le_refl, Nat.zero_le, Int.reduceToNat, Int.reduceAdd, Int.reduceSub, Int.reduceMul, Int.reduceNeg, Int.reduceLT, Int.reduceLE, Int.reduceEq, Nat.zero_add, Nat.add_zero, Nat.reduceBEq, Nat.one_ne_zero, Nat.zero_ne_one, Nat.lt_irrefl, Nat.succ_ne_zero, w32_id, ixc, ixc2, Int.toNat_natCast, s1, nf7 L hnb, nln8 hnb, x2]
      (repeat' (first | assumption | (with_reducible refine And.intro ?_ ?_) | (refine im (fun hq => ?_); (try (exfalso; omega; done))) | omega))
      refine S_X3_hopAt_32 _ _ _ _ ?_; simp (disch := omega) only [B_X3_hopAt_32, bi_0, x_ic, x_lc, x_ld, x_st, x_sl, x_inc, x_b32, x_b64, x_d32, x_d64, x_s64, x_un, x_lcmp, x_dup, x_pop, x_dup2, x_if, x_cmp, x_sw, swk, x_ald, x_ast, x_alen, x_getf, x_putf, x_inv, x_mm, x_copy, x_iret, x_lret, x_vret, ok1, pu, ct, rcv, rcs, ent0, List.getElem?_cons_zero, List.getElem?_cons_succ, List.getElem?_nil, List.set_cons_zero, List.set_cons_succ, List.take_succ_cons, List.take_zero, List.drop_succ_cons, List.drop_zero, List.reverse_cons, List.reverse_nil, List.nil_append, List.cons_append, List.length_cons, List.length_nil, true_and, and_true, and_self, ne_eq, not_true_eq_false, not_false_eq_true, reduceIte, true_or, or_true, false_or, or_false, Nat.reduceAdd, Nat.reduceSub, Nat.reduceMul, Nat.reduceLeDiff, Nat.reduceEqDiff, Nat.reduceLT, Nat.le_refl, Nat.zero_le, Int.reduceToNat, Int.reduceAdd, Int.reduceSub, Int.reduceMul, Int.reduceNeg, Int.reduceLT, Int.reduceLE, Int.reduceEq, Nat.zero_add, Nat.add_zero, Nat.reduceBEq, Nat.one_ne_zero, Nat.zero_ne_one, Nat.lt_irrefl, Nat.succ_ne_zero, w32_id, ixc, ixc2, Int.toNat_natCast]
      refine Rt_mk ?_
      by_cases e : 0 ≤ hop (h 220) f n
      · have := hop_some e
        exact absurd this.2 (hno _ (by omega))
      · have := hop_b (h 220) f n; omega
    | succ g ih =>
      intro k hk hno
      have x3 := x3 k (by omega)
      refine S_X3_hopAt_2 _ _ _ _ ?_; simp (disch := omega) only [B_X3_hopAt_2, bi_0, x_ic, x_lc, x_ld, x_st, x_sl, x_inc, x_b32, x_b64, x_d32, x_d64, x_s64, x_un, x_lcmp, x_dup, x_pop, x_dup2, x_if, x_cmp, x_sw, swk, x_ald, x_ast, x_alen, x_getf, x_putf, x_inv, x_mm, x_copy, x_iret, x_lret, x_vret, ok1, pu, ct, rcv, rcs, ent0, List.getElem?_cons_zero, List.getElem?_cons_succ, List.getElem?_nil, List.set_cons_zero, List.set_cons_succ, List.take_succ_cons, List.take_zero, List.drop_succ_cons, List.drop_zero, List.reverse_cons, List.reverse_nil, List.nil_append, List.cons_append, List.length_cons, List.length_nil, true_and, and_true, and_self, ne_eq, not_true_eq_false, not_false_eq_true, reduceIte, true_or, or_true, false_or, or_false, Nat.reduceAdd, Nat.reduceSub, Nat.reduceMul, Nat.reduceLeDiff, Nat.reduceEqDiff, Nat.reduceLT, Nat.le_refl, Nat.zero_le, Int.reduceToNat, Int.reduceAdd, Int.reduceSub, Int.reduceMul, Int.reduceNeg, Int.reduceLT, Int.reduceLE, Int.reduceEq, Nat.zero_add, Nat.add_zero, Nat.reduceBEq, Nat.one_ne_zero, Nat.zero_ne_one, Nat.lt_irrefl, Nat.succ_ne_zero, w32_id, ixc, ixc2, Int.toNat_natCast, s1, nf7 L hnb, nln8 hnb, x2, nf8 L hnb, nln9 hnb, (net_w L hnb hf4).1, (net_w L hnb hf4).2, x3]
      refine ⟨by omega, fun z => absurd z (by omega), fun _ => ⟨by omega, by omega, fun z => ?_, fun z => ?_⟩⟩
      · refine Rt_mk ?_
        rw [← z]; exact (hop_eq W hf (by omega)).symm
      · refine S_X3_hopAt_26 _ _ _ _ ?_; simp (disch := omega) only [B_X3_hopAt_26, bi_0, x_ic, x_lc, x_ld, x_st, x_sl, x_inc, x_b32, x_b64, x_d32, x_d64, x_s64, x_un, x_lcmp, x_dup, x_pop, x_dup2, x_if, x_cmp, x_sw, swk, x_ald, x_ast, x_alen, x_getf, x_putf, x_inv, x_mm, x_copy, x_iret, x_lret, x_vret, ok1, pu, ct, rcv, rcs, ent0, List.getElem?_cons_zero, List.getElem?_cons_succ, List.getElem?_nil, List.set_cons_zero, List.set_cons_succ, List.take_succ_cons, List.take_zero, List.drop_succ_cons, List.drop_zero, List.reverse_cons, List.reverse_nil, List.nil_append, List.cons_append, List.length_cons, List.length_nil, true_and, and_true, and_self, ne_eq, not_true_eq_false, not_false_eq_true, reduceIte, true_or, or_true, false_or, or_false, Nat.reduceAdd, Nat.reduceSub, Nat.reduceMul, Nat.reduceLeDiff, Nat.reduceEqDiff, Nat.reduceLT, Nat.le_refl, Nat.zero_le, Int.reduceToNat, Int.reduceAdd, Int.reduceSub, Int.reduceMul, Int.reduceNeg, Int.reduceLT, Int.reduceLE, Int.reduceEq, Nat.zero_add, Nat.add_zero, Nat.reduceBEq, Nat.one_ne_zero, Nat.zero_ne_one, Nat.lt_irrefl, Nat.succ_ne_zero, w32_id, ixc, ixc2, Int.toNat_natCast]
        refine ih (k + 1) (by omega) (fun k' hk' => ?_)
        by_cases e : k' = k
        · subst e; exact z
        · exact hno k' (by omega)
  exact key (hp (h 220) f).toNat 0 (by omega) (fun k' hk' => absurd hk' (by omega))
theorem c_firstPlaceAbove (L : Lay h) (ht : Trf tb) {n : Nat} (hn : n < 4) {Lq : List Int} (Qh : QR h tb n Lq) (hl : Lq.length ≤ 40) (hv : ∀ j, j < Lq.length → 0 ≤ Lq.getD j 0 ∧ Lq.getD j 0 < 256) (t : Int) : Cl l (d + 1) M_X9_firstPlaceAbove [(2, (tb : Int) + 1), (0, (n : Int)), (0, t)] SHP h (Rt (fAr (fun j => Lq.getD j 0 / 64) t Lq.length).1 SHP h) := by
  have o := tf_ob ht
  obtain ⟨q1, q2⟩ := Qh
  obtain ⟨x, hx⟩ : ∃ x : Nat → Int, x = fun j => Lq.getD j 0 / 64 := ⟨_, rfl⟩
  rw [← hx]
  show V l (d + 1) 0 0 M_X9_firstPlaceAbove 0 0 0 _ [(2, (tb : Int) + 1), (0, (n : Int)), (0, t), (9, 0), (9, 0), (9, 0), (9, 0)] [] SHP h
  refine S_X9_firstPlaceAbove_0 _ _ _ _ ?_; simp (disch := omega) only [B_X9_firstPlaceAbove_0, bi_0, x_ic, x_lc, x_ld, x_st, x_sl, x_inc, x_b32, x_b64, x_d32, x_d64, x_s64, x_un, x_lcmp, x_dup, x_pop, x_dup2, x_if, x_cmp, x_sw, swk, x_ald, x_ast, x_alen, x_getf, x_putf, x_inv, x_mm, x_copy, x_iret, x_lret, x_vret, ok1, pu, ct, rcv, rcs, ent0, List.getElem?_cons_zero, List.getElem?_cons_succ, List.getElem?_nil, List.set_cons_zero, List.set_cons_succ, List.take_succ_cons, List.take_zero, List.drop_succ_cons, List.drop_zero, List.reverse_cons, List.reverse_nil, List.nil_append, List.cons_append, List.length_cons, List.length_nil, true_and, and_true, and_self, ne_eq, not_true_eq_false, not_false_eq_true, reduceIte, true_or, or_true, false_or, or_false, Nat.reduceAdd, Nat.reduceSub, Nat.reduceMul, Nat.reduceLeDiff, Nat.reduceEqDiff, Nat.reduceLT, Nat.le_refl, Nat.zero_le, Int.reduceToNat, Int.reduceAdd, Int.reduceSub, Int.reduceMul, Int.reduceNeg, Int.reduceLT, Int.reduceLE, Int.reduceEq, Nat.zero_add, Nat.add_zero, Nat.reduceBEq, Nat.one_ne_zero, Nat.zero_ne_one, Nat.lt_irrefl, Nat.succ_ne_zero, w32_id, ixc, ixc2, Int.toNat_natCast]
  refine V_it (pc := 8) (fun i => [(2, (tb : Int) + 1), (0, (n : Int)), (0, t), (0, (fAr x t i).1), (0, (fAr x t i).2), (0, (i : Int)), (9, 0)]) (fun _ => h) Lq.length (fun i hi ih => ?_) ?_
  · have v1 := q2 i hi
    have b1 := hv i hi
    have d1 : dv32 (Lq.getD i 0) 64 = x i := by rw [dv32_pos (by omega) (by omega) (by decide) (by decide), hx]
    rw [show fAr x t (i + 1) = if t < x i ∧ x i < (fAr x t i).2 then ((i : Int), x i) else fAr x t i from rfl] at ih
    refine S_X9_firstPlaceAbove_8 _ _ _ _ ?_; simp (disch := omega) only [B_X9_firstPlaceAbove_8, bi_0, x_ic, x_lc, x_ld, x_st, x_sl, x_inc, x_b32, x_b64, x_d32, x_d64, x_s64, x_un, x_lcmp, x_dup, x_pop, x_dup2, x_if, x_cmp, x_sw, swk, x_ald, x_ast, x_alen, x_getf, x_putf, x_inv, x_mm, x_copy, x_iret, x_lret, x_vret, ok1, pu, ct, rcv, rcs, ent0, List.getElem?_cons_zero, List.getElem?_cons_succ, List.getElem?_nil, List.set_cons_zero, List.set_cons_succ, List.take_succ_cons, List.take_zero, List.drop_succ_cons, List.drop_zero, List.reverse_cons, List.reverse_nil, List.nil_append, List.cons_append, List.length_cons, List.length_nil, true_and, and_true, and_self, ne_eq, not_true_eq_false, not_false_eq_true, reduceIte, true_or, or_true, false_or, or_false, Nat.reduceAdd, Nat.reduceSub, Nat.reduceMul, Nat.reduceLeDiff, Nat.reduceEqDiff, Nat.reduceLT, Nat.le_refl, Nat.zero_le, Int.reduceToNat, Int.reduceAdd, Int.reduceSub, Int.reduceMul, Int.reduceNeg, Int.reduceLT, Int.reduceLE, Int.reduceEq, Nat.zero_add, Nat.add_zero, Nat.reduceBEq, Nat.one_ne_zero, Nat.zero_ne_one, Nat.lt_irrefl, Nat.succ_ne_zero, w32_id, ixc, ixc2, Int.toNat_natCast, o, tf3 L ht, tl16 ht, q1, tf0 L ht, tl1 ht, tf_q L ht hn, tlq ht hn, v1, d1]
    refine ⟨by omega, fun z => absurd z (by omega), fun _ => ⟨by omega, by omega, fun z => ?_, fun z => ⟨fun z2 => ?_, fun z2 => ?_⟩⟩⟩
    · rw [if_neg (by omega)] at ih
      refine S_X9_firstPlaceAbove_53 _ _ _ _ ?_; simp (disch := omega) only [B_X9_firstPlaceAbove_53, bi_0, x_ic, x_lc, x_ld, x_st, x_sl, x_inc, x_b32, x_b64, x_d32, x_d64, x_s64, x_un, x_lcmp, x_dup, x_pop, x_dup2, x_if, x_cmp, x_sw, swk, x_ald, x_ast, x_alen, x_getf, x_putf, x_inv, x_mm, x_copy, x_iret, x_lret, x_vret, ok1, pu, ct, rcv, rcs, ent0, List.getElem?_cons_zero, List.getElem?_cons_succ, List.getElem?_nil, List.set_cons_zero, List.set_cons_succ, List.take_succ_cons, List.take_zero, List.drop_succ_cons, List.drop_zero, List.reverse_cons, List.reverse_nil, List.nil_append, List.cons_append, List.length_cons, List.length_nil, true_and, and_true, and_self, ne_eq, not_true_eq_false, not_false_eq_true, reduceIte, true_or, or_true, false_or, or_false, Nat.reduceAdd, Nat.reduceSub, Nat.reduceMul, Nat.reduceLeDiff, Nat.reduceEqDiff, Nat.reduceLT, Nat.le_refl, Nat.zero_le, Int.reduceToNat, Int.reduceAdd, Int.reduceSub, Int.reduceMul, Int.reduceNeg, Int.reduceLT, Int.reduceLE, Int.reduceEq, Nat.zero_add, Nat.add_zero, Nat.reduceBEq, Nat.one_ne_zero, Nat.zero_ne_one, Nat.lt_irrefl, Nat.succ_ne_zero, w32_id, ixc, ixc2, Int.toNat_natCast]
      exact V_fg [6] ih
    · rw [if_neg (by omega)] at ih
      refine S_X9_firstPlaceAbove_53 _ _ _ _ ?_; simp (disch := omega) only [B_X9_firstPlaceAbove_53, bi_0, x_ic, x_lc, x_ld, x_st, x_sl, x_inc, x_b32, x_b64, x_d32, x_d64, x_s64, x_un, x_lcmp, x_dup, x_pop, x_dup2, x_if, x_cmp, x_sw, swk, x_ald, x_ast, x_alen, x_getf, x_putf, x_inv, x_mm, x_copy, x_iret, x_lret, x_vret, ok1, pu, ct, rcv, rcs, ent0, List.getElem?_cons_zero, List.getElem?_cons_succ, List.getElem?_nil, List.set_cons_zero, List.set_cons_succ, List.take_succ_cons, List.take_zero, List.drop_succ_cons, List.drop_zero, List.reverse_cons, List.reverse_nil, List.nil_append, List.cons_append, List.length_cons, List.length_nil, true_and, and_true, and_self, ne_eq, not_true_eq_false, not_false_eq_true, reduceIte, true_or, or_true, false_or, or_false, Nat.reduceAdd, Nat.reduceSub, Nat.reduceMul, Nat.reduceLeDiff, Nat.reduceEqDiff, Nat.reduceLT, Nat.le_refl, Nat.zero_le, Int.reduceToNat, Int.reduceAdd, Int.reduceSub, Int.reduceMul, Int.reduceNeg, Int.reduceLT, Int.reduceLE, Int.reduceEq, Nat.zero_add, Nat.add_zero, Nat.reduceBEq, Nat.one_ne_zero, Nat.zero_ne_one, Nat.lt_irrefl, Nat.succ_ne_zero, w32_id, ixc, ixc2, Int.toNat_natCast]
      exact V_fg [6] ih
    · rw [if_pos (by omega)] at ih
      refine S_X9_firstPlaceAbove_53 _ _ _ _ ?_; simp (disch := omega) only [B_X9_firstPlaceAbove_53, bi_0, x_ic, x_lc, x_ld, x_st, x_sl, x_inc, x_b32, x_b64, x_d32, x_d64, x_s64, x_un, x_lcmp, x_dup, x_pop, x_dup2, x_if, x_cmp, x_sw, swk, x_ald, x_ast, x_alen, x_getf, x_putf, x_inv, x_mm, x_copy, x_iret, x_lret, x_vret, ok1, pu, ct, rcv, rcs, ent0, List.getElem?_cons_zero, List.getElem?_cons_succ, List.getElem?_nil, List.set_cons_zero, List.set_cons_succ, List.take_succ_cons, List.take_zero, List.drop_succ_cons, List.drop_zero, List.reverse_cons, List.reverse_nil, List.nil_append, List.cons_append, List.length_cons, List.length_nil, true_and, and_true, and_self, ne_eq, not_true_eq_false, not_false_eq_true, reduceIte, true_or, or_true, false_or, or_false, Nat.reduceAdd, Nat.reduceSub, Nat.reduceMul, Nat.reduceLeDiff, Nat.reduceEqDiff, Nat.reduceLT, Nat.le_refl, Nat.zero_le, Int.reduceToNat, Int.reduceAdd, Int.reduceSub, Int.reduceMul, Int.reduceNeg, Int.reduceLT, Int.reduceLE, Int.reduceEq, Nat.zero_add, Nat.add_zero, Nat.reduceBEq, Nat.one_ne_zero, Nat.zero_ne_one, Nat.lt_irrefl, Nat.succ_ne_zero, w32_id, ixc, ixc2, Int.toNat_natCast]
      exact V_fg [6] ih
  · refine S_X9_firstPlaceAbove_8 _ _ _ _ ?_; simp (disch := omega) only [B_X9_firstPlaceAbove_8, bi_0, x_ic, x_lc, x_ld, x_st, x_sl, x_inc, x_b32, x_b64, x_d32, x_d64, x_s64, x_un, x_lcmp, x_dup, x_pop, x_dup2, x_if, x_cmp, x_sw, swk, x_ald, x_ast, x_alen, x_getf, x_putf, x_inv, x_mm, x_copy, x_iret, x_lret, x_vret, ok1, pu, ct, rcv, rcs, ent0, List.getElem?_cons_zero, List.getElem?_cons_succ, List.getElem?_nil, List.set_cons_zero, List.set_cons_succ, List.take_succ_cons, List.take_zero, List.drop_succ_cons, List.drop_zero, List.reverse_cons, List.reverse_nil, List.nil_append, List.cons_append, List.length_cons, List.length_nil, true_and, and_true, and_self, ne_eq, not_true_eq_false, not_false_eq_true, reduceIte, true_or, or_true, false_or, or_false, Nat.reduceAdd, Nat.reduceSub, Nat.reduceMul, Nat.reduceLeDiff, Nat.reduceEqDiff, Nat.reduceLT, Nat.le_refl, Nat.zero_le, Int.reduceToNat, Int.reduceAdd, Int.reduceSub, Int.reduceMul, Int.reduceNeg, Int.reduceLT, Int.reduceLE, Int.reduceEq, Nat.zero_add, Nat.add_zero, Nat.reduceBEq, Nat.one_ne_zero, Nat.zero_ne_one, Nat.lt_irrefl, Nat.succ_ne_zero, w32_id, ixc, ixc2, Int.toNat_natCast, o, tf3 L ht, tl16 ht, q1]
    (repeat' (first | assumption | (with_reducible refine And.intro ?_ ?_) | (refine im (fun hq => ?_); (try (exfalso; omega; done))) | omega))
    refine S_X9_firstPlaceAbove_59 _ _ _ _ ?_; simp (disch := omega) only [B_X9_firstPlaceAbove_59, bi_0, x_ic, x_lc, x_ld, x_st, x_sl, x_inc, x_b32, x_b64, x_d32, x_d64, x_s64, x_un, x_lcmp, x_dup, x_pop, x_dup2, x_if, x_cmp, x_sw, swk, x_ald, x_ast, x_alen, x_getf, x_putf, x_inv, x_mm, x_copy, x_iret, x_lret, x_vret, ok1, pu, ct, rcv, rcs, ent0, List.getElem?_cons_zero, List.getElem?_cons_succ, List.getElem?_nil, List.set_cons_zero, List.set_cons_succ, List.take_succ_cons, List.take_zero, List.drop_succ_cons, List.drop_zero, List.reverse_cons, List.reverse_nil, List.nil_append, List.cons_append, List.length_cons, List.length_nil, true_and, and_true, and_self, ne_eq, not_true_eq_false, not_false_eq_true, reduceIte, true_or, or_true, false_or, or_false, Nat.reduceAdd, Nat.reduceSub, Nat.reduceMul, Nat.reduceLeDiff, Nat.reduceEqDiff, Nat.reduceLT, Nat.le_refl, Nat.zero_le, Int.reduceToNat, Int.reduceAdd, Int.reduceSub, Int.reduceMul, Int.reduceNeg, Int.reduceLT, Int.reduceLE, Int.reduceEq, Nat.zero_add, Nat.add_zero, Nat.reduceBEq, Nat.one_ne_zero, Nat.zero_ne_one, Nat.lt_irrefl, Nat.succ_ne_zero, w32_id, ixc, ixc2, Int.toNat_natCast]
    exact Rt_mk rfl
theorem c_nextPlace (L : Lay h) (ht : Trf tb) {n : Nat} (hn : n < 4) {Lq : List Int} (Qh : QR h tb n Lq) (hl : Lq.length ≤ 40) (hv : ∀ j, j < Lq.length → 0 ≤ Lq.getD j 0 ∧ Lq.getD j 0 < 256) {kind : Int} (hk : 0 ≤ kind ∧ kind ≤ 3) (t : Int) : Cl l (d + 2) M_X9_nextPlace [(2, (tb : Int) + 1), (0, kind), (0, (n : Int)), (0, t)] SHP h (Rt (max 0 (pkP kind (fun j => Lq.getD j 0 / 64) Lq.length t)) SHP h) := by
  have o := tf_ob ht
  have q1 := Qh.1
  have f1 := c_firstPlaceAbove (l := l) (d := d) L ht hn Qh hl hv (-1)
  have f2 := c_firstPlaceAbove (l := l) (d := d) L ht hn Qh hl hv t
  show V l (d + 2) 0 0 M_X9_nextPlace 0 0 0 _ [(2, (tb : Int) + 1), (0, kind), (0, (n : Int)), (0, t), (9, 0)] [] SHP h
  have k63 : ∀ v : Int, v = pkP kind (fun j => Lq.getD j 0 / 64) Lq.length t → V l (d + 2) 0 0 M_X9_nextPlace 0 0 63 (Rt (max 0 (pkP kind (fun j => Lq.getD j 0 / 64) Lq.length t)) SHP h) [(2, (tb : Int) + 1), (0, kind), (0, (n : Int)), (0, t), (0, v)] [] SHP h := by
    intro v hv
    refine S_X9_nextPlace_63 _ _ _ _ ?_; simp (disch := omega) only [B_X9_nextPlace_63, bi_0, x_ic, x_lc, x_ld, x_st, x_sl, x_inc, x_b32, x_b64, x_d32, x_d64, x_s64, x_un, x_lcmp, x_dup, x_pop, x_dup2, x_if, x_cmp, x_sw, swk, x_ald, x_ast, x_alen, x_getf, x_putf, x_inv, x_mm, x_copy, x_iret, x_lret, x_vret, ok1, pu, ct, rcv, rcs, ent0, List.getElem?_cons_zero, List.getElem?_cons_succ, List.getElem?_nil, List.set_cons_zero, List.set_cons_succ, List.take_succ_cons, List.take_zero, List.drop_succ_cons, List.drop_zero, List.reverse_cons, List.reverse_nil, List.nil_append, List.cons_append, List.length_cons, List.length_nil, true_and, and_true, and_self, ne_eq, not_true_eq_false, not_false_eq_true, reduceIte, true_or, or_true, false_or, or_false, Nat.reduceAdd, Nat.reduceSub, Nat.reduceMul, Nat.reduceLeDiff, Nat.reduceEqDiff, Nat.reduceLT, Nat.le_refl, Nat.zero_le, Int.reduceToNat, Int.reduceAdd, Int.reduceSub, Int.reduceMul, Int.reduceNeg, Int.reduceLT, Int.reduceLE, Int.reduceEq, Nat.zero_add, Nat.add_zero, Nat.reduceBEq, Nat.one_ne_zero, Nat.zero_ne_one, Nat.lt_irrefl, Nat.succ_ne_zero, w32_id, ixc, ixc2, Int.toNat_natCast]
    exact Rt_mk (by rw [hv])
  unfold pkP at k63
  refine S_X9_nextPlace_0 _ _ _ _ ?_; simp (disch := omega) only [B_X9_nextPlace_0, bi_0, x_ic, x_lc, x_ld, x_st, x_sl, x_inc, x_b32, x_b64, x_d32, x_d64, x_s64, x_un, x_lcmp, x_dup, x_pop, x_dup2, x_if, x_cmp, x_sw, swk, x_ald, x_ast, x_alen, x_getf, x_putf, x_inv, x_mm, x_copy, x_iret, x_lret, x_vret, ok1, pu, ct, rcv, rcs, ent0, List.getElem?_cons_zero, List.getElem?_cons_succ, List.getElem?_nil, List.set_cons_zero, List.set_cons_succ, List.take_succ_cons, List.take_zero, List.drop_succ_cons, List.drop_zero, List.reverse_cons, List.reverse_nil, List.nil_append, List.cons_append, List.length_cons, List.length_nil, true_and, and_true, and_self, ne_eq, not_true_eq_false, not_false_eq_true, reduceIte, true_or, or_true, false_or, or_false, Nat.reduceAdd, Nat.reduceSub, Nat.reduceMul, Nat.reduceLeDiff, Nat.reduceEqDiff, Nat.reduceLT, Nat.le_refl, Nat.zero_le, Int.reduceToNat, Int.reduceAdd, Int.reduceSub, Int.reduceMul, Int.reduceNeg, Int.reduceLT, Int.reduceLE, Int.reduceEq, Nat.zero_add, Nat.add_zero, Nat.reduceBEq, Nat.one_ne_zero, Nat.zero_ne_one, Nat.lt_irrefl, Nat.succ_ne_zero, w32_id, ixc, ixc2, Int.toNat_natCast, o, tf3 L ht, tl16 ht, q1]
  refine ⟨fun z => ⟨by omega, k63 _ (by rw [if_pos z])⟩, fun z => ?_⟩
  refine S_X9_nextPlace_20 _ _ _ _ ?_; simp (disch := omega) only [B_X9_nextPlace_20, bi_0, x_ic, x_lc, x_ld, x_st, x_sl, x_inc, x_b32, x_b64, x_d32, x_d64, x_s64, x_un, x_lcmp, x_dup, x_pop, x_dup2, x_if, x_cmp, x_sw, swk, x_ald, x_ast, x_alen, x_getf, x_putf, x_inv, x_mm, x_copy, x_iret, x_lret, x_vret, ok1, pu, ct, rcv, rcs, ent0, List.getElem?_cons_zero, List.getElem?_cons_succ, List.getElem?_nil, List.set_cons_zero, List.set_cons_succ, List.take_succ_cons, List.take_zero, List.drop_succ_cons, List.drop_zero, List.reverse_cons, List.reverse_nil, List.nil_append, List.cons_append, List.length_cons, List.length_nil, true_and, and_true, and_self, ne_eq, not_true_eq_false, not_false_eq_true, reduceIte, true_or, or_true, false_or, or_false, Nat.reduceAdd, Nat.reduceSub, Nat.reduceMul, Nat.reduceLeDiff, Nat.reduceEqDiff, Nat.reduceLT, Nat.le_refl, Nat.zero_le, Int.reduceToNat, Int.reduceAdd, Int.reduceSub, Int.reduceMul, Int.reduceNeg, Int.reduceLT, Int.reduceLE, Int.reduceEq, Nat.zero_add, Nat.add_zero, Nat.reduceBEq, Nat.one_ne_zero, Nat.zero_ne_one, Nat.lt_irrefl, Nat.succ_ne_zero, w32_id, ixc, ixc2, Int.toNat_natCast, o]
  refine ⟨fun z1 => ?_, fun z1 => ?_⟩
  · refine Cl.app f1 ?_
    (try simp (disch := omega) only [bi_0, x_ic, x_lc, x_ld, x_st, x_sl, x_inc, x_b32, x_b64, x_d32, x_d64, x_s64, x_un, x_lcmp, x_dup, x_pop, x_dup2, x_if, x_cmp, x_sw, swk, x_ald, x_ast, x_alen, x_getf, x_putf, x_inv, x_mm, x_copy, x_iret, x_lret, x_vret, ok1, pu, ct, rcv, rcs, ent0, List.getElem?_cons_zero, List.getElem?_cons_succ, List.getElem?_nil, List.set_cons_zero, List.set_cons_succ, List.take_succ_cons, List.take_zero, List.drop_succ_cons, List.drop_zero, List.reverse_cons, List.reverse_nil, List.nil_append, List.cons_append, List.length_cons, List.length_nil, true_and, and_true, and_self, ne_eq, not_true_eq_false, not_false_eq_true, reduceIte, true_or, or_true, false_or, or_false, Nat.reduceAdd, Nat.reduceSub, Nat.reduceMul, Nat.reduceLeDiff, Nat.reduceEqDiff, Nat.reduceLT, Nat.le_refl, Nat.zero_le, Int.reduceToNat, Int.reduceAdd, Int.reduceSub, Int.reduceMul, Int.reduceNeg, Int.reduceLT, Int.reduceLE, Int.reduceEq, Nat.zero_add, Nat.add_zero, Nat.reduceBEq, Nat.one_ne_zero, Nat.zero_ne_one, Nat.lt_irrefl, Nat.succ_ne_zero, w32_id, ixc, ixc2, Int.toNat_natCast])
    exact k63 _ (by rw [if_neg z, if_pos z1])
  · refine S_X9_nextPlace_36 _ _ _ _ ?_; simp (disch := omega) only [B_X9_nextPlace_36, bi_0, x_ic, x_lc, x_ld, x_st, x_sl, x_inc, x_b32, x_b64, x_d32, x_d64, x_s64, x_un, x_lcmp, x_dup, x_pop, x_dup2, x_if, x_cmp, x_sw, swk, x_ald, x_ast, x_alen, x_getf, x_putf, x_inv, x_mm, x_copy, x_iret, x_lret, x_vret, ok1, pu, ct, rcv, rcs, ent0, List.getElem?_cons_zero, List.getElem?_cons_succ, List.getElem?_nil, List.set_cons_zero, List.set_cons_succ, List.take_succ_cons, List.take_zero, List.drop_succ_cons, List.drop_zero, List.reverse_cons, List.reverse_nil, List.nil_append, List.cons_append, List.length_cons, List.length_nil, true_and, and_true, and_self, ne_eq, not_true_eq_false, not_false_eq_true, reduceIte, true_or, or_true, false_or, or_false, Nat.reduceAdd, Nat.reduceSub, Nat.reduceMul, Nat.reduceLeDiff, Nat.reduceEqDiff, Nat.reduceLT, Nat.le_refl, Nat.zero_le, Int.reduceToNat, Int.reduceAdd, Int.reduceSub, Int.reduceMul, Int.reduceNeg, Int.reduceLT, Int.reduceLE, Int.reduceEq, Nat.zero_add, Nat.add_zero, Nat.reduceBEq, Nat.one_ne_zero, Nat.zero_ne_one, Nat.lt_irrefl, Nat.succ_ne_zero, w32_id, ixc, ixc2, Int.toNat_natCast, o]
    refine ⟨fun z3 => ?_, fun z3 => ?_⟩
    · refine Cl.app f2 ?_
      (try simp (disch := omega) only [bi_0, x_ic, x_lc, x_ld, x_st, x_sl, x_inc, x_b32, x_b64, x_d32, x_d64, x_s64, x_un, x_lcmp, x_dup, x_pop, x_dup2, x_if, x_cmp, x_sw, swk, x_ald, x_ast, x_alen, x_getf, x_putf, x_inv, x_mm, x_copy, x_iret, x_lret, x_vret, ok1, pu, ct, rcv, rcs, ent0, List.getElem?_cons_zero, List.getElem?_cons_succ, List.getElem?_nil, List.set_cons_zero, List.set_cons_succ, List.take_succ_cons, List.take_zero, List.drop_succ_cons, List.drop_zero, List.reverse_cons, List.reverse_nil, List.nil_append, List.cons_append, List.length_cons, List.length_nil, true_and, and_true, and_self, ne_eq, not_true_eq_false, not_false_eq_true, reduceIte, true_or, or_true, false_or, or_false, Nat.reduceAdd, Nat.reduceSub, Nat.reduceMul, Nat.reduceLeDiff, Nat.reduceEqDiff, Nat.reduceLT, Nat.le_refl, Nat.zero_le, Int.reduceToNat, Int.reduceAdd, Int.reduceSub, Int.reduceMul, Int.reduceNeg, Int.reduceLT, Int.reduceLE, Int.reduceEq, Nat.zero_add, Nat.add_zero, Nat.reduceBEq, Nat.one_ne_zero, Nat.zero_ne_one, Nat.lt_irrefl, Nat.succ_ne_zero, w32_id, ixc, ixc2, Int.toNat_natCast, o])
      refine ⟨fun y => ?_, fun y => ?_⟩
      · refine Cl.app f1 ?_
        (try simp (disch := omega) only [bi_0, x_ic, x_lc, x_ld, x_st, x_sl, x_inc, x_b32, x_b64, x_d32, x_d64, x_s64, x_un, x_lcmp, x_dup, x_pop, x_dup2, x_if, x_cmp, x_sw, swk, x_ald, x_ast, x_alen, x_getf, x_putf, x_inv, x_mm, x_copy, x_iret, x_lret, x_vret, ok1, pu, ct, rcv, rcs, ent0, List.getElem?_cons_zero, List.getElem?_cons_succ, List.getElem?_nil, List.set_cons_zero, List.set_cons_succ, List.take_succ_cons, List.take_zero, List.drop_succ_cons, List.drop_zero, List.reverse_cons, List.reverse_nil, List.nil_append, List.cons_append, List.length_cons, List.length_nil, true_and, and_true, and_self, ne_eq, not_true_eq_false, not_false_eq_true, reduceIte, true_or, or_true, false_or, or_false, Nat.reduceAdd, Nat.reduceSub, Nat.reduceMul, Nat.reduceLeDiff, Nat.reduceEqDiff, Nat.reduceLT, Nat.le_refl, Nat.zero_le, Int.reduceToNat, Int.reduceAdd, Int.reduceSub, Int.reduceMul, Int.reduceNeg, Int.reduceLT, Int.reduceLE, Int.reduceEq, Nat.zero_add, Nat.add_zero, Nat.reduceBEq, Nat.one_ne_zero, Nat.zero_ne_one, Nat.lt_irrefl, Nat.succ_ne_zero, w32_id, ixc, ixc2, Int.toNat_natCast])
        exact k63 _ (by rw [if_neg z, if_neg z1, if_pos z3, if_pos y])
      · exact k63 _ (by rw [if_neg z, if_neg z1, if_pos z3, if_neg y])
    · exact k63 _ (by rw [if_neg z, if_neg z1, if_neg z3])
theorem enc_d {u : Un} (h : u.2.2 < 64) : enc u / 64 = (u.1 : Int) ∧ enc u % 64 = (u.2.2 : Int) := by unfold enc; omega
theorem c_serveAt (L : Lay h) (ht : Trf tb) (hnb : nb = 4 ∨ nb = 34) (R : RN h nb) (W : WN (h 220)) {n : Nat} (hn : (n : Int) < h 220 1) {bz : Nat → Int} (hz : h (tb + 17) n = bz n) (hb : 0 ≤ bz n ∧ bz n ≤ 60) (hq0 : 0 ≤ quo (h 220) bz n) {us : List Un} (hul : us.length ≤ 40) (huw : ∀ k, k < us.length → ((uA us k).1 : Int) < 4 ∧ (uA us k).2.2 < 64) (Qh : QR h tb n ((ixs (h 220) us n).map (fun k => enc (uA us k)))) : Cl l (d + 3) M_X9_serveAt [(2, (tb : Int) + 1), (2, (nb : Int) + 1), (0, (n : Int))] SHP h (fun r sh' h' => r = 0 ∧ sh' = SHP ∧ Fr [tb + 2 + n, tb + 7 + n, tb + 16, tb + 17, tb + 21] h h' ∧ (∀ n', n' ≠ n → h' (tb + 16) n' = h (tb + 16) n' ∧ h' (tb + 17) n' = h (tb + 17) n' ∧ h' (tb + 21) n' = h (tb + 21) n') ∧ QR h' tb n ((slN (h 220) us bz n).2.map (fun k => enc (uA us k))) ∧ h' (tb + 17) n = (if (slN (h 220) us bz n).2 = [] then 0 else bz n + 1) ∧ h' (tb + 21) n = ((slN (h 220) us bz n).1.length : Int) ∧ ∀ i, i < (slN (h 220) us bz n).1.length → h' (tb + 7 + n) i = enc (uA us ((slN (h 220) us bz n).1.getD i 0))) := by
  have o := tf_ob ht
  have nn := W.nn
  have s1 := (net_sh hnb).1
  have hn4 : n < 4 := by omega
  have kb := W.kdB n hn
  have qb := quo_b W hn (bz := bz) hb
  refine Cl_hide (fun Q hQ => ?_)
  obtain ⟨nt, ent⟩ : ∃ nt, nt = h 220 := ⟨_, rfl⟩
  obtain ⟨fl, hfl⟩ : ∃ fl : Nat → Nat, fl = fun k => (uA us k).1 := ⟨_, rfl⟩
  obtain ⟨I0, hI0⟩ : ∃ I0, I0 = ixs (h 220) us n := ⟨_, rfl⟩
  have hI4 : ∀ k, k ∈ I0 → (fl k : Int) < 4 := fun k hk => by rw [hI0] at hk; rw [hfl]; exact (huw k (ixs_at hk).1).1
  have hIl : ∀ k, k ∈ I0 → k < us.length := fun k hk => by rw [hI0] at hk; exact (ixs_at hk).1
  have hI40 : I0.length ≤ 40 := by rw [hI0]; exact Nat.le_trans pl_len hul
  rw [← hI0] at Qh
  have q1 := Qh.1
  rw [List.length_map] at q1
  obtain ⟨mn, hmn⟩ : ∃ mn : Nat, (mn : Int) = min (I0.length : Int) (quo (h 220) bz n) := ⟨(min (I0.length : Int) (quo (h 220) bz n)).toNat, by omega⟩
  have eSel : slN (h 220) us bz n = sel (kd nt n) fl mn (-1) I0 := by
    unfold slN
    rw [← hI0, ← ent, ← hfl]
    by_cases e : (quo nt bz n).toNat ≤ I0.length
    · rw [show mn = (quo nt bz n).toNat by rw [ent] at e ⊢; omega]
    · rw [sel_big hI4 (by omega), show mn = I0.length by rw [ent] at e; omega]
  have eL := sel_len (kind := kd nt n) (q := mn) (t := -1) hI4
  have eLn : (sel (kd nt n) fl mn (-1) I0).1.length = mn := by
    rcases eL.2.2 with a | a
    · exact a
    · have := eL.2.1; have h0 : ([] : List Nat).length = 0 := rfl; have e9 := eL.1; rw [a, h0] at e9; omega
  have eRe : ((mn : Int) < (I0.length : Int)) ↔ ¬ (sel (kd nt n) fl mn (-1) I0).2 = [] := by
    constructor
    · intro a z; have e9 := eL.1; rw [z] at e9; have h0 : ([] : List Nat).length = 0 := rfl; rw [h0] at e9; omega
    · intro a
      have : 0 < (sel (kd nt n) fl mn (-1) I0).2.length := List.length_pos_iff.mpr a
      omega
  rw [eSel] at hQ
  have cq := c_quota (l := l) (d := d) L ht hnb R W hn hz hb
  -- the loop
  have key : ∀ (g i : Nat) (S' I' : List Nat) (t : Int) (m : Mem), i + g = mn → S'.length = i → g ≤ I'.length → (∀ k, k ∈ I' → k ∈ I0) → Fr [tb + 2 + n, tb + 7 + n, tb + 16, tb + 17, tb + 21] h m → (∀ n', n' ≠ n → m (tb + 16) n' = h (tb + 16) n' ∧ m (tb + 17) n' = h (tb + 17) n' ∧ m (tb + 21) n' = h (tb + 21) n') → QR m tb n (I'.map (fun k => enc (uA us k))) → I'.length ≤ 40 → m (tb + 17) n = (if (sel (kd nt n) fl mn (-1) I0).2 = [] then 0 else bz n + 1) → m (tb + 21) n = (mn : Int) → (∀ j, j < S'.length → m (tb + 7 + n) j = enc (uA us (S'.getD j 0))) → (S' ++ (sel (kd nt n) fl g t I').1, (sel (kd nt n) fl g t I').2) = sel (kd nt n) fl mn (-1) I0 → V l (d + 3) 0 0 M_X9_serveAt 0 0 57 Q [(2, (tb : Int) + 1), (2, (nb : Int) + 1), (0, (n : Int)), (0, (mn : Int)), (0, t), (0, (i : Int)), (9, 0)] [] SHP m := by
    intro g
    induction g with
    | zero =>
      intro i S' I' t m hi hSl hgl hsub F hoth Qm hl40 hbz hsm hsv heq
      rw [show ∀ t J, sel (kd nt n) fl 0 t J = ([], J) from fun _ _ => rfl, List.append_nil] at heq
      refine S_X9_serveAt_57 _ _ _ _ ?_; simp (disch := omega) only [B_X9_serveAt_57, bi_0, x_ic, x_lc, x_ld, x_st, x_sl, x_inc, x_b32, x_b64, x_d32, x_d64, x_s64, x_un, x_lcmp, x_dup, x_pop, x_dup2, x_if, x_cmp, x_sw, swk, x_ald, x_ast, x_alen, x_getf, x_putf, x_inv, x_mm, x_copy, x_iret, x_lret, x_vret, ok1, pu, ct, rcv, rcs, ent0, List.getElem?_cons_zero, List.getElem?_cons_succ, List.getElem?_nil, List.set_cons_zero, List.set_cons_succ, List.take_succ_cons, List.take_zero, List.drop_succ_cons, List.drop_zero, List.reverse_cons, List.reverse_nil, List.nil_append, List.cons_append, List.length_cons, List.length_nil, true_and, and_true, and_self, ne_eq, not_true_eq_false, not_false_eq_true, reduceIte, true_or, or_true, false_or, or_false, Nat.reduceAdd, Nat.reduceSub, Nat.reduceMul, Nat.reduceLeDiff, Nat.reduceEqDiff, Nat.reduceLT, Nat.le_refl, Nat.zero_le, Int.reduceToNat, Int.reduceAdd, Int.reduceSub, Int.reduceMul, Int.reduceNeg, Int.reduceLT, Int.reduceLE, Int.reduceEq, Nat.zero_add, Nat.add_zero, Nat.reduceBEq, Nat.one_ne_zero, Nat.zero_ne_one, Nat.lt_irrefl, Nat.succ_ne_zero, w32_id, ixc, ixc2, Int.toNat_natCast]
      refine ⟨fun _ => ?_, fun z => absurd z (by omega)⟩
      refine S_X9_serveAt_123 _ _ _ _ ?_; simp (disch := omega) only [B_X9_serveAt_123, bi_0, x_ic, x_lc, x_ld, x_st, x_sl, x_inc, x_b32, x_b64, x_d32, x_d64, x_s64, x_un, x_lcmp, x_dup, x_pop, x_dup2, x_if, x_cmp, x_sw, swk, x_ald, x_ast, x_alen, x_getf, x_putf, x_inv, x_mm, x_copy, x_iret, x_lret, x_vret, ok1, pu, ct, rcv, rcs, ent0, List.getElem?_cons_zero, List.getElem?_cons_succ, List.getElem?_nil, List.set_cons_zero, List.set_cons_succ, List.take_succ_cons, List.take_zero, List.drop_succ_cons, List.drop_zero, List.reverse_cons, List.reverse_nil, List.nil_append, List.cons_append, List.length_cons, List.length_nil, true_and, and_true, and_self, ne_eq, not_true_eq_false, not_false_eq_true, reduceIte, true_or, or_true, false_or, or_false, Nat.reduceAdd, Nat.reduceSub, Nat.reduceMul, Nat.reduceLeDiff, Nat.reduceEqDiff, Nat.reduceLT, Nat.le_refl, Nat.zero_le, Int.reduceToNat, Int.reduceAdd, Int.reduceSub, Int.reduceMul, Int.reduceNeg, Int.reduceLT, Int.reduceLE, Int.reduceEq, Nat.zero_add, Nat.add_zero, Nat.reduceBEq, Nat.one_ne_zero, Nat.zero_ne_one, Nat.lt_irrefl, Nat.succ_ne_zero, w32_id, ixc, ixc2, Int.toNat_natCast]
      have e1 : S' = (sel (kd nt n) fl mn (-1) I0).1 := by rw [← heq]
      have e2 : I' = (sel (kd nt n) fl mn (-1) I0).2 := by rw [← heq]
      refine hQ _ _ _ ⟨rfl, rfl, F, hoth, by rw [← e2]; exact Qm, hbz, by rw [eLn]; exact hsm, by rw [← e1]; exact hsv⟩
    | succ g ih =>
      intro i S' I' t m hi hSl hgl hsub F hoth Qm hl40 hbz hsm hsv heq
      have Fm : Fx tb h m := ⟨fun i q => F i (by simp; omega), fun j _ => by rw [F tb (by simp; omega)], fun i q => F i (by simp; omega)⟩
      have Lm := Fm.lay ht L
      have e220 : m 220 = h 220 := Fm.n220 ht
      have Rm := Fm.rn ht R W hnb
      have hne : I' ≠ [] := fun e => by rw [e] at hgl; simp at hgl
      have hl0 : 0 < I'.length := List.length_pos_iff.mpr hne
      have x4 : m (nb + 5) n = kd nt n := by rw [ent, ← e220]; exact (Rm.2.2.1 n (by rw [e220]; exact hn)).1
      have gv : ∀ j, j < I'.length → (I'.map (fun k => enc (uA us k))).getD j 0 = enc (uA us (I'.getD j 0)) := fun j hj => gD_map _ 0 _ hj
      have hk2 : ∀ j, j < I'.length → ((uA us (I'.getD j 0)).1 : Int) < 4 ∧ (uA us (I'.getD j 0)).2.2 < 64 := fun j hj => huw _ (hIl _ (hsub _ (gD_mem 0 hj)))
      have hv : ∀ j, j < (I'.map (fun k => enc (uA us k))).length → 0 ≤ (I'.map (fun k => enc (uA us k))).getD j 0 ∧ (I'.map (fun k => enc (uA us k))).getD j 0 < 256 := fun j hj => by
        rw [List.length_map] at hj
        rw [gv j hj]
        have := hk2 j hj
        unfold enc; omega
      have cn := c_nextPlace (l := l) (d := d) Lm ht hn4 Qm (by rw [List.length_map]; exact hl40) hv (kind := kd nt n) (by rw [ent]; exact kb) t
      have ep : pkP (kd nt n) (fun j => (I'.map (fun k => enc (uA us k))).getD j 0 / 64) (I'.map (fun k => enc (uA us k))).length t = pkP (kd nt n) (fun j => (fl (I'.getD j 0) : Int)) I'.length t := by
        rw [List.length_map]
        exact pkP_c (fun j hj => by rw [gv j hj, (enc_d (hk2 j hj).2).1, hfl])
      have pb := pkP_b (kind := kd nt n) (x := fun j => (fl (I'.getD j 0) : Int)) (t := t) hl0 (fun j hj => ⟨by omega, by rw [hfl]; exact (hk2 j hj).1⟩)
      rw [ep] at cn
      rw [sel_s hne] at heq
      obtain ⟨p, hp⟩ : ∃ p : Nat, pkP (kd nt n) (fun j => (fl (I'.getD j 0) : Int)) I'.length t = (p : Int) := ⟨_, (Int.toNat_of_nonneg pb.1).symm⟩
      rw [hp, Int.max_eq_right (by omega)] at cn
      rw [hp, Int.toNat_natCast] at heq
      have hp2 : p < I'.length := by omega
      obtain ⟨k, hk⟩ : ∃ k, k = I'.getD p 0 := ⟨_, rfl⟩
      rw [← hk] at heq
      have hkI : k ∈ I0 := hsub _ (by rw [hk]; exact gD_mem 0 hp2)
      have hku := huw k (hIl k hkI)
      have qv : m (tb + 2 + n) p = enc (uA us k) := by rw [Qm.2 p (by rw [List.length_map]; exact hp2), gv p hp2, hk]
      obtain ⟨m2, hm2⟩ : ∃ m2, m2 = up m (tb + 7 + n) i (enc (uA us k)) := ⟨_, rfl⟩
      have F2 : Fr [tb + 2 + n, tb + 7 + n, tb + 16, tb + 17, tb + 21] h m2 := by rw [hm2]; exact Fr.up F (by simp)
      have Fm2 : Fx tb h m2 := ⟨fun i q => F2 i (by simp; omega), fun j _ => by rw [F2 tb (by simp; omega)], fun i q => F2 i (by simp; omega)⟩
      have L2 := Fm2.lay ht L
      have sv2 : m2 (tb + 7 + n) i = enc (uA us k) := by rw [hm2, up_at]
      have d1 : dv32 (enc (uA us k)) 64 = (fl k : Int) := by
        have := hku.2
        rw [dv32_pos (by unfold enc; omega) (by unfold enc; omega) (by decide) (by decide), (enc_d hku.2).1, hfl]
      have Q2 : QR m2 tb n (I'.map (fun k => enc (uA us k))) := ⟨by rw [hm2, up_ne (by omega)]; exact Qm.1, by rw [hm2, up_ne (by omega)]; exact Qm.2⟩
      have ct2 := c_takeOut (l := l) (d := d + 1) L2 ht hn4 Q2 (by rw [List.length_map]; exact hl40) (p := p) (by rw [List.length_map]; exact hp2)
      refine S_X9_serveAt_57 _ _ _ _ ?_; simp (disch := omega) only [B_X9_serveAt_57, bi_0, x_ic, x_lc, x_ld, x_st, x_sl, x_inc, x_b32, x_b64, x_d32, x_d64, x_s64, x_un, x_lcmp, x_dup, x_pop, x_dup2, x_if, x_cmp, x_sw, swk, x_ald, x_ast, x_alen, x_getf, x_putf, x_inv, x_mm, x_copy, x_iret, x_lret, x_vret, ok1, pu, ct, rcv, rcs, ent0, List.getElem?_cons_zero, List.getElem?_cons_succ, List.getElem?_nil, List.set_cons_zero, List.set_cons_succ, List.take_succ_cons, List.take_zero, List.drop_succ_cons, List.drop_zero, List.reverse_cons, List.reverse_nil, List.nil_append, List.cons_append, List.length_cons, List.length_nil, true_and, and_true, and_self, ne_eq, not_true_eq_false, not_false_eq_true, reduceIte, true_or, or_true, false_or, or_false, Nat.reduceAdd, Nat.reduceSub, Nat.reduceMul, Nat.reduceLeDiff, Nat.reduceEqDiff, Nat.reduceLT, Nat.le_refl, Nat.zero_le, Int.reduceToNat, Int.reduceAdd, Int.reduceSub, Int.reduceMul, Int.reduceNeg, Int.reduceLT, Int.reduceLE, Int.reduceEq, Nat.zero_add, Nat.add_zero, Nat.reduceBEq, Nat.one_ne_zero, Nat.zero_ne_one, Nat.lt_irrefl, Nat.succ_ne_zero, w32_id, ixc, ixc2, Int.toNat_natCast, o, s1, nf4 Lm hnb, nln5 hnb, x4]
      (repeat' (first | assumption | (with_reducible refine And.intro ?_ ?_) | (refine im (fun hq => ?_); (try (exfalso; omega; done))) | omega))
      refine Cl.app cn ?_
      (try simp (disch := omega) only [bi_0, x_ic, x_lc, x_ld, x_st, x_sl, x_inc, x_b32, x_b64, x_d32, x_d64, x_s64, x_un, x_lcmp, x_dup, x_pop, x_dup2, x_if, x_cmp, x_sw, swk, x_ald, x_ast, x_alen, x_getf, x_putf, x_inv, x_mm, x_copy, x_iret, x_lret, x_vret, ok1, pu, ct, rcv, rcs, ent0, List.getElem?_cons_zero, List.getElem?_cons_succ, List.getElem?_nil, List.set_cons_zero, List.set_cons_succ, List.take_succ_cons, List.take_zero, List.drop_succ_cons, List.drop_zero, List.reverse_cons, List.reverse_nil, List.nil_append, List.cons_append, List.length_cons, List.length_nil, true_and, and_true, and_self, ne_eq, not_true_eq_false, not_false_eq_true, reduceIte, true_or, or_true, false_or, or_false, Nat.reduceAdd, Nat.reduceSub, Nat.reduceMul, Nat.reduceLeDiff, Nat.reduceEqDiff, Nat.reduceLT, Nat.le_refl, Nat.zero_le, Int.reduceToNat, Int.reduceAdd, Int.reduceSub, Int.reduceMul, Int.reduceNeg, Int.reduceLT, Int.reduceLE, Int.reduceEq, Nat.zero_add, Nat.add_zero, Nat.reduceBEq, Nat.one_ne_zero, Nat.zero_ne_one, Nat.lt_irrefl, Nat.succ_ne_zero, w32_id, ixc, ixc2, Int.toNat_natCast, o, tf1 Lm ht, tl6 ht, tf_s Lm ht hn4, tls ht hn4, tf0 Lm ht, tl1 ht, tf_q Lm ht hn4, tlq ht hn4, qv])
      rw [← hm2]
      (try simp (disch := omega) only [bi_0, x_ic, x_lc, x_ld, x_st, x_sl, x_inc, x_b32, x_b64, x_d32, x_d64, x_s64, x_un, x_lcmp, x_dup, x_pop, x_dup2, x_if, x_cmp, x_sw, swk, x_ald, x_ast, x_alen, x_getf, x_putf, x_inv, x_mm, x_copy, x_iret, x_lret, x_vret, ok1, pu, ct, rcv, rcs, ent0, List.getElem?_cons_zero, List.getElem?_cons_succ, List.getElem?_nil, List.set_cons_zero, List.set_cons_succ, List.take_succ_cons, List.take_zero, List.drop_succ_cons, List.drop_zero, List.reverse_cons, List.reverse_nil, List.nil_append, List.cons_append, List.length_cons, List.length_nil, true_and, and_true, and_self, ne_eq, not_true_eq_false, not_false_eq_true, reduceIte, true_or, or_true, false_or, or_false, Nat.reduceAdd, Nat.reduceSub, Nat.reduceMul, Nat.reduceLeDiff, Nat.reduceEqDiff, Nat.reduceLT, Nat.le_refl, Nat.zero_le, Int.reduceToNat, Int.reduceAdd, Int.reduceSub, Int.reduceMul, Int.reduceNeg, Int.reduceLT, Int.reduceLE, Int.reduceEq, Nat.zero_add, Nat.add_zero, Nat.reduceBEq, Nat.one_ne_zero, Nat.zero_ne_one, Nat.lt_irrefl, Nat.succ_ne_zero, w32_id, ixc, ixc2, Int.toNat_natCast, o, tf1 L2 ht, tl6 ht, tf_s L2 ht hn4, tls ht hn4, sv2, d1])
      (repeat' (first | assumption | (with_reducible refine And.intro ?_ ?_) | (refine im (fun hq => ?_); (try (exfalso; omega; done))) | omega))
      refine Cl.imp ct2 (fun r sh' m3 qq => ?_)
      obtain ⟨rfl, rfl, f3, Q3, o3⟩ := qq
      (try simp (disch := omega) only [bi_0, x_ic, x_lc, x_ld, x_st, x_sl, x_inc, x_b32, x_b64, x_d32, x_d64, x_s64, x_un, x_lcmp, x_dup, x_pop, x_dup2, x_if, x_cmp, x_sw, swk, x_ald, x_ast, x_alen, x_getf, x_putf, x_inv, x_mm, x_copy, x_iret, x_lret, x_vret, ok1, pu, ct, rcv, rcs, ent0, List.getElem?_cons_zero, List.getElem?_cons_succ, List.getElem?_nil, List.set_cons_zero, List.set_cons_succ, List.take_succ_cons, List.take_zero, List.drop_succ_cons, List.drop_zero, List.reverse_cons, List.reverse_nil, List.nil_append, List.cons_append, List.length_cons, List.length_nil, true_and, and_true, and_self, ne_eq, not_true_eq_false, not_false_eq_true, reduceIte, true_or, or_true, false_or, or_false, Nat.reduceAdd, Nat.reduceSub, Nat.reduceMul, Nat.reduceLeDiff, Nat.reduceEqDiff, Nat.reduceLT, Nat.le_refl, Nat.zero_le, Int.reduceToNat, Int.reduceAdd, Int.reduceSub, Int.reduceMul, Int.reduceNeg, Int.reduceLT, Int.reduceLE, Int.reduceEq, Nat.zero_add, Nat.add_zero, Nat.reduceBEq, Nat.one_ne_zero, Nat.zero_ne_one, Nat.lt_irrefl, Nat.succ_ne_zero, w32_id, ixc, ixc2, Int.toNat_natCast])
      refine V_fg [6] ?_
      have F3 : Fr [tb + 2 + n, tb + 7 + n, tb + 16, tb + 17, tb + 21] h m3 := F2.trans (f3.wd (fun i hi => by simp at hi ⊢; omega))
      refine ih (i + 1) (S' ++ [k]) (I'.eraseIdx p) (fl k : Int) m3 (by omega) (by rw [List.length_append]; simp; omega) (by have := er_len hp2; omega) (fun k' hk' => hsub k' (er_mem hk')) F3 (fun n' hn' => ?_) (by rw [map_er]; exact Q3) (by have := er_len hp2; omega) ?_ ?_ (fun j hj => ?_) ?_
      · have := hoth n' hn'
        refine ⟨by rw [o3 n' hn', hm2, up_ne (by omega)]; exact this.1, by rw [f3 (tb + 17) (by simp; omega), hm2, up_ne (by omega)]; exact this.2.1, by rw [f3 (tb + 21) (by simp; omega), hm2, up_ne (by omega)]; exact this.2.2⟩
      · rw [f3 (tb + 17) (by simp; omega), hm2, up_ne (by omega)]; exact hbz
      · rw [f3 (tb + 21) (by simp; omega), hm2, up_ne (by omega)]; exact hsm
      · rw [f3 (tb + 7 + n) (by simp; omega), hm2]
        rw [List.length_append] at hj
        by_cases e : j = i
        · rw [e, up_at, ← hSl, gD_app_1]
        · have hj' : j < S'.length := by simp at hj; omega
          rw [up_nj e, gD_app_l 0 hj']; exact hsv j hj'
      · rw [List.append_assoc]; exact heq
  have bv : bz n = h (tb + 17) n := hz.symm
  obtain ⟨ma, hma⟩ : ∃ ma, ma = up h (tb + 21) n (mn : Int) := ⟨_, rfl⟩
  have Fa : Fx tb h ma := by rw [hma]; exact Fx_up (by omega)
  have La := Fa.lay ht L
  have qa : ma (tb + 16) n = (I0.length : Int) := by rw [hma, up_ne (by omega)]; exact q1
  have za : ma (tb + 17) n = bz n := by rw [hma, up_ne (by omega)]; exact hz
  have k53 : ∀ v : Int, (v = if (sel (kd nt n) fl mn (-1) I0).2 = [] then 0 else bz n + 1) → V l (d + 3) 0 0 M_X9_serveAt 0 0 53 Q [(2, (tb : Int) + 1), (2, (nb : Int) + 1), (0, (n : Int)), (0, (mn : Int)), (0, -1), (9, 0), (9, 0)] [(0, v), (0, (n : Int)), (2, ((tb + 17 : Nat) : Int) + 1)] SHP ma := by
    intro v hv
    refine S_X9_serveAt_53 _ _ _ _ ?_; simp (disch := omega) only [B_X9_serveAt_53, bi_0, x_ic, x_lc, x_ld, x_st, x_sl, x_inc, x_b32, x_b64, x_d32, x_d64, x_s64, x_un, x_lcmp, x_dup, x_pop, x_dup2, x_if, x_cmp, x_sw, swk, x_ald, x_ast, x_alen, x_getf, x_putf, x_inv, x_mm, x_copy, x_iret, x_lret, x_vret, ok1, pu, ct, rcv, rcs, ent0, List.getElem?_cons_zero, List.getElem?_cons_succ, List.getElem?_nil, List.set_cons_zero, List.set_cons_succ, List.take_succ_cons, List.take_zero, List.drop_succ_cons, List.drop_zero, List.reverse_cons, List.reverse_nil, List.nil_append, List.cons_append, List.length_cons, List.length_nil, true_and, and_true, and_self, ne_eq, not_true_eq_false, not_false_eq_true, reduceIte, true_or, or_true, false_or, or_false, Nat.reduceAdd, Nat.reduceSub, Nat.reduceMul, Nat.reduceLeDiff, Nat.reduceEqDiff, Nat.reduceLT, Nat.le_refl, Nat.zero_le, Int.reduceToNat, Int.reduceAdd, Int.reduceSub, Int.reduceMul, Int.reduceNeg, Int.reduceLT, Int.reduceLE, Int.reduceEq, Nat.zero_add, Nat.add_zero, Nat.reduceBEq, Nat.one_ne_zero, Nat.zero_ne_one, Nat.lt_irrefl, Nat.succ_ne_zero, w32_id, ixc, ixc2, Int.toNat_natCast, tl17 ht]
    (repeat' (first | assumption | (with_reducible refine And.intro ?_ ?_) | (refine im (fun hq => ?_); (try (exfalso; omega; done))) | omega))
    have F1 : Fr [tb + 2 + n, tb + 7 + n, tb + 16, tb + 17, tb + 21] h (up ma (tb + 17) n v) := by rw [hma]; exact Fr.up (Fr.up Fr.rfl (by simp)) (by simp)
    refine key mn 0 [] I0 (-1) _ (by omega) rfl (by omega) (fun _ q => q) F1 (fun n' hn' => ?_) ?_ hI40 (by rw [up_at]; exact hv) ?_ (fun j hj => absurd hj (Nat.not_lt_zero j)) rfl
    · refine ⟨by rw [up_ne (by omega), hma, up_ne (by omega)], by rw [up_nj hn', hma, up_ne (by omega)], by rw [up_ne (by omega), hma, up_nj hn']⟩
    · exact ⟨by rw [up_ne (by omega), hma, up_ne (by omega)]; exact Qh.1, by rw [up_ne (by omega), hma, up_ne (by omega)]; exact Qh.2⟩
    · rw [up_ne (by omega), hma, up_at]
  show V l (d + 3) 0 0 M_X9_serveAt 0 0 0 Q [(2, (tb : Int) + 1), (2, (nb : Int) + 1), (0, (n : Int)), (9, 0), (9, 0), (9, 0), (9, 0)] [] SHP h
  refine S_X9_serveAt_0 _ _ _ _ ?_; simp (disch := omega) only [B_X9_serveAt_0, bi_0, x_ic, x_lc, x_ld, x_st, x_sl, x_inc, x_b32, x_b64, x_d32, x_d64, x_s64, x_un, x_lcmp, x_dup, x_pop, x_dup2, x_if, x_cmp, x_sw, swk, x_ald, x_ast, x_alen, x_getf, x_putf, x_inv, x_mm, x_copy, x_iret, x_lret, x_vret, ok1, pu, ct, rcv, rcs, ent0, List.getElem?_cons_zero, List.getElem?_cons_succ, List.getElem?_nil, List.set_cons_zero, List.set_cons_succ, List.take_succ_cons, List.take_zero, List.drop_succ_cons, List.drop_zero, List.reverse_cons, List.reverse_nil, List.nil_append, List.cons_append, List.length_cons, List.length_nil, true_and, and_true, and_self, ne_eq, not_true_eq_false, not_false_eq_true, reduceIte, true_or, or_true, false_or, or_false, Nat.reduceAdd, Nat.reduceSub, Nat.reduceMul, Nat.reduceLeDiff, Nat.reduceEqDiff, Nat.reduceLT, Nat.le_refl, Nat.zero_le, Int.reduceToNat, Int.reduceAdd, Int.reduceSub, Int.reduceMul, Int.reduceNeg, Int.reduceLT, Int.reduceLE, Int.reduceEq, Nat.zero_add, Nat.add_zero, Nat.reduceBEq, Nat.one_ne_zero, Nat.zero_ne_one, Nat.lt_irrefl, Nat.succ_ne_zero, w32_id, ixc, ixc2, Int.toNat_natCast, o, tf3 L ht, tl16 ht, q1]
  (repeat' (first | assumption | (with_reducible refine And.intro ?_ ?_) | (refine im (fun hq => ?_); (try (exfalso; omega; done))) | omega))
  refine Cl.app cq ?_
  rw [← hmn]
  (try simp (disch := omega) only [bi_0, x_ic, x_lc, x_ld, x_st, x_sl, x_inc, x_b32, x_b64, x_d32, x_d64, x_s64, x_un, x_lcmp, x_dup, x_pop, x_dup2, x_if, x_cmp, x_sw, swk, x_ald, x_ast, x_alen, x_getf, x_putf, x_inv, x_mm, x_copy, x_iret, x_lret, x_vret, ok1, pu, ct, rcv, rcs, ent0, List.getElem?_cons_zero, List.getElem?_cons_succ, List.getElem?_nil, List.set_cons_zero, List.set_cons_succ, List.take_succ_cons, List.take_zero, List.drop_succ_cons, List.drop_zero, List.reverse_cons, List.reverse_nil, List.nil_append, List.cons_append, List.length_cons, List.length_nil, true_and, and_true, and_self, ne_eq, not_true_eq_false, not_false_eq_true, reduceIte, true_or, or_true, false_or, or_false, Nat.reduceAdd, Nat.reduceSub, Nat.reduceMul, Nat.reduceLeDiff, Nat.reduceEqDiff, Nat.reduceLT, Nat.le_refl, Nat.zero_le, Int.reduceToNat, Int.reduceAdd, Int.reduceSub, Int.reduceMul, Int.reduceNeg, Int.reduceLT, Int.reduceLE, Int.reduceEq, Nat.zero_add, Nat.add_zero, Nat.reduceBEq, Nat.one_ne_zero, Nat.zero_ne_one, Nat.lt_irrefl, Nat.succ_ne_zero, w32_id, ixc, ixc2, Int.toNat_natCast, o, tf8 L ht, tl21 ht])
  rw [← hma]
  (try simp (disch := omega) only [bi_0, x_ic, x_lc, x_ld, x_st, x_sl, x_inc, x_b32, x_b64, x_d32, x_d64, x_s64, x_un, x_lcmp, x_dup, x_pop, x_dup2, x_if, x_cmp, x_sw, swk, x_ald, x_ast, x_alen, x_getf, x_putf, x_inv, x_mm, x_copy, x_iret, x_lret, x_vret, ok1, pu, ct, rcv, rcs, ent0, List.getElem?_cons_zero, List.getElem?_cons_succ, List.getElem?_nil, List.set_cons_zero, List.set_cons_succ, List.take_succ_cons, List.take_zero, List.drop_succ_cons, List.drop_zero, List.reverse_cons, List.reverse_nil, List.nil_append, List.cons_append, List.length_cons, List.length_nil, true_and, and_true, and_self, ne_eq, not_true_eq_false, not_false_eq_true, reduceIte, true_or, or_true, false_or, or_false, Nat.reduceAdd, Nat.reduceSub, Nat.reduceMul, Nat.reduceLeDiff, Nat.reduceEqDiff, Nat.reduceLT, Nat.le_refl, Nat.zero_le, Int.reduceToNat, Int.reduceAdd, Int.reduceSub, Int.reduceMul, Int.reduceNeg, Int.reduceLT, Int.reduceLE, Int.reduceEq, Nat.zero_add, Nat.add_zero, Nat.reduceBEq, Nat.one_ne_zero, Nat.zero_ne_one, Nat.lt_irrefl, Nat.succ_ne_zero, w32_id, ixc, ixc2, Int.toNat_natCast, o, tf4 La ht, tf3 La ht, tl16 ht, tl17 ht, qa, za])
  refine ⟨by omega, by omega, fun z => ?_, fun z => ⟨by omega, ?_⟩⟩
  · refine S_X9_serveAt_52 _ _ _ _ ?_; simp (disch := omega) only [B_X9_serveAt_52, bi_0, x_ic, x_lc, x_ld, x_st, x_sl, x_inc, x_b32, x_b64, x_d32, x_d64, x_s64, x_un, x_lcmp, x_dup, x_pop, x_dup2, x_if, x_cmp, x_sw, swk, x_ald, x_ast, x_alen, x_getf, x_putf, x_inv, x_mm, x_copy, x_iret, x_lret, x_vret, ok1, pu, ct, rcv, rcs, ent0, List.getElem?_cons_zero, List.getElem?_cons_succ, List.getElem?_nil, List.set_cons_zero, List.set_cons_succ, List.take_succ_cons, List.take_zero, List.drop_succ_cons, List.drop_zero, List.reverse_cons, List.reverse_nil, List.nil_append, List.cons_append, List.length_cons, List.length_nil, true_and, and_true, and_self, ne_eq, not_true_eq_false, not_false_eq_true, reduceIte, true_or, or_true, false_or, or_false, Nat.reduceAdd, Nat.reduceSub, Nat.reduceMul, Nat.reduceLeDiff, Nat.reduceEqDiff, Nat.reduceLT, Nat.le_refl, Nat.zero_le, Int.reduceToNat, Int.reduceAdd, Int.reduceSub, Int.reduceMul, Int.reduceNeg, Int.reduceLT, Int.reduceLE, Int.reduceEq, Nat.zero_add, Nat.add_zero, Nat.reduceBEq, Nat.one_ne_zero, Nat.zero_ne_one, Nat.lt_irrefl, Nat.succ_ne_zero, w32_id, ixc, ixc2, Int.toNat_natCast]
    exact k53 0 (by
      by_cases e : (sel (kd nt n) fl mn (-1) I0).2 = []
      · rw [if_pos e]
      · have := eRe.mpr e; omega)
  · exact k53 _ (by rw [if_neg (eRe.mp (by omega))])
end CV

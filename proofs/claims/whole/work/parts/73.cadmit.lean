/-! the class: units put in; begun anew; copied; counts -/
theorem pu1_pt {nt : Nat → Int} {P : Nat → Wd} {n f f0 : Nat} {m c : Int} {X : TS} : pu1 nt P n f (ptP X f0 m, c) = (ptP (pu1 nt P n f (X, c)).1 f0 m, (pu1 nt P n f (X, c)).2) := by
  unfold pu1
  split
  · rename_i hc
    have hc : lvF P n ((ixs nt (usT X) (nd nt f 0).toNat).length : Int) ((usT X).length : Int) (f : Int) (tmT X : Int) = 0 := hc
    rw [if_pos hc]; rfl
  · rename_i hc
    have hc : ¬ lvF P n ((ixs nt (usT X) (nd nt f 0).toNat).length : Int) ((usT X).length : Int) (f : Int) (tmT X : Int) = 0 := hc
    rw [if_neg hc]; rfl
theorem puN_pt {nt : Nat → Int} {P : Nat → Wd} {n f f0 : Nat} {m : Int} {T : TS} : ∀ {k : Nat}, puN nt P n f (ptP T f0 m) k = (ptP (puN nt P n f T k).1 f0 m, (puN nt P n f T k).2)
  | 0 => rfl
  | k + 1 => by rw [puN, puN, puN_pt (k := k), pu1_pt]
theorem TW.pt {nt : Nat → Int} {T : TS} {f : Nat} {m : Int} (h : TW nt T) : TW nt (ptP T f m) := h
def rsT : TS := (0, [], (fun _ => 0), (fun _ => 0), (fun _ => 0), (fun _ => -1), (fun _ _ => 0))
theorem rsT_w (nt : Nat → Int) : TW nt rsT := ⟨Nat.zero_le _, Nat.zero_le _, fun k hk => absurd hk (Nat.not_lt_zero k), fun _ _ => ⟨Int.le_refl 0, Int.le_refl 0⟩, fun _ _ _ => rfl⟩
section CA
variable {l : Launch} {d : Nat} {h : Mem} {tb nb : Nat}
theorem c_admit (L : Lay h) (ht : Trf tb) (hnb : nb = 4 ∨ nb = 34) (R : RN h nb) (W : WN (h 220)) {T : TS} (C : CS h tb T) (Tw : TW (h 220) T) {P : Nat → Wd} {n : Nat} (Lc : LwC h nb P n) {f k : Nat} (hf : (f : Int) < h 220 2) (hk : k ≤ 9) : Cl l (d + 3) M_X9_admit [(2, (tb : Int) + 1), (2, (nb : Int) + 1), (0, (f : Int)), (0, (k : Int))] SHP h (fun r sh' h' => sh' = SHP ∧ Fy tb nb h h' ∧ ((¬ (tmT T < 60 ∧ (usT T).length + k ≤ 40) ∧ r = -1 ∧ h' = h) ∨ ((tmT T < 60 ∧ (usT T).length + k ≤ 40) ∧ r = (puN (h 220) P n f T k).2 ∧ CS h' tb (ptP (puN (h 220) P n f T k).1 f k)))) := by
  have o := tf_ob ht
  have s1 := (net_sh hnb).1
  have nf := W.nf
  have nn := W.nn
  have hh := W.hpB f hf
  have hf4 : f < 4 := by omega
  have htb : 72 ≤ tb ∧ tb ≤ 148 := by unfold Trf at ht; omega
  obtain ⟨c1, c2, c3, c4, c5⟩ := id C
  refine Cl_hide (fun Q hQ => ?_)
  obtain ⟨nt, ent⟩ : ∃ nt, nt = h 220 := ⟨_, rfl⟩
  have hnd := W.ndB f 0 hf (by omega)
  obtain ⟨n0, en0⟩ : ∃ n0 : Nat, nd (h 220) f 0 = (n0 : Int) := ⟨(nd (h 220) f 0).toNat, by omega⟩
  have hn0 : n0 < 4 := by omega
  have sumQ : s4 (h (tb + 16)) = ((usT T).length : Int) := sum_q (TX.nd4 W Tw.tx) Tw.2.1 (fun n' hn' => (c2 n' hn').1)
  have x3 := (R.2.2.2 f hf).2.2 0 (by omega)
  rw [en0] at x3
  have no : ¬ (tmT T < 60 ∧ (usT T).length + k ≤ 40) → V l (d + 3) 0 0 M_X9_admit 0 0 23 Q [(2, (tb : Int) + 1), (2, (nb : Int) + 1), (0, (f : Int)), (0, (k : Int)), (9, 0), (9, 0), (9, 0)] [] SHP h := by
    intro z
    refine S_X9_admit_23 _ _ _ _ ?_; simp (disch := omega) only [B_X9_admit_23, bi_0, x_ic, x_lc, x_ld, x_st, x_sl, x_inc, x_b32, x_b64, x_d32, x_d64, x_s64, x_un, x_lcmp, x_dup, x_pop, x_dup2, x_if, x_cmp, x_sw, swk, x_ald, x_ast, x_alen, x_getf, x_putf, x_inv, x_mm, x_copy, x_iret, x_lret, x_vret, ok1, pu, ct, rcv, rcs, ent0, List.getElem?_cons_zero, List.getElem?_cons_succ, List.getElem?_nil, List.set_cons_zero, List.set_cons_succ, List.take_succ_cons, List.take_zero, List.drop_succ_cons, List.drop_zero, List.reverse_cons, List.reverse_nil, List.nil_append, List.cons_append, List.length_cons, List.length_nil, true_and, and_true, and_self, ne_eq, not_true_eq_false, not_false_eq_true, reduceIte, true_or, or_true, false_or, or_false, Nat.reduceAdd, Nat.reduceSub, Nat.reduceMul, Nat.reduceLeDiff, Nat.reduceEqDiff, Nat.reduceLT, Nat.le_refl, Nat.zero_le, Int.reduceToNat, Int.reduceAdd, Int.reduceSub, Int.reduceMul, Int.reduceNeg, Int.reduceLT, Int.reduceLE, Int.reduceEq, Nat.zero_add, Nat.add_zero, Nat.reduceBEq, Nat.one_ne_zero, Nat.zero_ne_one, Nat.lt_irrefl, Nat.succ_ne_zero, w32_id, ixc, ixc2, Int.toNat_natCast]
    exact hQ _ _ _ ⟨rfl, Fx.rfl.y, Or.inl ⟨z, rfl, rfl⟩⟩
  show V l (d + 3) 0 0 M_X9_admit 0 0 0 Q [(2, (tb : Int) + 1), (2, (nb : Int) + 1), (0, (f : Int)), (0, (k : Int)), (9, 0), (9, 0), (9, 0)] [] SHP h
  refine S_X9_admit_0 _ _ _ _ ?_; simp (disch := omega) only [B_X9_admit_0, bi_0, x_ic, x_lc, x_ld, x_st, x_sl, x_inc, x_b32, x_b64, x_d32, x_d64, x_s64, x_un, x_lcmp, x_dup, x_pop, x_dup2, x_if, x_cmp, x_sw, swk, x_ald, x_ast, x_alen, x_getf, x_putf, x_inv, x_mm, x_copy, x_iret, x_lret, x_vret, ok1, pu, ct, rcv, rcs, ent0, List.getElem?_cons_zero, List.getElem?_cons_succ, List.getElem?_nil, List.set_cons_zero, List.set_cons_succ, List.take_succ_cons, List.take_zero, List.drop_succ_cons, List.drop_zero, List.reverse_cons, List.reverse_nil, List.nil_append, List.cons_append, List.length_cons, List.length_nil, true_and, and_true, and_self, ne_eq, not_true_eq_false, not_false_eq_true, reduceIte, true_or, or_true, false_or, or_false, Nat.reduceAdd, Nat.reduceSub, Nat.reduceMul, Nat.reduceLeDiff, Nat.reduceEqDiff, Nat.reduceLT, Nat.le_refl, Nat.zero_le, Int.reduceToNat, Int.reduceAdd, Int.reduceSub, Int.reduceMul, Int.reduceNeg, Int.reduceLT, Int.reduceLE, Int.reduceEq, Nat.zero_add, Nat.add_zero, Nat.reduceBEq, Nat.one_ne_zero, Nat.zero_ne_one, Nat.lt_irrefl, Nat.succ_ne_zero, w32_id, ixc, ixc2, Int.toNat_natCast, o, c1, tf3 L ht]
  refine ⟨fun z => no (by omega), fun z => ?_⟩
  refine Cl.app (c_sum (tl16 ht)) ?_
  rw [sumQ]
  have hul := Tw.2.1
  (try simp (disch := omega) only [bi_0, x_ic, x_lc, x_ld, x_st, x_sl, x_inc, x_b32, x_b64, x_d32, x_d64, x_s64, x_un, x_lcmp, x_dup, x_pop, x_dup2, x_if, x_cmp, x_sw, swk, x_ald, x_ast, x_alen, x_getf, x_putf, x_inv, x_mm, x_copy, x_iret, x_lret, x_vret, ok1, pu, ct, rcv, rcs, ent0, List.getElem?_cons_zero, List.getElem?_cons_succ, List.getElem?_nil, List.set_cons_zero, List.set_cons_succ, List.take_succ_cons, List.take_zero, List.drop_succ_cons, List.drop_zero, List.reverse_cons, List.reverse_nil, List.nil_append, List.cons_append, List.length_cons, List.length_nil, true_and, and_true, and_self, ne_eq, not_true_eq_false, not_false_eq_true, reduceIte, true_or, or_true, false_or, or_false, Nat.reduceAdd, Nat.reduceSub, Nat.reduceMul, Nat.reduceLeDiff, Nat.reduceEqDiff, Nat.reduceLT, Nat.le_refl, Nat.zero_le, Int.reduceToNat, Int.reduceAdd, Int.reduceSub, Int.reduceMul, Int.reduceNeg, Int.reduceLT, Int.reduceLE, Int.reduceEq, Nat.zero_add, Nat.add_zero, Nat.reduceBEq, Nat.one_ne_zero, Nat.zero_ne_one, Nat.lt_irrefl, Nat.succ_ne_zero, w32_id, ixc, ixc2, Int.toNat_natCast])
  refine ⟨fun z2 => ?_, fun z2 => no (by omega)⟩
  have hgo : tmT T < 60 ∧ (usT T).length + k ≤ 40 := by omega
  have pv : h (tb + 12 + f) (tmT T) = ptT T f (tmT T) := c5 f (tmT T) hf4 (by omega)
  obtain ⟨m1, hm1⟩ : ∃ m1, m1 = up h (tb + 12 + f) (tmT T) (w32 (ptT T f (tmT T) + (k : Int))) := ⟨_, rfl⟩
  have F1 : Fx tb h m1 := by rw [hm1]; exact Fx_up (by omega)
  have C1 : CS m1 tb (ptP T f k) := by
    have e220 : m1 220 = h 220 := F1.n220 ht
    refine ⟨by rw [hm1, up_ne (by omega)]; exact c1, fun n' hn' => ?_, fun n' hn' => by rw [hm1, up_ne (by omega)]; exact c3 n' hn', fun f' hf' => by rw [hm1, up_ne (by omega), up_ne (by omega), up_ne (by omega)]; exact c4 f' hf', fun f' t hf' ht' => ?_⟩
    · rw [e220]; exact ⟨by rw [hm1, up_ne (by omega)]; exact (c2 n' hn').1, by rw [hm1, up_ne (by omega)]; exact (c2 n' hn').2⟩
    · show _ = if f' = f ∧ t = tmT T then w32 (ptT T f' t + (k : Int)) else ptT T f' t
      rw [hm1]
      by_cases e : f' = f ∧ t = tmT T
      · rw [e.1, e.2, up_at, if_pos ⟨rfl, rfl⟩]
      · rw [if_neg e]
        by_cases e2 : f' = f
        · subst e2; rw [up_nj (by omega)]; exact c5 f' t hf' ht'
        · rw [up_ne (by omega)]; exact c5 f' t hf' ht'
  refine S_X9_admit_25 _ _ _ _ ?_; simp (disch := omega) only [B_X9_admit_25, bi_0, x_ic, x_lc, x_ld, x_st, x_sl, x_inc, x_b32, x_b64, x_d32, x_d64, x_s64, x_un, x_lcmp, x_dup, x_pop, x_dup2, x_if, x_cmp, x_sw, swk, x_ald, x_ast, x_alen, x_getf, x_putf, x_inv, x_mm, x_copy, x_iret, x_lret, x_vret, ok1, pu, ct, rcv, rcs, ent0, List.getElem?_cons_zero, List.getElem?_cons_succ, List.getElem?_nil, List.set_cons_zero, List.set_cons_succ, List.take_succ_cons, List.take_zero, List.drop_succ_cons, List.drop_zero, List.reverse_cons, List.reverse_nil, List.nil_append, List.cons_append, List.length_cons, List.length_nil, true_and, and_true, and_self, ne_eq, not_true_eq_false, not_false_eq_true, reduceIte, true_or, or_true, false_or, or_false, Nat.reduceAdd, Nat.reduceSub, Nat.reduceMul, Nat.reduceLeDiff, Nat.reduceEqDiff, Nat.reduceLT, Nat.le_refl, Nat.zero_le, Int.reduceToNat, Int.reduceAdd, Int.reduceSub, Int.reduceMul, Int.reduceNeg, Int.reduceLT, Int.reduceLE, Int.reduceEq, Nat.zero_add, Nat.add_zero, Nat.reduceBEq, Nat.one_ne_zero, Nat.zero_ne_one, Nat.lt_irrefl, Nat.succ_ne_zero, w32_id, ixc, ixc2, Int.toNat_natCast, s1, nf8 L hnb, nln9 hnb, (net_w L hnb hf4).1, (net_w L hnb hf4).2, x3, o, tf2 L ht, tl11 ht, tf_p L ht hf4, tlp ht hf4, c1, pv]
  rw [← hm1]
  (repeat' (first | assumption | (with_reducible refine And.intro ?_ ?_) | (refine im (fun hq => ?_); (try (exfalso; omega; done))) | omega))
  refine V_jx (pc := 56) (fun j => [(2, (tb : Int) + 1), (2, (nb : Int) + 1), (0, (f : Int)), (0, (k : Int)), (0, (n0 : Int)), (0, (puN (h 220) P n f (ptP T f k) j).2), (0, (j : Int))]) (fun j m => Fy tb nb h m ∧ CS m tb (puN (h 220) P n f (ptP T f k) j).1) k (fun j m hj J ih => ?_) (fun m J => ?_) m1 ⟨F1.y, C1⟩
  · obtain ⟨F, Cm⟩ := J
    have Lm := F.lay ht hnb L
    have e220 : m 220 = h 220 := F.n220 ht hnb
    have Rm := F.rn ht hnb R W
    have Lcm := F.lw ht hnb Lc
    obtain ⟨Tj, tj, lj⟩ := TW.putN (P := P) (n := n) W (Tw.pt (f := f) (m := k)) hf (k := j) (show (usT T).length + j ≤ 40 by omega)
    have tj : tmT (puN (h 220) P n f (ptP T f k) j).1 = tmT T := tj
    have lj : (usT (puN (h 220) P n f (ptP T f k) j).1).length ≤ (usT T).length + j := lj
    have pb := puN_b (nt := h 220) (P := P) (n := n) (f := f) (T := ptP T f k) (k := j)
    obtain ⟨X, hX⟩ : ∃ X, X = puN (h 220) P n f (ptP T f k) j := ⟨_, rfl⟩
    have eX : puN (h 220) P n f (ptP T f k) (j + 1) = pu1 (h 220) P n f X := by rw [puN, ← hX]
    rw [← hX] at Cm Tj tj lj pb ⊢
    rw [eX] at ih
    obtain ⟨d1, d2, d3, d4, d5⟩ := id Cm
    rw [e220] at d2
    have sumM : s4 (m (tb + 16)) = ((usT X.1).length : Int) := sum_q (TX.nd4 W Tj.tx) Tj.2.1 (fun n' hn' => (d2 n' hn').1)
    have qn := (d2 n0 hn0).1
    rw [qL_len] at qn
    have ep : pu1 (h 220) P n f X = if lvF P n ((ixs (h 220) (usT X.1) n0).length : Int) ((usT X.1).length : Int) (f : Int) (tmT X.1 : Int) = 0 then ((tmT X.1, usT X.1 ++ [(f, 0, tmT X.1)], bzT X.1, gnT X.1, lsT X.1, ltT X.1, ptT X.1), X.2 + 1) else ((tmT X.1, usT X.1, bzT X.1, gnT X.1, (fun i => if i = f then w32 (lsT X.1 i + 1) else lsT X.1 i), ltT X.1, ptT X.1), X.2) := by
      unfold pu1; rw [en0, Int.toNat_natCast]
    rw [ep] at ih
    have cw := c_worth (l := l) (d := d) Lm hnb Lcm ((ixs (h 220) (usT X.1) n0).length : Int) ((usT X.1).length : Int) (f : Int) (tmT X.1 : Int)
    refine S_X9_admit_56 _ _ _ _ ?_; simp (disch := omega) only [B_X9_admit_56, bi_0, x_ic, x_lc, x_ld, x_st, x_sl, x_inc, x_b32, x_b64, x_d32, x_d64, x_s64, x_un, x_lcmp, x_dup, x_pop, x_dup2, x_if, x_cmp, x_sw, swk, x_ald, x_ast, x_alen, x_getf, x_putf, x_inv, x_mm, x_copy, x_iret, x_lret, x_vret, ok1, pu, ct, rcv, rcs, ent0, List.getElem?_cons_zero, List.getElem?_cons_succ, List.getElem?_nil, List.set_cons_zero, List.set_cons_succ, List.take_succ_cons, List.take_zero, List.drop_succ_cons, List.drop_zero, List.reverse_cons, List.reverse_nil, List.nil_append, List.cons_append, List.length_cons, List.length_nil, true_and, and_true, and_self, ne_eq, not_true_eq_false, not_false_eq_true, reduceIte, true_or, or_true, false_or, or_false, Nat.reduceAdd, Nat.reduceSub, Nat.reduceMul, Nat.reduceLeDiff, Nat.reduceEqDiff, Nat.reduceLT, Nat.le_refl, Nat.zero_le, Int.reduceToNat, Int.reduceAdd, Int.reduceSub, Int.reduceMul, Int.reduceNeg, Int.reduceLT, Int.reduceLE, Int.reduceEq, Nat.zero_add, Nat.add_zero, Nat.reduceBEq, Nat.one_ne_zero, Nat.zero_ne_one, Nat.lt_irrefl, Nat.succ_ne_zero, w32_id, ixc, ixc2, Int.toNat_natCast, s1, nf10 Lm hnb, o, tf3 Lm ht, tl16 ht, qn]
    refine ⟨fun z => absurd z (by omega), fun _ => ⟨by omega, ?_⟩⟩
    refine Cl.app (c_sum (tl16 ht)) ?_
    rw [sumM]
    (try simp (disch := omega) only [bi_0, x_ic, x_lc, x_ld, x_st, x_sl, x_inc, x_b32, x_b64, x_d32, x_d64, x_s64, x_un, x_lcmp, x_dup, x_pop, x_dup2, x_if, x_cmp, x_sw, swk, x_ald, x_ast, x_alen, x_getf, x_putf, x_inv, x_mm, x_copy, x_iret, x_lret, x_vret, ok1, pu, ct, rcv, rcs, ent0, List.getElem?_cons_zero, List.getElem?_cons_succ, List.getElem?_nil, List.set_cons_zero, List.set_cons_succ, List.take_succ_cons, List.take_zero, List.drop_succ_cons, List.drop_zero, List.reverse_cons, List.reverse_nil, List.nil_append, List.cons_append, List.length_cons, List.length_nil, true_and, and_true, and_self, ne_eq, not_true_eq_false, not_false_eq_true, reduceIte, true_or, or_true, false_or, or_false, Nat.reduceAdd, Nat.reduceSub, Nat.reduceMul, Nat.reduceLeDiff, Nat.reduceEqDiff, Nat.reduceLT, Nat.le_refl, Nat.zero_le, Int.reduceToNat, Int.reduceAdd, Int.reduceSub, Int.reduceMul, Int.reduceNeg, Int.reduceLT, Int.reduceLE, Int.reduceEq, Nat.zero_add, Nat.add_zero, Nat.reduceBEq, Nat.one_ne_zero, Nat.zero_ne_one, Nat.lt_irrefl, Nat.succ_ne_zero, w32_id, ixc, ixc2, Int.toNat_natCast, o, d1, nob15 hnb])
    refine Cl.imp cw (fun r sh' h' qq => ?_)
    obtain ⟨rfl, rfl, f3⟩ := qq
    have F3 : Fy tb nb h h' := F.trans ⟨fun i q r => f3 i (by simp; exact r), fun j _ => by rw [f3 tb (by simp; omega)], fun i q => f3 i (by simp; omega)⟩
    have L3 := F3.lay ht hnb L
    have C3 : CS h' tb X.1 := Cm.fr (fun i hi => f3 i (by simp; omega))
    have g220 : h' 220 = h 220 := F3.n220 ht hnb
    obtain ⟨g1, g2, g3, g4, g5⟩ := id C3
    have lv := (g4 f hf4).2.1
    (try simp (disch := omega) only [bi_0, x_ic, x_lc, x_ld, x_st, x_sl, x_inc, x_b32, x_b64, x_d32, x_d64, x_s64, x_un, x_lcmp, x_dup, x_pop, x_dup2, x_if, x_cmp, x_sw, swk, x_ald, x_ast, x_alen, x_getf, x_putf, x_inv, x_mm, x_copy, x_iret, x_lret, x_vret, ok1, pu, ct, rcv, rcs, ent0, List.getElem?_cons_zero, List.getElem?_cons_succ, List.getElem?_nil, List.set_cons_zero, List.set_cons_succ, List.take_succ_cons, List.take_zero, List.drop_succ_cons, List.drop_zero, List.reverse_cons, List.reverse_nil, List.nil_append, List.cons_append, List.length_cons, List.length_nil, true_and, and_true, and_self, ne_eq, not_true_eq_false, not_false_eq_true, reduceIte, true_or, or_true, false_or, or_false, Nat.reduceAdd, Nat.reduceSub, Nat.reduceMul, Nat.reduceLeDiff, Nat.reduceEqDiff, Nat.reduceLT, Nat.le_refl, Nat.zero_le, Int.reduceToNat, Int.reduceAdd, Int.reduceSub, Int.reduceMul, Int.reduceNeg, Int.reduceLT, Int.reduceLE, Int.reduceEq, Nat.zero_add, Nat.add_zero, Nat.reduceBEq, Nat.one_ne_zero, Nat.zero_ne_one, Nat.lt_irrefl, Nat.succ_ne_zero, w32_id, ixc, ixc2, Int.toNat_natCast, o, tf6 L3 ht, tl19 ht, lv])
    refine ⟨fun y => ?_, fun y => ⟨by omega, by omega, ?_⟩⟩
    · rw [if_pos y] at ih
      have qk := (g2 n0 hn0).1
      have ql : (qL (h' 220) (usT X.1) n0).length < 40 := by
        rw [qL_len]; unfold ixs
        have := pl_len (p := atU (h' 220) (usT X.1) n0) (m := (usT X.1).length)
        omega
      have cb := c_bringTo (l := l) (d := d + 1) L3 ht hn0 ql qk ((f : Int) * 64 + (tmT X.1 : Int))
      refine S_X9_admit_104 _ _ _ _ ?_; simp (disch := omega) only [B_X9_admit_104, bi_0, x_ic, x_lc, x_ld, x_st, x_sl, x_inc, x_b32, x_b64, x_d32, x_d64, x_s64, x_un, x_lcmp, x_dup, x_pop, x_dup2, x_if, x_cmp, x_sw, swk, x_ald, x_ast, x_alen, x_getf, x_putf, x_inv, x_mm, x_copy, x_iret, x_lret, x_vret, ok1, pu, ct, rcv, rcs, ent0, List.getElem?_cons_zero, List.getElem?_cons_succ, List.getElem?_nil, List.set_cons_zero, List.set_cons_succ, List.take_succ_cons, List.take_zero, List.drop_succ_cons, List.drop_zero, List.reverse_cons, List.reverse_nil, List.nil_append, List.cons_append, List.length_cons, List.length_nil, true_and, and_true, and_self, ne_eq, not_true_eq_false, not_false_eq_true, reduceIte, true_or, or_true, false_or, or_false, Nat.reduceAdd, Nat.reduceSub, Nat.reduceMul, Nat.reduceLeDiff, Nat.reduceEqDiff, Nat.reduceLT, Nat.le_refl, Nat.zero_le, Int.reduceToNat, Int.reduceAdd, Int.reduceSub, Int.reduceMul, Int.reduceNeg, Int.reduceLT, Int.reduceLE, Int.reduceEq, Nat.zero_add, Nat.add_zero, Nat.reduceBEq, Nat.one_ne_zero, Nat.zero_ne_one, Nat.lt_irrefl, Nat.succ_ne_zero, w32_id, ixc, ixc2, Int.toNat_natCast, o, g1]
      refine Cl.app cb ?_
      (try simp (disch := omega) only [bi_0, x_ic, x_lc, x_ld, x_st, x_sl, x_inc, x_b32, x_b64, x_d32, x_d64, x_s64, x_un, x_lcmp, x_dup, x_pop, x_dup2, x_if, x_cmp, x_sw, swk, x_ald, x_ast, x_alen, x_getf, x_putf, x_inv, x_mm, x_copy, x_iret, x_lret, x_vret, ok1, pu, ct, rcv, rcs, ent0, List.getElem?_cons_zero, List.getElem?_cons_succ, List.getElem?_nil, List.set_cons_zero, List.set_cons_succ, List.take_succ_cons, List.take_zero, List.drop_succ_cons, List.drop_zero, List.reverse_cons, List.reverse_nil, List.nil_append, List.cons_append, List.length_cons, List.length_nil, true_and, and_true, and_self, ne_eq, not_true_eq_false, not_false_eq_true, reduceIte, true_or, or_true, false_or, or_false, Nat.reduceAdd, Nat.reduceSub, Nat.reduceMul, Nat.reduceLeDiff, Nat.reduceEqDiff, Nat.reduceLT, Nat.le_refl, Nat.zero_le, Int.reduceToNat, Int.reduceAdd, Int.reduceSub, Int.reduceMul, Int.reduceNeg, Int.reduceLT, Int.reduceLE, Int.reduceEq, Nat.zero_add, Nat.add_zero, Nat.reduceBEq, Nat.one_ne_zero, Nat.zero_ne_one, Nat.lt_irrefl, Nat.succ_ne_zero, w32_id, ixc, ixc2, Int.toNat_natCast])
      refine S_X9_admit_122 _ _ _ _ ?_; simp (disch := omega) only [B_X9_admit_122, bi_0, x_ic, x_lc, x_ld, x_st, x_sl, x_inc, x_b32, x_b64, x_d32, x_d64, x_s64, x_un, x_lcmp, x_dup, x_pop, x_dup2, x_if, x_cmp, x_sw, swk, x_ald, x_ast, x_alen, x_getf, x_putf, x_inv, x_mm, x_copy, x_iret, x_lret, x_vret, ok1, pu, ct, rcv, rcs, ent0, List.getElem?_cons_zero, List.getElem?_cons_succ, List.getElem?_nil, List.set_cons_zero, List.set_cons_succ, List.take_succ_cons, List.take_zero, List.drop_succ_cons, List.drop_zero, List.reverse_cons, List.reverse_nil, List.nil_append, List.cons_append, List.length_cons, List.length_nil, true_and, and_true, and_self, ne_eq, not_true_eq_false, not_false_eq_true, reduceIte, true_or, or_true, false_or, or_false, Nat.reduceAdd, Nat.reduceSub, Nat.reduceMul, Nat.reduceLeDiff, Nat.reduceEqDiff, Nat.reduceLT, Nat.le_refl, Nat.zero_le, Int.reduceToNat, Int.reduceAdd, Int.reduceSub, Int.reduceMul, Int.reduceNeg, Int.reduceLT, Int.reduceLE, Int.reduceEq, Nat.zero_add, Nat.add_zero, Nat.reduceBEq, Nat.one_ne_zero, Nat.zero_ne_one, Nat.lt_irrefl, Nat.succ_ne_zero, w32_id, ixc, ixc2, Int.toNat_natCast]
      refine ih _ ?_
      refine ⟨F3.trans (Fx.y ((Fx_up (by omega)).trans (Fx_up (by omega)))), ?_⟩
      exact C3.ent hn0 (u := (f, 0, tmT X.1)) (by rw [g220]; exact en0) qk ht
    · rw [if_neg y] at ih
      refine S_X9_admit_122 _ _ _ _ ?_; simp (disch := omega) only [B_X9_admit_122, bi_0, x_ic, x_lc, x_ld, x_st, x_sl, x_inc, x_b32, x_b64, x_d32, x_d64, x_s64, x_un, x_lcmp, x_dup, x_pop, x_dup2, x_if, x_cmp, x_sw, swk, x_ald, x_ast, x_alen, x_getf, x_putf, x_inv, x_mm, x_copy, x_iret, x_lret, x_vret, ok1, pu, ct, rcv, rcs, ent0, List.getElem?_cons_zero, List.getElem?_cons_succ, List.getElem?_nil, List.set_cons_zero, List.set_cons_succ, List.take_succ_cons, List.take_zero, List.drop_succ_cons, List.drop_zero, List.reverse_cons, List.reverse_nil, List.nil_append, List.cons_append, List.length_cons, List.length_nil, true_and, and_true, and_self, ne_eq, not_true_eq_false, not_false_eq_true, reduceIte, true_or, or_true, false_or, or_false, Nat.reduceAdd, Nat.reduceSub, Nat.reduceMul, Nat.reduceLeDiff, Nat.reduceEqDiff, Nat.reduceLT, Nat.le_refl, Nat.zero_le, Int.reduceToNat, Int.reduceAdd, Int.reduceSub, Int.reduceMul, Int.reduceNeg, Int.reduceLT, Int.reduceLE, Int.reduceEq, Nat.zero_add, Nat.add_zero, Nat.reduceBEq, Nat.one_ne_zero, Nat.zero_ne_one, Nat.lt_irrefl, Nat.succ_ne_zero, w32_id, ixc, ixc2, Int.toNat_natCast]
      refine ih _ ?_
      refine ⟨F3.trans (Fx.y (Fx_up (by omega))), ?_⟩
      have u220 : up h' (tb + 19) f (w32 (lsT X.1 f + 1)) 220 = h' 220 := up_ne (by omega)
      refine ⟨by rw [up_ne (by omega)]; exact g1, fun n' hn' => by rw [u220]; exact ⟨by rw [up_ne (by omega)]; exact (g2 n' hn').1, by rw [up_ne (by omega)]; exact (g2 n' hn').2⟩, fun n' hn' => by rw [up_ne (by omega)]; exact g3 n' hn', fun f' hf' => ?_, fun f' t hf' ht' => by rw [up_ne (by omega)]; exact g5 f' t hf' ht'⟩
      show _ = gnT X.1 f' ∧ _ = (if f' = f then w32 (lsT X.1 f' + 1) else lsT X.1 f') ∧ _ = ltT X.1 f'
      have g4 := g4 f' hf'
      refine ⟨by rw [up_ne (by omega)]; exact g4.1, ?_, by rw [up_ne (by omega)]; exact g4.2.2⟩
      by_cases e : f' = f
      · rw [e, up_at, if_pos rfl]
      · rw [up_nj e, if_neg e]; exact g4.2.1
  · obtain ⟨F, Cm⟩ := J
    refine S_X9_admit_56 _ _ _ _ ?_; simp (disch := omega) only [B_X9_admit_56, bi_0, x_ic, x_lc, x_ld, x_st, x_sl, x_inc, x_b32, x_b64, x_d32, x_d64, x_s64, x_un, x_lcmp, x_dup, x_pop, x_dup2, x_if, x_cmp, x_sw, swk, x_ald, x_ast, x_alen, x_getf, x_putf, x_inv, x_mm, x_copy, x_iret, x_lret, x_vret, ok1, pu, ct, rcv, rcs, ent0, List.getElem?_cons_zero, List.getElem?_cons_succ, List.getElem?_nil, List.set_cons_zero, List.set_cons_succ, List.take_succ_cons, List.take_zero, List.drop_succ_cons, List.drop_zero, List.reverse_cons, List.reverse_nil, List.nil_append, List.cons_append, List.length_cons, List.length_nil, true_and, and_true, and_self, ne_eq, not_true_eq_false, not_false_eq_true, reduceIte, true_or, or_true, false_or, or_false, Nat.reduceAdd, Nat.reduceSub, Nat.reduceMul, Nat.reduceLeDiff, Nat.reduceEqDiff, Nat.reduceLT, Nat.le_refl, Nat.zero_le, Int.reduceToNat, Int.reduceAdd, Int.reduceSub, Int.reduceMul, Int.reduceNeg, Int.reduceLT, Int.reduceLE, Int.reduceEq, Nat.zero_add, Nat.add_zero, Nat.reduceBEq, Nat.one_ne_zero, Nat.zero_ne_one, Nat.lt_irrefl, Nat.succ_ne_zero, w32_id, ixc, ixc2, Int.toNat_natCast]
    refine ⟨fun _ => ?_, fun z => absurd z (by omega)⟩
    refine S_X9_admit_128 _ _ _ _ ?_; simp (disch := omega) only [B_X9_admit_128, bi_0, x_ic, x_lc, x_ld, x_st, x_sl, x_inc, x_b32, x_b64, x_d32, x_d64, x_s64, x_un, x_lcmp, x_dup, x_pop, x_dup2, x_if, x_cmp, x_sw, swk, x_ald, x_ast, x_alen, x_getf, x_putf, x_inv, x_mm, x_copy, x_iret, x_lret, x_vret, ok1, pu, ct, rcv, rcs, ent0, List.getElem?_cons_zero, List.getElem?_cons_succ, List.getElem?_nil, List.set_cons_zero, List.set_cons_succ, List.take_succ_cons, List.take_zero, List.drop_succ_cons, List.drop_zero, List.reverse_cons, List.reverse_nil, List.nil_append, List.cons_append, List.length_cons, List.length_nil, true_and, and_true, and_self, ne_eq, not_true_eq_false, not_false_eq_true, reduceIte, true_or, or_true, false_or, or_false, Nat.reduceAdd, Nat.reduceSub, Nat.reduceMul, Nat.reduceLeDiff, Nat.reduceEqDiff, Nat.reduceLT, Nat.le_refl, Nat.zero_le, Int.reduceToNat, Int.reduceAdd, Int.reduceSub, Int.reduceMul, Int.reduceNeg, Int.reduceLT, Int.reduceLE, Int.reduceEq, Nat.zero_add, Nat.add_zero, Nat.reduceBEq, Nat.one_ne_zero, Nat.zero_ne_one, Nat.lt_irrefl, Nat.succ_ne_zero, w32_id, ixc, ixc2, Int.toNat_natCast]
    rw [puN_pt] at Cm ⊢
    exact hQ _ _ _ ⟨rfl, F, Or.inr ⟨hgo, rfl, Cm⟩⟩
theorem c_reset (L : Lay h) (ht : Trf tb) : Cl l (d + 1) M_X9_reset [(2, (tb : Int) + 1)] SHP h (fun r sh' h' => r = 0 ∧ sh' = SHP ∧ Fx tb h h' ∧ CS h' tb rsT) := by
  have o := tf_ob ht
  have htb : 72 ≤ tb ∧ tb ≤ 148 := by unfold Trf at ht; omega
  refine Cl_hide (fun Q hQ => ?_)
  show V l (d + 1) 0 0 M_X9_reset 0 0 0 Q [(2, (tb : Int) + 1), (9, 0), (9, 0)] [] SHP h
  refine S_X9_reset_0 _ _ _ _ ?_; simp (disch := omega) only [B_X9_reset_0, bi_0, x_ic, x_lc, x_ld, x_st, x_sl, x_inc, x_b32, x_b64, x_d32, x_d64, x_s64, x_un, x_lcmp, x_dup, x_pop, x_dup2, x_if, x_cmp, x_sw, swk, x_ald, x_ast, x_alen, x_getf, x_putf, x_inv, x_mm, x_copy, x_iret, x_lret, x_vret, ok1, pu, ct, rcv, rcs, ent0, List.getElem?_cons_zero, List.getElem?_cons_succ, List.getElem?_nil, List.set_cons_zero, List.set_cons_succ, List.take_succ_cons, List.take_zero, List.drop_succ_cons, List.drop_zero, List.reverse_cons, List.reverse_nil, List.nil_append, List.cons_append, List.length_cons, List.length_nil, true_and, and_true, and_self, ne_eq, not_true_eq_false, not_false_eq_true, reduceIte, true_or, or_true, false_or, or_false, Nat.reduceAdd, Nat.reduceSub, Nat.reduceMul, Nat.reduceLeDiff, Nat.reduceEqDiff, Nat.reduceLT, Nat.le_refl, Nat.zero_le, Int.reduceToNat, Int.reduceAdd, Int.reduceSub, Int.reduceMul, Int.reduceNeg, Int.reduceLT, Int.reduceLE, Int.reduceEq, Nat.zero_add, Nat.add_zero, Nat.reduceBEq, Nat.one_ne_zero, Nat.zero_ne_one, Nat.lt_irrefl, Nat.succ_ne_zero, w32_id, ixc, ixc2, Int.toNat_natCast, o]
  refine V_jx (pc := 7) (fun n => [(2, (tb : Int) + 1), (0, (n : Int)), (9, 0)]) (fun n m => Fx tb h m ∧ m tb 10 = 0 ∧ ∀ n', n' < n → m (tb + 16) n' = 0 ∧ m (tb + 17) n' = 0) 4 (fun n m hn J ih => ?_) (fun m J => ?_) _ ⟨Fx_fld, up_at, fun n' q => absurd q (by omega)⟩
  · obtain ⟨F, J1, J2⟩ := J
    have Lm := F.lay ht L
    have L2 : Lay (up m (tb + 16) n 0) := (F.trans (Fx_up (by omega))).lay ht L
    refine S_X9_reset_7 _ _ _ _ ?_; simp (disch := omega) only [B_X9_reset_7, bi_0, x_ic, x_lc, x_ld, x_st, x_sl, x_inc, x_b32, x_b64, x_d32, x_d64, x_s64, x_un, x_lcmp, x_dup, x_pop, x_dup2, x_if, x_cmp, x_sw, swk, x_ald, x_ast, x_alen, x_getf, x_putf, x_inv, x_mm, x_copy, x_iret, x_lret, x_vret, ok1, pu, ct, rcv, rcs, ent0, List.getElem?_cons_zero, List.getElem?_cons_succ, List.getElem?_nil, List.set_cons_zero, List.set_cons_succ, List.take_succ_cons, List.take_zero, List.drop_succ_cons, List.drop_zero, List.reverse_cons, List.reverse_nil, List.nil_append, List.cons_append, List.length_cons, List.length_nil, true_and, and_true, and_self, ne_eq, not_true_eq_false, not_false_eq_true, reduceIte, true_or, or_true, false_or, or_false, Nat.reduceAdd, Nat.reduceSub, Nat.reduceMul, Nat.reduceLeDiff, Nat.reduceEqDiff, Nat.reduceLT, Nat.le_refl, Nat.zero_le, Int.reduceToNat, Int.reduceAdd, Int.reduceSub, Int.reduceMul, Int.reduceNeg, Int.reduceLT, Int.reduceLE, Int.reduceEq, Nat.zero_add, Nat.add_zero, Nat.reduceBEq, Nat.one_ne_zero, Nat.zero_ne_one, Nat.lt_irrefl, Nat.succ_ne_zero, w32_id, ixc, ixc2, Int.toNat_natCast, o, tf3 Lm ht, tl16 ht, tf4 L2 ht, tl17 ht]
    (repeat' (first | assumption | (with_reducible refine And.intro ?_ ?_) | (refine im (fun hq => ?_); (try (exfalso; omega; done))) | omega))
    refine ih _ ?_
    refine ⟨(F.trans (Fx_up (by omega))).trans (Fx_up (by omega)), by rw [up_ne (by omega), up_ne (by omega)]; exact J1, fun n' q => ?_⟩
    by_cases e : n' = n
    · subst e; exact ⟨by rw [up_ne (by omega), up_at], by rw [up_at]⟩
    · have := J2 n' (by omega)
      exact ⟨by rw [up_ne (by omega), up_nj e]; exact this.1, by rw [up_nj e, up_ne (by omega)]; exact this.2⟩
  · obtain ⟨F, J1, J2⟩ := J
    refine S_X9_reset_7 _ _ _ _ ?_; simp (disch := omega) only [B_X9_reset_7, bi_0, x_ic, x_lc, x_ld, x_st, x_sl, x_inc, x_b32, x_b64, x_d32, x_d64, x_s64, x_un, x_lcmp, x_dup, x_pop, x_dup2, x_if, x_cmp, x_sw, swk, x_ald, x_ast, x_alen, x_getf, x_putf, x_inv, x_mm, x_copy, x_iret, x_lret, x_vret, ok1, pu, ct, rcv, rcs, ent0, List.getElem?_cons_zero, List.getElem?_cons_succ, List.getElem?_nil, List.set_cons_zero, List.set_cons_succ, List.take_succ_cons, List.take_zero, List.drop_succ_cons, List.drop_zero, List.reverse_cons, List.reverse_nil, List.nil_append, List.cons_append, List.length_cons, List.length_nil, true_and, and_true, and_self, ne_eq, not_true_eq_false, not_false_eq_true, reduceIte, true_or, or_true, false_or, or_false, Nat.reduceAdd, Nat.reduceSub, Nat.reduceMul, Nat.reduceLeDiff, Nat.reduceEqDiff, Nat.reduceLT, Nat.le_refl, Nat.zero_le, Int.reduceToNat, Int.reduceAdd, Int.reduceSub, Int.reduceMul, Int.reduceNeg, Int.reduceLT, Int.reduceLE, Int.reduceEq, Nat.zero_add, Nat.add_zero, Nat.reduceBEq, Nat.one_ne_zero, Nat.zero_ne_one, Nat.lt_irrefl, Nat.succ_ne_zero, w32_id, ixc, ixc2, Int.toNat_natCast]
    refine ⟨fun _ => ?_, fun z => absurd z (by omega)⟩
    refine S_X9_reset_32 _ _ _ _ ?_; simp (disch := omega) only [B_X9_reset_32, bi_0, x_ic, x_lc, x_ld, x_st, x_sl, x_inc, x_b32, x_b64, x_d32, x_d64, x_s64, x_un, x_lcmp, x_dup, x_pop, x_dup2, x_if, x_cmp, x_sw, swk, x_ald, x_ast, x_alen, x_getf, x_putf, x_inv, x_mm, x_copy, x_iret, x_lret, x_vret, ok1, pu, ct, rcv, rcs, ent0, List.getElem?_cons_zero, List.getElem?_cons_succ, List.getElem?_nil, List.set_cons_zero, List.set_cons_succ, List.take_succ_cons, List.take_zero, List.drop_succ_cons, List.drop_zero, List.reverse_cons, List.reverse_nil, List.nil_append, List.cons_append, List.length_cons, List.length_nil, true_and, and_true, and_self, ne_eq, not_true_eq_false, not_false_eq_true, reduceIte, true_or, or_true, false_or, or_false, Nat.reduceAdd, Nat.reduceSub, Nat.reduceMul, Nat.reduceLeDiff, Nat.reduceEqDiff, Nat.reduceLT, Nat.le_refl, Nat.zero_le, Int.reduceToNat, Int.reduceAdd, Int.reduceSub, Int.reduceMul, Int.reduceNeg, Int.reduceLT, Int.reduceLE, Int.reduceEq, Nat.zero_add, Nat.add_zero, Nat.reduceBEq, Nat.one_ne_zero, Nat.zero_ne_one, Nat.lt_irrefl, Nat.succ_ne_zero, w32_id, ixc, ixc2, Int.toNat_natCast]
    refine V_jx (pc := 34) (fun f => [(2, (tb : Int) + 1), (0, (f : Int)), (9, 0)]) (fun f m => Fx tb h m ∧ m tb 10 = 0 ∧ (∀ n', n' < 4 → m (tb + 16) n' = 0 ∧ m (tb + 17) n' = 0) ∧ ∀ f', f' < f → (m (tb + 18) f' = 0 ∧ m (tb + 19) f' = 0 ∧ m (tb + 20) f' = -1) ∧ ∀ t, t ≤ 60 → m (tb + 12 + f') t = 0) 4 (fun f m hf J ih => ?_) (fun m J => ?_) m ⟨F, J1, J2, fun n' q => absurd q (by omega)⟩
    · obtain ⟨F, J1, J2, J3⟩ := J
      have Lm := F.lay ht L
      have F2 : Fx tb h (up m (tb + 18) f 0) := F.trans (Fx_up (by omega))
      have F3 : Fx tb h (up (up m (tb + 18) f 0) (tb + 19) f 0) := F2.trans (Fx_up (by omega))
      have F4 : Fx tb h (up (up (up m (tb + 18) f 0) (tb + 19) f 0) (tb + 20) f (-1)) := F3.trans (Fx_up (by omega))
      have L2 := F2.lay ht L
      have L3 := F3.lay ht L
      refine S_X9_reset_34 _ _ _ _ ?_; simp (disch := omega) only [B_X9_reset_34, bi_0, x_ic, x_lc, x_ld, x_st, x_sl, x_inc, x_b32, x_b64, x_d32, x_d64, x_s64, x_un, x_lcmp, x_dup, x_pop, x_dup2, x_if, x_cmp, x_sw, swk, x_ald, x_ast, x_alen, x_getf, x_putf, x_inv, x_mm, x_copy, x_iret, x_lret, x_vret, ok1, pu, ct, rcv, rcs, ent0, List.getElem?_cons_zero, List.getElem?_cons_succ, List.getElem?_nil, List.set_cons_zero, List.set_cons_succ, List.take_succ_cons, List.take_zero, List.drop_succ_cons, List.drop_zero, List.reverse_cons, List.reverse_nil, List.nil_append, List.cons_append, List.length_cons, List.length_nil, true_and, and_true, and_self, ne_eq, not_true_eq_false, not_false_eq_true, reduceIte, true_or, or_true, false_or, or_false, Nat.reduceAdd, Nat.reduceSub, Nat.reduceMul, Nat.reduceLeDiff, Nat.reduceEqDiff, Nat.reduceLT, Nat.le_refl, Nat.zero_le, Int.reduceToNat, Int.reduceAdd, Int.reduceSub, Int.reduceMul, Int.reduceNeg, Int.reduceLT, Int.reduceLE, Int.reduceEq, Nat.zero_add, Nat.add_zero, Nat.reduceBEq, Nat.one_ne_zero, Nat.zero_ne_one, Nat.lt_irrefl, Nat.succ_ne_zero, w32_id, ixc, ixc2, Int.toNat_natCast, o, tf5 Lm ht, tl18 ht, tf6 L2 ht, tl19 ht, tf7 L3 ht, tl20 ht]
      (repeat' (first | assumption | (with_reducible refine And.intro ?_ ?_) | (refine im (fun hq => ?_); (try (exfalso; omega; done))) | omega))
      refine V_jx (pc := 62) (fun t => [(2, (tb : Int) + 1), (0, (f : Int)), (0, (t : Int))]) (fun t m => Fx tb h m ∧ m tb 10 = 0 ∧ (∀ n', n' < 4 → m (tb + 16) n' = 0 ∧ m (tb + 17) n' = 0) ∧ (∀ f', f' < f → (m (tb + 18) f' = 0 ∧ m (tb + 19) f' = 0 ∧ m (tb + 20) f' = -1) ∧ ∀ t, t ≤ 60 → m (tb + 12 + f') t = 0) ∧ (m (tb + 18) f = 0 ∧ m (tb + 19) f = 0 ∧ m (tb + 20) f = -1) ∧ ∀ t', t' < t → m (tb + 12 + f) t' = 0) 61 (fun t m htt J ih2 => ?_) (fun m J => ?_) _ ⟨F4, by rw [up_ne (by omega), up_ne (by omega), up_ne (by omega)]; exact J1, fun n' hn' => by rw [up_ne (by omega), up_ne (by omega), up_ne (by omega), up_ne (by omega), up_ne (by omega), up_ne (by omega)]; exact J2 n' hn', fun f' hf' => ?_, ?_, fun t' q => absurd q (by omega)⟩
      · obtain ⟨F, J1, J2, J3, J4, J5⟩ := J
        have Lm := F.lay ht L
        refine S_X9_reset_62 _ _ _ _ ?_; simp (disch := omega) only [B_X9_reset_62, bi_0, x_ic, x_lc, x_ld, x_st, x_sl, x_inc, x_b32, x_b64, x_d32, x_d64, x_s64, x_un, x_lcmp, x_dup, x_pop, x_dup2, x_if, x_cmp, x_sw, swk, x_ald, x_ast, x_alen, x_getf, x_putf, x_inv, x_mm, x_copy, x_iret, x_lret, x_vret, ok1, pu, ct, rcv, rcs, ent0, List.getElem?_cons_zero, List.getElem?_cons_succ, List.getElem?_nil, List.set_cons_zero, List.set_cons_succ, List.take_succ_cons, List.take_zero, List.drop_succ_cons, List.drop_zero, List.reverse_cons, List.reverse_nil, List.nil_append, List.cons_append, List.length_cons, List.length_nil, true_and, and_true, and_self, ne_eq, not_true_eq_false, not_false_eq_true, reduceIte, true_or, or_true, false_or, or_false, Nat.reduceAdd, Nat.reduceSub, Nat.reduceMul, Nat.reduceLeDiff, Nat.reduceEqDiff, Nat.reduceLT, Nat.le_refl, Nat.zero_le, Int.reduceToNat, Int.reduceAdd, Int.reduceSub, Int.reduceMul, Int.reduceNeg, Int.reduceLT, Int.reduceLE, Int.reduceEq, Nat.zero_add, Nat.add_zero, Nat.reduceBEq, Nat.one_ne_zero, Nat.zero_ne_one, Nat.lt_irrefl, Nat.succ_ne_zero, w32_id, ixc, ixc2, Int.toNat_natCast, o, tf2 Lm ht, tl11 ht, tf_p Lm ht hf, tlp ht hf]
        (repeat' (first | assumption | (with_reducible refine And.intro ?_ ?_) | (refine im (fun hq => ?_); (try (exfalso; omega; done))) | omega))
        refine ih2 _ ?_
        refine ⟨F.trans (Fx_up (by omega)), by rw [up_ne (by omega)]; exact J1, fun n' hn' => by rw [up_ne (by omega), up_ne (by omega)]; exact J2 n' hn', fun f' hf' => ?_, by rw [up_ne (by omega), up_ne (by omega), up_ne (by omega)]; exact J4, fun t' q => ?_⟩
        · have := J3 f' hf'
          exact ⟨by rw [up_ne (by omega), up_ne (by omega), up_ne (by omega)]; exact this.1, fun t ht => by rw [up_ne (by omega)]; exact this.2 t ht⟩
        · by_cases e : t' = t
          · subst e; rw [up_at]
          · rw [up_nj e]; exact J5 t' (by omega)
      · obtain ⟨F, J1, J2, J3, J4, J5⟩ := J
        refine S_X9_reset_62 _ _ _ _ ?_; simp (disch := omega) only [B_X9_reset_62, bi_0, x_ic, x_lc, x_ld, x_st, x_sl, x_inc, x_b32, x_b64, x_d32, x_d64, x_s64, x_un, x_lcmp, x_dup, x_pop, x_dup2, x_if, x_cmp, x_sw, swk, x_ald, x_ast, x_alen, x_getf, x_putf, x_inv, x_mm, x_copy, x_iret, x_lret, x_vret, ok1, pu, ct, rcv, rcs, ent0, List.getElem?_cons_zero, List.getElem?_cons_succ, List.getElem?_nil, List.set_cons_zero, List.set_cons_succ, List.take_succ_cons, List.take_zero, List.drop_succ_cons, List.drop_zero, List.reverse_cons, List.reverse_nil, List.nil_append, List.cons_append, List.length_cons, List.length_nil, true_and, and_true, and_self, ne_eq, not_true_eq_false, not_false_eq_true, reduceIte, true_or, or_true, false_or, or_false, Nat.reduceAdd, Nat.reduceSub, Nat.reduceMul, Nat.reduceLeDiff, Nat.reduceEqDiff, Nat.reduceLT, Nat.le_refl, Nat.zero_le, Int.reduceToNat, Int.reduceAdd, Int.reduceSub, Int.reduceMul, Int.reduceNeg, Int.reduceLT, Int.reduceLE, Int.reduceEq, Nat.zero_add, Nat.add_zero, Nat.reduceBEq, Nat.one_ne_zero, Nat.zero_ne_one, Nat.lt_irrefl, Nat.succ_ne_zero, w32_id, ixc, ixc2, Int.toNat_natCast]
        refine ⟨fun _ => ?_, fun z => absurd z (by omega)⟩
        refine S_X9_reset_83 _ _ _ _ ?_; simp (disch := omega) only [B_X9_reset_83, bi_0, x_ic, x_lc, x_ld, x_st, x_sl, x_inc, x_b32, x_b64, x_d32, x_d64, x_s64, x_un, x_lcmp, x_dup, x_pop, x_dup2, x_if, x_cmp, x_sw, swk, x_ald, x_ast, x_alen, x_getf, x_putf, x_inv, x_mm, x_copy, x_iret, x_lret, x_vret, ok1, pu, ct, rcv, rcs, ent0, List.getElem?_cons_zero, List.getElem?_cons_succ, List.getElem?_nil, List.set_cons_zero, List.set_cons_succ, List.take_succ_cons, List.take_zero, List.drop_succ_cons, List.drop_zero, List.reverse_cons, List.reverse_nil, List.nil_append, List.cons_append, List.length_cons, List.length_nil, true_and, and_true, and_self, ne_eq, not_true_eq_false, not_false_eq_true, reduceIte, true_or, or_true, false_or, or_false, Nat.reduceAdd, Nat.reduceSub, Nat.reduceMul, Nat.reduceLeDiff, Nat.reduceEqDiff, Nat.reduceLT, Nat.le_refl, Nat.zero_le, Int.reduceToNat, Int.reduceAdd, Int.reduceSub, Int.reduceMul, Int.reduceNeg, Int.reduceLT, Int.reduceLE, Int.reduceEq, Nat.zero_add, Nat.add_zero, Nat.reduceBEq, Nat.one_ne_zero, Nat.zero_ne_one, Nat.lt_irrefl, Nat.succ_ne_zero, w32_id, ixc, ixc2, Int.toNat_natCast]
        refine V_fg [2] ?_
        refine ih _ ?_
        refine ⟨F, J1, J2, fun f' hf' => ?_⟩
        by_cases e : f' = f
        · subst e; exact ⟨J4, fun t ht => J5 t (by omega)⟩
        · exact J3 f' (by omega)
      · have := J3 f' hf'
        exact ⟨by rw [up_ne (by omega), up_ne (by omega), up_nj (by omega), up_ne (by omega), up_nj (by omega), up_ne (by omega), up_nj (by omega), up_ne (by omega), up_ne (by omega)]; exact this.1, fun t ht => by rw [up_ne (by omega), up_ne (by omega), up_ne (by omega)]; exact this.2 t ht⟩
      · exact ⟨by rw [up_ne (by omega), up_ne (by omega), up_at], by rw [up_ne (by omega), up_at], by rw [up_at]⟩
    · obtain ⟨F, J1, J2, J3⟩ := J
      refine S_X9_reset_34 _ _ _ _ ?_; simp (disch := omega) only [B_X9_reset_34, bi_0, x_ic, x_lc, x_ld, x_st, x_sl, x_inc, x_b32, x_b64, x_d32, x_d64, x_s64, x_un, x_lcmp, x_dup, x_pop, x_dup2, x_if, x_cmp, x_sw, swk, x_ald, x_ast, x_alen, x_getf, x_putf, x_inv, x_mm, x_copy, x_iret, x_lret, x_vret, ok1, pu, ct, rcv, rcs, ent0, List.getElem?_cons_zero, List.getElem?_cons_succ, List.getElem?_nil, List.set_cons_zero, List.set_cons_succ, List.take_succ_cons, List.take_zero, List.drop_succ_cons, List.drop_zero, List.reverse_cons, List.reverse_nil, List.nil_append, List.cons_append, List.length_cons, List.length_nil, true_and, and_true, and_self, ne_eq, not_true_eq_false, not_false_eq_true, reduceIte, true_or, or_true, false_or, or_false, Nat.reduceAdd, Nat.reduceSub, Nat.reduceMul, Nat.reduceLeDiff, Nat.reduceEqDiff, Nat.reduceLT, Nat.le_refl, Nat.zero_le, Int.reduceToNat, Int.reduceAdd, Int.reduceSub, Int.reduceMul, Int.reduceNeg, Int.reduceLT, Int.reduceLE, Int.reduceEq, Nat.zero_add, Nat.add_zero, Nat.reduceBEq, Nat.one_ne_zero, Nat.zero_ne_one, Nat.lt_irrefl, Nat.succ_ne_zero, w32_id, ixc, ixc2, Int.toNat_natCast]
      refine ⟨fun _ => ?_, fun z => absurd z (by omega)⟩
      refine S_X9_reset_89 _ _ _ _ ?_; simp (disch := omega) only [B_X9_reset_89, bi_0, x_ic, x_lc, x_ld, x_st, x_sl, x_inc, x_b32, x_b64, x_d32, x_d64, x_s64, x_un, x_lcmp, x_dup, x_pop, x_dup2, x_if, x_cmp, x_sw, swk, x_ald, x_ast, x_alen, x_getf, x_putf, x_inv, x_mm, x_copy, x_iret, x_lret, x_vret, ok1, pu, ct, rcv, rcs, ent0, List.getElem?_cons_zero, List.getElem?_cons_succ, List.getElem?_nil, List.set_cons_zero, List.set_cons_succ, List.take_succ_cons, List.take_zero, List.drop_succ_cons, List.drop_zero, List.reverse_cons, List.reverse_nil, List.nil_append, List.cons_append, List.length_cons, List.length_nil, true_and, and_true, and_self, ne_eq, not_true_eq_false, not_false_eq_true, reduceIte, true_or, or_true, false_or, or_false, Nat.reduceAdd, Nat.reduceSub, Nat.reduceMul, Nat.reduceLeDiff, Nat.reduceEqDiff, Nat.reduceLT, Nat.le_refl, Nat.zero_le, Int.reduceToNat, Int.reduceAdd, Int.reduceSub, Int.reduceMul, Int.reduceNeg, Int.reduceLT, Int.reduceLE, Int.reduceEq, Nat.zero_add, Nat.add_zero, Nat.reduceBEq, Nat.one_ne_zero, Nat.zero_ne_one, Nat.lt_irrefl, Nat.succ_ne_zero, w32_id, ixc, ixc2, Int.toNat_natCast]
      refine hQ _ _ _ ⟨rfl, rfl, F, J1, fun n hn => ⟨(J2 n hn).1, fun i hi => absurd hi (Nat.not_lt_zero i)⟩, fun n hn => (J2 n hn).2, fun f hf => (J3 f hf).1, fun f t hf ht' => (J3 f hf).2 t ht'⟩
theorem c_copy {fb : Nat} (L : Lay h) (ht : Trf tb) (hfb : Trf fb) (hne : tb ≠ fb) {T : TS} (C : CS h fb T) (hl : (usT T).length ≤ 40) : Cl l (d + 2) M_X9_copy [(2, (tb : Int) + 1), (2, (fb : Int) + 1)] SHP h (fun r sh' h' => r = 0 ∧ sh' = SHP ∧ Fx tb h h' ∧ CS h' tb T) := by
  have o := tf_ob ht
  have o2 := tf_ob hfb
  have htb : (72 ≤ tb ∧ tb ≤ 148) ∧ (tb + 22 ≤ fb ∨ fb + 22 ≤ tb) := by unfold Trf at ht hfb; omega
  obtain ⟨c1, c2, c3, c4, c5⟩ := id C
  refine Cl_hide (fun Q hQ => ?_)
  show V l (d + 2) 0 0 M_X9_copy 0 0 0 Q [(2, (tb : Int) + 1), (2, (fb : Int) + 1), (9, 0)] [] SHP h
  refine S_X9_copy_0 _ _ _ _ ?_; simp (disch := omega) only [B_X9_copy_0, bi_0, x_ic, x_lc, x_ld, x_st, x_sl, x_inc, x_b32, x_b64, x_d32, x_d64, x_s64, x_un, x_lcmp, x_dup, x_pop, x_dup2, x_if, x_cmp, x_sw, swk, x_ald, x_ast, x_alen, x_getf, x_putf, x_inv, x_mm, x_copy, x_iret, x_lret, x_vret, ok1, pu, ct, rcv, rcs, ent0, List.getElem?_cons_zero, List.getElem?_cons_succ, List.getElem?_nil, List.set_cons_zero, List.set_cons_succ, List.take_succ_cons, List.take_zero, List.drop_succ_cons, List.drop_zero, List.reverse_cons, List.reverse_nil, List.nil_append, List.cons_append, List.length_cons, List.length_nil, true_and, and_true, and_self, ne_eq, not_true_eq_false, not_false_eq_true, reduceIte, true_or, or_true, false_or, or_false, Nat.reduceAdd, Nat.reduceSub, Nat.reduceMul, Nat.reduceLeDiff, Nat.reduceEqDiff, Nat.reduceLT, Nat.le_refl, Nat.zero_le, Int.reduceToNat, Int.reduceAdd, Int.reduceSub, Int.reduceMul, Int.reduceNeg, Int.reduceLT, Int.reduceLE, Int.reduceEq, Nat.zero_add, Nat.add_zero, Nat.reduceBEq, Nat.one_ne_zero, Nat.zero_ne_one, Nat.lt_irrefl, Nat.succ_ne_zero, w32_id, ixc, ixc2, Int.toNat_natCast, o, o2, c1]
  have fk : ∀ {m}, Fx tb h m → ∀ i, fb ≤ i ∧ i < fb + 22 → m i = h i := fun {m} F i hi => F.1 i (by omega)
  refine V_jx (pc := 10) (fun n => [(2, (tb : Int) + 1), (2, (fb : Int) + 1), (0, (n : Int))]) (fun n m => Fx tb h m ∧ m tb 10 = (tmT T : Int) ∧ ∀ n', n' < n → m (tb + 16) n' = h (fb + 16) n' ∧ m (tb + 17) n' = h (fb + 17) n' ∧ ∀ i, i < 40 → m (tb + 2 + n') i = h (fb + 2 + n') i) 4 (fun n m hn J ih => ?_) (fun m J => ?_) _ ⟨Fx_fld, up_at, fun n' q => absurd q (by omega)⟩
  · obtain ⟨F, J1, J2⟩ := J
    have Lm := F.lay ht L
    have F2 : Fx tb h (up m (tb + 16) n (h (fb + 16) n)) := F.trans (Fx_up (by omega))
    have F3 : Fx tb h (up (up m (tb + 16) n (h (fb + 16) n)) (tb + 17) n (h (fb + 17) n)) := F2.trans (Fx_up (by omega))
    have L2 := F2.lay ht L
    have L3 := F3.lay ht L
    have v1 : m (fb + 16) n = h (fb + 16) n := by rw [fk F _ (by omega)]
    have v2 : up m (tb + 16) n (h (fb + 16) n) (fb + 17) n = h (fb + 17) n := by rw [fk F2 _ (by omega)]
    refine S_X9_copy_10 _ _ _ _ ?_; simp (disch := omega) only [B_X9_copy_10, bi_0, x_ic, x_lc, x_ld, x_st, x_sl, x_inc, x_b32, x_b64, x_d32, x_d64, x_s64, x_un, x_lcmp, x_dup, x_pop, x_dup2, x_if, x_cmp, x_sw, swk, x_ald, x_ast, x_alen, x_getf, x_putf, x_inv, x_mm, x_copy, x_iret, x_lret, x_vret, ok1, pu, ct, rcv, rcs, ent0, List.getElem?_cons_zero, List.getElem?_cons_succ, List.getElem?_nil, List.set_cons_zero, List.set_cons_succ, List.take_succ_cons, List.take_zero, List.drop_succ_cons, List.drop_zero, List.reverse_cons, List.reverse_nil, List.nil_append, List.cons_append, List.length_cons, List.length_nil, true_and, and_true, and_self, ne_eq, not_true_eq_false, not_false_eq_true, reduceIte, true_or, or_true, false_or, or_false, Nat.reduceAdd, Nat.reduceSub, Nat.reduceMul, Nat.reduceLeDiff, Nat.reduceEqDiff, Nat.reduceLT, Nat.le_refl, Nat.zero_le, Int.reduceToNat, Int.reduceAdd, Int.reduceSub, Int.reduceMul, Int.reduceNeg, Int.reduceLT, Int.reduceLE, Int.reduceEq, Nat.zero_add, Nat.add_zero, Nat.reduceBEq, Nat.one_ne_zero, Nat.zero_ne_one, Nat.lt_irrefl, Nat.succ_ne_zero, w32_id, ixc, ixc2, Int.toNat_natCast, o, o2, tf3 Lm ht, tf3 Lm hfb, tl16 ht, tl16 hfb, v1, tf4 L2 ht, tf4 L2 hfb, tl17 ht, tl17 hfb, v2, tf0 L3 ht, tf0 L3 hfb, tl1 ht, tl1 hfb, tf_q L3 ht hn, tf_q L3 hfb hn, tlq ht hn, tlq hfb hn]
    obtain ⟨m3, hm3⟩ : ∃ m3, m3 = up (up m (tb + 16) n (h (fb + 16) n)) (tb + 17) n (h (fb + 17) n) := ⟨_, rfl⟩
    rw [← hm3] at F3 ⊢
    (repeat' (first | assumption | (with_reducible refine And.intro ?_ ?_) | (refine im (fun hq => ?_); (try (exfalso; omega; done))) | omega))
    refine ih _ ?_
    have cp : ∀ i j, cpy m3 (fb + 2 + n) (tb + 2 + n) 0 0 40 i j = if i = tb + 2 + n ∧ j < 40 then h (fb + 2 + n) j else m3 i j := fun i j => by
      unfold cpy
      by_cases e : i = tb + 2 + n
      · rw [if_pos e]
        by_cases e2 : j < 40
        · rw [if_pos ⟨Nat.zero_le _, by omega⟩, if_pos ⟨e, e2⟩, show 0 + (j - 0) = j by omega, fk F3 _ (by omega)]
        · rw [if_neg (by omega), if_neg (by omega)]
      · rw [if_neg e, if_neg (by omega)]
    have cn : ∀ i, i ≠ tb + 2 + n → cpy m3 (fb + 2 + n) (tb + 2 + n) 0 0 40 i = m3 i := fun i hi => funext fun j => by rw [cp, if_neg (by omega)]
    have Fc : Fx tb m3 (cpy m3 (fb + 2 + n) (tb + 2 + n) 0 0 40) := ⟨fun i q => cn i (by omega), fun j _ => by rw [cn tb (by omega)], fun i q => cn i (by omega)⟩
    refine ⟨F3.trans Fc, by rw [cn tb (by omega), hm3, up_ne (by omega), up_ne (by omega)]; exact J1, fun n' q => ?_⟩
    by_cases e : n' = n
    · subst e
      exact ⟨by rw [cn _ (by omega), hm3, up_ne (by omega), up_at], by rw [cn _ (by omega), hm3, up_at], fun i hi => by rw [cp, if_pos ⟨rfl, hi⟩]⟩
    · have := J2 n' (by omega)
      exact ⟨by rw [cn _ (by omega), hm3, up_ne (by omega), up_nj e]; exact this.1, by rw [cn _ (by omega), hm3, up_nj e, up_ne (by omega)]; exact this.2.1, fun i hi => by rw [cn _ (by omega), hm3, up_ne (by omega), up_ne (by omega)]; exact this.2.2 i hi⟩
  · obtain ⟨F, J1, J2⟩ := J
    refine S_X9_copy_10 _ _ _ _ ?_; simp (disch := omega) only [B_X9_copy_10, bi_0, x_ic, x_lc, x_ld, x_st, x_sl, x_inc, x_b32, x_b64, x_d32, x_d64, x_s64, x_un, x_lcmp, x_dup, x_pop, x_dup2, x_if, x_cmp, x_sw, swk, x_ald, x_ast, x_alen, x_getf, x_putf, x_inv, x_mm, x_copy, x_iret, x_lret, x_vret, ok1, pu, ct, rcv, rcs, ent0, List.getElem?_cons_zero, List.getElem?_cons_succ, List.getElem?_nil, List.set_cons_zero, List.set_cons_succ, List.take_succ_cons, List.take_zero, List.drop_succ_cons, List.drop_zero, List.reverse_cons, List.reverse_nil, List.nil_append, List.cons_append, List.length_cons, List.length_nil, true_and, and_true, and_self, ne_eq, not_true_eq_false, not_false_eq_true, reduceIte, true_or, or_true, false_or, or_false, Nat.reduceAdd, Nat.reduceSub, Nat.reduceMul, Nat.reduceLeDiff, Nat.reduceEqDiff, Nat.reduceLT, Nat.le_refl, Nat.zero_le, Int.reduceToNat, Int.reduceAdd, Int.reduceSub, Int.reduceMul, Int.reduceNeg, Int.reduceLT, Int.reduceLE, Int.reduceEq, Nat.zero_add, Nat.add_zero, Nat.reduceBEq, Nat.one_ne_zero, Nat.zero_ne_one, Nat.lt_irrefl, Nat.succ_ne_zero, w32_id, ixc, ixc2, Int.toNat_natCast]
    refine ⟨fun _ => ?_, fun z => absurd z (by omega)⟩
    refine S_X9_copy_64 _ _ _ _ ?_; simp (disch := omega) only [B_X9_copy_64, bi_0, x_ic, x_lc, x_ld, x_st, x_sl, x_inc, x_b32, x_b64, x_d32, x_d64, x_s64, x_un, x_lcmp, x_dup, x_pop, x_dup2, x_if, x_cmp, x_sw, swk, x_ald, x_ast, x_alen, x_getf, x_putf, x_inv, x_mm, x_copy, x_iret, x_lret, x_vret, ok1, pu, ct, rcv, rcs, ent0, List.getElem?_cons_zero, List.getElem?_cons_succ, List.getElem?_nil, List.set_cons_zero, List.set_cons_succ, List.take_succ_cons, List.take_zero, List.drop_succ_cons, List.drop_zero, List.reverse_cons, List.reverse_nil, List.nil_append, List.cons_append, List.length_cons, List.length_nil, true_and, and_true, and_self, ne_eq, not_true_eq_false, not_false_eq_true, reduceIte, true_or, or_true, false_or, or_false, Nat.reduceAdd, Nat.reduceSub, Nat.reduceMul, Nat.reduceLeDiff, Nat.reduceEqDiff, Nat.reduceLT, Nat.le_refl, Nat.zero_le, Int.reduceToNat, Int.reduceAdd, Int.reduceSub, Int.reduceMul, Int.reduceNeg, Int.reduceLT, Int.reduceLE, Int.reduceEq, Nat.zero_add, Nat.add_zero, Nat.reduceBEq, Nat.one_ne_zero, Nat.zero_ne_one, Nat.lt_irrefl, Nat.succ_ne_zero, w32_id, ixc, ixc2, Int.toNat_natCast]
    refine V_jx (pc := 66) (fun f => [(2, (tb : Int) + 1), (2, (fb : Int) + 1), (0, (f : Int))]) (fun f m => Fx tb h m ∧ m tb 10 = (tmT T : Int) ∧ (∀ n', n' < 4 → m (tb + 16) n' = h (fb + 16) n' ∧ m (tb + 17) n' = h (fb + 17) n' ∧ ∀ i, i < 40 → m (tb + 2 + n') i = h (fb + 2 + n') i) ∧ ∀ f', f' < f → (m (tb + 18) f' = h (fb + 18) f' ∧ m (tb + 19) f' = h (fb + 19) f' ∧ m (tb + 20) f' = h (fb + 20) f') ∧ ∀ t, t ≤ 60 → m (tb + 12 + f') t = h (fb + 12 + f') t) 4 (fun f m hf J ih => ?_) (fun m J => ?_) m ⟨F, J1, J2, fun n' q => absurd q (by omega)⟩
    · obtain ⟨F, J1, J2, J3⟩ := J
      have Lm := F.lay ht L
      have F2 : Fx tb h (up m (tb + 18) f (h (fb + 18) f)) := F.trans (Fx_up (by omega))
      have F3 : Fx tb h (up (up m (tb + 18) f (h (fb + 18) f)) (tb + 19) f (h (fb + 19) f)) := F2.trans (Fx_up (by omega))
      have F4 : Fx tb h (up (up (up m (tb + 18) f (h (fb + 18) f)) (tb + 19) f (h (fb + 19) f)) (tb + 20) f (h (fb + 20) f)) := F3.trans (Fx_up (by omega))
      have L2 := F2.lay ht L
      have L3 := F3.lay ht L
      have L4 := F4.lay ht L
      have v1 : m (fb + 18) f = h (fb + 18) f := by rw [fk F _ (by omega)]
      have v2 : up m (tb + 18) f (h (fb + 18) f) (fb + 19) f = h (fb + 19) f := by rw [fk F2 _ (by omega)]
      have v3 : up (up m (tb + 18) f (h (fb + 18) f)) (tb + 19) f (h (fb + 19) f) (fb + 20) f = h (fb + 20) f := by rw [fk F3 _ (by omega)]
      refine S_X9_copy_66 _ _ _ _ ?_; simp (disch := omega) only [B_X9_copy_66, bi_0, x_ic, x_lc, x_ld, x_st, x_sl, x_inc, x_b32, x_b64, x_d32, x_d64, x_s64, x_un, x_lcmp, x_dup, x_pop, x_dup2, x_if, x_cmp, x_sw, swk, x_ald, x_ast, x_alen, x_getf, x_putf, x_inv, x_mm, x_copy, x_iret, x_lret, x_vret, ok1, pu, ct, rcv, rcs, ent0, List.getElem?_cons_zero, List.getElem?_cons_succ, List.getElem?_nil, List.set_cons_zero, List.set_cons_succ, List.take_succ_cons, List.take_zero, List.drop_succ_cons, List.drop_zero, List.reverse_cons, List.reverse_nil, List.nil_append, List.cons_append, List.length_cons, List.length_nil, true_and, and_true, and_self, ne_eq, not_true_eq_false, not_false_eq_true, reduceIte, true_or, or_true, false_or, or_false, Nat.reduceAdd, Nat.reduceSub, Nat.reduceMul, Nat.reduceLeDiff, Nat.reduceEqDiff, Nat.reduceLT, Nat.le_refl, Nat.zero_le, Int.reduceToNat, Int.reduceAdd, Int.reduceSub, Int.reduceMul, Int.reduceNeg, Int.reduceLT, Int.reduceLE, Int.reduceEq, Nat.zero_add, Nat.add_zero, Nat.reduceBEq, Nat.one_ne_zero, Nat.zero_ne_one, Nat.lt_irrefl, Nat.succ_ne_zero, w32_id, ixc, ixc2, Int.toNat_natCast, o, o2, tf5 Lm ht, tf5 Lm hfb, tl18 ht, tl18 hfb, v1, tf6 L2 ht, tf6 L2 hfb, tl19 ht, tl19 hfb, v2, tf7 L3 ht, tf7 L3 hfb, tl20 ht, tl20 hfb, v3, tf2 L4 ht, tf2 L4 hfb, tl11 ht, tl11 hfb, tf_p L4 ht hf, tf_p L4 hfb hf, tlp ht hf, tlp hfb hf]
      obtain ⟨m3, hm3⟩ : ∃ m3, m3 = up (up (up m (tb + 18) f (h (fb + 18) f)) (tb + 19) f (h (fb + 19) f)) (tb + 20) f (h (fb + 20) f) := ⟨_, rfl⟩
      rw [← hm3] at F4 ⊢
      (repeat' (first | assumption | (with_reducible refine And.intro ?_ ?_) | (refine im (fun hq => ?_); (try (exfalso; omega; done))) | omega))
      refine ih _ ?_
      have cp : ∀ i j, cpy m3 (fb + 12 + f) (tb + 12 + f) 0 0 61 i j = if i = tb + 12 + f ∧ j < 61 then h (fb + 12 + f) j else m3 i j := fun i j => by
        unfold cpy
        by_cases e : i = tb + 12 + f
        · rw [if_pos e]
          by_cases e2 : j < 61
          · rw [if_pos ⟨Nat.zero_le _, by omega⟩, if_pos ⟨e, e2⟩, show 0 + (j - 0) = j by omega, fk F4 _ (by omega)]
          · rw [if_neg (by omega), if_neg (by omega)]
        · rw [if_neg e, if_neg (by omega)]
      have cn : ∀ i, i ≠ tb + 12 + f → cpy m3 (fb + 12 + f) (tb + 12 + f) 0 0 61 i = m3 i := fun i hi => funext fun j => by rw [cp, if_neg (by omega)]
      have Fc : Fx tb m3 (cpy m3 (fb + 12 + f) (tb + 12 + f) 0 0 61) := ⟨fun i q => cn i (by omega), fun j _ => by rw [cn tb (by omega)], fun i q => cn i (by omega)⟩
      have ne : ∀ i, i ≠ tb + 18 → i ≠ tb + 19 → i ≠ tb + 20 → m3 i = m i := fun i a b c => by rw [hm3, up_ne c, up_ne b, up_ne a]
      refine ⟨F4.trans Fc, by rw [cn tb (by omega), ne tb (by omega) (by omega) (by omega)]; exact J1, fun n' hn' => ?_, fun f' q => ?_⟩
      · have := J2 n' hn'
        exact ⟨by rw [cn _ (by omega), ne _ (by omega) (by omega) (by omega)]; exact this.1, by rw [cn _ (by omega), ne _ (by omega) (by omega) (by omega)]; exact this.2.1, fun i hi => by rw [cn _ (by omega), ne _ (by omega) (by omega) (by omega)]; exact this.2.2 i hi⟩
      · by_cases e : f' = f
        · subst e
          exact ⟨⟨by rw [cn _ (by omega), hm3, up_ne (by omega), up_ne (by omega), up_at], by rw [cn _ (by omega), hm3, up_ne (by omega), up_at], by rw [cn _ (by omega), hm3, up_at]⟩, fun t ht => by rw [cp, if_pos ⟨rfl, by omega⟩]⟩
        · have := J3 f' (by omega)
          exact ⟨⟨by rw [cn _ (by omega), hm3, up_ne (by omega), up_ne (by omega), up_nj e]; exact this.1.1, by rw [cn _ (by omega), hm3, up_ne (by omega), up_nj e, up_ne (by omega)]; exact this.1.2.1, by rw [cn _ (by omega), hm3, up_nj e, up_ne (by omega), up_ne (by omega)]; exact this.1.2.2⟩, fun t ht => by rw [cn _ (by omega), ne _ (by omega) (by omega) (by omega)]; exact this.2 t ht⟩
    · obtain ⟨F, J1, J2, J3⟩ := J
      have e220 : m 220 = h 220 := F.n220 ht
      refine S_X9_copy_66 _ _ _ _ ?_; simp (disch := omega) only [B_X9_copy_66, bi_0, x_ic, x_lc, x_ld, x_st, x_sl, x_inc, x_b32, x_b64, x_d32, x_d64, x_s64, x_un, x_lcmp, x_dup, x_pop, x_dup2, x_if, x_cmp, x_sw, swk, x_ald, x_ast, x_alen, x_getf, x_putf, x_inv, x_mm, x_copy, x_iret, x_lret, x_vret, ok1, pu, ct, rcv, rcs, ent0, List.getElem?_cons_zero, List.getElem?_cons_succ, List.getElem?_nil, List.set_cons_zero, List.set_cons_succ, List.take_succ_cons, List.take_zero, List.drop_succ_cons, List.drop_zero, List.reverse_cons, List.reverse_nil, List.nil_append, List.cons_append, List.length_cons, List.length_nil, true_and, and_true, and_self, ne_eq, not_true_eq_false, not_false_eq_true, reduceIte, true_or, or_true, false_or, or_false, Nat.reduceAdd, Nat.reduceSub, Nat.reduceMul, Nat.reduceLeDiff, Nat.reduceEqDiff, Nat.reduceLT, Nat.le_refl, Nat.zero_le, Int.reduceToNat, Int.reduceAdd, Int.reduceSub, Int.reduceMul, Int.reduceNeg, Int.reduceLT, Int.reduceLE, Int.reduceEq, Nat.zero_add, Nat.add_zero, Nat.reduceBEq, Nat.one_ne_zero, Nat.zero_ne_one, Nat.lt_irrefl, Nat.succ_ne_zero, w32_id, ixc, ixc2, Int.toNat_natCast]
      refine ⟨fun _ => ?_, fun z => absurd z (by omega)⟩
      refine S_X9_copy_132 _ _ _ _ ?_; simp (disch := omega) only [B_X9_copy_132, bi_0, x_ic, x_lc, x_ld, x_st, x_sl, x_inc, x_b32, x_b64, x_d32, x_d64, x_s64, x_un, x_lcmp, x_dup, x_pop, x_dup2, x_if, x_cmp, x_sw, swk, x_ald, x_ast, x_alen, x_getf, x_putf, x_inv, x_mm, x_copy, x_iret, x_lret, x_vret, ok1, pu, ct, rcv, rcs, ent0, List.getElem?_cons_zero, List.getElem?_cons_succ, List.getElem?_nil, List.set_cons_zero, List.set_cons_succ, List.take_succ_cons, List.take_zero, List.drop_succ_cons, List.drop_zero, List.reverse_cons, List.reverse_nil, List.nil_append, List.cons_append, List.length_cons, List.length_nil, true_and, and_true, and_self, ne_eq, not_true_eq_false, not_false_eq_true, reduceIte, true_or, or_true, false_or, or_false, Nat.reduceAdd, Nat.reduceSub, Nat.reduceMul, Nat.reduceLeDiff, Nat.reduceEqDiff, Nat.reduceLT, Nat.le_refl, Nat.zero_le, Int.reduceToNat, Int.reduceAdd, Int.reduceSub, Int.reduceMul, Int.reduceNeg, Int.reduceLT, Int.reduceLE, Int.reduceEq, Nat.zero_add, Nat.add_zero, Nat.reduceBEq, Nat.one_ne_zero, Nat.zero_ne_one, Nat.lt_irrefl, Nat.succ_ne_zero, w32_id, ixc, ixc2, Int.toNat_natCast]
      refine hQ _ _ _ ⟨rfl, rfl, F, J1, fun n hn => ?_, fun n hn => by rw [(J2 n hn).2.1]; exact c3 n hn, fun f hf => ?_, fun f t hf ht' => by rw [(J3 f hf).2 t ht']; exact c5 f t hf ht'⟩
      · rw [e220]
        have := c2 n hn
        have ql : (qL (h 220) (usT T) n).length ≤ 40 := by
          rw [qL_len]; unfold ixs
          have := pl_len (p := atU (h 220) (usT T) n) (m := (usT T).length)
          omega
        exact ⟨by rw [(J2 n hn).1]; exact this.1, fun i hi => by rw [(J2 n hn).2.2 i (by omega)]; exact this.2 i hi⟩
      · have := (J3 f hf).1
        rw [this.1, this.2.1, this.2.2]; exact c4 f hf
end CA

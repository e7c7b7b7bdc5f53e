/-! the law: what is seen and marked -/
section LMK
variable {l : Launch} {b L : Nat} {xs : Nat → Int32} {k n i : Nat} {h : Mem} {nb sb : Nat} {T : TS} {P : Nat → Wd} {pn : Nat} {X : (Nat → Int) × Nat} {x5 x6 : PV}
/-- one more is seen -/
def seN (s : Nat → Int) (t m o : Int) : Nat → Int := fun j => if j = 382 then s 382 + 1 else if j = 383 + 3 * (s 382).toNat then t else if j = 384 + 3 * (s 382).toNat then m else if j = 385 + 3 * (s 382).toNat then o else s j
theorem seN_w {s : Nat → Int} {t m o : Int} (W : SeW s) (c : seeC s t m) (ho : o = 0 ∨ o = 1) : SeW (seN s t m o) := by
  obtain ⟨⟨a, b⟩, w⟩ := W
  obtain ⟨⟨⟨t0, t1⟩, m0, m1⟩, ne⟩ := c
  have e0 : seN s t m o 382 = s 382 + 1 := if_pos rfl
  obtain ⟨q, hq⟩ : ∃ q : Nat, q = (s 382).toNat := ⟨_, rfl⟩
  have at1 : seN s t m o (383 + 3 * q) = t := by unfold seN; rw [if_neg (by omega), ← hq, if_pos rfl]
  have at2 : seN s t m o (384 + 3 * q) = m := by unfold seN; rw [if_neg (by omega), ← hq, if_neg (by omega), if_pos rfl]
  have at3 : seN s t m o (385 + 3 * q) = o := by unfold seN; rw [if_neg (by omega), ← hq, if_neg (by omega), if_neg (by omega), if_pos rfl]
  refine ⟨by rw [e0]; omega, fun i hi => ?_⟩
  rw [e0] at hi
  by_cases x : i = q
  · rw [x, at1, at2, at3]; exact ⟨⟨t0, t1⟩, ⟨m0, m1⟩, ho⟩
  · have lo : ∀ j, 383 ≤ j → j < 383 + 3 * q → seN s t m o j = s j := fun j h1 h2 => by
      unfold seN
      rw [← hq, if_neg (by omega), if_neg (by omega), if_neg (by omega), if_neg (by omega)]
    rw [lo _ (by omega) (by omega), lo _ (by omega) (by omega), lo _ (by omega) (by omega)]
    exact w i (by omega)
theorem la_1526 (hk : k ≤ 601024) (hn : n ≤ 7293033) (hi : i + 7 ≤ L) (hL : L ≤ 3584) (I : INVd h nb sb T P pn X) (go : ∀ h', INVe h' → VL l b L xs k n 1744 [(3, (b : Int)), (2, 1), (2, 215), (2, 238), (0, (i : Int)), x5, x6] [] SHP h') : VL l b L xs k n 1526 [(3, (b : Int)), (2, 1), (2, 215), (2, 238), (0, (i : Int)), x5, x6] [] SHP h := by
  have hnb := I.td.1
  have hsb := I.sd.1
  obtain ⟨t, ht⟩ : ∃ t, t = (xs ((i : Int) + 1).toNat).toInt := ⟨_, rfl⟩
  obtain ⟨m, hm⟩ : ∃ m, m = (xs ((i : Int) + 2).toNat).toInt := ⟨_, rfl⟩
  obtain ⟨c, hc⟩ : ∃ c, c = (xs ((i : Int) + 3).toNat).toInt := ⟨_, rfl⟩
  have main : ∀ o : Int, (o = 0 ∨ o = 1) → (c = 0 → o = 0) → (c ≠ 0 → o = 1) → VL l b L xs k n 1553 [(3, (b : Int)), (2, 1), (2, 215), (2, 238), (0, (i : Int)), x5, x6] [(0, o), (0, m), (0, t), (2, 1)] SHP h := by
    intro o ho o0 o1
    refine S_L_law_1553 (by omega) (by omega) _ _ _ _ ?_; simp (disch := omega) only [B_L_law_1553, bi_0, x_ic, x_lc, x_ld, x_st, x_sl, x_inc, x_b32, x_b64, x_d32, x_d64, x_s64, x_un, x_lcmp, x_dup, x_pop, x_dup2, x_if, x_cmp, x_sw, swk, x_ald, x_ast, x_alen, x_getf, x_putf, x_inv, x_mm, x_copy, x_iret, x_lret, x_vret, ok1, pu, ct, rcv, rcs, ent0, List.getElem?_cons_zero, List.getElem?_cons_succ, List.getElem?_nil, List.set_cons_zero, List.set_cons_succ, List.take_succ_cons, List.take_zero, List.drop_succ_cons, List.drop_zero, List.reverse_cons, List.reverse_nil, List.nil_append, List.cons_append, List.length_cons, List.length_nil, true_and, and_true, and_self, ne_eq, not_true_eq_false, not_false_eq_true, reduceIte, true_or, or_true, false_or, or_false, Nat.reduceAdd, Nat.reduceSub, Nat.reduceMul, Nat.reduceLeDiff, Nat.reduceEqDiff, Nat.reduceLT, Nat.le_refl, Nat.zero_le, Int.reduceToNat, Int.reduceAdd, Int.reduceSub, Int.reduceMul, Int.reduceNeg, Int.reduceLT, Int.reduceLE, Int.reduceEq, Nat.zero_add, Nat.add_zero, Nat.reduceBEq, Nat.one_ne_zero, Nat.zero_ne_one, Nat.lt_irrefl, Nat.succ_ne_zero, w32_id, ixc, ixc2, Int.toNat_natCast, x_sld, ob_0]
    refine Cl.imp (c_see (l := l) (d := 997) I.lay I.se I.sn ho) (fun r sh' h1 q => ?_)
    obtain ⟨rfl, rfl, F, u1, u2⟩ := q
    have L1 := F.lay (Or.inl rfl) I.lay
    have e1 : ∀ i, i < 116 ∨ 120 ≤ i → h1 i = h i := fun i a => F.1 i (by omega)
    have e226 := e1 226 (by decide)
    -- the reference sees the same
    have ref : VL l b L xs k n 1583 [(3, (b : Int)), (2, 1), (2, 215), (2, 238), (0, (i : Int)), x5, x6] [(0, o), (0, m), (0, t), (2, 215), (0, bI (seeC (h 226) t m))] SHP h1 := by
      refine S_L_law_1583 (by omega) (by omega) _ _ _ _ ?_; simp (disch := omega) only [B_L_law_1583, bi_0, x_ic, x_lc, x_ld, x_st, x_sl, x_inc, x_b32, x_b64, x_d32, x_d64, x_s64, x_un, x_lcmp, x_dup, x_pop, x_dup2, x_if, x_cmp, x_sw, swk, x_ald, x_ast, x_alen, x_getf, x_putf, x_inv, x_mm, x_copy, x_iret, x_lret, x_vret, ok1, pu, ct, rcv, rcs, ent0, List.getElem?_cons_zero, List.getElem?_cons_succ, List.getElem?_nil, List.set_cons_zero, List.set_cons_succ, List.take_succ_cons, List.take_zero, List.drop_succ_cons, List.drop_zero, List.reverse_cons, List.reverse_nil, List.nil_append, List.cons_append, List.length_cons, List.length_nil, true_and, and_true, and_self, ne_eq, not_true_eq_false, not_false_eq_true, reduceIte, true_or, or_true, false_or, or_false, Nat.reduceAdd, Nat.reduceSub, Nat.reduceMul, Nat.reduceLeDiff, Nat.reduceEqDiff, Nat.reduceLT, Nat.le_refl, Nat.zero_le, Int.reduceToNat, Int.reduceAdd, Int.reduceSub, Int.reduceMul, Int.reduceNeg, Int.reduceLT, Int.reduceLE, Int.reduceEq, Nat.zero_add, Nat.add_zero, Nat.reduceBEq, Nat.one_ne_zero, Nat.zero_ne_one, Nat.lt_irrefl, Nat.succ_ne_zero, w32_id, ixc, ixc2, Int.toNat_natCast, ob_214]
      refine Cl.imp (r_see (l := l) (d := 997) L1 (by rw [e226]; exact I.se) ho) (fun r sh' h2 q => ?_)
      obtain ⟨rfl, rfl, G, v1, v2⟩ := q
      rw [e226] at v1 v2 ⊢
      refine ⟨fun _ => go h2 ?_, fun x => absurd rfl x⟩
      have L2 : Lay h2 := Lay_c (c := 226) (by decide +kernel) (up_lay0 (v := 0) (j := 0) (Or.inl rfl) L1) G
      have g : ∀ i, i ≠ 214 → i ≠ 226 → h2 i = h1 i := fun i a c => by rw [G i c, up_ne a]
      have e : ∀ i, i < 116 ∨ 120 ≤ i → i ≠ 214 → i ≠ 226 → h2 i = h i := fun i a c d => by rw [g i c d, e1 i a]
      have r2 : h2 214 2 = h 214 2 := by rw [G 214 (by decide), up_nj (by decide), e1 214 (by decide)]
      have e220 := e 220 (by decide) (by decide) (by decide)
      have A : Agr (h 220) (h2 220) := ⟨I.wn, fun j _ => by rw [e220]⟩
      have lo26 : ∀ j, j < 382 ∨ 407 ≤ j → h2 226 j = h 226 j := fun j hj => by
        by_cases y : seeC (h 226) t m
        · have s8 := I.se.1
          have := y.2
          rw [v2 y j, if_neg (by omega), if_neg (by omega), if_neg (by omega), if_neg (by omega)]
        · rw [v1 y]
      have hS : SnR h2 116 (h2 226) ∧ SeW (h2 226) := by
        by_cases y : seeC (h 226) t m
        · have ef : h2 226 = seN (h 226) t m o := funext (v2 y)
          rw [ef]
          exact ⟨SnR.fr (u2 y) (fun i hi => g i (by omega) (by omega)), seN_w I.se y ho⟩
        · rw [v1 y]
          exact ⟨SnR.fr I.sn (fun i hi => by rw [g i (by omega) (by omega), u1 y]), I.se⟩
      exact INVd.e (nb := nb) (sb := sb) (T := T) (P := P) (pn := pn) (X := X) ⟨I.1.fr L2 (e 0 (by decide) (by decide) (by decide)), I.2.1.fr A (fun i a c d => e i (by omega) (by omega) (by omega)) (fun j _ => by rw [e 221 (by decide) (by decide) (by decide)]) (fun j _ => by rw [e 222 (by decide) (by decide) (by decide)]), ⟨Cch_ag I.2.2.1.1 A (fun i a c => e i (by omega) (by omega) (by omega)), TrC_ag I.2.2.1.2 A (e 210 (by decide) (by decide) (by decide))⟩, I.2.2.2.1.fr (by rw [e 1 (by decide) (by decide) (by decide)]) (e 2 (by decide) (by decide) (by decide)) (e 3 (by decide) (by decide) (by decide)) r2 (e 215 (by decide) (by decide) (by decide)) (e 219 (by decide) (by decide) (by decide)), Lv_fr I.rs I.cs I.tw A (fun i a c => e i (by omega) (by omega) (by omega)) (fun j hj => lo26 j (by omega)), Sc_fr I.sc I.ln (by rw [e220]) (fun i a c => e i (by omega) (by omega) (by omega)) (fun j _ => by rw [e 223 (by decide) (by decide) (by decide)]), hS, Mk_fr I.mk A (fun i a c => e i (by omega) (by omega) (by omega)) (fun j a c => lo26 j (by omega)) (e 227 (by decide) (by decide) (by decide))⟩
    (try simp (disch := omega) only [bi_0, x_ic, x_lc, x_ld, x_st, x_sl, x_inc, x_b32, x_b64, x_d32, x_d64, x_s64, x_un, x_lcmp, x_dup, x_pop, x_dup2, x_if, x_cmp, x_sw, swk, x_ald, x_ast, x_alen, x_getf, x_putf, x_inv, x_mm, x_copy, x_iret, x_lret, x_vret, ok1, pu, ct, rcv, rcs, ent0, List.getElem?_cons_zero, List.getElem?_cons_succ, List.getElem?_nil, List.set_cons_zero, List.set_cons_succ, List.take_succ_cons, List.take_zero, List.drop_succ_cons, List.drop_zero, List.reverse_cons, List.reverse_nil, List.nil_append, List.cons_append, List.length_cons, List.length_nil, true_and, and_true, and_self, ne_eq, not_true_eq_false, not_false_eq_true, reduceIte, true_or, or_true, false_or, or_false, Nat.reduceAdd, Nat.reduceSub, Nat.reduceMul, Nat.reduceLeDiff, Nat.reduceEqDiff, Nat.reduceLT, Nat.le_refl, Nat.zero_le, Int.reduceToNat, Int.reduceAdd, Int.reduceSub, Int.reduceMul, Int.reduceNeg, Int.reduceLT, Int.reduceLE, Int.reduceEq, Nat.zero_add, Nat.add_zero, Nat.reduceBEq, Nat.one_ne_zero, Nat.zero_ne_one, Nat.lt_irrefl, Nat.succ_ne_zero, w32_id, ixc, ixc2, Int.toNat_natCast, ← ht, ← hm, ← hc])
    refine ⟨by omega, by omega, by omega, fun z => ?_, fun z => ?_⟩
    · refine S_L_law_1582 (by omega) (by omega) _ _ _ _ ?_; simp (disch := omega) only [B_L_law_1582, bi_0, x_ic, x_lc, x_ld, x_st, x_sl, x_inc, x_b32, x_b64, x_d32, x_d64, x_s64, x_un, x_lcmp, x_dup, x_pop, x_dup2, x_if, x_cmp, x_sw, swk, x_ald, x_ast, x_alen, x_getf, x_putf, x_inv, x_mm, x_copy, x_iret, x_lret, x_vret, ok1, pu, ct, rcv, rcs, ent0, List.getElem?_cons_zero, List.getElem?_cons_succ, List.getElem?_nil, List.set_cons_zero, List.set_cons_succ, List.take_succ_cons, List.take_zero, List.drop_succ_cons, List.drop_zero, List.reverse_cons, List.reverse_nil, List.nil_append, List.cons_append, List.length_cons, List.length_nil, true_and, and_true, and_self, ne_eq, not_true_eq_false, not_false_eq_true, reduceIte, true_or, or_true, false_or, or_false, Nat.reduceAdd, Nat.reduceSub, Nat.reduceMul, Nat.reduceLeDiff, Nat.reduceEqDiff, Nat.reduceLT, Nat.le_refl, Nat.zero_le, Int.reduceToNat, Int.reduceAdd, Int.reduceSub, Int.reduceMul, Int.reduceNeg, Int.reduceLT, Int.reduceLE, Int.reduceEq, Nat.zero_add, Nat.add_zero, Nat.reduceBEq, Nat.one_ne_zero, Nat.zero_ne_one, Nat.lt_irrefl, Nat.succ_ne_zero, w32_id, ixc, ixc2, Int.toNat_natCast]
      rw [o0 z] at ref
      exact ref
    · rw [o1 z] at ref
      exact ref
  refine S_L_law_1526 (by omega) (by omega) _ _ _ _ ?_; simp (disch := omega) only [B_L_law_1526, bi_0, x_ic, x_lc, x_ld, x_st, x_sl, x_inc, x_b32, x_b64, x_d32, x_d64, x_s64, x_un, x_lcmp, x_dup, x_pop, x_dup2, x_if, x_cmp, x_sw, swk, x_ald, x_ast, x_alen, x_getf, x_putf, x_inv, x_mm, x_copy, x_iret, x_lret, x_vret, ok1, pu, ct, rcv, rcs, ent0, List.getElem?_cons_zero, List.getElem?_cons_succ, List.getElem?_nil, List.set_cons_zero, List.set_cons_succ, List.take_succ_cons, List.take_zero, List.drop_succ_cons, List.drop_zero, List.reverse_cons, List.reverse_nil, List.nil_append, List.cons_append, List.length_cons, List.length_nil, true_and, and_true, and_self, ne_eq, not_true_eq_false, not_false_eq_true, reduceIte, true_or, or_true, false_or, or_false, Nat.reduceAdd, Nat.reduceSub, Nat.reduceMul, Nat.reduceLeDiff, Nat.reduceEqDiff, Nat.reduceLT, Nat.le_refl, Nat.zero_le, Int.reduceToNat, Int.reduceAdd, Int.reduceSub, Int.reduceMul, Int.reduceNeg, Int.reduceLT, Int.reduceLE, Int.reduceEq, Nat.zero_add, Nat.add_zero, Nat.reduceBEq, Nat.one_ne_zero, Nat.zero_ne_one, Nat.lt_irrefl, Nat.succ_ne_zero, w32_id, ixc, ixc2, Int.toNat_natCast, x_sld, ← ht, ← hm, ← hc]
  refine ⟨by omega, by omega, by omega, fun z => ?_, fun z => ?_⟩
  · refine S_L_law_1552 (by omega) (by omega) _ _ _ _ ?_; simp (disch := omega) only [B_L_law_1552, bi_0, x_ic, x_lc, x_ld, x_st, x_sl, x_inc, x_b32, x_b64, x_d32, x_d64, x_s64, x_un, x_lcmp, x_dup, x_pop, x_dup2, x_if, x_cmp, x_sw, swk, x_ald, x_ast, x_alen, x_getf, x_putf, x_inv, x_mm, x_copy, x_iret, x_lret, x_vret, ok1, pu, ct, rcv, rcs, ent0, List.getElem?_cons_zero, List.getElem?_cons_succ, List.getElem?_nil, List.set_cons_zero, List.set_cons_succ, List.take_succ_cons, List.take_zero, List.drop_succ_cons, List.drop_zero, List.reverse_cons, List.reverse_nil, List.nil_append, List.cons_append, List.length_cons, List.length_nil, true_and, and_true, and_self, ne_eq, not_true_eq_false, not_false_eq_true, reduceIte, true_or, or_true, false_or, or_false, Nat.reduceAdd, Nat.reduceSub, Nat.reduceMul, Nat.reduceLeDiff, Nat.reduceEqDiff, Nat.reduceLT, Nat.le_refl, Nat.zero_le, Int.reduceToNat, Int.reduceAdd, Int.reduceSub, Int.reduceMul, Int.reduceNeg, Int.reduceLT, Int.reduceLE, Int.reduceEq, Nat.zero_add, Nat.add_zero, Nat.reduceBEq, Nat.one_ne_zero, Nat.zero_ne_one, Nat.lt_irrefl, Nat.succ_ne_zero, w32_id, ixc, ixc2, Int.toNat_natCast]
    exact main 0 (Or.inl rfl) (fun _ => rfl) (fun x => absurd z x)
  · exact main 1 (Or.inr rfl) (fun x => absurd x z) (fun _ => rfl)
theorem la_1666 (hk : k ≤ 601024) (hn : n ≤ 7293033) (hi : i + 7 ≤ L) (hL : L ≤ 3584) (I : INVd h nb sb T P pn X) (go : ∀ h', INVe h' → VL l b L xs k n 1744 [(3, (b : Int)), (2, 1), (2, 215), (2, 238), (0, (i : Int)), x5, x6] [] SHP h') : VL l b L xs k n 1666 [(3, (b : Int)), (2, 1), (2, 215), (2, 238), (0, (i : Int)), x5, x6] [] SHP h := by
  have hnb := I.td.1
  have hsb := I.sd.1
  obtain ⟨m, hm⟩ : ∃ m, m = (xs ((i : Int) + 1).toNat).toInt := ⟨_, rfl⟩
  obtain ⟨c, hc⟩ : ∃ c, c = (xs ((i : Int) + 2).toNat).toInt := ⟨_, rfl⟩
  obtain ⟨Tm, hTm⟩ : ∃ Tm : Nat → TS, ∀ q, q < 2 → h 174 q = 1 → RS (h 226) (407 * (1 + q)) (Tm q) ∧ CS h (122 + 26 * q) (Tm q) ∧ TW (h 220) (Tm q) ∧ SnR h (144 + 26 * q) (fun j => h 226 (407 * (1 + q) + j)) ∧ SeW (fun j => h 226 (407 * (1 + q) + j)) := by
    refine ⟨fun q => iF (q < 2 ∧ h 174 q = 1) (Classical.epsilon (fun t => RS (h 226) (407 * (1 + q)) t ∧ CS h (122 + 26 * q) t ∧ TW (h 220) t ∧ SnR h (144 + 26 * q) (fun j => h 226 (407 * (1 + q) + j)) ∧ SeW (fun j => h 226 (407 * (1 + q) + j)))) rsT, fun q hq h1 => ?_⟩
    dsimp only
    rw [iF_t ⟨hq, h1⟩]
    exact Classical.epsilon_spec ((I.mk q hq).2.2 h1)
  have mke : ∀ o : Int, mrkC (h 227) m o = mrkC (h 174) m o := fun o => by
    unfold mrkC
    refine propext ⟨fun x => ⟨x.1, ?_⟩, fun x => ⟨x.1, ?_⟩⟩
    · rw [(I.mk m.toNat (by omega)).2.1]; exact x.2
    · rw [← (I.mk m.toNat (by omega)).2.1]; exact x.2
  have main : ∀ o : Int, (o = 0 ∨ o = 1) → (c = 0 → o = 0) → (c ≠ 0 → o = 1) → VL l b L xs k n 1687 [(3, (b : Int)), (2, 1), (2, 215), (2, 238), (0, (i : Int)), x5, x6] [(0, o), (0, m), (2, 1)] SHP h := by
    intro o ho o0 o1
    refine S_L_law_1687 (by omega) (by omega) _ _ _ _ ?_; simp (disch := omega) only [B_L_law_1687, bi_0, x_ic, x_lc, x_ld, x_st, x_sl, x_inc, x_b32, x_b64, x_d32, x_d64, x_s64, x_un, x_lcmp, x_dup, x_pop, x_dup2, x_if, x_cmp, x_sw, swk, x_ald, x_ast, x_alen, x_getf, x_putf, x_inv, x_mm, x_copy, x_iret, x_lret, x_vret, ok1, pu, ct, rcv, rcs, ent0, List.getElem?_cons_zero, List.getElem?_cons_succ, List.getElem?_nil, List.set_cons_zero, List.set_cons_succ, List.take_succ_cons, List.take_zero, List.drop_succ_cons, List.drop_zero, List.reverse_cons, List.reverse_nil, List.nil_append, List.cons_append, List.length_cons, List.length_nil, true_and, and_true, and_self, ne_eq, not_true_eq_false, not_false_eq_true, reduceIte, true_or, or_true, false_or, or_false, Nat.reduceAdd, Nat.reduceSub, Nat.reduceMul, Nat.reduceLeDiff, Nat.reduceEqDiff, Nat.reduceLT, Nat.le_refl, Nat.zero_le, Int.reduceToNat, Int.reduceAdd, Int.reduceSub, Int.reduceMul, Int.reduceNeg, Int.reduceLT, Int.reduceLE, Int.reduceEq, Nat.zero_add, Nat.add_zero, Nat.reduceBEq, Nat.one_ne_zero, Nat.zero_ne_one, Nat.lt_irrefl, Nat.succ_ne_zero, w32_id, ixc, ixc2, Int.toNat_natCast, x_sld, ob_0]
    refine Cl.imp (c_mark (l := l) (d := 996) I.lay I.cs I.tw.2.1 I.sn I.se (Tm := Tm) (sm := fun q j => h 226 (407 * (1 + q) + j)) (fun q hq => (I.mk q hq).1) (fun q hq h1 => by obtain ⟨a1, a2, a3, a4, a5⟩ := hTm q hq h1; exact ⟨a2, a3.2.1, a4, a5⟩) ho) (fun r sh' h1 q => ?_)
    obtain ⟨rfl, rfl, L1, u1, u2, u3⟩ := q
    have e1 : ∀ i, i < 72 ∨ (94 ≤ i ∧ i < 116) ∨ i = 120 ∨ i = 121 ∨ 175 ≤ i → h1 i = h i := fun i a => by
      by_cases y : mrkC (h 174) m o
      · have y1 := y.1
        by_cases z : o = 0
        · exact (u2 y z).2.2.1 i (by omega) (by omega)
        · exact (u3 y z).2.2.2 i (by omega) (by omega)
      · rw [u1 y]
    have e226 := e1 226 (by decide)
    have ref : VL l b L xs k n 1711 [(3, (b : Int)), (2, 1), (2, 215), (2, 238), (0, (i : Int)), x5, x6] [(0, o), (0, m), (2, 215), (0, bI (mrkC (h 174) m o))] SHP h1 := by
      refine S_L_law_1711 (by omega) (by omega) _ _ _ _ ?_; simp (disch := omega) only [B_L_law_1711, bi_0, x_ic, x_lc, x_ld, x_st, x_sl, x_inc, x_b32, x_b64, x_d32, x_d64, x_s64, x_un, x_lcmp, x_dup, x_pop, x_dup2, x_if, x_cmp, x_sw, swk, x_ald, x_ast, x_alen, x_getf, x_putf, x_inv, x_mm, x_copy, x_iret, x_lret, x_vret, ok1, pu, ct, rcv, rcs, ent0, List.getElem?_cons_zero, List.getElem?_cons_succ, List.getElem?_nil, List.set_cons_zero, List.set_cons_succ, List.take_succ_cons, List.take_zero, List.drop_succ_cons, List.drop_zero, List.reverse_cons, List.reverse_nil, List.nil_append, List.cons_append, List.length_cons, List.length_nil, true_and, and_true, and_self, ne_eq, not_true_eq_false, not_false_eq_true, reduceIte, true_or, or_true, false_or, or_false, Nat.reduceAdd, Nat.reduceSub, Nat.reduceMul, Nat.reduceLeDiff, Nat.reduceEqDiff, Nat.reduceLT, Nat.le_refl, Nat.zero_le, Int.reduceToNat, Int.reduceAdd, Int.reduceSub, Int.reduceMul, Int.reduceNeg, Int.reduceLT, Int.reduceLE, Int.reduceEq, Nat.zero_add, Nat.add_zero, Nat.reduceBEq, Nat.one_ne_zero, Nat.zero_ne_one, Nat.lt_irrefl, Nat.succ_ne_zero, w32_id, ixc, ixc2, Int.toNat_natCast, ob_214]
      refine Cl.imp (r_mark (l := l) (d := 997) L1 ho) (fun r sh' h2 q => ?_)
      obtain ⟨rfl, rfl, G, v1, v2⟩ := q
      rw [e226, e1 227 (by decide), mke] at v1 v2
      rw [e1 227 (by decide), mke]
      refine ⟨fun _ => go h2 ?_, fun x => absurd rfl x⟩
      have L0 : Lay (up h1 214 0 0) := up_lay0 (Or.inl rfl) L1
      have L2 : Lay h2 := by
        refine Lay_fr L0 (fun q hq => ?_)
        have hn : LAYL.all (fun q => !(q.1 == 226) && !(q.1 == 227)) = true := by decide +kernel
        have h1 := List.all_eq_true.mp hn q hq
        simp at h1
        rw [G q.1 h1.1 h1.2]
      have g : ∀ i, i ≠ 214 → i ≠ 226 → i ≠ 227 → h2 i = h1 i := fun i a c d => by rw [G i c d, up_ne a]
      have e : ∀ i, i < 72 ∨ (94 ≤ i ∧ i < 116) ∨ 175 ≤ i → i ≠ 214 → i ≠ 226 → i ≠ 227 → h2 i = h i := fun i a c d f => by rw [g i c d f, e1 i (by omega)]
      have r2 : h2 214 2 = h 214 2 := by rw [G 214 (by decide) (by decide), up_nj (by decide), e1 214 (by decide)]
      have e220 := e 220 (by decide) (by decide) (by decide) (by decide)
      have A : Agr (h 220) (h2 220) := ⟨I.wn, fun j _ => by rw [e220]⟩
      have rest : ∀ T', (RS (h2 226) 0 T' ∧ CS h2 72 T' ∧ TW (h2 220) T') → (SnR h2 116 (h2 226) ∧ SeW (h2 226)) → MkR h2 → INVe h2 := fun T' lv sn mk => INVd.e (nb := nb) (sb := sb) (T := T') (P := P) (pn := pn) (X := X) ⟨I.1.fr L2 (e 0 (by decide) (by decide) (by decide) (by decide)), I.2.1.fr A (fun i a c d => e i (by omega) (by omega) (by omega) (by omega)) (fun j _ => by rw [e 221 (by decide) (by decide) (by decide) (by decide)]) (fun j _ => by rw [e 222 (by decide) (by decide) (by decide) (by decide)]), ⟨Cch_ag I.2.2.1.1 A (fun i a c => e i (by omega) (by omega) (by omega) (by omega)), TrC_ag I.2.2.1.2 A (e 210 (by decide) (by decide) (by decide) (by decide))⟩, I.2.2.2.1.fr (by rw [e 1 (by decide) (by decide) (by decide) (by decide)]) (e 2 (by decide) (by decide) (by decide) (by decide)) (e 3 (by decide) (by decide) (by decide) (by decide)) r2 (e 215 (by decide) (by decide) (by decide) (by decide)) (e 219 (by decide) (by decide) (by decide) (by decide)), lv, Sc_fr I.sc I.ln (by rw [e220]) (fun i a c => e i (by omega) (by omega) (by omega) (by omega)) (fun j _ => by rw [e 223 (by decide) (by decide) (by decide) (by decide)]), sn, mk⟩
      by_cases y : mrkC (h 174) m o
      · obtain ⟨w1, w2, w3⟩ := v2 y
        have y1 := y.1
        obtain ⟨q, hq⟩ : ∃ q : Nat, q = m.toNat := ⟨_, rfl⟩
        rw [← hq] at w1 w2 w3
        by_cases z : o = 0
        · -- a mark is set
          obtain ⟨p1, p2, p3, p4⟩ := u2 y z
          rw [← hq] at p1 p2 p3 p4
          rw [if_pos z, if_pos z] at w2
          rw [if_pos z] at w3
          have w3' : ∀ j, j < 407 → h2 226 j = h 226 j := fun j hj => w3 j (by omega)
          refine rest T (Lv_fr I.rs I.cs I.tw A (fun i a c => by rw [g i (by omega) (by omega) (by omega), p3 i (by omega) (by omega)]) (fun j hj => w3' j (by omega))) (Sn_cg I.sn I.se (fun i hi => by rw [g i (by omega) (by omega) (by omega), p3 i (by omega) (by omega)]) (fun j a c => w3' j c)) (fun mm hmm => ?_)
          rw [g 174 (by decide) (by decide) (by decide), p4 mm, w1 mm]
          by_cases x : mm = q
          · rw [if_pos x, if_pos x]
            refine ⟨Or.inr rfl, rfl, fun _ => ⟨T, ?_, ?_, by rw [e220]; exact I.tw, ?_⟩⟩
            · rw [x]; exact RS.shift I.rs I.tw.2.1 (fun j hj => by rw [w2 j (by omega), Nat.zero_add])
            · rw [x]; exact CS.fr p1 (fun i hi => by
                rcases hi with hi | rfl
                · exact g i (by omega) (by omega) (by omega)
                · exact g 220 (by decide) (by decide) (by decide))
            · rw [x]
              refine Sn_cg (h := h1) (s := h 226) p2 I.se (fun i hi => g i (by omega) (by omega) (by omega)) (fun j a c => ?_)
              rw [w2 j c, Nat.zero_add]
          · rw [if_neg x, if_neg x]
            obtain ⟨a, b, cc⟩ := I.mk mm hmm
            refine ⟨a, b, fun h1' => ?_⟩
            obtain ⟨t1, y1', y2, y3, y4, y5⟩ := cc h1'
            have r26 : ∀ j, j < 407 → h2 226 (407 * (1 + mm) + j) = h 226 (407 * (1 + mm) + j) := fun j hj => w3 _ (by
              rcases Nat.lt_or_gt_of_ne x with x | x
              · left; omega
              · right; omega)
            have cl : ∀ i, 122 + 26 * mm ≤ i → i < 148 + 26 * mm → h2 i = h i := fun i a c => by
              rw [g i (by omega) (by omega) (by omega), p3 i (by
                rcases Nat.lt_or_gt_of_ne x with x | x
                · left; omega
                · right; omega) (by omega)]
            obtain ⟨z1, z2⟩ := Sn_cg (h' := h2) (s' := fun j => h2 226 (407 * (1 + mm) + j)) y4 y5 (fun i hi => cl i (by omega) (by omega)) (fun j _ hj => r26 j hj)
            exact ⟨t1, RS.cong y1' y3.2.1 (fun j a c => by
              have := r26 (j - 407 * (1 + mm)) (by omega)
              rw [show 407 * (1 + mm) + (j - 407 * (1 + mm)) = j by omega] at this
              exact this), CS_ag y2 A y3 (fun i hi => cl i (by omega) (by omega)), (TW_ag A y3).1, z1, z2⟩
        · -- a mark is gone back to
          obtain ⟨p1, p2, p3, p4⟩ := u3 y z
          rw [← hq] at p1 p2 p3
          rw [if_neg z, if_neg z] at w2
          rw [if_neg z] at w3
          obtain ⟨a1, a2, a3, a4, a5⟩ := hTm q (by omega) p1
          have w3' : ∀ j, 407 ≤ j → h2 226 j = h 226 j := fun j hj => w3 j (by omega)
          refine rest (Tm q) ⟨RS.shift a1 a3.2.1 (fun j hj => w2 j (by omega)), CS.fr p2 (fun i hi => by
            rcases hi with hi | rfl
            · exact g i (by omega) (by omega) (by omega)
            · exact g 220 (by decide) (by decide) (by decide)), by rw [e220]; exact a3⟩ (Sn_cg (h := h1) p3 a5 (fun i hi => g i (by omega) (by omega) (by omega)) (fun j a c => ?_)) (fun mm hmm => ?_)
          · have := w2 j c
            rw [Nat.zero_add] at this
            exact this
          · obtain ⟨a, b, cc⟩ := I.mk mm hmm
            rw [g 174 (by decide) (by decide) (by decide), p4 174 (by decide) (by decide), w1 mm]
            have e27 : (if mm = q then 1 else h 227 mm) = h 227 mm := by
              by_cases x : mm = q
              · rw [if_pos x, ← b, x, p1]
              · rw [if_neg x]
            rw [e27]
            refine ⟨a, b, fun h1' => ?_⟩
            obtain ⟨t1, y1', y2, y3, y4, y5⟩ := cc h1'
            have cl : ∀ i, 120 ≤ i → i < 175 → h2 i = h i := fun i a c => by rw [g i (by omega) (by omega) (by omega), p4 i (by omega) (by omega)]
            obtain ⟨z1, z2⟩ := Sn_cg (h' := h2) (s' := fun j => h2 226 (407 * (1 + mm) + j)) y4 y5 (fun i hi => cl i (by omega) (by omega)) (fun j _ hj => w3' _ (by omega))
            exact ⟨t1, RS.cong y1' y3.2.1 (fun j a c => w3' j (by omega)), CS_ag y2 A y3 (fun i hi => cl i (by omega) (by omega)), (TW_ag A y3).1, z1, z2⟩
      · obtain ⟨w1, w2⟩ := v1 y
        have eh : h1 = h := u1 y
        have ea : ∀ i, i ≠ 214 → h2 i = h i := fun i a => by
          by_cases x : i = 226
          · rw [x, w1]
          · by_cases x2 : i = 227
            · rw [x2, w2]
            · rw [g i a x x2, eh]
        exact rest T (Lv_fr I.rs I.cs I.tw A (fun i a c => ea i (by omega)) (fun j _ => by rw [w1])) (Sn_cg I.sn I.se (fun i hi => ea i (by omega)) (fun j _ _ => by rw [w1])) (Mk_fr I.mk A (fun i a c => ea i (by omega)) (fun j _ _ => by rw [w1]) w2)
    (try simp (disch := omega) only [bi_0, x_ic, x_lc, x_ld, x_st, x_sl, x_inc, x_b32, x_b64, x_d32, x_d64, x_s64, x_un, x_lcmp, x_dup, x_pop, x_dup2, x_if, x_cmp, x_sw, swk, x_ald, x_ast, x_alen, x_getf, x_putf, x_inv, x_mm, x_copy, x_iret, x_lret, x_vret, ok1, pu, ct, rcv, rcs, ent0, List.getElem?_cons_zero, List.getElem?_cons_succ, List.getElem?_nil, List.set_cons_zero, List.set_cons_succ, List.take_succ_cons, List.take_zero, List.drop_succ_cons, List.drop_zero, List.reverse_cons, List.reverse_nil, List.nil_append, List.cons_append, List.length_cons, List.length_nil, true_and, and_true, and_self, ne_eq, not_true_eq_false, not_false_eq_true, reduceIte, true_or, or_true, false_or, or_false, Nat.reduceAdd, Nat.reduceSub, Nat.reduceMul, Nat.reduceLeDiff, Nat.reduceEqDiff, Nat.reduceLT, Nat.le_refl, Nat.zero_le, Int.reduceToNat, Int.reduceAdd, Int.reduceSub, Int.reduceMul, Int.reduceNeg, Int.reduceLT, Int.reduceLE, Int.reduceEq, Nat.zero_add, Nat.add_zero, Nat.reduceBEq, Nat.one_ne_zero, Nat.zero_ne_one, Nat.lt_irrefl, Nat.succ_ne_zero, w32_id, ixc, ixc2, Int.toNat_natCast, ← hm, ← hc])
    refine ⟨by omega, by omega, fun z => ?_, fun z => ?_⟩
    · refine S_L_law_1710 (by omega) (by omega) _ _ _ _ ?_; simp (disch := omega) only [B_L_law_1710, bi_0, x_ic, x_lc, x_ld, x_st, x_sl, x_inc, x_b32, x_b64, x_d32, x_d64, x_s64, x_un, x_lcmp, x_dup, x_pop, x_dup2, x_if, x_cmp, x_sw, swk, x_ald, x_ast, x_alen, x_getf, x_putf, x_inv, x_mm, x_copy, x_iret, x_lret, x_vret, ok1, pu, ct, rcv, rcs, ent0, List.getElem?_cons_zero, List.getElem?_cons_succ, List.getElem?_nil, List.set_cons_zero, List.set_cons_succ, List.take_succ_cons, List.take_zero, List.drop_succ_cons, List.drop_zero, List.reverse_cons, List.reverse_nil, List.nil_append, List.cons_append, List.length_cons, List.length_nil, true_and, and_true, and_self, ne_eq, not_true_eq_false, not_false_eq_true, reduceIte, true_or, or_true, false_or, or_false, Nat.reduceAdd, Nat.reduceSub, Nat.reduceMul, Nat.reduceLeDiff, Nat.reduceEqDiff, Nat.reduceLT, Nat.le_refl, Nat.zero_le, Int.reduceToNat, Int.reduceAdd, Int.reduceSub, Int.reduceMul, Int.reduceNeg, Int.reduceLT, Int.reduceLE, Int.reduceEq, Nat.zero_add, Nat.add_zero, Nat.reduceBEq, Nat.one_ne_zero, Nat.zero_ne_one, Nat.lt_irrefl, Nat.succ_ne_zero, w32_id, ixc, ixc2, Int.toNat_natCast]
      rw [o0 z] at ref ⊢
      exact ref
    · rw [o1 z] at ref ⊢
      exact ref
  refine S_L_law_1666 (by omega) (by omega) _ _ _ _ ?_; simp (disch := omega) only [B_L_law_1666, bi_0, x_ic, x_lc, x_ld, x_st, x_sl, x_inc, x_b32, x_b64, x_d32, x_d64, x_s64, x_un, x_lcmp, x_dup, x_pop, x_dup2, x_if, x_cmp, x_sw, swk, x_ald, x_ast, x_alen, x_getf, x_putf, x_inv, x_mm, x_copy, x_iret, x_lret, x_vret, ok1, pu, ct, rcv, rcs, ent0, List.getElem?_cons_zero, List.getElem?_cons_succ, List.getElem?_nil, List.set_cons_zero, List.set_cons_succ, List.take_succ_cons, List.take_zero, List.drop_succ_cons, List.drop_zero, List.reverse_cons, List.reverse_nil, List.nil_append, List.cons_append, List.length_cons, List.length_nil, true_and, and_true, and_self, ne_eq, not_true_eq_false, not_false_eq_true, reduceIte, true_or, or_true, false_or, or_false, Nat.reduceAdd, Nat.reduceSub, Nat.reduceMul, Nat.reduceLeDiff, Nat.reduceEqDiff, Nat.reduceLT, Nat.le_refl, Nat.zero_le, Int.reduceToNat, Int.reduceAdd, Int.reduceSub, Int.reduceMul, Int.reduceNeg, Int.reduceLT, Int.reduceLE, Int.reduceEq, Nat.zero_add, Nat.add_zero, Nat.reduceBEq, Nat.one_ne_zero, Nat.zero_ne_one, Nat.lt_irrefl, Nat.succ_ne_zero, w32_id, ixc, ixc2, Int.toNat_natCast, x_sld, ← hm, ← hc]
  refine ⟨by omega, by omega, fun z => ?_, fun z => ?_⟩
  · refine S_L_law_1686 (by omega) (by omega) _ _ _ _ ?_; simp (disch := omega) only [B_L_law_1686, bi_0, x_ic, x_lc, x_ld, x_st, x_sl, x_inc, x_b32, x_b64, x_d32, x_d64, x_s64, x_un, x_lcmp, x_dup, x_pop, x_dup2, x_if, x_cmp, x_sw, swk, x_ald, x_ast, x_alen, x_getf, x_putf, x_inv, x_mm, x_copy, x_iret, x_lret, x_vret, ok1, pu, ct, rcv, rcs, ent0, List.getElem?_cons_zero, List.getElem?_cons_succ, List.getElem?_nil, List.set_cons_zero, List.set_cons_succ, List.take_succ_cons, List.take_zero, List.drop_succ_cons, List.drop_zero, List.reverse_cons, List.reverse_nil, List.nil_append, List.cons_append, List.length_cons, List.length_nil, true_and, and_true, and_self, ne_eq, not_true_eq_false, not_false_eq_true, reduceIte, true_or, or_true, false_or, or_false, Nat.reduceAdd, Nat.reduceSub, Nat.reduceMul, Nat.reduceLeDiff, Nat.reduceEqDiff, Nat.reduceLT, Nat.le_refl, Nat.zero_le, Int.reduceToNat, Int.reduceAdd, Int.reduceSub, Int.reduceMul, Int.reduceNeg, Int.reduceLT, Int.reduceLE, Int.reduceEq, Nat.zero_add, Nat.add_zero, Nat.reduceBEq, Nat.one_ne_zero, Nat.zero_ne_one, Nat.lt_irrefl, Nat.succ_ne_zero, w32_id, ixc, ixc2, Int.toNat_natCast]
    exact main 0 (Or.inl rfl) (fun _ => rfl) (fun x => absurd z x)
  · exact main 1 (Or.inr rfl) (fun x => absurd x z) (fun _ => rfl)
end LMK

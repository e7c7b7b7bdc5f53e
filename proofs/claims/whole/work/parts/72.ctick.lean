/-! the class: a tick, whole; units put in -/
/-- what a tick's serving leaves as it was -/
def Fs (tb : Nat) (h h' : Mem) : Prop := ∀ i, i < tb + 2 ∨ i = tb + 6 ∨ (tb + 11 ≤ i ∧ i < tb + 16) ∨ (tb + 18 ≤ i ∧ i ≤ tb + 20) ∨ tb + 22 ≤ i → h' i = h i
theorem Fs.x {tb : Nat} {h h' : Mem} (f : Fs tb h h') : Fx tb h h' := ⟨fun i q => f i (by omega), fun j _ => by rw [f tb (by omega)], fun i q => f i (by omega)⟩
section CK
variable {l : Launch} {d : Nat} {h : Mem} {tb nb : Nat}
theorem c_passOn (L : Lay h) (ht : Trf tb) (hnb : nb = 4 ∨ nb = 34) (R : RN h nb) (W : WN (h 220)) (M : Mono (h 220)) {T : TS} (C : CS h tb T) (Tw : TW (h 220) T) : Cl l (d + 4) M_X9_passOn [(2, (tb : Int) + 1), (2, (nb : Int) + 1)] SHP h (fun r sh' h' => sh' = SHP ∧ Fx tb h h' ∧ ((60 ≤ tmT T ∧ r = -1 ∧ h' = h) ∨ (tmT T < 60 ∧ r = tkG (h 220) T ∧ CS h' tb (tkT (h 220) T)))) := by
  have o := tf_ob ht
  have s1 := (net_sh hnb).1
  have nf := W.nf
  have nn := W.nn
  have htb : 72 ≤ tb ∧ tb ≤ 148 := by unfold Trf at ht; omega
  obtain ⟨t1, t2, t3, t4, t5⟩ := id Tw
  obtain ⟨c1, c2, c3, c4, c5⟩ := id C
  refine Cl_hide (fun Q hQ => ?_)
  obtain ⟨nt, ent⟩ : ∃ nt, nt = h 220 := ⟨_, rfl⟩
  obtain ⟨us, eus⟩ : ∃ us, us = usT T := ⟨_, rfl⟩
  obtain ⟨bz, ebz⟩ : ∃ bz, bz = bzT T := ⟨_, rfl⟩
  obtain ⟨tm, etm⟩ : ∃ tm, tm = tmT T := ⟨_, rfl⟩
  rw [← ent] at hQ W M t3 t5 nf nn c2
  rw [← eus] at t2 t3 t5 c2
  rw [← ebz] at t4 t5 c3
  rw [← etm] at t1 t3 t4 c1 hQ
  have h4 : ∀ k, k < us.length → ((uA us k).1 : Int) < 4 := fun k hk => by have := (t3 k hk).1; omega
  have x12 : h nb 12 = nt 1 := by rw [R.2.1.1, ← ent]
  show V l (d + 4) 0 0 M_X9_passOn 0 0 0 Q [(2, (tb : Int) + 1), (2, (nb : Int) + 1), (9, 0), (9, 0), (9, 0)] [] SHP h
  refine S_X9_passOn_0 _ _ _ _ ?_; simp (disch := omega) only [B_X9_passOn_0, bi_0, x_ic, x_lc, x_ld, x_st, x_sl, x_inc, x_b32, x_b64, x_d32, x_d64, x_s64, x_un, x_lcmp, x_dup, x_pop, x_dup2, x_if, x_cmp, x_sw, swk, x_ald, x_ast, x_alen, x_getf, x_putf, x_inv, x_mm, x_copy, x_iret, x_lret, x_vret, ok1, pu, ct, rcv, rcs, ent0, List.getElem?_cons_zero, List.getElem?_cons_succ, List.getElem?_nil, List.set_cons_zero, List.set_cons_succ, List.take_succ_cons, List.take_zero, List.drop_succ_cons, List.drop_zero, List.reverse_cons, List.reverse_nil, List.nil_append, List.cons_append, List.length_cons, List.length_nil, true_and, and_true, and_self, ne_eq, not_true_eq_false, not_false_eq_true, reduceIte, true_or, or_true, false_or, or_false, Nat.reduceAdd, Nat.reduceSub, Nat.reduceMul, Nat.reduceLeDiff, Nat.reduceEqDiff, Nat.reduceLT, Nat.le_refl, Nat.zero_le, Int.reduceToNat, Int.reduceAdd, Int.reduceSub, Int.reduceMul, Int.reduceNeg, Int.reduceLT, Int.reduceLE, Int.reduceEq, Nat.zero_add, Nat.add_zero, Nat.reduceBEq, Nat.one_ne_zero, Nat.zero_ne_one, Nat.lt_irrefl, Nat.succ_ne_zero, w32_id, ixc, ixc2, Int.toNat_natCast, o, c1]
  refine ⟨fun z => ?_, fun z => ?_⟩
  case' refine_2 => exact hQ _ _ _ ⟨rfl, Fx.rfl, Or.inl ⟨by omega, rfl, rfl⟩⟩
  obtain ⟨SN, hSN⟩ : ∃ SN : List Nat, SN = slS nt us bz (nt 1).toNat := ⟨_, rfl⟩
  have hlen : (pl (fun k => !(SN.contains k)) us.length).length + SN.length = us.length := by rw [hSN]; exact slS_len h4 _
  have hl0 : (lft0 us SN).length = (pl (fun k => !(SN.contains k)) us.length).length := by unfold lft0; rw [List.length_map]
  have es : SN = slA nt T := by rw [hSN]; unfold slA; rw [← eus, ← ebz]
  -- the served ones go on
  have mvr : ∀ i, i ≤ SN.length → (mvR nt T SN i).1.length + (SN.length - i) ≤ 40 ∧ 0 ≤ (mvR nt T SN i).2.2.2 ∧ (mvR nt T SN i).2.2.2 ≤ i := by
    intro i
    induction i with
    | zero => intro _; rw [mvR]; dsimp only; rw [← eus, hl0]; omega
    | succ i ih =>
      intro hi
      have ih := ih (by omega)
      rw [mvR, mvS]
      split
      · dsimp only; rw [List.length_append]; simp; omega
      · dsimp only; omega
  have fin : ∀ (g n : Nat), (n : Int) + g = nt 1 → ∀ m, Fx tb h m → CS m tb (tm + 1, (mvR nt T SN (slS nt us bz n).length).1, bzN nt T, (mvR nt T SN (slS nt us bz n).length).2.1, lsT T, (mvR nt T SN (slS nt us bz n).length).2.2.1, ptT T) → (∀ n' : Nat, (n' : Int) < nt 1 → m (tb + 21) n' = ((slN nt us bz n').1.length : Int) ∧ ∀ i, i < (slN nt us bz n').1.length → m (tb + 7 + n') i = enc (uA us ((slN nt us bz n').1.getD i 0))) → V l (d + 4) 0 0 M_X9_passOn 0 0 47 Q [(2, (tb : Int) + 1), (2, (nb : Int) + 1), (0, (mvR nt T SN (slS nt us bz n).length).2.2.2), (0, (n : Int)), (9, 0)] [] SHP m := by
    intro g
    induction g with
    | zero =>
      intro n hn m F Cm hsv
      have Rm := F.rn ht R (by rw [← ent]; exact W) hnb
      have e220 : m 220 = nt := by rw [ent]; exact F.n220 ht
      have y12 : m nb 12 = nt 1 := by rw [Rm.2.1.1, e220]
      refine S_X9_passOn_47 _ _ _ _ ?_; simp (disch := omega) only [B_X9_passOn_47, bi_0, x_ic, x_lc, x_ld, x_st, x_sl, x_inc, x_b32, x_b64, x_d32, x_d64, x_s64, x_un, x_lcmp, x_dup, x_pop, x_dup2, x_if, x_cmp, x_sw, swk, x_ald, x_ast, x_alen, x_getf, x_putf, x_inv, x_mm, x_copy, x_iret, x_lret, x_vret, ok1, pu, ct, rcv, rcs, ent0, List.getElem?_cons_zero, List.getElem?_cons_succ, List.getElem?_nil, List.set_cons_zero, List.set_cons_succ, List.take_succ_cons, List.take_zero, List.drop_succ_cons, List.drop_zero, List.reverse_cons, List.reverse_nil, List.nil_append, List.cons_append, List.length_cons, List.length_nil, true_and, and_true, and_self, ne_eq, not_true_eq_false, not_false_eq_true, reduceIte, true_or, or_true, false_or, or_false, Nat.reduceAdd, Nat.reduceSub, Nat.reduceMul, Nat.reduceLeDiff, Nat.reduceEqDiff, Nat.reduceLT, Nat.le_refl, Nat.zero_le, Int.reduceToNat, Int.reduceAdd, Int.reduceSub, Int.reduceMul, Int.reduceNeg, Int.reduceLT, Int.reduceLE, Int.reduceEq, Nat.zero_add, Nat.add_zero, Nat.reduceBEq, Nat.one_ne_zero, Nat.zero_ne_one, Nat.lt_irrefl, Nat.succ_ne_zero, w32_id, ixc, ixc2, Int.toNat_natCast, s1, y12]
      refine ⟨fun _ => ?_, fun z => absurd z (by omega)⟩
      refine S_X9_passOn_99 _ _ _ _ ?_; simp (disch := omega) only [B_X9_passOn_99, bi_0, x_ic, x_lc, x_ld, x_st, x_sl, x_inc, x_b32, x_b64, x_d32, x_d64, x_s64, x_un, x_lcmp, x_dup, x_pop, x_dup2, x_if, x_cmp, x_sw, swk, x_ald, x_ast, x_alen, x_getf, x_putf, x_inv, x_mm, x_copy, x_iret, x_lret, x_vret, ok1, pu, ct, rcv, rcs, ent0, List.getElem?_cons_zero, List.getElem?_cons_succ, List.getElem?_nil, List.set_cons_zero, List.set_cons_succ, List.take_succ_cons, List.take_zero, List.drop_succ_cons, List.drop_zero, List.reverse_cons, List.reverse_nil, List.nil_append, List.cons_append, List.length_cons, List.length_nil, true_and, and_true, and_self, ne_eq, not_true_eq_false, not_false_eq_true, reduceIte, true_or, or_true, false_or, or_false, Nat.reduceAdd, Nat.reduceSub, Nat.reduceMul, Nat.reduceLeDiff, Nat.reduceEqDiff, Nat.reduceLT, Nat.le_refl, Nat.zero_le, Int.reduceToNat, Int.reduceAdd, Int.reduceSub, Int.reduceMul, Int.reduceNeg, Int.reduceLT, Int.reduceLE, Int.reduceEq, Nat.zero_add, Nat.add_zero, Nat.reduceBEq, Nat.one_ne_zero, Nat.zero_ne_one, Nat.lt_irrefl, Nat.succ_ne_zero, w32_id, ixc, ixc2, Int.toNat_natCast]
      have eS : (slS nt us bz n) = SN := by rw [hSN, show n = (nt 1).toNat by omega]
      have em : mvR nt T SN (slS nt us bz n).length = mvd nt T := by rw [eS]; unfold mvd; rw [← es]
      rw [em] at Cm ⊢
      refine hQ _ _ _ ⟨rfl, F, Or.inr ⟨by omega, rfl, ?_⟩⟩
      unfold tkT
      rw [← etm]
      exact Cm
    | succ g ih =>
      intro n hn m F Cm hsv
      have Rm := F.rn ht R (by rw [← ent]; exact W) hnb
      have e220 : m 220 = nt := by rw [ent]; exact F.n220 ht
      have y12 : m nb 12 = nt 1 := by rw [Rm.2.1.1, e220]
      have hni : (n : Int) < nt 1 := by omega
      have hn4 : n < 4 := by omega
      have sS : slS nt us bz (n + 1) = slS nt us bz n ++ (slN nt us bz n).1 := rfl
      have sl1 : (slS nt us bz (n + 1)).length ≤ SN.length := by
        rw [hSN]
        have : ∀ a b : Nat, a ≤ b → (slS nt us bz a).length ≤ (slS nt us bz b).length := fun a b hab => by
          induction hab with
          | refl => exact Nat.le_refl _
          | step _ ih => exact Nat.le_trans ih (by rw [slS, List.length_append]; omega)
        exact this _ _ (by omega)
      have sg : ∀ i, i < (slN nt us bz n).1.length → SN.getD ((slS nt us bz n).length + i) 0 = (slN nt us bz n).1.getD i 0 := fun i hi => by
        have h1 : (slS nt us bz (n + 1)).getD ((slS nt us bz n).length + i) 0 = (slN nt us bz n).1.getD i 0 := by rw [sS]; exact gD_app_r 0
        have pre : ∀ b : Nat, n + 1 ≤ b → (slS nt us bz b).getD ((slS nt us bz n).length + i) 0 = (slS nt us bz (n + 1)).getD ((slS nt us bz n).length + i) 0 := fun b hb => by
          induction hb with
          | refl => rfl
          | step hb ih =>
            rw [slS, gD_app_l 0 ?_]
            · exact ih
            · have : ∀ a b : Nat, a ≤ b → (slS nt us bz a).length ≤ (slS nt us bz b).length := fun a b hab => by
                induction hab with
                | refl => exact Nat.le_refl _
                | step _ ih => exact Nat.le_trans ih (by rw [slS, List.length_append]; omega)
              have := this _ _ hb
              rw [sS, List.length_append] at this
              omega
        rw [hSN, pre _ (by omega)]; exact h1
      refine S_X9_passOn_47 _ _ _ _ ?_; simp (disch := omega) only [B_X9_passOn_47, bi_0, x_ic, x_lc, x_ld, x_st, x_sl, x_inc, x_b32, x_b64, x_d32, x_d64, x_s64, x_un, x_lcmp, x_dup, x_pop, x_dup2, x_if, x_cmp, x_sw, swk, x_ald, x_ast, x_alen, x_getf, x_putf, x_inv, x_mm, x_copy, x_iret, x_lret, x_vret, ok1, pu, ct, rcv, rcs, ent0, List.getElem?_cons_zero, List.getElem?_cons_succ, List.getElem?_nil, List.set_cons_zero, List.set_cons_succ, List.take_succ_cons, List.take_zero, List.drop_succ_cons, List.drop_zero, List.reverse_cons, List.reverse_nil, List.nil_append, List.cons_append, List.length_cons, List.length_nil, true_and, and_true, and_self, ne_eq, not_true_eq_false, not_false_eq_true, reduceIte, true_or, or_true, false_or, or_false, Nat.reduceAdd, Nat.reduceSub, Nat.reduceMul, Nat.reduceLeDiff, Nat.reduceEqDiff, Nat.reduceLT, Nat.le_refl, Nat.zero_le, Int.reduceToNat, Int.reduceAdd, Int.reduceSub, Int.reduceMul, Int.reduceNeg, Int.reduceLT, Int.reduceLE, Int.reduceEq, Nat.zero_add, Nat.add_zero, Nat.reduceBEq, Nat.one_ne_zero, Nat.zero_ne_one, Nat.lt_irrefl, Nat.succ_ne_zero, w32_id, ixc, ixc2, Int.toNat_natCast, s1, y12]
      refine ⟨fun z => absurd z (by omega), fun _ => ?_⟩
      have inner : ∀ (g2 i : Nat), i + g2 = (slN nt us bz n).1.length → ∀ m, Fx tb h m → CS m tb (tm + 1, (mvR nt T SN ((slS nt us bz n).length + i)).1, bzN nt T, (mvR nt T SN ((slS nt us bz n).length + i)).2.1, lsT T, (mvR nt T SN ((slS nt us bz n).length + i)).2.2.1, ptT T) → (∀ n' : Nat, (n' : Int) < nt 1 → m (tb + 21) n' = ((slN nt us bz n').1.length : Int) ∧ ∀ i, i < (slN nt us bz n').1.length → m (tb + 7 + n') i = enc (uA us ((slN nt us bz n').1.getD i 0))) → V l (d + 4) 0 0 M_X9_passOn 0 0 58 Q [(2, (tb : Int) + 1), (2, (nb : Int) + 1), (0, (mvR nt T SN ((slS nt us bz n).length + i)).2.2.2), (0, (n : Int)), (0, (i : Int))] [] SHP m := by
        intro g2
        induction g2 with
        | zero =>
          intro i hi m F Cm hsv
          have Lm := F.lay ht L
          have sm1 := (hsv n hni).1
          refine S_X9_passOn_58 _ _ _ _ ?_; simp (disch := omega) only [B_X9_passOn_58, bi_0, x_ic, x_lc, x_ld, x_st, x_sl, x_inc, x_b32, x_b64, x_d32, x_d64, x_s64, x_un, x_lcmp, x_dup, x_pop, x_dup2, x_if, x_cmp, x_sw, swk, x_ald, x_ast, x_alen, x_getf, x_putf, x_inv, x_mm, x_copy, x_iret, x_lret, x_vret, ok1, pu, ct, rcv, rcs, ent0, List.getElem?_cons_zero, List.getElem?_cons_succ, List.getElem?_nil, List.set_cons_zero, List.set_cons_succ, List.take_succ_cons, List.take_zero, List.drop_succ_cons, List.drop_zero, List.reverse_cons, List.reverse_nil, List.nil_append, List.cons_append, List.length_cons, List.length_nil, true_and, and_true, and_self, ne_eq, not_true_eq_false, not_false_eq_true, reduceIte, true_or, or_true, false_or, or_false, Nat.reduceAdd, Nat.reduceSub, Nat.reduceMul, Nat.reduceLeDiff, Nat.reduceEqDiff, Nat.reduceLT, Nat.le_refl, Nat.zero_le, Int.reduceToNat, Int.reduceAdd, Int.reduceSub, Int.reduceMul, Int.reduceNeg, Int.reduceLT, Int.reduceLE, Int.reduceEq, Nat.zero_add, Nat.add_zero, Nat.reduceBEq, Nat.one_ne_zero, Nat.zero_ne_one, Nat.lt_irrefl, Nat.succ_ne_zero, w32_id, ixc, ixc2, Int.toNat_natCast, o, tf8 Lm ht, tl21 ht, sm1]
          (repeat' (first | assumption | (with_reducible refine And.intro ?_ ?_) | (refine im (fun hq => ?_); (try (exfalso; omega; done))) | omega))
          refine S_X9_passOn_93 _ _ _ _ ?_; simp (disch := omega) only [B_X9_passOn_93, bi_0, x_ic, x_lc, x_ld, x_st, x_sl, x_inc, x_b32, x_b64, x_d32, x_d64, x_s64, x_un, x_lcmp, x_dup, x_pop, x_dup2, x_if, x_cmp, x_sw, swk, x_ald, x_ast, x_alen, x_getf, x_putf, x_inv, x_mm, x_copy, x_iret, x_lret, x_vret, ok1, pu, ct, rcv, rcs, ent0, List.getElem?_cons_zero, List.getElem?_cons_succ, List.getElem?_nil, List.set_cons_zero, List.set_cons_succ, List.take_succ_cons, List.take_zero, List.drop_succ_cons, List.drop_zero, List.reverse_cons, List.reverse_nil, List.nil_append, List.cons_append, List.length_cons, List.length_nil, true_and, and_true, and_self, ne_eq, not_true_eq_false, not_false_eq_true, reduceIte, true_or, or_true, false_or, or_false, Nat.reduceAdd, Nat.reduceSub, Nat.reduceMul, Nat.reduceLeDiff, Nat.reduceEqDiff, Nat.reduceLT, Nat.le_refl, Nat.zero_le, Int.reduceToNat, Int.reduceAdd, Int.reduceSub, Int.reduceMul, Int.reduceNeg, Int.reduceLT, Int.reduceLE, Int.reduceEq, Nat.zero_add, Nat.add_zero, Nat.reduceBEq, Nat.one_ne_zero, Nat.zero_ne_one, Nat.lt_irrefl, Nat.succ_ne_zero, w32_id, ixc, ixc2, Int.toNat_natCast]
          refine V_fg [4] ?_
          have el : (slS nt us bz n).length + i = (slS nt us bz (n + 1)).length := by rw [sS, List.length_append]; omega
          rw [el] at Cm ⊢
          exact ih (n + 1) (by omega) m F Cm hsv
        | succ g2 ih2 =>
          intro i hi m F Cm hsv
          have Lm := F.lay ht L
          have Rm := F.rn ht R (by rw [← ent]; exact W) hnb
          have e220 : m 220 = nt := by rw [ent]; exact F.n220 ht
          have Wm : WN (m 220) := by rw [e220]; exact W
          obtain ⟨sm1, sm2⟩ := hsv n hni
          have sm2 := sm2 i (by omega)
          have hsel : (slN nt us bz n).1.getD i 0 ∈ ixs nt us n := (slN_mem h4 n _).mp (Or.inl (gD_mem 0 (by omega)))
          obtain ⟨k, hk⟩ : ∃ k, k = (slN nt us bz n).1.getD i 0 := ⟨_, rfl⟩
          rw [← hk] at sm2 hsel
          obtain ⟨hk1, hk2⟩ := ixs_at hsel
          have hw := t3 k hk1
          obtain ⟨j, hj⟩ : ∃ j, j = (slS nt us bz n).length + i := ⟨_, rfl⟩
          have jl : j < SN.length := by
            rw [sS, List.length_append] at sl1; omega
          have mv := mvr j (by omega)
          have eX : mvR nt T SN (j + 1) = mvS nt tm (mvR nt T SN j) (uA us k) := by rw [mvR, ← etm, ← eus, hj, sg i (by omega), ← hk]
          rw [← hj] at Cm ⊢
          obtain ⟨X, hX⟩ : ∃ X, X = mvR nt T SN j := ⟨_, rfl⟩
          rw [← hX] at Cm eX mv ⊢
          have cs := c_sendOn (l := l) (d := d + 1) Lm ht hnb Rm Wm Cm (show X.1.length < 40 by omega) (n := n) (u := uA us k) (by rw [e220]; exact ⟨hw.1, hw.2.1, by have := hw.2.2; omega⟩) (by rw [e220]; exact hk2) (show tm + 1 ≤ 60 by omega)
          rw [e220] at cs
          refine S_X9_passOn_58 _ _ _ _ ?_; simp (disch := omega) only [B_X9_passOn_58, bi_0, x_ic, x_lc, x_ld, x_st, x_sl, x_inc, x_b32, x_b64, x_d32, x_d64, x_s64, x_un, x_lcmp, x_dup, x_pop, x_dup2, x_if, x_cmp, x_sw, swk, x_ald, x_ast, x_alen, x_getf, x_putf, x_inv, x_mm, x_copy, x_iret, x_lret, x_vret, ok1, pu, ct, rcv, rcs, ent0, List.getElem?_cons_zero, List.getElem?_cons_succ, List.getElem?_nil, List.set_cons_zero, List.set_cons_succ, List.take_succ_cons, List.take_zero, List.drop_succ_cons, List.drop_zero, List.reverse_cons, List.reverse_nil, List.nil_append, List.cons_append, List.length_cons, List.length_nil, true_and, and_true, and_self, ne_eq, not_true_eq_false, not_false_eq_true, reduceIte, true_or, or_true, false_or, or_false, Nat.reduceAdd, Nat.reduceSub, Nat.reduceMul, Nat.reduceLeDiff, Nat.reduceEqDiff, Nat.reduceLT, Nat.le_refl, Nat.zero_le, Int.reduceToNat, Int.reduceAdd, Int.reduceSub, Int.reduceMul, Int.reduceNeg, Int.reduceLT, Int.reduceLE, Int.reduceEq, Nat.zero_add, Nat.add_zero, Nat.reduceBEq, Nat.one_ne_zero, Nat.zero_ne_one, Nat.lt_irrefl, Nat.succ_ne_zero, w32_id, ixc, ixc2, Int.toNat_natCast, o, tf8 Lm ht, tl21 ht, sm1, tf1 Lm ht, tl6 ht, tf_s Lm ht hn4, tls ht hn4, sm2]
          have ho : (slN nt us bz n).1.length ≤ 40 := by
            have := slS_room h4 (nt := nt) (bz := bz) n
            have := sel_len (kind := kd nt n) (fl := fun k => (uA us k).1) (q := (quo nt bz n).toNat) (t := -1) (I := ixs nt us n) (fun k hk => h4 k (ixs_at hk).1)
            have e9 : slN nt us bz n = sel (kd nt n) (fun k => (uA us k).1) (quo nt bz n).toNat (-1) (ixs nt us n) := rfl
            rw [← e9] at this
            omega
          (repeat' (first | assumption | (with_reducible refine And.intro ?_ ?_) | (refine im (fun hq => ?_); (try (exfalso; omega; done))) | omega))
          refine Cl.imp cs (fun r sh' h' qq => ?_)
          obtain ⟨rfl, f3, q3⟩ := qq
          have F3 : Fx tb h h' := F.trans ⟨fun i q => f3 i (by simp; omega), fun j _ => by rw [f3 tb (by simp)], fun i q => f3 i (by simp; omega)⟩
          have hsv3 : ∀ n' : Nat, (n' : Int) < nt 1 → h' (tb + 21) n' = ((slN nt us bz n').1.length : Int) ∧ ∀ i, i < (slN nt us bz n').1.length → h' (tb + 7 + n') i = enc (uA us ((slN nt us bz n').1.getD i 0)) := fun n' hn' => by
            have := hsv n' hn'
            exact ⟨by rw [f3 (tb + 21) (by simp)]; exact this.1, by rw [f3 (tb + 7 + n') (by simp; omega)]; exact this.2⟩
          have ih2 := ih2 (i + 1) (by omega) h' F3
          rw [show (slS nt us bz n).length + (i + 1) = j + 1 by omega, eX] at ih2
          unfold mvS at ih2
          rcases q3 with ⟨p1, rfl, p3⟩ | ⟨p1, rfl, p3⟩
          · rw [if_pos p1] at ih2
            (try simp (disch := omega) only [bi_0, x_ic, x_lc, x_ld, x_st, x_sl, x_inc, x_b32, x_b64, x_d32, x_d64, x_s64, x_un, x_lcmp, x_dup, x_pop, x_dup2, x_if, x_cmp, x_sw, swk, x_ald, x_ast, x_alen, x_getf, x_putf, x_inv, x_mm, x_copy, x_iret, x_lret, x_vret, ok1, pu, ct, rcv, rcs, ent0, List.getElem?_cons_zero, List.getElem?_cons_succ, List.getElem?_nil, List.set_cons_zero, List.set_cons_succ, List.take_succ_cons, List.take_zero, List.drop_succ_cons, List.drop_zero, List.reverse_cons, List.reverse_nil, List.nil_append, List.cons_append, List.length_cons, List.length_nil, true_and, and_true, and_self, ne_eq, not_true_eq_false, not_false_eq_true, reduceIte, true_or, or_true, false_or, or_false, Nat.reduceAdd, Nat.reduceSub, Nat.reduceMul, Nat.reduceLeDiff, Nat.reduceEqDiff, Nat.reduceLT, Nat.le_refl, Nat.zero_le, Int.reduceToNat, Int.reduceAdd, Int.reduceSub, Int.reduceMul, Int.reduceNeg, Int.reduceLT, Int.reduceLE, Int.reduceEq, Nat.zero_add, Nat.add_zero, Nat.reduceBEq, Nat.one_ne_zero, Nat.zero_ne_one, Nat.lt_irrefl, Nat.succ_ne_zero, w32_id, ixc, ixc2, Int.toNat_natCast])
            rw [Int.add_zero]
            exact ih2 p3 hsv3
          · rw [if_neg p1] at ih2
            (try simp (disch := omega) only [bi_0, x_ic, x_lc, x_ld, x_st, x_sl, x_inc, x_b32, x_b64, x_d32, x_d64, x_s64, x_un, x_lcmp, x_dup, x_pop, x_dup2, x_if, x_cmp, x_sw, swk, x_ald, x_ast, x_alen, x_getf, x_putf, x_inv, x_mm, x_copy, x_iret, x_lret, x_vret, ok1, pu, ct, rcv, rcs, ent0, List.getElem?_cons_zero, List.getElem?_cons_succ, List.getElem?_nil, List.set_cons_zero, List.set_cons_succ, List.take_succ_cons, List.take_zero, List.drop_succ_cons, List.drop_zero, List.reverse_cons, List.reverse_nil, List.nil_append, List.cons_append, List.length_cons, List.length_nil, true_and, and_true, and_self, ne_eq, not_true_eq_false, not_false_eq_true, reduceIte, true_or, or_true, false_or, or_false, Nat.reduceAdd, Nat.reduceSub, Nat.reduceMul, Nat.reduceLeDiff, Nat.reduceEqDiff, Nat.reduceLT, Nat.le_refl, Nat.zero_le, Int.reduceToNat, Int.reduceAdd, Int.reduceSub, Int.reduceMul, Int.reduceNeg, Int.reduceLT, Int.reduceLE, Int.reduceEq, Nat.zero_add, Nat.add_zero, Nat.reduceBEq, Nat.one_ne_zero, Nat.zero_ne_one, Nat.lt_irrefl, Nat.succ_ne_zero, w32_id, ixc, ixc2, Int.toNat_natCast])
            refine ih2 ?_ hsv3
            have e5 : (fun i => if i = (uA us k).1 then max (X.2.2.1 i) (((tm + 1 : Nat) : Int) - ((uA us k).2.2 : Int)) else X.2.2.1 i) = fun i => if i = (uA us k).1 then max (X.2.2.1 i) ((tm : Int) + 1 - ((uA us k).2.2 : Int)) else X.2.2.1 i := funext fun i => by
              rw [show ((tm + 1 : Nat) : Int) = (tm : Int) + 1 by omega]
            have p3 : CS h' tb (tm + 1, X.1, bzN nt T, (fun i => if i = (uA us k).1 then w32 (X.2.1 i + 1) else X.2.1 i), lsT T, (fun i => if i = (uA us k).1 then max (X.2.2.1 i) (((tm + 1 : Nat) : Int) - ((uA us k).2.2 : Int)) else X.2.2.1 i), ptT T) := p3
            rw [e5] at p3
            exact p3
      exact inner (slN nt us bz n).1.length 0 (by omega) m F Cm hsv
  -- nodes serve
  refine S_X9_passOn_11 _ _ _ _ ?_; simp (disch := omega) only [B_X9_passOn_11, bi_0, x_ic, x_lc, x_ld, x_st, x_sl, x_inc, x_b32, x_b64, x_d32, x_d64, x_s64, x_un, x_lcmp, x_dup, x_pop, x_dup2, x_if, x_cmp, x_sw, swk, x_ald, x_ast, x_alen, x_getf, x_putf, x_inv, x_mm, x_copy, x_iret, x_lret, x_vret, ok1, pu, ct, rcv, rcs, ent0, List.getElem?_cons_zero, List.getElem?_cons_succ, List.getElem?_nil, List.set_cons_zero, List.set_cons_succ, List.take_succ_cons, List.take_zero, List.drop_succ_cons, List.drop_zero, List.reverse_cons, List.reverse_nil, List.nil_append, List.cons_append, List.length_cons, List.length_nil, true_and, and_true, and_self, ne_eq, not_true_eq_false, not_false_eq_true, reduceIte, true_or, or_true, false_or, or_false, Nat.reduceAdd, Nat.reduceSub, Nat.reduceMul, Nat.reduceLeDiff, Nat.reduceEqDiff, Nat.reduceLT, Nat.le_refl, Nat.zero_le, Int.reduceToNat, Int.reduceAdd, Int.reduceSub, Int.reduceMul, Int.reduceNeg, Int.reduceLT, Int.reduceLE, Int.reduceEq, Nat.zero_add, Nat.add_zero, Nat.reduceBEq, Nat.one_ne_zero, Nat.zero_ne_one, Nat.lt_irrefl, Nat.succ_ne_zero, w32_id, ixc, ixc2, Int.toNat_natCast]
  refine V_jx (pc := 13) (fun n => [(2, (tb : Int) + 1), (2, (nb : Int) + 1), (0, (n : Int)), (9, 0), (9, 0)]) (fun n m => Fs tb h m ∧ (∀ n', n' < 4 → n' < n → QR m tb n' ((slN nt us bz n').2.map (fun k => enc (uA us k))) ∧ m (tb + 17) n' = bzN nt T n' ∧ m (tb + 21) n' = ((slN nt us bz n').1.length : Int) ∧ ∀ i, i < (slN nt us bz n').1.length → m (tb + 7 + n') i = enc (uA us ((slN nt us bz n').1.getD i 0))) ∧ ∀ n', n' < 4 → n ≤ n' → QR m tb n' (qL nt us n') ∧ m (tb + 17) n' = bz n') (nt 1).toNat (fun n m hn J ih => ?_) (fun m J => ?_) h ⟨fun _ _ => rfl, fun n' _ q => absurd q (by omega), fun n' q _ => ⟨c2 n' q, c3 n' q⟩⟩
  · obtain ⟨F, J1, J2⟩ := J
    have Fxm := F.x
    have Lm := Fxm.lay ht L
    have Rm := Fxm.rn ht R (by rw [← ent]; exact W) hnb
    have e220 : m 220 = nt := by rw [ent]; exact Fxm.n220 ht
    have Wm : WN (m 220) := by rw [e220]; exact W
    have y12 : m nb 12 = nt 1 := by rw [Rm.2.1.1, e220]
    have hni : (n : Int) < nt 1 := by omega
    have hn4 : n < 4 := by omega
    obtain ⟨q1, q2⟩ := J2 n hn4 (Nat.le_refl n)
    rw [qL_ix] at q1
    have bzb := t4 n hn4
    have cb := W.cuB n hni
    have q0 := M (cu nt n) (bz n) cb.1 cb.2 (by omega) (by omega)
    have cs := c_serveAt (l := l) (d := d) Lm ht hnb Rm Wm (n := n) (by rw [e220]; exact hni) (bz := bz) q2 (by omega) (by rw [e220]; unfold quo; omega) t2 (fun k hk => ⟨h4 k hk, by have := (t3 k hk).2.2; omega⟩) (by rw [e220]; exact q1)
    rw [e220] at cs
    refine S_X9_passOn_13 _ _ _ _ ?_; simp (disch := omega) only [B_X9_passOn_13, bi_0, x_ic, x_lc, x_ld, x_st, x_sl, x_inc, x_b32, x_b64, x_d32, x_d64, x_s64, x_un, x_lcmp, x_dup, x_pop, x_dup2, x_if, x_cmp, x_sw, swk, x_ald, x_ast, x_alen, x_getf, x_putf, x_inv, x_mm, x_copy, x_iret, x_lret, x_vret, ok1, pu, ct, rcv, rcs, ent0, List.getElem?_cons_zero, List.getElem?_cons_succ, List.getElem?_nil, List.set_cons_zero, List.set_cons_succ, List.take_succ_cons, List.take_zero, List.drop_succ_cons, List.drop_zero, List.reverse_cons, List.reverse_nil, List.nil_append, List.cons_append, List.length_cons, List.length_nil, true_and, and_true, and_self, ne_eq, not_true_eq_false, not_false_eq_true, reduceIte, true_or, or_true, false_or, or_false, Nat.reduceAdd, Nat.reduceSub, Nat.reduceMul, Nat.reduceLeDiff, Nat.reduceEqDiff, Nat.reduceLT, Nat.le_refl, Nat.zero_le, Int.reduceToNat, Int.reduceAdd, Int.reduceSub, Int.reduceMul, Int.reduceNeg, Int.reduceLT, Int.reduceLE, Int.reduceEq, Nat.zero_add, Nat.add_zero, Nat.reduceBEq, Nat.one_ne_zero, Nat.zero_ne_one, Nat.lt_irrefl, Nat.succ_ne_zero, w32_id, ixc, ixc2, Int.toNat_natCast, s1, y12, o]
    refine ⟨fun z => absurd z (by omega), fun _ => ?_⟩
    refine Cl.imp cs (fun r sh' h' qq => ?_)
    obtain ⟨rfl, rfl, f3, p1, p2, p3, p4, p5⟩ := qq
    (try simp (disch := omega) only [bi_0, x_ic, x_lc, x_ld, x_st, x_sl, x_inc, x_b32, x_b64, x_d32, x_d64, x_s64, x_un, x_lcmp, x_dup, x_pop, x_dup2, x_if, x_cmp, x_sw, swk, x_ald, x_ast, x_alen, x_getf, x_putf, x_inv, x_mm, x_copy, x_iret, x_lret, x_vret, ok1, pu, ct, rcv, rcs, ent0, List.getElem?_cons_zero, List.getElem?_cons_succ, List.getElem?_nil, List.set_cons_zero, List.set_cons_succ, List.take_succ_cons, List.take_zero, List.drop_succ_cons, List.drop_zero, List.reverse_cons, List.reverse_nil, List.nil_append, List.cons_append, List.length_cons, List.length_nil, true_and, and_true, and_self, ne_eq, not_true_eq_false, not_false_eq_true, reduceIte, true_or, or_true, false_or, or_false, Nat.reduceAdd, Nat.reduceSub, Nat.reduceMul, Nat.reduceLeDiff, Nat.reduceEqDiff, Nat.reduceLT, Nat.le_refl, Nat.zero_le, Int.reduceToNat, Int.reduceAdd, Int.reduceSub, Int.reduceMul, Int.reduceNeg, Int.reduceLT, Int.reduceLE, Int.reduceEq, Nat.zero_add, Nat.add_zero, Nat.reduceBEq, Nat.one_ne_zero, Nat.zero_ne_one, Nat.lt_irrefl, Nat.succ_ne_zero, w32_id, ixc, ixc2, Int.toNat_natCast])
    refine ih _ ?_
    refine ⟨fun i hi => (f3 i (by simp; omega)).trans (F i hi), fun n' hn' hlt => ?_, fun n' hn' hge => ?_⟩
    · by_cases e : n' = n
      · subst e
        exact ⟨p2, by rw [p3]; unfold bzN; rw [if_pos hni, ← eus, ← ebz], p4, p5⟩
      · obtain ⟨a1, a2, a3, a4⟩ := J1 n' hn' (by omega)
        have hne := p1 n' e
        exact ⟨⟨by rw [hne.1]; exact a1.1, by rw [f3 (tb + 2 + n') (by simp; omega)]; exact a1.2⟩, by rw [hne.2.1]; exact a2, by rw [hne.2.2]; exact a3, by rw [f3 (tb + 7 + n') (by simp; omega)]; exact a4⟩
    · obtain ⟨a1, a2⟩ := J2 n' hn' (by omega)
      have hne := p1 n' (by omega)
      exact ⟨⟨by rw [hne.1]; exact a1.1, by rw [f3 (tb + 2 + n') (by simp; omega)]; exact a1.2⟩, by rw [hne.2.1]; exact a2⟩
  · obtain ⟨F, J1, J2⟩ := J
    have Fxm := F.x
    have Rm := Fxm.rn ht R (by rw [← ent]; exact W) hnb
    have e220 : m 220 = nt := by rw [ent]; exact Fxm.n220 ht
    have y12 : m nb 12 = nt 1 := by rw [Rm.2.1.1, e220]
    have tv : m tb 10 = (tm : Int) := by rw [F tb (by omega)]; exact c1
    refine S_X9_passOn_13 _ _ _ _ ?_; simp (disch := omega) only [B_X9_passOn_13, bi_0, x_ic, x_lc, x_ld, x_st, x_sl, x_inc, x_b32, x_b64, x_d32, x_d64, x_s64, x_un, x_lcmp, x_dup, x_pop, x_dup2, x_if, x_cmp, x_sw, swk, x_ald, x_ast, x_alen, x_getf, x_putf, x_inv, x_mm, x_copy, x_iret, x_lret, x_vret, ok1, pu, ct, rcv, rcs, ent0, List.getElem?_cons_zero, List.getElem?_cons_succ, List.getElem?_nil, List.set_cons_zero, List.set_cons_succ, List.take_succ_cons, List.take_zero, List.drop_succ_cons, List.drop_zero, List.reverse_cons, List.reverse_nil, List.nil_append, List.cons_append, List.length_cons, List.length_nil, true_and, and_true, and_self, ne_eq, not_true_eq_false, not_false_eq_true, reduceIte, true_or, or_true, false_or, or_false, Nat.reduceAdd, Nat.reduceSub, Nat.reduceMul, Nat.reduceLeDiff, Nat.reduceEqDiff, Nat.reduceLT, Nat.le_refl, Nat.zero_le, Int.reduceToNat, Int.reduceAdd, Int.reduceSub, Int.reduceMul, Int.reduceNeg, Int.reduceLT, Int.reduceLE, Int.reduceEq, Nat.zero_add, Nat.add_zero, Nat.reduceBEq, Nat.one_ne_zero, Nat.zero_ne_one, Nat.lt_irrefl, Nat.succ_ne_zero, w32_id, ixc, ixc2, Int.toNat_natCast, s1, y12]
    refine ⟨fun _ => ?_, fun z => absurd z (by omega)⟩
    refine S_X9_passOn_33 _ _ _ _ ?_; simp (disch := omega) only [B_X9_passOn_33, bi_0, x_ic, x_lc, x_ld, x_st, x_sl, x_inc, x_b32, x_b64, x_d32, x_d64, x_s64, x_un, x_lcmp, x_dup, x_pop, x_dup2, x_if, x_cmp, x_sw, swk, x_ald, x_ast, x_alen, x_getf, x_putf, x_inv, x_mm, x_copy, x_iret, x_lret, x_vret, ok1, pu, ct, rcv, rcs, ent0, List.getElem?_cons_zero, List.getElem?_cons_succ, List.getElem?_nil, List.set_cons_zero, List.set_cons_succ, List.take_succ_cons, List.take_zero, List.drop_succ_cons, List.drop_zero, List.reverse_cons, List.reverse_nil, List.nil_append, List.cons_append, List.length_cons, List.length_nil, true_and, and_true, and_self, ne_eq, not_true_eq_false, not_false_eq_true, reduceIte, true_or, or_true, false_or, or_false, Nat.reduceAdd, Nat.reduceSub, Nat.reduceMul, Nat.reduceLeDiff, Nat.reduceEqDiff, Nat.reduceLT, Nat.le_refl, Nat.zero_le, Int.reduceToNat, Int.reduceAdd, Int.reduceSub, Int.reduceMul, Int.reduceNeg, Int.reduceLT, Int.reduceLE, Int.reduceEq, Nat.zero_add, Nat.add_zero, Nat.reduceBEq, Nat.one_ne_zero, Nat.zero_ne_one, Nat.lt_irrefl, Nat.succ_ne_zero, w32_id, ixc, ixc2, Int.toNat_natCast, o, tv]
    have F2 : Fx tb h (up m tb 10 ((tm : Int) + 1)) := Fxm.trans Fx_fld
    have g220 : up m tb 10 ((tm : Int) + 1) 220 = nt := by rw [up_ne (by omega), e220]
    refine fin (nt 1).toNat 0 (by omega) _ F2 ?_ (fun n' hn' => ?_)
    · rw [show (slS nt us bz 0).length = 0 from rfl, mvR]
      dsimp only
      rw [← eus]
      refine ⟨by rw [up_at]; show _ = ((tm + 1 : Nat) : Int); omega, fun n' hn' => ?_, fun n' hn' => ?_, fun f hf => ?_, fun f t hf ht' => by rw [up_ne (by omega), F (tb + 12 + f) (by omega)]; exact c5 f t hf ht'⟩
      · rw [g220]
        show QR _ tb n' (qL nt (lft0 us SN) n')
        by_cases e : n' < (nt 1).toNat
        · rw [hSN, rest_q h4 e]
          obtain ⟨a1, a2, a3, a4⟩ := J1 n' hn' e
          exact ⟨by rw [up_ne (by omega)]; exact a1.1, by rw [up_ne (by omega)]; exact a1.2⟩
        · have z1 : ∀ u, u ∈ us → nd nt u.1 u.2.1 ≠ (n' : Int) := fun u hu e2 => by
            obtain ⟨k, hk, ek⟩ := memU hu
            have := t3 k hk
            rw [ek] at this
            have := W.ndB u.1 u.2.1 this.1 this.2.1
            omega
          have q0 : qL nt us n' = [] := by rw [qL_ix, ixs_nil.mpr z1]; rfl
          have q3 : qL nt (lft0 us SN) n' = [] := by
            rw [qL_ix, ixs_nil.mpr (fun u hu => ?_)]
            · rfl
            · obtain ⟨k, hk, ek⟩ := List.mem_map.mp hu
              exact z1 u (by rw [← ek]; exact uA_mem (pl_mem.mp hk).1)
          rw [q3]
          have := (J2 n' hn' (by omega)).1
          rw [q0] at this
          exact ⟨by rw [up_ne (by omega)]; exact this.1, fun i hi => absurd hi (Nat.not_lt_zero i)⟩
      · rw [up_ne (by omega)]
        show _ = bzN nt T n'
        by_cases e : n' < (nt 1).toNat
        · exact (J1 n' hn' e).2.1
        · rw [(J2 n' hn' (by omega)).2]; unfold bzN; rw [if_neg (by omega), ebz]
      · rw [up_ne (by omega), up_ne (by omega), up_ne (by omega), F (tb + 18) (by omega), F (tb + 19) (by omega), F (tb + 20) (by omega)]; exact c4 f hf
    · obtain ⟨a1, a2, a3, a4⟩ := J1 n' (by omega) (by omega)
      exact ⟨by rw [up_ne (by omega)]; exact a3, by rw [up_ne (by omega)]; exact a4⟩
end CK

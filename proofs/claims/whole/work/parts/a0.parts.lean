/-! the invariant's parts, one by one -/
def INVe (h : Mem) : Prop := ∃ nb sb T P pn X, INVd h nb sb T P pn X
section PRT
variable {h h' : Mem} {nb sb : Nat} {T : TS} {P : Nat → Wd} {pn : Nat} {X : (Nat → Int) × Nat}
theorem INVd.e (I : INVd h nb sb T P pn X) : INVe h := ⟨nb, sb, T, P, pn, X, I⟩
theorem IvA.fr (I : IvA h nb sb) (L : Lay h') (c0 : h' 0 = h 0) : IvA h' nb sb := by
  obtain ⟨i1, i2, i3, i4, i5⟩ := I
  exact ⟨L, ⟨i2.1, by rw [c0]; exact i2.2⟩, by rw [c0]; exact i3, ⟨i4.1, by rw [c0]; exact i4.2⟩, by rw [c0]; exact i5⟩
theorem IvN.fr (I : IvN h nb P pn) (A : Agr (h 220) (h' 220)) (cn : ∀ i, nb ≤ i → i < nb + 30 → i ≠ nb + 17 → h' i = h i) (r21 : ∀ j, j < 1100 → h' 221 j = h 221 j) (r22 : ∀ j, j < 14 → h' 222 j = h 222 j) : IvN h' nb P pn := by
  obtain ⟨⟨n1, n2, n3⟩, n4, n5, n6⟩ := I
  have nf := n2.nf
  refine ⟨⟨RN_ag n1 A cn, A.wn, A.mono n3⟩, ?_, ?_, ?_⟩
  · rw [A.n2, cn (nb + 4) (by omega) (by omega) (by omega)]
    refine ⟨fun k hk => by rw [r22 _ (by omega)]; exact n4.1 k hk, fun j k hj hk => ?_⟩
    rw [r22 _ (by omega), r22 _ (by omega)]
    exact n4.2 j k hj hk
  · rcases n5 with ⟨a, b⟩ | ⟨a, b, c, e, f, g⟩
    · exact Or.inl ⟨a, by rw [A.2 3 (by decide)]; exact b⟩
    · exact Or.inr ⟨a, b, by rw [A.2 3 (by decide)]; exact c, fun i hi => by rw [r21 i (by omega)]; exact e i hi, by rw [r21 _ (by omega)]; exact f, g⟩
  · obtain ⟨a, b, c, e⟩ := n6
    exact ⟨by rw [cn (nb + 15) (by omega) (by omega) (by omega)]; exact a, b, by rw [cn (nb + 16) (by omega) (by omega) (by omega)]; exact c, e⟩
theorem IvT.fr (I : IvT h X) (c1 : h' 1 2 = h 1 2) (c2 : h' 2 = h 2) (c3 : h' 3 = h 3) (r2 : h' 214 2 = h 214 2) (r5 : h' 215 = h 215) (r9 : h' 219 = h 219) : IvT h' X := by
  obtain ⟨t1, t2, t3, t4, t5⟩ := I
  exact ⟨⟨by rw [r2]; exact t1.1, by rw [r5]; exact t1.2⟩, ⟨by rw [c1]; exact t2.1, by rw [c2]; exact t2.2⟩, t3, by unfold WdC; rw [c3]; exact t4, by unfold WdR; rw [r9]; exact t5⟩
theorem Lv_fr (l1 : RS (h 226) 0 T) (l2 : CS h 72 T) (l3 : TW (h 220) T) (A : Agr (h 220) (h' 220)) (ct : ∀ i, 72 ≤ i → i < 94 → h' i = h i) (r26 : ∀ j, j < 382 → h' 226 j = h 226 j) : RS (h' 226) 0 T ∧ CS h' 72 T ∧ TW (h' 220) T :=
  ⟨RS.cong l1 l3.2.1 (fun j _ hj => r26 j (by omega)), CS_ag l2 A l3 (fun i hi => ct i hi.1 hi.2), (TW_ag A l3).1⟩
theorem Sc_fr (s1 : ScR h sb) (s2 : LnW (h 220) (h 223)) (e2 : h' 220 2 = h 220 2) (cs : ∀ i, sb ≤ i → i ≤ sb + 2 → h' i = h i) (r23 : ∀ j, j < 85 → h' 223 j = h 223 j) : ScR h' sb ∧ LnW (h' 220) (h' 223) := by
  obtain ⟨a, b⟩ := s1
  obtain ⟨w, c⟩ := s2
  refine ⟨⟨by rw [cs sb (by omega) (by omega), r23 0 (by decide)]; exact a, fun i hi => ?_⟩, ⟨by rw [r23 0 (by decide)]; exact w, fun i hi => ?_⟩⟩
  · rw [r23 0 (by decide)] at hi
    rw [cs (sb + 1) (by omega) (by omega), cs (sb + 2) (by omega) (by omega), r23 _ (by omega), r23 _ (by omega)]
    exact b i hi
  · rw [r23 0 (by decide)] at hi
    rw [r23 _ (by omega), r23 _ (by omega), e2]
    exact c i hi
theorem Mk_fr (mk : MkR h) (A : Agr (h 220) (h' 220)) (cm : ∀ i, 120 ≤ i → i < 175 → h' i = h i) (r26 : ∀ j, 407 ≤ j → j < 1221 → h' 226 j = h 226 j) (r27 : h' 227 = h 227) : MkR h' := fun m hm => by
  obtain ⟨a, b, c⟩ := mk m hm
  rw [cm 174 (by decide) (by decide), r27]
  refine ⟨a, b, fun x => ?_⟩
  obtain ⟨Tm, y1, y2, y3, y4, y5⟩ := c x
  obtain ⟨z1, z2⟩ := Sn_cg (h' := h') (s' := fun j => h' 226 (407 * (1 + m) + j)) y4 y5 (fun i hi => cm i (by omega) (by omega)) (fun j _ hj => r26 _ (by omega) (by omega))
  exact ⟨Tm, RS.cong y1 y3.2.1 (fun j _ hj => r26 j (by omega) (by omega)), CS_ag y2 A y3 (fun i hi => cm i (by omega) (by omega)), (TW_ag A y3).1, z1, z2⟩
/-- the live traffic has moved on -/
theorem INVd.lv {T' : TS} (I : INVd h nb sb T P pn X) (L : Lay h') (lo : ∀ i, i < 72 → i ≠ nb + 17 → h' i = h i) (mi : ∀ i, 94 ≤ i → i < 214 → h' i = h i) (r2 : h' 214 2 = h 214 2) (r5 : h' 215 = h 215) (hi : ∀ i, 219 ≤ i → i ≤ 223 → h' i = h i) (r26 : ∀ j, 382 ≤ j → j < 1221 → h' 226 j = h 226 j) (r27 : h' 227 = h 227) (lv : RS (h' 226) 0 T' ∧ CS h' 72 T' ∧ TW (h' 220) T') : INVd h' nb sb T' P pn X := by
  have hn := I.td.1
  have hs := I.sd.1
  have e220 := hi 220 (by decide) (by decide)
  have A : Agr (h 220) (h' 220) := ⟨I.wn, fun j _ => by rw [e220]⟩
  exact ⟨I.1.fr L (lo 0 (by decide) (by omega)), I.2.1.fr A (fun i a b c => lo i (by omega) c) (fun j _ => by rw [hi 221 (by decide) (by decide)]) (fun j _ => by rw [hi 222 (by decide) (by decide)]), ⟨Cch_ag I.2.2.1.1 A (fun i a b => mi i (by omega) (by omega)), TrC_ag I.2.2.1.2 A (mi 210 (by decide) (by decide))⟩, I.2.2.2.1.fr (by rw [lo 1 (by decide) (by omega)]) (lo 2 (by decide) (by omega)) (lo 3 (by decide) (by omega)) r2 r5 (hi 219 (by decide) (by decide)), lv, Sc_fr I.sc I.ln (by rw [e220]) (fun i a b => lo i (by omega) (by omega)) (fun j _ => by rw [hi 223 (by decide) (by decide)]), Sn_cg I.sn I.se (fun i hi => mi i (by omega) (by omega)) (fun j a b => r26 j a (by omega)), Mk_fr I.mk A (fun i a b => mi i (by omega) (by omega)) (fun j a b => r26 j (by omega) b) r27⟩
end PRT
section LST
variable {l : Launch} {b L : Nat} {xs : Nat → Int32} {k n i : Nat} {h : Mem} {nb sb : Nat} {T : TS} {P : Nat → Wd} {pn : Nat} {X : (Nat → Int) × Nat} {x5 x6 : PV}
theorem la_1326 (hk : k ≤ 601024) (hn : n ≤ 7293033) (hi : i + 7 ≤ L) (hL : L ≤ 3584) (I : INVd h nb sb T P pn X) (go : ∀ h', INVe h' → VL l b L xs k n 1744 [(3, (b : Int)), (2, 1), (2, 215), (2, 238), (0, (i : Int)), x5, x6] [] SHP h') : VL l b L xs k n 1326 [(3, (b : Int)), (2, 1), (2, 215), (2, 238), (0, (i : Int)), x5, x6] [] SHP h := by
  have hnb := I.td.1
  refine S_L_law_1326 (by omega) (by omega) _ _ _ _ ?_; simp (disch := omega) only [B_L_law_1326, bi_0, x_ic, x_lc, x_ld, x_st, x_sl, x_inc, x_b32, x_b64, x_d32, x_d64, x_s64, x_un, x_lcmp, x_dup, x_pop, x_dup2, x_if, x_cmp, x_sw, swk, x_ald, x_ast, x_alen, x_getf, x_putf, x_inv, x_mm, x_copy, x_iret, x_lret, x_vret, ok1, pu, ct, rcv, rcs, ent0, List.getElem?_cons_zero, List.getElem?_cons_succ, List.getElem?_nil, List.set_cons_zero, List.set_cons_succ, List.take_succ_cons, List.take_zero, List.drop_succ_cons, List.drop_zero, List.reverse_cons, List.reverse_nil, List.nil_append, List.cons_append, List.length_cons, List.length_nil, true_and, and_true, and_self, ne_eq, not_true_eq_false, not_false_eq_true, reduceIte, true_or, or_true, false_or, or_false, Nat.reduceAdd, Nat.reduceSub, Nat.reduceMul, Nat.reduceLeDiff, Nat.reduceEqDiff, Nat.reduceLT, Nat.le_refl, Nat.zero_le, Int.reduceToNat, Int.reduceAdd, Int.reduceSub, Int.reduceMul, Int.reduceNeg, Int.reduceLT, Int.reduceLE, Int.reduceEq, Nat.zero_add, Nat.add_zero, Nat.reduceBEq, Nat.one_ne_zero, Nat.zero_ne_one, Nat.lt_irrefl, Nat.succ_ne_zero, w32_id, ixc, ixc2, Int.toNat_natCast, x_sld, ob_0]
  refine ⟨by omega, by omega, ?_⟩
  refine Cl.imp (c_put (l := l) (d := 995) I.lay I.td I.rn I.wn I.cs I.tw I.lwc _ _) (fun r sh' h1 q => ?_)
  obtain ⟨rfl, rfl, F, C1⟩ := q
  have L1 := F.lay (Or.inl rfl) hnb I.lay
  have e1 : ∀ i, i < 72 ∨ 94 ≤ i → i ≠ nb + 17 → h1 i = h i := fun i a c => F.1 i (by omega) c
  have e220 := e1 220 (by decide) (by omega)
  have Lw1 : LwR h1 P pn := by
    unfold LwR
    rw [e220, e1 221 (by decide) (by omega)]
    exact I.lwr
  (try simp (disch := omega) only [bi_0, x_ic, x_lc, x_ld, x_st, x_sl, x_inc, x_b32, x_b64, x_d32, x_d64, x_s64, x_un, x_lcmp, x_dup, x_pop, x_dup2, x_if, x_cmp, x_sw, swk, x_ald, x_ast, x_alen, x_getf, x_putf, x_inv, x_mm, x_copy, x_iret, x_lret, x_vret, ok1, pu, ct, rcv, rcs, ent0, List.getElem?_cons_zero, List.getElem?_cons_succ, List.getElem?_nil, List.set_cons_zero, List.set_cons_succ, List.take_succ_cons, List.take_zero, List.drop_succ_cons, List.drop_zero, List.reverse_cons, List.reverse_nil, List.nil_append, List.cons_append, List.length_cons, List.length_nil, true_and, and_true, and_self, ne_eq, not_true_eq_false, not_false_eq_true, reduceIte, true_or, or_true, false_or, or_false, Nat.reduceAdd, Nat.reduceSub, Nat.reduceMul, Nat.reduceLeDiff, Nat.reduceEqDiff, Nat.reduceLT, Nat.le_refl, Nat.zero_le, Int.reduceToNat, Int.reduceAdd, Int.reduceSub, Int.reduceMul, Int.reduceNeg, Int.reduceLT, Int.reduceLE, Int.reduceEq, Nat.zero_add, Nat.add_zero, Nat.reduceBEq, Nat.one_ne_zero, Nat.zero_ne_one, Nat.lt_irrefl, Nat.succ_ne_zero, w32_id, ixc, ixc2, Int.toNat_natCast, ob_214])
  refine ⟨by omega, by omega, ?_⟩
  refine Cl.imp (r_put (l := l) (d := 994) (T := T) L1 (by rw [e220]; exact I.wn) (by rw [e1 226 (by decide) (by omega)]; exact I.rs) (by rw [e220]; exact I.tw) Lw1 _ _) (fun r sh' h2 q => ?_)
  obtain ⟨rfl, rfl, G, R2⟩ := q
  rw [e220] at R2 ⊢
  refine ⟨fun _ => go h2 ?_, fun x => absurd rfl x⟩
  have lo2 : ∀ i, i < 214 → h2 i = h1 i := fun i hi => G.1 i (fun x => by
    have hn : (214 :: 226 :: SCc).all (fun i => decide (214 ≤ i)) = true := by decide +kernel
    have := List.all_eq_true.mp hn i x
    simp at this; omega)
  have hi2 : ∀ i, 219 ≤ i → i ≤ 223 → h2 i = h1 i := fun i a b => by
    rcases (show i = 219 ∨ i = 220 ∨ i = 221 ∨ i = 222 ∨ i = 223 by omega) with rfl | rfl | rfl | rfl | rfl <;> exact G.1 _ (by decide)
  have e2202 : h2 220 = h 220 := by rw [hi2 220 (by decide) (by decide), e220]
  refine (I.lv (h' := h2) (G.lay L1) (fun i a c => by rw [lo2 i (by omega), e1 i (by omega) c]) (fun i a c => by rw [lo2 i c, e1 i (by omega) (by omega)]) (by rw [G.2.1 2 (by decide), e1 214 (by decide) (by omega)]) (by rw [G.1 215 (by decide), e1 215 (by decide) (by omega)]) (fun i a c => by rw [hi2 i a c, e1 i (by omega) (by omega)]) (fun j a c => by rw [G.2.2 j (by omega), e1 226 (by decide) (by omega)]) (by rw [G.1 227 (by decide), e1 227 (by decide) (by omega)]) ⟨R2, ?_, ?_⟩).e
  · exact CS.fr C1 (fun i hi => by
      rcases hi with hi | rfl
      · exact lo2 i (by omega)
      · exact hi2 220 (by decide) (by decide))
  · rw [e2202]; exact putT_w I.wn I.tw _ _
theorem la_1363 (hk : k ≤ 601024) (hn : n ≤ 7293033) (hi : i + 7 ≤ L) (hL : L ≤ 3584) (I : INVd h nb sb T P pn X) (go : ∀ h', INVe h' → VL l b L xs k n 1744 [(3, (b : Int)), (2, 1), (2, 215), (2, 238), (0, (i : Int)), x5, x6] [] SHP h') : VL l b L xs k n 1363 [(3, (b : Int)), (2, 1), (2, 215), (2, 238), (0, (i : Int)), x5, x6] [] SHP h := by
  have hnb := I.td.1
  refine S_L_law_1363 (by omega) (by omega) _ _ _ _ ?_; simp (disch := omega) only [B_L_law_1363, bi_0, x_ic, x_lc, x_ld, x_st, x_sl, x_inc, x_b32, x_b64, x_d32, x_d64, x_s64, x_un, x_lcmp, x_dup, x_pop, x_dup2, x_if, x_cmp, x_sw, swk, x_ald, x_ast, x_alen, x_getf, x_putf, x_inv, x_mm, x_copy, x_iret, x_lret, x_vret, ok1, pu, ct, rcv, rcs, ent0, List.getElem?_cons_zero, List.getElem?_cons_succ, List.getElem?_nil, List.set_cons_zero, List.set_cons_succ, List.take_succ_cons, List.take_zero, List.drop_succ_cons, List.drop_zero, List.reverse_cons, List.reverse_nil, List.nil_append, List.cons_append, List.length_cons, List.length_nil, true_and, and_true, and_self, ne_eq, not_true_eq_false, not_false_eq_true, reduceIte, true_or, or_true, false_or, or_false, Nat.reduceAdd, Nat.reduceSub, Nat.reduceMul, Nat.reduceLeDiff, Nat.reduceEqDiff, Nat.reduceLT, Nat.le_refl, Nat.zero_le, Int.reduceToNat, Int.reduceAdd, Int.reduceSub, Int.reduceMul, Int.reduceNeg, Int.reduceLT, Int.reduceLE, Int.reduceEq, Nat.zero_add, Nat.add_zero, Nat.reduceBEq, Nat.one_ne_zero, Nat.zero_ne_one, Nat.lt_irrefl, Nat.succ_ne_zero, w32_id, ixc, ixc2, Int.toNat_natCast, x_sld, ob_0]
  refine Cl.imp (c_tick (l := l) (d := 994) I.lay I.td I.rn I.wn I.mo I.cs I.tw) (fun r sh' h1 q => ?_)
  obtain ⟨rfl, rfl, F, C1⟩ := q
  have L1 := F.lay (Or.inl rfl) I.lay
  have e1 : ∀ i, i < 72 ∨ 94 ≤ i → h1 i = h i := fun i a => F.1 i (by omega)
  have e220 := e1 220 (by decide)
  (try simp (disch := omega) only [bi_0, x_ic, x_lc, x_ld, x_st, x_sl, x_inc, x_b32, x_b64, x_d32, x_d64, x_s64, x_un, x_lcmp, x_dup, x_pop, x_dup2, x_if, x_cmp, x_sw, swk, x_ald, x_ast, x_alen, x_getf, x_putf, x_inv, x_mm, x_copy, x_iret, x_lret, x_vret, ok1, pu, ct, rcv, rcs, ent0, List.getElem?_cons_zero, List.getElem?_cons_succ, List.getElem?_nil, List.set_cons_zero, List.set_cons_succ, List.take_succ_cons, List.take_zero, List.drop_succ_cons, List.drop_zero, List.reverse_cons, List.reverse_nil, List.nil_append, List.cons_append, List.length_cons, List.length_nil, true_and, and_true, and_self, ne_eq, not_true_eq_false, not_false_eq_true, reduceIte, true_or, or_true, false_or, or_false, Nat.reduceAdd, Nat.reduceSub, Nat.reduceMul, Nat.reduceLeDiff, Nat.reduceEqDiff, Nat.reduceLT, Nat.le_refl, Nat.zero_le, Int.reduceToNat, Int.reduceAdd, Int.reduceSub, Int.reduceMul, Int.reduceNeg, Int.reduceLT, Int.reduceLE, Int.reduceEq, Nat.zero_add, Nat.add_zero, Nat.reduceBEq, Nat.one_ne_zero, Nat.zero_ne_one, Nat.lt_irrefl, Nat.succ_ne_zero, w32_id, ixc, ixc2, Int.toNat_natCast, ob_214])
  refine Cl.imp (r_tick (l := l) (d := 992) (T := T) L1 (by rw [e220]; exact I.wn) (by rw [e220]; exact I.mo) (by rw [e1 226 (by decide)]; exact I.rs) (by rw [e220]; exact I.tw)) (fun r sh' h2 q => ?_)
  obtain ⟨rfl, rfl, G, R2⟩ := q
  rw [e220] at R2 ⊢
  refine ⟨fun _ => go h2 ?_, fun x => absurd rfl x⟩
  have lo2 : ∀ i, i < 214 → h2 i = h1 i := fun i hi => G.1 i (fun x => by
    have hn : (214 :: 226 :: SCc).all (fun i => decide (214 ≤ i)) = true := by decide +kernel
    have := List.all_eq_true.mp hn i x
    simp at this; omega)
  have hi2 : ∀ i, 219 ≤ i → i ≤ 223 → h2 i = h1 i := fun i a b => by
    rcases (show i = 219 ∨ i = 220 ∨ i = 221 ∨ i = 222 ∨ i = 223 by omega) with rfl | rfl | rfl | rfl | rfl <;> exact G.1 _ (by decide)
  have e2202 : h2 220 = h 220 := by rw [hi2 220 (by decide) (by decide), e220]
  refine (I.lv (h' := h2) (G.lay L1) (fun i a c => by rw [lo2 i (by omega), e1 i (by omega)]) (fun i a c => by rw [lo2 i c, e1 i (by omega)]) (by rw [G.2.1 2 (by decide), e1 214 (by decide)]) (by rw [G.1 215 (by decide), e1 215 (by decide)]) (fun i a c => by rw [hi2 i a c, e1 i (by omega)]) (fun j a c => by rw [G.2.2 j (by omega), e1 226 (by decide)]) (by rw [G.1 227 (by decide), e1 227 (by decide)]) ⟨R2, ?_, ?_⟩).e
  · exact CS.fr C1 (fun i hi => by
      rcases hi with hi | rfl
      · exact lo2 i (by omega)
      · exact hi2 220 (by decide) (by decide))
  · rw [e2202]; exact tickT_w I.wn I.tw
end LST

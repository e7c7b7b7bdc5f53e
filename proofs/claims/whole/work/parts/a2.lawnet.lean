/-! the law: a net is read -/
section LNT
variable {l : Launch} {b L : Nat} {xs : Nat → Int32} {k n i : Nat} {h : Mem} {nb sb : Nat} {T : TS} {P : Nat → Wd} {pn : Nat} {X : (Nat → Int) × Nat} {x5 x6 : PV}
theorem CS_rs {h h' : Mem} {tb : Nat} (C : CS h tb rsT) (hc : ∀ i, tb ≤ i ∧ i < tb + 22 → h' i = h i) : CS h' tb rsT := by
  obtain ⟨c1, c2, c3, c4, c5⟩ := C
  refine ⟨by rw [hc tb (by omega)]; exact c1, fun n hn => ?_, ?_, ?_, fun f t hf ht => ?_⟩
  · have := c2 n hn
    unfold QR at this ⊢
    rw [hc (tb + 16) (by omega), hc (tb + 2 + n) (by omega)]
    exact this
  · rw [hc (tb + 17) (by omega)]; exact c3
  · rw [hc (tb + 18) (by omega), hc (tb + 19) (by omega), hc (tb + 20) (by omega)]; exact c4
  · rw [hc (tb + 12 + f) (by omega)]; exact c5 f t hf ht
theorem la_367 (hk : k ≤ 601024) (hn : n ≤ 7293033) (I : INVd h nb sb T P pn X) (go : ∀ h', INVe h' → VL l b L xs k n 1744 [(3, (b : Int)), (2, 1), (2, 215), (2, 238), (0, (i : Int)), x5, x6] [] SHP h') : VL l b L xs k n 367 [(3, (b : Int)), (2, 1), (2, 215), (2, 238), (0, (i : Int)), x5, x6] [] SHP h := by
  have hnb := I.td.1
  have hsb := I.sd.1
  obtain ⟨n2, hn2⟩ : ∃ n2, n2 = 38 - nb := ⟨_, rfl⟩
  have hn2' : n2 = 4 ∨ n2 = 34 := by omega
  obtain ⟨N, E⟩ := NdT_ex (s := X.1) (n := X.2) I.2.2.2.1.2.2.1.1
  have e3 : h 0 3 = (n2 : Int) + 1 := by rw [hn2]; exact I.1.2.2.1
  refine S_L_law_367 (by omega) (by omega) _ _ _ _ ?_; simp (disch := omega) only [B_L_law_367, bi_0, x_ic, x_lc, x_ld, x_st, x_sl, x_inc, x_b32, x_b64, x_d32, x_d64, x_s64, x_un, x_lcmp, x_dup, x_pop, x_dup2, x_if, x_cmp, x_sw, swk, x_ald, x_ast, x_alen, x_getf, x_putf, x_inv, x_mm, x_copy, x_iret, x_lret, x_vret, ok1, pu, ct, rcv, rcs, ent0, List.getElem?_cons_zero, List.getElem?_cons_succ, List.getElem?_nil, List.set_cons_zero, List.set_cons_succ, List.take_succ_cons, List.take_zero, List.drop_succ_cons, List.drop_zero, List.reverse_cons, List.reverse_nil, List.nil_append, List.cons_append, List.length_cons, List.length_nil, true_and, and_true, and_self, ne_eq, not_true_eq_false, not_false_eq_true, reduceIte, true_or, or_true, false_or, or_false, Nat.reduceAdd, Nat.reduceSub, Nat.reduceMul, Nat.reduceLeDiff, Nat.reduceEqDiff, Nat.reduceLT, Nat.le_refl, Nat.zero_le, Int.reduceToNat, Int.reduceAdd, Int.reduceSub, Int.reduceMul, Int.reduceNeg, Int.reduceLT, Int.reduceLE, Int.reduceEq, Nat.zero_add, Nat.add_zero, Nat.reduceBEq, Nat.one_ne_zero, Nat.zero_ne_one, Nat.lt_irrefl, Nat.succ_ne_zero, w32_id, ixc, ixc2, Int.toNat_natCast, x_sld, ob_0]
  refine Cl.imp (c_net (l := l) (d := 956) (X := zX h) I.tx E hn2' e3 hsb I.sd.2 zX_z) (fun r sh' h1 q => ?_)
  obtain ⟨rfl, L1, z1, er, q1, q2⟩ := q
  have e1 : ∀ i, 214 ≤ i → h1 i = h i := fun i a => by
    by_cases x : r = 0
    · exact (q2 x).1 i (by omega) (by omega) (by omega) (by omega) (by omega) (by omega) (by omega) (by omega) (by omega) (by omega)
    · exact q1 x i (by omega) (by omega) (by omega)
  have e13 : h1 3 = h 3 := by
    by_cases x : r = 0
    · exact (q2 x).1 3 (by omega) (by omega) (by omega) (by omega) (by omega) (by omega) (by omega) (by omega) (by omega) (by omega)
    · exact q1 x 3 (by omega) (by omega) (by omega)
  have ez : zX h1 = zX h := by unfold zX; rw [e1 220 (by decide), e1 222 (by decide)]
  (try simp (disch := omega) only [bi_0, x_ic, x_lc, x_ld, x_st, x_sl, x_inc, x_b32, x_b64, x_d32, x_d64, x_s64, x_un, x_lcmp, x_dup, x_pop, x_dup2, x_if, x_cmp, x_sw, swk, x_ald, x_ast, x_alen, x_getf, x_putf, x_inv, x_mm, x_copy, x_iret, x_lret, x_vret, ok1, pu, ct, rcv, rcs, ent0, List.getElem?_cons_zero, List.getElem?_cons_succ, List.getElem?_nil, List.set_cons_zero, List.set_cons_succ, List.take_succ_cons, List.take_zero, List.drop_succ_cons, List.drop_zero, List.reverse_cons, List.reverse_nil, List.nil_append, List.cons_append, List.length_cons, List.length_nil, true_and, and_true, and_self, ne_eq, not_true_eq_false, not_false_eq_true, reduceIte, true_or, or_true, false_or, or_false, Nat.reduceAdd, Nat.reduceSub, Nat.reduceMul, Nat.reduceLeDiff, Nat.reduceEqDiff, Nat.reduceLT, Nat.le_refl, Nat.zero_le, Int.reduceToNat, Int.reduceAdd, Int.reduceSub, Int.reduceMul, Int.reduceNeg, Int.reduceLT, Int.reduceLE, Int.reduceEq, Nat.zero_add, Nat.add_zero, Nat.reduceBEq, Nat.one_ne_zero, Nat.zero_ne_one, Nat.lt_irrefl, Nat.succ_ne_zero, w32_id, ixc, ixc2, Int.toNat_natCast, ob_214])
  refine Cl.imp (r_net (l := l) (d := 964) (s := X.1) (n := X.2) L1 (by unfold WdR; rw [e1 219 (by decide)]; exact I.2.2.2.1.2.2.2.2) ⟨by rw [e1 214 (by decide)]; exact I.2.2.2.1.1.1, by rw [e1 215 (by decide)]; exact I.2.2.2.1.1.2⟩ I.2.2.2.1.2.2.1) (fun r2 sh' h2 q => ?_)
  obtain ⟨rfl, L2, z2, er2, q3, q4⟩ := q
  rw [ez] at er2 q4
  have err : r = r2 := by rw [er, er2]
  refine ⟨fun _ => go h2 ?_, fun x => absurd err x⟩
  subst err
  obtain ⟨Y, hY⟩ : ∃ Y, Y = ntF X.1 X.2 1000 0 (zX h) := ⟨_, rfl⟩
  rw [← hY] at er q2 q4
  by_cases x : r = 0
  · obtain ⟨a1, a2, a3, a4, CX, a5, a6, a7, a8, a9, a10, a11, a12, a13⟩ := q2 x
    obtain ⟨b1, b2, b3, b4, b5, b6, b7, b8, b9, b10, b11, b12⟩ := q4 x
    obtain ⟨WY, LY⟩ := ntF_w (s := X.1) (n := X.2) 1000 0 (zX h) zX_z.wq (Or.inl ⟨rfl, rfl⟩) (by rw [← hY, ← er]; exact x)
    rw [← hY] at WY LY
    have g : ∀ i, i < 214 → h2 i = h1 i := fun i a => b1 i (by omega) (by omega) (by omega) (by omega) (by omega) (by omega) (by omega) (by omega) (by omega) (by omega)
    have e215 : h2 215 = h 215 := by rw [b1 215 (by decide) (by decide) (by decide) (by decide) (by decide) (by decide) (by decide) (by decide) (by decide) (by decide), e1 215 (by decide)]
    have e219 : h2 219 = h 219 := by rw [b1 219 (by decide) (by decide) (by decide) (by decide) (by decide) (by decide) (by decide) (by decide) (by decide) (by decide), e1 219 (by decide)]
    have CX2 : CNX h2 n2 Y.2 := by
      obtain ⟨RX, Rc, Rn, Ro, Rf, Rl⟩ := CX
      exact ⟨RX.fr (g _ (by omega)) (g _ (by omega)) (g _ (by omega)) (g _ (by omega)), Rc.fr WY.1 (fun i a b => g _ (by omega)), Rn.fr (g _ (by omega)) (g _ (by omega)), Ro.fr (g _ (by omega)), Rf.fr WY.1 (fun i a b => g _ (by omega)), Rl.fr (by rw [g _ (by omega)]) (g _ (by omega)) (g _ (by omega))⟩
    obtain ⟨RN2, WN2, MO2⟩ := CX2.rn WY b3
    have wf := WY.1.2.2
    have e2 : h2 220 2 = Y.2.1 2 := b3 2 (by decide)
    refine INVd.e (nb := n2) (sb := sb) (T := rsT) (P := Y.2.2.2.1) (pn := Y.2.2.2.2) (X := (X.1, 0)) ⟨⟨L2, ⟨hn2', by rw [g 0 (by decide)]; exact a3⟩, ?_, ⟨hsb, by rw [g 0 (by decide), a2 4 (by decide) (by decide)]; exact I.sd.2⟩, by rw [g 0 (by decide), a2 5 (by decide) (by decide)]; exact I.1.2.2.2.2⟩, ⟨⟨RN2, WN2, MO2⟩, ?_, ?_, ?_⟩, ⟨Or.inl (by rw [g 175 (by decide)]; exact a12), fun p q f hp hq hf => ?_⟩, ⟨⟨z2, by rw [e215]; exact I.2.2.2.1.1.2⟩, ⟨by rw [g 1 (by decide)]; exact z1, fun i hi => absurd hi (Nat.not_lt_zero i)⟩, Tp0, by unfold WdC; rw [g 3 (by decide), e13]; exact I.2.2.2.1.2.2.2.1, by unfold WdR; rw [e219]; exact I.2.2.2.1.2.2.2.2⟩, ⟨b9, CS_rs a7 (fun i hi => g i (by omega)), rsT_w _⟩, ⟨⟨?_, fun j hj => absurd hj (by omega)⟩, ⟨by omega, fun j hj => absurd hj (by omega)⟩⟩, ⟨⟨?_, fun j hj => absurd hj (by omega)⟩, ⟨by omega, fun j hj => absurd hj (by omega)⟩⟩, fun m hm => ?_⟩
    · rw [g 0 (by decide), a4, I.td.2]; omega
    · rw [e2]
      have := CX2.1.2.2.2
      refine ⟨fun q hq => by rw [b4 _ (by omega)]; exact this.1 q hq, fun p q hp hq => ?_⟩
      rw [b4 _ (by omega), b4 _ (by omega)]
      exact this.2 p q hp hq
    · rcases LY with ⟨y1, y2⟩ | ⟨y1, y2⟩
      · exact Or.inl ⟨y2, by rw [b3 3 (by decide)]; exact y1⟩
      · rcases b5 with ⟨u1, u2⟩ | ⟨u1, u2, u3, u4⟩
        · omega
        · refine Or.inr ⟨?_, u2, by rw [b3 3 (by decide)]; exact y1, fun i hi => u3 i hi, u4, y2.pw⟩
          by_cases z : Y.2.2.2.2 = 0
          · have := y2.2
            rw [z] at this
            exact absurd (show (0 : Nat) = 1 from this) (by decide)
          · omega
    · rcases CX2.2.2.2.2.2 with ⟨u1, u2, u3, u4⟩ | ⟨u1, u2, u3, u4, u5⟩
      · exact ⟨by rw [u4, u3]; rfl, by omega, fun i hi => absurd hi (by omega), Or.inl u3⟩
      · rcases LY with ⟨y1, y2⟩ | ⟨y1, y2⟩
        · omega
        · exact ⟨u3, u4, u5, Or.inr y2.pw⟩
    · have n6 := WN2.wc.1
      have n4 := WN2.nn
      have nf := WN2.nf
      exact Or.inl (by rw [g 210 (by decide)]; exact a13 _ (by omega))
    · rw [g sb (by omega), a8, b8]
    · rw [g 116 (by decide), a9, b10]
    · rw [g 174 (by decide)]
      rcases (show m = 0 ∨ m = 1 by omega) with rfl | rfl
      · rw [a10, b11]; exact ⟨Or.inl rfl, rfl, fun y => absurd y (by decide)⟩
      · rw [a11, b12]; exact ⟨Or.inl rfl, rfl, fun y => absurd y (by decide)⟩
  · obtain ⟨b1, b2, b3, b4, b5⟩ := q3 x
    have q1 := q1 x
    have g : ∀ i, i ≠ 214 → i ≠ 216 → i ≠ 217 → i ≠ 218 → i ≠ 220 → i ≠ 221 → i ≠ 222 → i ≠ 1 → i ≠ 64 → i < n2 ∨ n2 + 30 ≤ i → h2 i = h i := fun i p1 p2 p3 p4 p5 p6 p7 p8 p9 p10 => by rw [b1 i p1 p2 p3 p4 p5 p6 p7, q1 i p8 p9 p10]
    have A : Agr (h 220) (h2 220) := ⟨I.wn, fun j hj => by rw [b3 j hj, e1 220 (by decide)]⟩
    have G : ∀ i, 72 ≤ i → i < 214 → h2 i = h i := fun i p q => g i (by omega) (by omega) (by omega) (by omega) (by omega) (by omega) (by omega) (by omega) (by omega) (by omega)
    have H : ∀ i, 223 ≤ i → h2 i = h i := fun i p => g i (by omega) (by omega) (by omega) (by omega) (by omega) (by omega) (by omega) (by omega) (by omega) (by omega)
    have e215 : h2 215 = h 215 := g 215 (by decide) (by decide) (by decide) (by decide) (by decide) (by decide) (by decide) (by decide) (by decide) (by omega)
    have e219 : h2 219 = h 219 := g 219 (by decide) (by decide) (by decide) (by decide) (by decide) (by decide) (by decide) (by decide) (by decide) (by omega)
    have e0 : h2 0 = h 0 := g 0 (by decide) (by decide) (by decide) (by decide) (by decide) (by decide) (by decide) (by decide) (by decide) (by omega)
    exact INVd.e (nb := nb) (sb := sb) (T := T) (P := P) (pn := pn) (X := (X.1, 0)) ⟨I.1.fr L2 e0, I.2.1.fr A (fun i a c d => g i (by omega) (by omega) (by omega) (by omega) (by omega) (by omega) (by omega) (by omega) (by omega) (by omega)) (fun j hj => by rw [b4 j hj, e1 221 (by decide)]) (fun j hj => by rw [b5 j hj, e1 222 (by decide)]), ⟨Cch_ag I.2.2.1.1 A (fun i a c => G i (by omega) (by omega)), TrC_ag I.2.2.1.2 A (G 210 (by decide) (by decide))⟩, ⟨⟨z2, by rw [e215]; exact I.2.2.2.1.1.2⟩, ⟨by rw [b1 1 (by decide) (by decide) (by decide) (by decide) (by decide) (by decide) (by decide)]; exact z1, fun i hi => absurd hi (Nat.not_lt_zero i)⟩, Tp0, by unfold WdC; rw [b1 3 (by decide) (by decide) (by decide) (by decide) (by decide) (by decide) (by decide), e13]; exact I.2.2.2.1.2.2.2.1, by unfold WdR; rw [e219]; exact I.2.2.2.1.2.2.2.2⟩, Lv_fr I.rs I.cs I.tw A (fun i a c => G i a (by omega)) (fun j _ => by rw [H 226 (by decide)]), Sc_fr I.sc I.ln A.n2 (fun i a c => g i (by omega) (by omega) (by omega) (by omega) (by omega) (by omega) (by omega) (by omega) (by omega) (by omega)) (fun j _ => by rw [H 223 (by decide)]), Sn_cg I.sn I.se (fun i hi => G i (by omega) (by omega)) (fun j a c => by rw [H 226 (by decide)]), Mk_fr I.mk A (fun i a c => G i (by omega) (by omega)) (fun j a c => by rw [H 226 (by decide)]) (H 227 (by decide))⟩
end LNT

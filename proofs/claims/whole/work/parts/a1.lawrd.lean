/-! the law: what is fed and read -/
theorem Tp0 {s : Nat → Int} : TpW (s, 0) := ⟨Nat.zero_le _, fun i hi => absurd hi (Nat.not_lt_zero i)⟩
theorem rn_ok {s : Nat → Int} {n nf i k : Nat} {nm : Nat → Int} (e : (rnL s n nm nf i k).1 = 0) : (rnL s n nm nf i k).2.2.1 = -1 ∨ ((0 ≤ (rnL s n nm nf i k).2.2.1 ∧ (rnL s n nm nf i k).2.2.1 < nf) ∧ 1 ≤ (rnL s n nm nf i k).2.2.2 ∧ (rnL s n nm nf i k).2.2.2 ≤ 9) := by
  have b : ∀ j (w : Int), 1 ≤ w → flt s n j w ≠ 0 := fun j w hw => by have := flt_b (s := s) (n := n) (i := j) hw; omega
  have vb := naF_b (nm := nm) (v := tkVa s n (i + 1)) (a := 10) (k := nf)
  unfold rnL at e ⊢
  by_cases a : ¬ isWd s n i 10 ∧ ¬ isWd s n i 11
  · rw [iF_t a] at e; exact absurd e (b _ _ (by decide))
  rw [iF_f a] at e ⊢
  by_cases a : k = 40
  · rw [iF_t a] at e; exact absurd e (b _ _ (by decide))
  rw [iF_f a] at e ⊢
  by_cases a : isWd s n i 10
  · rw [iF_t a] at e ⊢
    by_cases c : isSn s n (i + 1) 59
    · rw [iF_t c]; exact Or.inl rfl
    · rw [iF_f c] at e; exact absurd e (b _ _ (by decide))
  rw [iF_f a] at e ⊢
  by_cases a : ¬ isNm s n (i + 1)
  · rw [iF_t a] at e; exact absurd e (b _ _ (by decide))
  rw [iF_f a] at e ⊢
  by_cases a : naF nm (tkVa s n (i + 1)) 10 nf < 0
  · rw [iF_t a] at e; exact absurd e (b _ _ (by decide))
  rw [iF_f a] at e ⊢
  by_cases c : ¬ tkSo s n (i + 2) = 2
  · rw [iF_t c] at e; exact absurd e (b _ _ (by decide))
  rw [iF_f c] at e ⊢
  by_cases c : ¬ (1 ≤ tkVa s n (i + 2) ∧ tkVa s n (i + 2) ≤ 9)
  · rw [iF_t c] at e; exact absurd e (b _ _ (by decide))
  rw [iF_f c] at e ⊢
  by_cases f : isSn s n (i + 3) 59
  · rw [iF_t f]
    exact Or.inr ⟨⟨by dsimp only; omega, vb.2⟩, Classical.not_not.mp c⟩
  · rw [iF_f f] at e; exact absurd e (b _ _ (by decide))
section LRD
variable {l : Launch} {b L : Nat} {xs : Nat → Int32} {k n i : Nat} {h : Mem} {nb sb : Nat} {T : TS} {P : Nat → Wd} {pn : Nat} {X : (Nat → Int) × Nat} {x5 x6 : PV}
theorem la_220 (hk : k ≤ 601024) (hn : n ≤ 7293033) (hi : i + 7 ≤ L) (hL : L ≤ 3584) (I : INVd h nb sb T P pn X) (go : ∀ h', INVe h' → VL l b L xs k n 1744 [(3, (b : Int)), (2, 1), (2, 215), (2, 238), (0, (i : Int)), x5, x6] [] SHP h') : VL l b L xs k n 220 [(3, (b : Int)), (2, 1), (2, 215), (2, 238), (0, (i : Int)), x5, x6] [] SHP h := by
  have hnb := I.td.1
  have hsb := I.sd.1
  refine S_L_law_220 (by omega) (by omega) _ _ _ _ ?_; simp (disch := omega) only [B_L_law_220, bi_0, x_ic, x_lc, x_ld, x_st, x_sl, x_inc, x_b32, x_b64, x_d32, x_d64, x_s64, x_un, x_lcmp, x_dup, x_pop, x_dup2, x_if, x_cmp, x_sw, swk, x_ald, x_ast, x_alen, x_getf, x_putf, x_inv, x_mm, x_copy, x_iret, x_lret, x_vret, ok1, pu, ct, rcv, rcs, ent0, List.getElem?_cons_zero, List.getElem?_cons_succ, List.getElem?_nil, List.set_cons_zero, List.set_cons_succ, List.take_succ_cons, List.take_zero, List.drop_succ_cons, List.drop_zero, List.reverse_cons, List.reverse_nil, List.nil_append, List.cons_append, List.length_cons, List.length_nil, true_and, and_true, and_self, ne_eq, not_true_eq_false, not_false_eq_true, reduceIte, true_or, or_true, false_or, or_false, Nat.reduceAdd, Nat.reduceSub, Nat.reduceMul, Nat.reduceLeDiff, Nat.reduceEqDiff, Nat.reduceLT, Nat.le_refl, Nat.zero_le, Int.reduceToNat, Int.reduceAdd, Int.reduceSub, Int.reduceMul, Int.reduceNeg, Int.reduceLT, Int.reduceLE, Int.reduceEq, Nat.zero_add, Nat.add_zero, Nat.reduceBEq, Nat.one_ne_zero, Nat.zero_ne_one, Nat.lt_irrefl, Nat.succ_ne_zero, w32_id, ixc, ixc2, Int.toNat_natCast, x_sld, ob_0]
  refine ⟨by omega, by omega, by omega, by omega, by omega, by omega, ?_⟩
  refine Cl.imp (c_feed (l := l) (d := 996) I.lay I.2.2.2.1.2.1 _ _ _) (fun r sh' h1 q => ?_)
  obtain ⟨rfl, rfl, F, C1⟩ := q
  have L1 := F.lay I.lay
  have e1 : ∀ i, i ≠ 1 → i ≠ 2 → h1 i = h i := F.1
  (try simp (disch := omega) only [bi_0, x_ic, x_lc, x_ld, x_st, x_sl, x_inc, x_b32, x_b64, x_d32, x_d64, x_s64, x_un, x_lcmp, x_dup, x_pop, x_dup2, x_if, x_cmp, x_sw, swk, x_ald, x_ast, x_alen, x_getf, x_putf, x_inv, x_mm, x_copy, x_iret, x_lret, x_vret, ok1, pu, ct, rcv, rcs, ent0, List.getElem?_cons_zero, List.getElem?_cons_succ, List.getElem?_nil, List.set_cons_zero, List.set_cons_succ, List.take_succ_cons, List.take_zero, List.drop_succ_cons, List.drop_zero, List.reverse_cons, List.reverse_nil, List.nil_append, List.cons_append, List.length_cons, List.length_nil, true_and, and_true, and_self, ne_eq, not_true_eq_false, not_false_eq_true, reduceIte, true_or, or_true, false_or, or_false, Nat.reduceAdd, Nat.reduceSub, Nat.reduceMul, Nat.reduceLeDiff, Nat.reduceEqDiff, Nat.reduceLT, Nat.le_refl, Nat.zero_le, Int.reduceToNat, Int.reduceAdd, Int.reduceSub, Int.reduceMul, Int.reduceNeg, Int.reduceLT, Int.reduceLE, Int.reduceEq, Nat.zero_add, Nat.add_zero, Nat.reduceBEq, Nat.one_ne_zero, Nat.zero_ne_one, Nat.lt_irrefl, Nat.succ_ne_zero, w32_id, ixc, ixc2, Int.toNat_natCast, ob_214])
  refine ⟨by omega, by omega, by omega, by omega, by omega, by omega, ?_⟩
  have T1 : TpR h1 X := ⟨by rw [e1 214 (by decide) (by decide)]; exact I.2.2.2.1.1.1, by rw [e1 215 (by decide) (by decide)]; exact I.2.2.2.1.1.2⟩
  refine Cl.imp (r_feed (l := l) (d := 997) L1 T1 _ _ _) (fun r sh' h2 q => ?_)
  obtain ⟨rfl, rfl, G, R2⟩ := q
  refine ⟨fun _ => go h2 ?_, fun x => absurd rfl x⟩
  have e2 : ∀ i, i ≠ 214 → i ≠ 215 → h2 i = h1 i := fun i a c => by rw [G.1 i a c, up_ne a]
  have e : ∀ i, i ≠ 1 → i ≠ 2 → i ≠ 214 → i ≠ 215 → h2 i = h i := fun i a b c d => by rw [e2 i c d, e1 i a b]
  have e220 := e 220 (by decide) (by decide) (by decide) (by decide)
  have A : Agr (h 220) (h2 220) := ⟨I.wn, fun j _ => by rw [e220]⟩
  refine INVd.e (nb := nb) (sb := sb) (T := T) (P := P) (pn := pn) ⟨I.1.fr (G.lay (up_lay0 (Or.inl rfl) L1)) (e 0 (by decide) (by decide) (by decide) (by decide)), I.2.1.fr A (fun i a c d => e i (by omega) (by omega) (by omega) (by omega)) (fun j _ => by rw [e 221 (by decide) (by decide) (by decide) (by decide)]) (fun j _ => by rw [e 222 (by decide) (by decide) (by decide) (by decide)]), ⟨Cch_ag I.2.2.1.1 A (fun i a c => e i (by omega) (by omega) (by omega) (by omega)), TrC_ag I.2.2.1.2 A (e 210 (by decide) (by decide) (by decide) (by decide))⟩, ⟨R2, ⟨by rw [e2 1 (by decide) (by decide)]; exact C1.1, by rw [e2 2 (by decide) (by decide)]; exact C1.2⟩, fd3_w I.2.2.2.1.2.2.1, by unfold WdC; rw [e 3 (by decide) (by decide) (by decide) (by decide)]; exact I.2.2.2.1.2.2.2.1, by unfold WdR; rw [e 219 (by decide) (by decide) (by decide) (by decide)]; exact I.2.2.2.1.2.2.2.2⟩, Lv_fr I.rs I.cs I.tw A (fun i a c => e i (by omega) (by omega) (by omega) (by omega)) (fun j _ => by rw [e 226 (by decide) (by decide) (by decide) (by decide)]), Sc_fr I.sc I.ln (by rw [e220]) (fun i a c => e i (by omega) (by omega) (by omega) (by omega)) (fun j _ => by rw [e 223 (by decide) (by decide) (by decide) (by decide)]), Sn_cg I.sn I.se (fun i hi => e i (by omega) (by omega) (by omega) (by omega)) (fun j a c => by rw [e 226 (by decide) (by decide) (by decide) (by decide)]), Mk_fr I.mk A (fun i a c => e i (by omega) (by omega) (by omega) (by omega)) (fun j a c => by rw [e 226 (by decide) (by decide) (by decide) (by decide)]) (e 227 (by decide) (by decide) (by decide) (by decide))⟩
theorem INVd.tx (I : INVd h nb sb T P pn X) : TxC h X.1 X.2 := ⟨I.lay, I.2.2.2.1.2.1, I.2.2.2.1.2.2.1, I.2.2.2.1.2.2.2.1⟩
theorem la_380 (hk : k ≤ 601024) (hn : n ≤ 7293033) (I : INVd h nb sb T P pn X) (go : ∀ h', INVe h' → VL l b L xs k n 1744 [(3, (b : Int)), (2, 1), (2, 215), (2, 238), (0, (i : Int)), x5, x6] [] SHP h') : VL l b L xs k n 380 [(3, (b : Int)), (2, 1), (2, 215), (2, 238), (0, (i : Int)), x5, x6] [] SHP h := by
  have hnb := I.td.1
  have hsb := I.sd.1
  obtain ⟨s2, hs2⟩ : ∃ s2, s2 = 135 - sb := ⟨_, rfl⟩
  have hs2' : s2 = 66 ∨ s2 = 69 := by omega
  have nf := I.wn.nf
  obtain ⟨f, hf⟩ : ∃ f, f = (h 220 2).toNat := ⟨_, rfl⟩
  have e5 : h 0 5 = (s2 : Int) + 1 := by rw [hs2]; exact I.1.2.2.2.2
  have ef : h nb 13 = (f : Int) := by rw [I.rn.2.1.2]; omega
  have Na := I.2.1.2.1
  rw [← hf] at Na
  refine S_L_law_380 (by omega) (by omega) _ _ _ _ ?_; simp (disch := omega) only [B_L_law_380, bi_0, x_ic, x_lc, x_ld, x_st, x_sl, x_inc, x_b32, x_b64, x_d32, x_d64, x_s64, x_un, x_lcmp, x_dup, x_pop, x_dup2, x_if, x_cmp, x_sw, swk, x_ald, x_ast, x_alen, x_getf, x_putf, x_inv, x_mm, x_copy, x_iret, x_lret, x_vret, ok1, pu, ct, rcv, rcs, ent0, List.getElem?_cons_zero, List.getElem?_cons_succ, List.getElem?_nil, List.set_cons_zero, List.set_cons_succ, List.take_succ_cons, List.take_zero, List.drop_succ_cons, List.drop_zero, List.reverse_cons, List.reverse_nil, List.nil_append, List.cons_append, List.length_cons, List.length_nil, true_and, and_true, and_self, ne_eq, not_true_eq_false, not_false_eq_true, reduceIte, true_or, or_true, false_or, or_false, Nat.reduceAdd, Nat.reduceSub, Nat.reduceMul, Nat.reduceLeDiff, Nat.reduceEqDiff, Nat.reduceLT, Nat.le_refl, Nat.zero_le, Int.reduceToNat, Int.reduceAdd, Int.reduceSub, Int.reduceMul, Int.reduceNeg, Int.reduceLT, Int.reduceLE, Int.reduceEq, Nat.zero_add, Nat.add_zero, Nat.reduceBEq, Nat.one_ne_zero, Nat.zero_ne_one, Nat.lt_irrefl, Nat.succ_ne_zero, w32_id, ixc, ixc2, Int.toNat_natCast, x_sld, ob_0]
  refine Cl.imp (c_run (l := l) (d := 992) I.tx I.td hs2' e5 ef (by omega) Na) (fun r sh' h1 q => ?_)
  obtain ⟨rfl, L1, z1, e1, e10, kc, kc40, Ec, q1, q2⟩ := q
  have e1' : ∀ i, 72 ≤ i → h1 i = h i := fun i a => e1 i (by omega) (by omega) (by omega) (by omega) (by omega)
  (try simp (disch := omega) only [bi_0, x_ic, x_lc, x_ld, x_st, x_sl, x_inc, x_b32, x_b64, x_d32, x_d64, x_s64, x_un, x_lcmp, x_dup, x_pop, x_dup2, x_if, x_cmp, x_sw, swk, x_ald, x_ast, x_alen, x_getf, x_putf, x_inv, x_mm, x_copy, x_iret, x_lret, x_vret, ok1, pu, ct, rcv, rcs, ent0, List.getElem?_cons_zero, List.getElem?_cons_succ, List.getElem?_nil, List.set_cons_zero, List.set_cons_succ, List.take_succ_cons, List.take_zero, List.drop_succ_cons, List.drop_zero, List.reverse_cons, List.reverse_nil, List.nil_append, List.cons_append, List.length_cons, List.length_nil, true_and, and_true, and_self, ne_eq, not_true_eq_false, not_false_eq_true, reduceIte, true_or, or_true, false_or, or_false, Nat.reduceAdd, Nat.reduceSub, Nat.reduceMul, Nat.reduceLeDiff, Nat.reduceEqDiff, Nat.reduceLT, Nat.le_refl, Nat.zero_le, Int.reduceToNat, Int.reduceAdd, Int.reduceSub, Int.reduceMul, Int.reduceNeg, Int.reduceLT, Int.reduceLE, Int.reduceEq, Nat.zero_add, Nat.add_zero, Nat.reduceBEq, Nat.one_ne_zero, Nat.zero_ne_one, Nat.lt_irrefl, Nat.succ_ne_zero, w32_id, ixc, ixc2, Int.toNat_natCast, ob_214])
  refine Cl.imp (r_run (l := l) (d := 993) (s := X.1) (n := X.2) (nf := f) L1 (by unfold WdR; rw [e1' 219 (by decide)]; exact I.2.2.2.1.2.2.2.2) ⟨by rw [e1' 214 (by decide)]; exact I.2.2.2.1.1.1, by rw [e1' 215 (by decide)]; exact I.2.2.2.1.1.2⟩ I.2.2.2.1.2.2.1 (by rw [e1' 220 (by decide)]; omega) (by omega)) (fun r2 sh' h2 q => ?_)
  obtain ⟨rfl, L2, z2, g1, g2, kr, Er, q3, q4⟩ := q
  rw [e1' 222 (by decide)] at Er q3
  obtain ⟨ek, er⟩ := Ec.un Er
  refine ⟨fun _ => go h2 ?_, fun x => absurd er x⟩
  subst ek
  subst er
  have g1' : ∀ i, i ≠ 214 → i ≠ 216 → i ≠ 217 → i ≠ 218 → i ≠ 223 → 72 ≤ i → h2 i = h i := fun i a c d e f g => by rw [g1 i a c d e f, e1' i g]
  have e220 := g1' 220 (by decide) (by decide) (by decide) (by decide) (by decide) (by decide)
  have A : Agr (h 220) (h2 220) := ⟨I.wn, fun j _ => by rw [e220]⟩
  have e226 := g1' 226 (by decide) (by decide) (by decide) (by decide) (by decide) (by decide)
  have nt : ∀ i, nb ≤ i → i < nb + 30 → h2 i = h i := fun i a c => by rw [g1 i (by omega) (by omega) (by omega) (by omega) (by omega), e1 i (by omega) (by omega) (by omega) (by omega) (by omega)]
  have lo : ∀ i, i ≠ 0 → i ≠ 1 → i < 66 → h2 i = h i := fun i a c d => by rw [g1 i (by omega) (by omega) (by omega) (by omega) (by omega), e1 i a c (by omega) (by omega) (by omega)]
  have hN := I.2.1.fr A (fun i a c d => nt i a c) (fun j _ => by rw [g1' 221 (by decide) (by decide) (by decide) (by decide) (by decide) (by decide)]) (fun j _ => by rw [g1' 222 (by decide) (by decide) (by decide) (by decide) (by decide) (by decide)])
  have hC : Cch h2 nb ∧ TrC h2 := ⟨Cch_ag I.2.2.1.1 A (fun i a c => g1' i (by omega) (by omega) (by omega) (by omega) (by omega) (by omega)), TrC_ag I.2.2.1.2 A (g1' 210 (by decide) (by decide) (by decide) (by decide) (by decide) (by decide))⟩
  have hT : IvT h2 (X.1, 0) := ⟨⟨z2, by rw [g1' 215 (by decide) (by decide) (by decide) (by decide) (by decide) (by decide)]; exact I.2.2.2.1.1.2⟩, ⟨by rw [g1 1 (by decide) (by decide) (by decide) (by decide) (by decide)]; exact z1, fun i hi => absurd hi (Nat.not_lt_zero i)⟩, Tp0, by unfold WdC; rw [lo 3 (by decide) (by decide) (by decide)]; exact I.2.2.2.1.2.2.2.1, by unfold WdR; rw [g1' 219 (by decide) (by decide) (by decide) (by decide) (by decide) (by decide)]; exact I.2.2.2.1.2.2.2.2⟩
  have hV := Lv_fr I.rs I.cs I.tw A (fun i a c => g1' i (by omega) (by omega) (by omega) (by omega) (by omega) (by omega)) (fun j _ => by rw [e226])
  have hS : SnR h2 116 (h2 226) ∧ SeW (h2 226) := Sn_cg I.sn I.se (fun i hi => g1' i (by omega) (by omega) (by omega) (by omega) (by omega) (by omega)) (fun j a c => by rw [e226])
  have hM := Mk_fr I.mk A (fun i a c => g1' i (by omega) (by omega) (by omega) (by omega) (by omega) (by omega)) (fun j a c => by rw [e226]) (g1' 227 (by decide) (by decide) (by decide) (by decide) (by decide) (by decide))
  have h20 : h2 0 = h1 0 := g1 0 (by decide) (by decide) (by decide) (by decide) (by decide)
  by_cases er : r = 0
  · obtain ⟨p1, p2, p3, p4⟩ := q2 er
    obtain ⟨w1, w2, w3⟩ := q3 er
    refine INVd.e (nb := nb) (sb := s2) (T := T) (P := P) (pn := pn) (X := (X.1, 0)) ⟨⟨L2, ⟨hnb, by rw [h20, e10 2 (by decide) (by decide)]; exact I.td.2⟩, by rw [h20, e10 3 (by decide) (by decide)]; exact I.1.2.2.1, ⟨hs2', by rw [h20]; exact p1⟩, ?_⟩, hN, hC, hT, hV, ⟨⟨?_, fun j hj => ?_⟩, ⟨?_, fun j hj => ?_⟩⟩, hS, hM⟩
    · rw [h20, p2, I.sd.2]; omega
    · rw [g1 s2 (by omega) (by omega) (by omega) (by omega) (by omega), w2, p3]
    · rw [w2] at hj
      have := w3 j (by omega)
      rw [show 2 + 2 * j = 1 + 1 + 2 * j by omega, this.1, this.2, g1 (s2 + 1) (by omega) (by omega) (by omega) (by omega) (by omega), g1 (s2 + 2) (by omega) (by omega) (by omega) (by omega) (by omega)]
      exact p4 j (by omega)
    · rw [w2]; omega
    · rw [w2] at hj
      have := w3 j (by omega)
      have ok := rn_ok ((Ec.1 j (by omega)).2)
      rw [show 2 + 2 * j = 1 + 1 + 2 * j by omega, this.1, this.2, A.n2, show h 220 2 = (f : Int) by omega]
      exact ok
  · have h00 : h2 0 = h 0 := by rw [h20, q1 er]
    exact INVd.e (nb := nb) (sb := sb) (T := T) (P := P) (pn := pn) (X := (X.1, 0)) ⟨I.1.fr L2 h00, hN, hC, hT, hV, Sc_fr I.sc I.ln (by rw [e220]) (fun i a c => by rw [g1 i (by omega) (by omega) (by omega) (by omega) (by omega), e1 i (by omega) (by omega) (by omega) (by omega) (by omega)]) (fun j hj => by rw [q4 er j hj, e1' 223 (by decide)]), hS, hM⟩
end LRD

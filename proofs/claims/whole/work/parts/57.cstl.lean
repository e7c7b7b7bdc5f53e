/-! the class: it settles as the reference does; what is kept of it -/
theorem nxD_z {nt : Nat → Int} {tn tc : Int} {D : Nat → Int} {i : Nat} (h : ¬ HopI nt i) : nxD nt tn tc D i = 0 := by unfold nxD; rw [iF_f h]
/-- no delay has changed: they are those by which all was told -/
theorem nxD_same {nt : Nat → Int} {tn tc : Int} {D : Nat → Int} (hc : ¬ Chg nt tn tc D 16) (hz : ∀ i, i < 16 → ¬ HopI nt i → D i = 0) : ∀ i, i < 16 → nxD nt tn tc D i = D i := fun i hi => by
  by_cases e : HopI nt i
  · unfold nxD; rw [iF_t e]
    by_cases q : dly nt tn tc D i = D i
    · exact q
    · exact absurd ⟨i, hi, e, q⟩ hc
  · rw [nxD_z e, hz i hi e]
/-- what the class holds once it has settled -/
def Stl (h : Mem) (nb : Nat) (tn tc : Int) : Prop := h 175 6 = (nb : Int) + 1 ∧ h 175 8 = rds (h 220) tn tc ∧ (0 < rds (h 220) tn tc → DlR h (dls (h 220) tn tc) ∧ ArR h (dls (h 220) tn tc) ∧ SvR h tn tc)
theorem DlR.cong {h h' : Mem} {D D' : Nat → Int} (A : DlR h D) (e : ∀ i, i < 16 → D' i = D i) (hf : ∀ i, i < 4 → h' (177 + i) = h (177 + i)) : DlR h' D' := fun f k q1 q2 => by rw [hf f q1, e _ (by omega)]; exact A f k q1 q2
theorem ArR.cd {h : Mem} {D D' : Nat → Int} (A : ArR h D) (W : WN (h 220)) (e : ∀ i, i < 16 → D i = D' i) : ArR h D' := fun n f t q1 q2 q3 => by
  rw [A n f t q1 q2 q3]
  split
  · rename_i ho
    rw [arv_c W e (ovr_lt ho)]
  · rfl
def SKl : List Nat := LD ++ LA ++ LN ++ LSv
theorem SKl_k : ∀ i, i ∈ SKl → i ∈ SKc := by
  intro i hi
  have hn : SKl.all (fun i => SKc.contains i) = true := by decide +kernel
  simpa using List.all_eq_true.mp hn i hi
theorem SKl_no {i : Nat} (h : i < 175 ∨ 210 ≤ i) : i ∉ SKl := nin (a := 175) (b := 210) (by decide +kernel) h
section CT
variable {l : Launch} {d : Nat} {h : Mem} {nb : Nat}
theorem c_settle (L : Lay h) (hnb : nb = 4 ∨ nb = 34) (R : RN h nb) (W : WN (h 220)) {tn tc : Int} (hT : TrW (h 220) tn tc) (htn : -1 ≤ tn) : Cl l (d + 5) M_X6_settle [(2, 176), (2, (nb : Int) + 1), (0, tn), (0, tc)] SHP h (fun r sh' h' => r = 0 ∧ sh' = SHP ∧ Fk h h' ∧ h' 175 7 = 0 ∧ Stl h' nb tn tc) := by
  have nf := W.nf
  have nn := W.nn
  have w6 := W.wc.1
  obtain ⟨h1, e1⟩ : ∃ h1, h1 = up (up (up h 175 6 ((nb : Int) + 1)) 175 7 0) 175 8 (-1) := ⟨_, rfl⟩
  have K1 : Fk h h1 := by rw [e1]; exact ((Fk.fld (by decide)).trans (Fk.fld (by decide))).trans (Fk.fld (by decide))
  have L1 := K1.lay L
  have a6 : h1 175 6 = (nb : Int) + 1 := by rw [e1, up_nj (by decide), up_nj (by decide), up_at]
  have a7 : h1 175 7 = 0 := by rw [e1, up_nj (by decide), up_at]
  have a8 : h1 175 8 = -1 := by rw [e1, up_at]
  have s1 := (net_sh hnb).1
  refine Cl_hide (fun Q hQ => ?_)
  -- memories that differ from h1 in what is settled alone
  have kn : ∀ {m}, Fr SKl h1 m → Fk h m ∧ Lay m ∧ m 220 = h 220 ∧ m 175 6 = (nb : Int) + 1 ∧ m 175 7 = 0 ∧ m 175 8 = -1 ∧ RN m nb := fun {m} F => by
    have K := K1.trans (Fk.ofFr F SKl_k)
    have q := F 175 (by decide)
    exact ⟨K, K.lay L, K.n220, by rw [q]; exact a6, by rw [q]; exact a7, by rw [q]; exact a8, K.rn R W hnb⟩
  obtain ⟨Z0, hZ0⟩ : ∃ Z0, Z0 = stl (h 220) tn tc 60 1 zer := ⟨_, rfl⟩
  have no : ∀ {m}, Fr SKl h1 m → Z0.1 = -1 → Q 0 SHP m := fun {m} F z => by
    obtain ⟨K, Lm, e220, m6, m7, m8, Rm⟩ := kn F
    refine hQ _ _ _ ⟨rfl, rfl, K, m7, m6, ?_, fun q => ?_⟩
    · rw [m8, e220]; unfold rds; rw [← hZ0]; exact z.symm
    · rw [e220] at q; unfold rds at q; rw [← hZ0] at q; omega
  have rnds : ∀ (fu r : Nat) (D : Nat → Int), r + fu = 61 → 1 ≤ r → DB D → (∀ i, i < 16 → ¬ HopI (h 220) i → D i = 0) → (Z0 = stl (h 220) tn tc fu r D) → ∀ m, Fr SKl h1 m → SvR m tn tc → DlR m D → ArZ m → V l (d + 5) 0 0 M_X6_settle 0 0 82 Q [(2, 176), (2, (nb : Int) + 1), (0, tn), (0, tc), (0, (r : Int))] [] SHP m := by
    intro fu
    induction fu with
    | zero =>
      intro r D hr hr1 hD hz hs m F S Dl Az
      refine S_X6_settle_82 _ _ _ _ ?_; simp (disch := omega) only [B_X6_settle_82, bi_0, x_ic, x_lc, x_ld, x_st, x_sl, x_inc, x_b32, x_b64, x_d32, x_d64, x_s64, x_un, x_lcmp, x_dup, x_pop, x_dup2, x_if, x_cmp, x_sw, swk, x_ald, x_ast, x_alen, x_getf, x_putf, x_inv, x_mm, x_copy, x_iret, x_lret, x_vret, ok1, pu, ct, rcv, rcs, ent0, List.getElem?_cons_zero, List.getElem?_cons_succ, List.getElem?_nil, List.set_cons_zero, List.set_cons_succ, List.take_succ_cons, List.take_zero, List.drop_succ_cons, List.drop_zero, List.reverse_cons, List.reverse_nil, List.nil_append, List.cons_append, List.length_cons, List.length_nil, true_and, and_true, and_self, ne_eq, not_true_eq_false, not_false_eq_true, reduceIte, true_or, or_true, false_or, or_false, Nat.reduceAdd, Nat.reduceSub, Nat.reduceMul, Nat.reduceLeDiff, Nat.reduceEqDiff, Nat.reduceLT, Nat.le_refl, Nat.zero_le, Int.reduceToNat, Int.reduceAdd, Int.reduceSub, Int.reduceMul, Int.reduceNeg, Int.reduceLT, Int.reduceLE, Int.reduceEq, Nat.zero_add, Nat.add_zero, Nat.reduceBEq, Nat.one_ne_zero, Nat.zero_ne_one, Nat.lt_irrefl, Nat.succ_ne_zero, w32_id, ixc, ixc2, Int.toNat_natCast]
      refine ⟨fun _ => ?_, fun z => absurd z (by omega)⟩
      refine S_X6_settle_121 _ _ _ _ ?_; simp (disch := omega) only [B_X6_settle_121, bi_0, x_ic, x_lc, x_ld, x_st, x_sl, x_inc, x_b32, x_b64, x_d32, x_d64, x_s64, x_un, x_lcmp, x_dup, x_pop, x_dup2, x_if, x_cmp, x_sw, swk, x_ald, x_ast, x_alen, x_getf, x_putf, x_inv, x_mm, x_copy, x_iret, x_lret, x_vret, ok1, pu, ct, rcv, rcs, ent0, List.getElem?_cons_zero, List.getElem?_cons_succ, List.getElem?_nil, List.set_cons_zero, List.set_cons_succ, List.take_succ_cons, List.take_zero, List.drop_succ_cons, List.drop_zero, List.reverse_cons, List.reverse_nil, List.nil_append, List.cons_append, List.length_cons, List.length_nil, true_and, and_true, and_self, ne_eq, not_true_eq_false, not_false_eq_true, reduceIte, true_or, or_true, false_or, or_false, Nat.reduceAdd, Nat.reduceSub, Nat.reduceMul, Nat.reduceLeDiff, Nat.reduceEqDiff, Nat.reduceLT, Nat.le_refl, Nat.zero_le, Int.reduceToNat, Int.reduceAdd, Int.reduceSub, Int.reduceMul, Int.reduceNeg, Int.reduceLT, Int.reduceLE, Int.reduceEq, Nat.zero_add, Nat.add_zero, Nat.reduceBEq, Nat.one_ne_zero, Nat.zero_ne_one, Nat.lt_irrefl, Nat.succ_ne_zero, w32_id, ixc, ixc2, Int.toNat_natCast]
      exact no F (by rw [hs]; rfl)
    | succ fu ih =>
      intro r D hr hr1 hD hz hs m F S Dl Az
      obtain ⟨K, Lm, e220, m6, m7, m8, Rm⟩ := kn F
      have Wm : WN (m 220) := by rw [e220]; exact W
      refine S_X6_settle_82 _ _ _ _ ?_; simp (disch := omega) only [B_X6_settle_82, bi_0, x_ic, x_lc, x_ld, x_st, x_sl, x_inc, x_b32, x_b64, x_d32, x_d64, x_s64, x_un, x_lcmp, x_dup, x_pop, x_dup2, x_if, x_cmp, x_sw, swk, x_ald, x_ast, x_alen, x_getf, x_putf, x_inv, x_mm, x_copy, x_iret, x_lret, x_vret, ok1, pu, ct, rcv, rcs, ent0, List.getElem?_cons_zero, List.getElem?_cons_succ, List.getElem?_nil, List.set_cons_zero, List.set_cons_succ, List.take_succ_cons, List.take_zero, List.drop_succ_cons, List.drop_zero, List.reverse_cons, List.reverse_nil, List.nil_append, List.cons_append, List.length_cons, List.length_nil, true_and, and_true, and_self, ne_eq, not_true_eq_false, not_false_eq_true, reduceIte, true_or, or_true, false_or, or_false, Nat.reduceAdd, Nat.reduceSub, Nat.reduceMul, Nat.reduceLeDiff, Nat.reduceEqDiff, Nat.reduceLT, Nat.le_refl, Nat.zero_le, Int.reduceToNat, Int.reduceAdd, Int.reduceSub, Int.reduceMul, Int.reduceNeg, Int.reduceLT, Int.reduceLE, Int.reduceEq, Nat.zero_add, Nat.add_zero, Nat.reduceBEq, Nat.one_ne_zero, Nat.zero_ne_one, Nat.lt_irrefl, Nat.succ_ne_zero, w32_id, ixc, ixc2, Int.toNat_natCast, ob_175]
      refine ⟨fun z => absurd z (by omega), fun _ => ?_⟩
      refine Cl.imp (c_fillArriving Lm hnb m6 Rm Wm hD Dl Az) (fun r0 sh0 m1 q => ?_)
      obtain ⟨rfl, rfl, f1, A1⟩ := q
      have F1 : Fr SKl h1 m1 := F.trans (f1.wd (fun i hi => by simp only [SKl, List.mem_append]; exact Or.inl (Or.inl (Or.inr hi))))
      obtain ⟨K1', L1', g220, g6, g7, g8, R1⟩ := kn F1
      have W1 : WN (m1 220) := by rw [g220]; exact W
      have S1 : SvR m1 tn tc := S.cong Wm (by rw [g220, e220]) (fun i hi => f1 _ (LA_no (by omega)))
      (try simp (disch := omega) only [bi_0, x_ic, x_lc, x_ld, x_st, x_sl, x_inc, x_b32, x_b64, x_d32, x_d64, x_s64, x_un, x_lcmp, x_dup, x_pop, x_dup2, x_if, x_cmp, x_sw, swk, x_ald, x_ast, x_alen, x_getf, x_putf, x_inv, x_mm, x_copy, x_iret, x_lret, x_vret, ok1, pu, ct, rcv, rcs, ent0, List.getElem?_cons_zero, List.getElem?_cons_succ, List.getElem?_nil, List.set_cons_zero, List.set_cons_succ, List.take_succ_cons, List.take_zero, List.drop_succ_cons, List.drop_zero, List.reverse_cons, List.reverse_nil, List.nil_append, List.cons_append, List.length_cons, List.length_nil, true_and, and_true, and_self, ne_eq, not_true_eq_false, not_false_eq_true, reduceIte, true_or, or_true, false_or, or_false, Nat.reduceAdd, Nat.reduceSub, Nat.reduceMul, Nat.reduceLeDiff, Nat.reduceEqDiff, Nat.reduceLT, Nat.le_refl, Nat.zero_le, Int.reduceToNat, Int.reduceAdd, Int.reduceSub, Int.reduceMul, Int.reduceNeg, Int.reduceLT, Int.reduceLE, Int.reduceEq, Nat.zero_add, Nat.add_zero, Nat.reduceBEq, Nat.one_ne_zero, Nat.zero_ne_one, Nat.lt_irrefl, Nat.succ_ne_zero, w32_id, ixc, ixc2, Int.toNat_natCast, ob_175])
      refine Cl.imp (c_tellAnew L1' hnb g6 R1 W1 hD A1 (by rw [g220]; exact hT) S1) (fun r1 sh1 m2 q => ?_)
      obtain ⟨q1, rfl, f2, N2⟩ := q
      rw [g220] at q1 N2
      have F2 : Fr SKl h1 m2 := F1.trans (f2.wd (fun i hi => by simp only [SKl, List.mem_append]; exact Or.inl (Or.inr hi)))
      obtain ⟨K2, L2, k220, k6, k7, k8, R2⟩ := kn F2
      have W2 : WN (m2 220) := by rw [k220]; exact W
      have S2 : SvR m2 tn tc := S1.cong W1 (by rw [k220, g220]) (fun i hi => f2 _ (LN_no (by omega)))
      have A2 : ArR m2 D := A1.cong (by rw [k220, g220]) (fun i hi => f2 _ (LN_no (by omega)))
      have D2 : DlR m2 D := Dl.cong (fun _ _ => rfl) (fun i hi => by rw [f2 _ (LN_no (by omega)), f1 _ (LA_no (by omega))])
      rw [stl] at hs
      (try simp (disch := omega) only [bi_0, x_ic, x_lc, x_ld, x_st, x_sl, x_inc, x_b32, x_b64, x_d32, x_d64, x_s64, x_un, x_lcmp, x_dup, x_pop, x_dup2, x_if, x_cmp, x_sw, swk, x_ald, x_ast, x_alen, x_getf, x_putf, x_inv, x_mm, x_copy, x_iret, x_lret, x_vret, ok1, pu, ct, rcv, rcs, ent0, List.getElem?_cons_zero, List.getElem?_cons_succ, List.getElem?_nil, List.set_cons_zero, List.set_cons_succ, List.take_succ_cons, List.take_zero, List.drop_succ_cons, List.drop_zero, List.reverse_cons, List.reverse_nil, List.nil_append, List.cons_append, List.length_cons, List.length_nil, true_and, and_true, and_self, ne_eq, not_true_eq_false, not_false_eq_true, reduceIte, true_or, or_true, false_or, or_false, Nat.reduceAdd, Nat.reduceSub, Nat.reduceMul, Nat.reduceLeDiff, Nat.reduceEqDiff, Nat.reduceLT, Nat.le_refl, Nat.zero_le, Int.reduceToNat, Int.reduceAdd, Int.reduceSub, Int.reduceMul, Int.reduceNeg, Int.reduceLT, Int.reduceLE, Int.reduceEq, Nat.zero_add, Nat.add_zero, Nat.reduceBEq, Nat.one_ne_zero, Nat.zero_ne_one, Nat.lt_irrefl, Nat.succ_ne_zero, w32_id, ixc, ixc2, Int.toNat_natCast])
      refine ⟨fun z => ?_, fun z => ?_⟩
      · rw [q1, bI_0] at z
        rw [iF_t (Classical.not_not.mp z)] at hs
        exact no F2 (by rw [hs])
      · have nb1 : ¬ Bad (h 220) tn tc D := fun hb => z (by rw [q1, bI_f (fun y => y hb)])
        rw [iF_f nb1] at hs
        refine S_X6_settle_101 _ _ _ _ ?_; simp (disch := omega) only [B_X6_settle_101, bi_0, x_ic, x_lc, x_ld, x_st, x_sl, x_inc, x_b32, x_b64, x_d32, x_d64, x_s64, x_un, x_lcmp, x_dup, x_pop, x_dup2, x_if, x_cmp, x_sw, swk, x_ald, x_ast, x_alen, x_getf, x_putf, x_inv, x_mm, x_copy, x_iret, x_lret, x_vret, ok1, pu, ct, rcv, rcs, ent0, List.getElem?_cons_zero, List.getElem?_cons_succ, List.getElem?_nil, List.set_cons_zero, List.set_cons_succ, List.take_succ_cons, List.take_zero, List.drop_succ_cons, List.drop_zero, List.reverse_cons, List.reverse_nil, List.nil_append, List.cons_append, List.length_cons, List.length_nil, true_and, and_true, and_self, ne_eq, not_true_eq_false, not_false_eq_true, reduceIte, true_or, or_true, false_or, or_false, Nat.reduceAdd, Nat.reduceSub, Nat.reduceMul, Nat.reduceLeDiff, Nat.reduceEqDiff, Nat.reduceLT, Nat.le_refl, Nat.zero_le, Int.reduceToNat, Int.reduceAdd, Int.reduceSub, Int.reduceMul, Int.reduceNeg, Int.reduceLT, Int.reduceLE, Int.reduceEq, Nat.zero_add, Nat.add_zero, Nat.reduceBEq, Nat.one_ne_zero, Nat.zero_ne_one, Nat.lt_irrefl, Nat.succ_ne_zero, w32_id, ixc, ixc2, Int.toNat_natCast, ob_175]
        refine Cl.imp (c_takeAnew L2 hnb k6 R2 W2 D2 (tn := tn) (tc := tc) (by rw [k220]; exact hz) (by rw [k220]; exact N2 nb1)) (fun r2 sh2 m3 q => ?_)
        obtain ⟨q2, rfl, f3, D3⟩ := q
        rw [k220] at q2 D3
        have F3 : Fr SKl h1 m3 := F2.trans (f3.wd (fun i hi => by simp only [SKl, List.mem_append]; exact Or.inl (Or.inl (Or.inl hi))))
        obtain ⟨K3, L3, j220, j6, j7, j8, R3⟩ := kn F3
        have W3 : WN (m3 220) := by rw [j220]; exact W
        have S3 : SvR m3 tn tc := S2.cong W2 (by rw [j220, k220]) (fun i hi => f3 _ (LD_no (by omega)))
        have A3 : ArR m3 D := A2.cong (by rw [j220, k220]) (fun i hi => f3 _ (LD_no (by omega)))
        (try simp (disch := omega) only [bi_0, x_ic, x_lc, x_ld, x_st, x_sl, x_inc, x_b32, x_b64, x_d32, x_d64, x_s64, x_un, x_lcmp, x_dup, x_pop, x_dup2, x_if, x_cmp, x_sw, swk, x_ald, x_ast, x_alen, x_getf, x_putf, x_inv, x_mm, x_copy, x_iret, x_lret, x_vret, ok1, pu, ct, rcv, rcs, ent0, List.getElem?_cons_zero, List.getElem?_cons_succ, List.getElem?_nil, List.set_cons_zero, List.set_cons_succ, List.take_succ_cons, List.take_zero, List.drop_succ_cons, List.drop_zero, List.reverse_cons, List.reverse_nil, List.nil_append, List.cons_append, List.length_cons, List.length_nil, true_and, and_true, and_self, ne_eq, not_true_eq_false, not_false_eq_true, reduceIte, true_or, or_true, false_or, or_false, Nat.reduceAdd, Nat.reduceSub, Nat.reduceMul, Nat.reduceLeDiff, Nat.reduceEqDiff, Nat.reduceLT, Nat.le_refl, Nat.zero_le, Int.reduceToNat, Int.reduceAdd, Int.reduceSub, Int.reduceMul, Int.reduceNeg, Int.reduceLT, Int.reduceLE, Int.reduceEq, Nat.zero_add, Nat.add_zero, Nat.reduceBEq, Nat.one_ne_zero, Nat.zero_ne_one, Nat.lt_irrefl, Nat.succ_ne_zero, w32_id, ixc, ixc2, Int.toNat_natCast, ob_175])
        refine ⟨fun z2 => ?_, fun z2 => ?_⟩
        · rw [q2, bI_0] at z2
          rw [iF_f z2] at hs
          have er : rds (h 220) tn tc = (r : Int) := by unfold rds; rw [← hZ0, hs]
          have ed : dls (h 220) tn tc = nxD (h 220) tn tc D := by unfold dls; rw [← hZ0, hs]
          have u220 : up m3 175 8 (r : Int) 220 = h 220 := by rw [up_ne (by decide), j220]
          refine hQ _ _ _ ⟨rfl, rfl, K3.trans (Fk.fld (by decide)), by rw [up_nj (by decide)]; exact j7, by rw [up_nj (by decide)]; exact j6, by rw [up_at, u220, er], fun _ => ?_⟩
          rw [u220, ed]
          refine ⟨D3.cong (fun _ _ => rfl) (fun i hi => up_ne (by omega)), ?_, S3.cong W3 (by rw [u220, j220]) (fun i hi => up_ne (by omega))⟩
          have A4 : ArR m3 (nxD (h 220) tn tc D) := A3.cd W3 (fun i hi => (nxD_same z2 hz i hi).symm)
          exact A4.cong (by rw [u220, j220]) (fun i hi => up_ne (by omega))
        · rw [q2, bI_0] at z2
          rw [iF_t (Classical.not_not.mp z2)] at hs
          refine S_X6_settle_115 _ _ _ _ ?_; simp (disch := omega) only [B_X6_settle_115, bi_0, x_ic, x_lc, x_ld, x_st, x_sl, x_inc, x_b32, x_b64, x_d32, x_d64, x_s64, x_un, x_lcmp, x_dup, x_pop, x_dup2, x_if, x_cmp, x_sw, swk, x_ald, x_ast, x_alen, x_getf, x_putf, x_inv, x_mm, x_copy, x_iret, x_lret, x_vret, ok1, pu, ct, rcv, rcs, ent0, List.getElem?_cons_zero, List.getElem?_cons_succ, List.getElem?_nil, List.set_cons_zero, List.set_cons_succ, List.take_succ_cons, List.take_zero, List.drop_succ_cons, List.drop_zero, List.reverse_cons, List.reverse_nil, List.nil_append, List.cons_append, List.length_cons, List.length_nil, true_and, and_true, and_self, ne_eq, not_true_eq_false, not_false_eq_true, reduceIte, true_or, or_true, false_or, or_false, Nat.reduceAdd, Nat.reduceSub, Nat.reduceMul, Nat.reduceLeDiff, Nat.reduceEqDiff, Nat.reduceLT, Nat.le_refl, Nat.zero_le, Int.reduceToNat, Int.reduceAdd, Int.reduceSub, Int.reduceMul, Int.reduceNeg, Int.reduceLT, Int.reduceLE, Int.reduceEq, Nat.zero_add, Nat.add_zero, Nat.reduceBEq, Nat.one_ne_zero, Nat.zero_ne_one, Nat.lt_irrefl, Nat.succ_ne_zero, w32_id, ixc, ixc2, Int.toNat_natCast]
          exact ih (r + 1) (nxD (h 220) tn tc D) (by omega) (by omega) (nxD_b nb1) (fun i _ hi => nxD_z hi) hs m3 F3 S3 D3 A3.z
  show V l (d + 5) 0 0 M_X6_settle 0 0 0 Q [(2, 176), (2, (nb : Int) + 1), (0, tn), (0, tc), (9, 0)] [] SHP h
  refine S_X6_settle_0 _ _ _ _ ?_; simp (disch := omega) only [B_X6_settle_0, bi_0, x_ic, x_lc, x_ld, x_st, x_sl, x_inc, x_b32, x_b64, x_d32, x_d64, x_s64, x_un, x_lcmp, x_dup, x_pop, x_dup2, x_if, x_cmp, x_sw, swk, x_ald, x_ast, x_alen, x_getf, x_putf, x_inv, x_mm, x_copy, x_iret, x_lret, x_vret, ok1, pu, ct, rcv, rcs, ent0, List.getElem?_cons_zero, List.getElem?_cons_succ, List.getElem?_nil, List.set_cons_zero, List.set_cons_succ, List.take_succ_cons, List.take_zero, List.drop_succ_cons, List.drop_zero, List.reverse_cons, List.reverse_nil, List.nil_append, List.cons_append, List.length_cons, List.length_nil, true_and, and_true, and_self, ne_eq, not_true_eq_false, not_false_eq_true, reduceIte, true_or, or_true, false_or, or_false, Nat.reduceAdd, Nat.reduceSub, Nat.reduceMul, Nat.reduceLeDiff, Nat.reduceEqDiff, Nat.reduceLT, Nat.le_refl, Nat.zero_le, Int.reduceToNat, Int.reduceAdd, Int.reduceSub, Int.reduceMul, Int.reduceNeg, Int.reduceLT, Int.reduceLE, Int.reduceEq, Nat.zero_add, Nat.add_zero, Nat.reduceBEq, Nat.one_ne_zero, Nat.zero_ne_one, Nat.lt_irrefl, Nat.succ_ne_zero, w32_id, ixc, ixc2, Int.toNat_natCast, ob_175]
  rw [← e1]
  refine Cl.imp (c_clear L1) (fun r0 sh0 m0 q => ?_)
  obtain ⟨rfl, rfl, f0, Dz, Az⟩ := q
  have F0 : Fr SKl h1 m0 := f0.wd (fun i hi => by simp only [SKl, List.mem_append] at hi ⊢; rcases hi with hi | hi; exact Or.inl (Or.inl (Or.inl hi)); exact Or.inl (Or.inl (Or.inr hi)))
  (try simp (disch := omega) only [bi_0, x_ic, x_lc, x_ld, x_st, x_sl, x_inc, x_b32, x_b64, x_d32, x_d64, x_s64, x_un, x_lcmp, x_dup, x_pop, x_dup2, x_if, x_cmp, x_sw, swk, x_ald, x_ast, x_alen, x_getf, x_putf, x_inv, x_mm, x_copy, x_iret, x_lret, x_vret, ok1, pu, ct, rcv, rcs, ent0, List.getElem?_cons_zero, List.getElem?_cons_succ, List.getElem?_nil, List.set_cons_zero, List.set_cons_succ, List.take_succ_cons, List.take_zero, List.drop_succ_cons, List.drop_zero, List.reverse_cons, List.reverse_nil, List.nil_append, List.cons_append, List.length_cons, List.length_nil, true_and, and_true, and_self, ne_eq, not_true_eq_false, not_false_eq_true, reduceIte, true_or, or_true, false_or, or_false, Nat.reduceAdd, Nat.reduceSub, Nat.reduceMul, Nat.reduceLeDiff, Nat.reduceEqDiff, Nat.reduceLT, Nat.le_refl, Nat.zero_le, Int.reduceToNat, Int.reduceAdd, Int.reduceSub, Int.reduceMul, Int.reduceNeg, Int.reduceLT, Int.reduceLE, Int.reduceEq, Nat.zero_add, Nat.add_zero, Nat.reduceBEq, Nat.one_ne_zero, Nat.zero_ne_one, Nat.lt_irrefl, Nat.succ_ne_zero, w32_id, ixc, ixc2, Int.toNat_natCast])
  refine V_jx (pc := 22) (fun n => [(2, 176), (2, (nb : Int) + 1), (0, tn), (0, tc), (0, (n : Int))]) (fun n m => Fr SKl h1 m ∧ DlR m zer ∧ (∀ i t, i < 16 → t ≤ 120 → m (187 + i) t = 0) ∧ ∀ n' t : Nat, n' < n → t ≤ 120 → m (204 + n') t = srv (h 220) tn tc n' t) (h 220 1).toNat (fun n m hn J ih => ?_) (fun m J => ?_) m0 ⟨F0, Dz, Az, fun _ _ q => absurd q (by omega)⟩
  · obtain ⟨K, Lm, e220, m6, m7, m8, Rm⟩ := kn J.1
    have Wm : WN (m 220) := by rw [e220]; exact W
    have hni : (n : Int) < h 220 1 := by omega
    have x12 : m nb 12 = h 220 1 := by rw [Rm.2.1.1, e220]
    obtain ⟨x1, x2, x3⟩ := Rm.2.2.1 n (by rw [e220]; exact hni)
    rw [e220] at x2
    have cb := cuT_b W hT hni
    obtain ⟨c, ec⟩ : ∃ c : Nat, cuT (h 220) tn tc n = (c : Int) := ⟨(cuT (h 220) tn tc n).toNat, by omega⟩
    have y0 := net_p Lm hnb
    have hcm : (c : Int) < m 220 0 := by rw [e220]; omega
    have k61 : V l (d + 5) 0 0 M_X6_settle 0 0 61 Q [(2, 176), (2, (nb : Int) + 1), (0, tn), (0, tc), (0, (n : Int))] [(0, (c : Int)), (2, (nb : Int) + 2)] SHP m := by
      have cf := c_fill (l := l) (d := d + 2) (h := m) (a := nb + 18 + 2 * c) (b := 204 + n) (nn := 121) (net_c Lm hnb (show c < 6 by omega)).2 (Rm.1.cg Wm.wc hcm) (stg_s Lm (show n < 4 by omega)).2 (by decide) (by omega) (sft := 0) (by decide) (by decide)
      have ev : (fun t : Nat => vA m (nb + 18 + 2 * c) ((t : Int) + 0)) = fun t : Nat => srv (h 220) tn tc n t := funext fun t => by
        rw [Rm.1.va Wm.wc hcm (by omega), e220, Int.add_zero]; unfold srv; rw [ec]
      rw [ev] at cf
      have sl := (stg_l Lm).2.2.2.1
      have yc1 := (net_c Lm hnb (show c < 6 by omega)).1
      refine S_X6_settle_61 _ _ _ _ ?_; simp (disch := omega) only [B_X6_settle_61, bi_0, x_ic, x_lc, x_ld, x_st, x_sl, x_inc, x_b32, x_b64, x_d32, x_d64, x_s64, x_un, x_lcmp, x_dup, x_pop, x_dup2, x_if, x_cmp, x_sw, swk, x_ald, x_ast, x_alen, x_getf, x_putf, x_inv, x_mm, x_copy, x_iret, x_lret, x_vret, ok1, pu, ct, rcv, rcs, ent0, List.getElem?_cons_zero, List.getElem?_cons_succ, List.getElem?_nil, List.set_cons_zero, List.set_cons_succ, List.take_succ_cons, List.take_zero, List.drop_succ_cons, List.drop_zero, List.reverse_cons, List.reverse_nil, List.nil_append, List.cons_append, List.length_cons, List.length_nil, true_and, and_true, and_self, ne_eq, not_true_eq_false, not_false_eq_true, reduceIte, true_or, or_true, false_or, or_false, Nat.reduceAdd, Nat.reduceSub, Nat.reduceMul, Nat.reduceLeDiff, Nat.reduceEqDiff, Nat.reduceLT, Nat.le_refl, Nat.zero_le, Int.reduceToNat, Int.reduceAdd, Int.reduceSub, Int.reduceMul, Int.reduceNeg, Int.reduceLT, Int.reduceLE, Int.reduceEq, Nat.zero_add, Nat.add_zero, Nat.reduceBEq, Nat.one_ne_zero, Nat.zero_ne_one, Nat.lt_irrefl, Nat.succ_ne_zero, w32_id, ixc, ixc2, Int.toNat_natCast, ob_175, (net_sh hnb).2, ixc2, yc1, sl, ln_203, (stg_s Lm (show n < 4 by omega)).1]
      refine ⟨by omega, by omega, (net_c Lm hnb (show c < 6 by omega)).2.1.1, ?_⟩
      refine Cl.app cf ?_
      (try simp (disch := omega) only [bi_0, x_ic, x_lc, x_ld, x_st, x_sl, x_inc, x_b32, x_b64, x_d32, x_d64, x_s64, x_un, x_lcmp, x_dup, x_pop, x_dup2, x_if, x_cmp, x_sw, swk, x_ald, x_ast, x_alen, x_getf, x_putf, x_inv, x_mm, x_copy, x_iret, x_lret, x_vret, ok1, pu, ct, rcv, rcs, ent0, List.getElem?_cons_zero, List.getElem?_cons_succ, List.getElem?_nil, List.set_cons_zero, List.set_cons_succ, List.take_succ_cons, List.take_zero, List.drop_succ_cons, List.drop_zero, List.reverse_cons, List.reverse_nil, List.nil_append, List.cons_append, List.length_cons, List.length_nil, true_and, and_true, and_self, ne_eq, not_true_eq_false, not_false_eq_true, reduceIte, true_or, or_true, false_or, or_false, Nat.reduceAdd, Nat.reduceSub, Nat.reduceMul, Nat.reduceLeDiff, Nat.reduceEqDiff, Nat.reduceLT, Nat.le_refl, Nat.zero_le, Int.reduceToNat, Int.reduceAdd, Int.reduceSub, Int.reduceMul, Int.reduceNeg, Int.reduceLT, Int.reduceLE, Int.reduceEq, Nat.zero_add, Nat.add_zero, Nat.reduceBEq, Nat.one_ne_zero, Nat.zero_ne_one, Nat.lt_irrefl, Nat.succ_ne_zero, w32_id, ixc, ixc2, Int.toNat_natCast])
      refine ih _ ?_
      refine ⟨Fr.row J.1 (by simp only [SKl, List.mem_append]; exact Or.inr (LSv_in (by omega))), J.2.1.cong (fun _ _ => rfl) (fun i hi => row_ne (by omega)), fun i t q1 q2 => by rw [row_ne (by omega)]; exact J.2.2.1 i t q1 q2, fun n' t q1 q2 => ?_⟩
      by_cases e : n' = n
      · subst e; rw [row_at (by omega)]
      · rw [row_ne (by omega)]; exact J.2.2.2 n' t (by omega) q2
    refine S_X6_settle_22 _ _ _ _ ?_; simp (disch := omega) only [B_X6_settle_22, bi_0, x_ic, x_lc, x_ld, x_st, x_sl, x_inc, x_b32, x_b64, x_d32, x_d64, x_s64, x_un, x_lcmp, x_dup, x_pop, x_dup2, x_if, x_cmp, x_sw, swk, x_ald, x_ast, x_alen, x_getf, x_putf, x_inv, x_mm, x_copy, x_iret, x_lret, x_vret, ok1, pu, ct, rcv, rcs, ent0, List.getElem?_cons_zero, List.getElem?_cons_succ, List.getElem?_nil, List.set_cons_zero, List.set_cons_succ, List.take_succ_cons, List.take_zero, List.drop_succ_cons, List.drop_zero, List.reverse_cons, List.reverse_nil, List.nil_append, List.cons_append, List.length_cons, List.length_nil, true_and, and_true, and_self, ne_eq, not_true_eq_false, not_false_eq_true, reduceIte, true_or, or_true, false_or, or_false, Nat.reduceAdd, Nat.reduceSub, Nat.reduceMul, Nat.reduceLeDiff, Nat.reduceEqDiff, Nat.reduceLT, Nat.le_refl, Nat.zero_le, Int.reduceToNat, Int.reduceAdd, Int.reduceSub, Int.reduceMul, Int.reduceNeg, Int.reduceLT, Int.reduceLE, Int.reduceEq, Nat.zero_add, Nat.add_zero, Nat.reduceBEq, Nat.one_ne_zero, Nat.zero_ne_one, Nat.lt_irrefl, Nat.succ_ne_zero, w32_id, ixc, ixc2, Int.toNat_natCast, ob_175, m6, s1, x12, y0]
    refine ⟨fun z => absurd z (by omega), fun _ => ⟨fun z => ?_, fun z => ?_⟩⟩
    · unfold cuT at ec
      rw [if_pos z] at ec
      rw [ec] at k61 ⊢
      exact k61
    · unfold cuT at ec
      rw [if_neg z] at ec
      rw [ec] at x2
      refine S_X6_settle_51 _ _ _ _ ?_; simp (disch := omega) only [B_X6_settle_51, bi_0, x_ic, x_lc, x_ld, x_st, x_sl, x_inc, x_b32, x_b64, x_d32, x_d64, x_s64, x_un, x_lcmp, x_dup, x_pop, x_dup2, x_if, x_cmp, x_sw, swk, x_ald, x_ast, x_alen, x_getf, x_putf, x_inv, x_mm, x_copy, x_iret, x_lret, x_vret, ok1, pu, ct, rcv, rcs, ent0, List.getElem?_cons_zero, List.getElem?_cons_succ, List.getElem?_nil, List.set_cons_zero, List.set_cons_succ, List.take_succ_cons, List.take_zero, List.drop_succ_cons, List.drop_zero, List.reverse_cons, List.reverse_nil, List.nil_append, List.cons_append, List.length_cons, List.length_nil, true_and, and_true, and_self, ne_eq, not_true_eq_false, not_false_eq_true, reduceIte, true_or, or_true, false_or, or_false, Nat.reduceAdd, Nat.reduceSub, Nat.reduceMul, Nat.reduceLeDiff, Nat.reduceEqDiff, Nat.reduceLT, Nat.le_refl, Nat.zero_le, Int.reduceToNat, Int.reduceAdd, Int.reduceSub, Int.reduceMul, Int.reduceNeg, Int.reduceLT, Int.reduceLE, Int.reduceEq, Nat.zero_add, Nat.add_zero, Nat.reduceBEq, Nat.one_ne_zero, Nat.zero_ne_one, Nat.lt_irrefl, Nat.succ_ne_zero, w32_id, ixc, ixc2, Int.toNat_natCast, ob_175, m6, s1, nf5 Lm hnb, nln6 hnb, x2]
      exact ⟨by omega, k61⟩
  · obtain ⟨K, Lm, e220, m6, m7, m8, Rm⟩ := kn J.1
    have x12 : m nb 12 = h 220 1 := by rw [Rm.2.1.1, e220]
    refine S_X6_settle_22 _ _ _ _ ?_; simp (disch := omega) only [B_X6_settle_22, bi_0, x_ic, x_lc, x_ld, x_st, x_sl, x_inc, x_b32, x_b64, x_d32, x_d64, x_s64, x_un, x_lcmp, x_dup, x_pop, x_dup2, x_if, x_cmp, x_sw, swk, x_ald, x_ast, x_alen, x_getf, x_putf, x_inv, x_mm, x_copy, x_iret, x_lret, x_vret, ok1, pu, ct, rcv, rcs, ent0, List.getElem?_cons_zero, List.getElem?_cons_succ, List.getElem?_nil, List.set_cons_zero, List.set_cons_succ, List.take_succ_cons, List.take_zero, List.drop_succ_cons, List.drop_zero, List.reverse_cons, List.reverse_nil, List.nil_append, List.cons_append, List.length_cons, List.length_nil, true_and, and_true, and_self, ne_eq, not_true_eq_false, not_false_eq_true, reduceIte, true_or, or_true, false_or, or_false, Nat.reduceAdd, Nat.reduceSub, Nat.reduceMul, Nat.reduceLeDiff, Nat.reduceEqDiff, Nat.reduceLT, Nat.le_refl, Nat.zero_le, Int.reduceToNat, Int.reduceAdd, Int.reduceSub, Int.reduceMul, Int.reduceNeg, Int.reduceLT, Int.reduceLE, Int.reduceEq, Nat.zero_add, Nat.add_zero, Nat.reduceBEq, Nat.one_ne_zero, Nat.zero_ne_one, Nat.lt_irrefl, Nat.succ_ne_zero, w32_id, ixc, ixc2, Int.toNat_natCast, ob_175, m6, s1, x12]
    refine ⟨fun _ => ?_, fun z => absurd z (by omega)⟩
    refine S_X6_settle_79 _ _ _ _ ?_; simp (disch := omega) only [B_X6_settle_79, bi_0, x_ic, x_lc, x_ld, x_st, x_sl, x_inc, x_b32, x_b64, x_d32, x_d64, x_s64, x_un, x_lcmp, x_dup, x_pop, x_dup2, x_if, x_cmp, x_sw, swk, x_ald, x_ast, x_alen, x_getf, x_putf, x_inv, x_mm, x_copy, x_iret, x_lret, x_vret, ok1, pu, ct, rcv, rcs, ent0, List.getElem?_cons_zero, List.getElem?_cons_succ, List.getElem?_nil, List.set_cons_zero, List.set_cons_succ, List.take_succ_cons, List.take_zero, List.drop_succ_cons, List.drop_zero, List.reverse_cons, List.reverse_nil, List.nil_append, List.cons_append, List.length_cons, List.length_nil, true_and, and_true, and_self, ne_eq, not_true_eq_false, not_false_eq_true, reduceIte, true_or, or_true, false_or, or_false, Nat.reduceAdd, Nat.reduceSub, Nat.reduceMul, Nat.reduceLeDiff, Nat.reduceEqDiff, Nat.reduceLT, Nat.le_refl, Nat.zero_le, Int.reduceToNat, Int.reduceAdd, Int.reduceSub, Int.reduceMul, Int.reduceNeg, Int.reduceLT, Int.reduceLE, Int.reduceEq, Nat.zero_add, Nat.add_zero, Nat.reduceBEq, Nat.one_ne_zero, Nat.zero_ne_one, Nat.lt_irrefl, Nat.succ_ne_zero, w32_id, ixc, ixc2, Int.toNat_natCast]
    exact rnds 60 1 zer rfl (by decide) zer_b (fun _ _ _ => rfl) hZ0 m J.1 (fun n t q1 q2 => by rw [e220] at q1 ⊢; exact J.2.2.2 n t (by omega) q2) J.2.1 (fun n f t q1 q2 q3 _ => J.2.2.1 _ t (by omega) q3)
/-- what is kept of settling: nothing, or that of the told net -/
def Cch (h : Mem) (nb : Nat) : Prop := h 175 7 = 0 ∨ (h 175 7 = 1 ∧ Stl h nb (-1) 0)
theorem c_roundsAsTold (L : Lay h) (hnb : nb = 4 ∨ nb = 34) (R : RN h nb) (W : WN (h 220)) (C : Cch h nb) : Cl l (d + 6) M_X6_roundsAsTold [(2, 176), (2, (nb : Int) + 1)] SHP h (fun r sh' h' => r = rdN (h 220) ∧ sh' = SHP ∧ Fk h h' ∧ h' 175 7 = 1 ∧ Stl h' nb (-1) 0) := by
  refine Cl_hide (fun Q hQ => ?_)
  show V l (d + 6) 0 0 M_X6_roundsAsTold 0 0 0 Q [(2, 176), (2, (nb : Int) + 1)] [] SHP h
  refine S_X6_roundsAsTold_0 _ _ _ _ ?_; simp (disch := omega) only [B_X6_roundsAsTold_0, bi_0, x_ic, x_lc, x_ld, x_st, x_sl, x_inc, x_b32, x_b64, x_d32, x_d64, x_s64, x_un, x_lcmp, x_dup, x_pop, x_dup2, x_if, x_cmp, x_sw, swk, x_ald, x_ast, x_alen, x_getf, x_putf, x_inv, x_mm, x_copy, x_iret, x_lret, x_vret, ok1, pu, ct, rcv, rcs, ent0, List.getElem?_cons_zero, List.getElem?_cons_succ, List.getElem?_nil, List.set_cons_zero, List.set_cons_succ, List.take_succ_cons, List.take_zero, List.drop_succ_cons, List.drop_zero, List.reverse_cons, List.reverse_nil, List.nil_append, List.cons_append, List.length_cons, List.length_nil, true_and, and_true, and_self, ne_eq, not_true_eq_false, not_false_eq_true, reduceIte, true_or, or_true, false_or, or_false, Nat.reduceAdd, Nat.reduceSub, Nat.reduceMul, Nat.reduceLeDiff, Nat.reduceEqDiff, Nat.reduceLT, Nat.le_refl, Nat.zero_le, Int.reduceToNat, Int.reduceAdd, Int.reduceSub, Int.reduceMul, Int.reduceNeg, Int.reduceLT, Int.reduceLE, Int.reduceEq, Nat.zero_add, Nat.add_zero, Nat.reduceBEq, Nat.one_ne_zero, Nat.zero_ne_one, Nat.lt_irrefl, Nat.succ_ne_zero, w32_id, ixc, ixc2, Int.toNat_natCast, ob_175]
  refine ⟨fun z => ?_, fun z => ?_⟩
  · refine Cl.imp (c_settle L hnb R W (tn := -1) (tc := -1) (Or.inl rfl) (by decide)) (fun r sh' h' q => ?_)
    obtain ⟨rfl, rfl, K, q7, q6, q8, qs⟩ := q
    have e220 := K.n220
    have er : rds (h 220) (-1) (-1) = rdN (h 220) := rds_no _ _
    have ed : dls (h 220) (-1) (-1) = dlN (h 220) := dls_no _ _
    rw [e220, er] at q8 qs
    rw [ed] at qs
    (try simp (disch := omega) only [bi_0, x_ic, x_lc, x_ld, x_st, x_sl, x_inc, x_b32, x_b64, x_d32, x_d64, x_s64, x_un, x_lcmp, x_dup, x_pop, x_dup2, x_if, x_cmp, x_sw, swk, x_ald, x_ast, x_alen, x_getf, x_putf, x_inv, x_mm, x_copy, x_iret, x_lret, x_vret, ok1, pu, ct, rcv, rcs, ent0, List.getElem?_cons_zero, List.getElem?_cons_succ, List.getElem?_nil, List.set_cons_zero, List.set_cons_succ, List.take_succ_cons, List.take_zero, List.drop_succ_cons, List.drop_zero, List.reverse_cons, List.reverse_nil, List.nil_append, List.cons_append, List.length_cons, List.length_nil, true_and, and_true, and_self, ne_eq, not_true_eq_false, not_false_eq_true, reduceIte, true_or, or_true, false_or, or_false, Nat.reduceAdd, Nat.reduceSub, Nat.reduceMul, Nat.reduceLeDiff, Nat.reduceEqDiff, Nat.reduceLT, Nat.le_refl, Nat.zero_le, Int.reduceToNat, Int.reduceAdd, Int.reduceSub, Int.reduceMul, Int.reduceNeg, Int.reduceLT, Int.reduceLE, Int.reduceEq, Nat.zero_add, Nat.add_zero, Nat.reduceBEq, Nat.one_ne_zero, Nat.zero_ne_one, Nat.lt_irrefl, Nat.succ_ne_zero, w32_id, ixc, ixc2, Int.toNat_natCast, ob_175])
    refine S_X6_roundsAsTold_19 _ _ _ _ ?_; simp (disch := omega) only [B_X6_roundsAsTold_19, bi_0, x_ic, x_lc, x_ld, x_st, x_sl, x_inc, x_b32, x_b64, x_d32, x_d64, x_s64, x_un, x_lcmp, x_dup, x_pop, x_dup2, x_if, x_cmp, x_sw, swk, x_ald, x_ast, x_alen, x_getf, x_putf, x_inv, x_mm, x_copy, x_iret, x_lret, x_vret, ok1, pu, ct, rcv, rcs, ent0, List.getElem?_cons_zero, List.getElem?_cons_succ, List.getElem?_nil, List.set_cons_zero, List.set_cons_succ, List.take_succ_cons, List.take_zero, List.drop_succ_cons, List.drop_zero, List.reverse_cons, List.reverse_nil, List.nil_append, List.cons_append, List.length_cons, List.length_nil, true_and, and_true, and_self, ne_eq, not_true_eq_false, not_false_eq_true, reduceIte, true_or, or_true, false_or, or_false, Nat.reduceAdd, Nat.reduceSub, Nat.reduceMul, Nat.reduceLeDiff, Nat.reduceEqDiff, Nat.reduceLT, Nat.le_refl, Nat.zero_le, Int.reduceToNat, Int.reduceAdd, Int.reduceSub, Int.reduceMul, Int.reduceNeg, Int.reduceLT, Int.reduceLE, Int.reduceEq, Nat.zero_add, Nat.add_zero, Nat.reduceBEq, Nat.one_ne_zero, Nat.zero_ne_one, Nat.lt_irrefl, Nat.succ_ne_zero, w32_id, ixc, ixc2, Int.toNat_natCast, ob_175]
    have u220 : up h' 175 7 1 220 = h 220 := by rw [up_ne (by decide), e220]
    have u8 : up h' 175 7 1 175 8 = rdN (h 220) := by rw [up_nj (by decide)]; exact q8
    have es : rds (h 220) (-1) 0 = rdN (h 220) := rfl
    have esd : dls (h 220) (-1) 0 = dlN (h 220) := rfl
    refine hQ _ _ _ ⟨u8, rfl, K.trans (Fk.fld (by decide)), up_at, by rw [up_nj (by decide)]; exact q6, by rw [u220, es]; exact u8, fun hp => ?_⟩
    rw [u220, es] at hp
    obtain ⟨y1, y2, y3⟩ := qs hp
    rw [u220, esd]
    refine ⟨y1.cong (fun _ _ => rfl) (fun i hi => up_ne (by omega)), y2.cong (by rw [u220, e220]) (fun i hi => up_ne (by omega)), fun n t q1 q2 => ?_⟩
    rw [u220] at q1 ⊢
    rw [up_ne (by omega), y3 n t (by rw [e220]; exact q1) q2, e220]
    unfold srv; rw [cuT_no, cuT_no]
  · rcases C with C | ⟨C1, C2⟩
    · exact absurd C z
    · refine S_X6_roundsAsTold_19 _ _ _ _ ?_; simp (disch := omega) only [B_X6_roundsAsTold_19, bi_0, x_ic, x_lc, x_ld, x_st, x_sl, x_inc, x_b32, x_b64, x_d32, x_d64, x_s64, x_un, x_lcmp, x_dup, x_pop, x_dup2, x_if, x_cmp, x_sw, swk, x_ald, x_ast, x_alen, x_getf, x_putf, x_inv, x_mm, x_copy, x_iret, x_lret, x_vret, ok1, pu, ct, rcv, rcs, ent0, List.getElem?_cons_zero, List.getElem?_cons_succ, List.getElem?_nil, List.set_cons_zero, List.set_cons_succ, List.take_succ_cons, List.take_zero, List.drop_succ_cons, List.drop_zero, List.reverse_cons, List.reverse_nil, List.nil_append, List.cons_append, List.length_cons, List.length_nil, true_and, and_true, and_self, ne_eq, not_true_eq_false, not_false_eq_true, reduceIte, true_or, or_true, false_or, or_false, Nat.reduceAdd, Nat.reduceSub, Nat.reduceMul, Nat.reduceLeDiff, Nat.reduceEqDiff, Nat.reduceLT, Nat.le_refl, Nat.zero_le, Int.reduceToNat, Int.reduceAdd, Int.reduceSub, Int.reduceMul, Int.reduceNeg, Int.reduceLT, Int.reduceLE, Int.reduceEq, Nat.zero_add, Nat.add_zero, Nat.reduceBEq, Nat.one_ne_zero, Nat.zero_ne_one, Nat.lt_irrefl, Nat.succ_ne_zero, w32_id, ixc, ixc2, Int.toNat_natCast, ob_175]
      exact hQ _ _ _ ⟨C2.2.1, rfl, Fk.rfl, C1, C2⟩
theorem c_totalOf (L : Lay h) (hnb : nb = 4 ∨ nb = 34) (hs : h 175 6 = (nb : Int) + 1) (R : RN h nb) (W : WN (h 220)) {D : Nat → Int} (hD : DB D) (Dl : DlR h D) {f : Nat} (hf : (f : Int) < h 220 2) : Cl l (d + 1) M_X6_totalOf [(2, 176), (0, (f : Int))] SHP h (Rt (ah D f (hp (h 220) f).toNat) SHP h) := by
  have nf := W.nf
  have hh := W.hpB f hf
  have s1 := (net_sh hnb).1
  obtain ⟨x1, x2, x3⟩ := R.2.2.2 f hf
  have sl := (stg_l L).1
  have hf4 : f < 4 := by omega
  show V l (d + 1) 0 0 M_X6_totalOf 0 0 0 _ [(2, 176), (0, (f : Int)), (9, 0), (9, 0)] [] SHP h
  refine S_X6_totalOf_0 _ _ _ _ ?_; simp (disch := omega) only [B_X6_totalOf_0, bi_0, x_ic, x_lc, x_ld, x_st, x_sl, x_inc, x_b32, x_b64, x_d32, x_d64, x_s64, x_un, x_lcmp, x_dup, x_pop, x_dup2, x_if, x_cmp, x_sw, swk, x_ald, x_ast, x_alen, x_getf, x_putf, x_inv, x_mm, x_copy, x_iret, x_lret, x_vret, ok1, pu, ct, rcv, rcs, ent0, List.getElem?_cons_zero, List.getElem?_cons_succ, List.getElem?_nil, List.set_cons_zero, List.set_cons_succ, List.take_succ_cons, List.take_zero, List.drop_succ_cons, List.drop_zero, List.reverse_cons, List.reverse_nil, List.nil_append, List.cons_append, List.length_cons, List.length_nil, true_and, and_true, and_self, ne_eq, not_true_eq_false, not_false_eq_true, reduceIte, true_or, or_true, false_or, or_false, Nat.reduceAdd, Nat.reduceSub, Nat.reduceMul, Nat.reduceLeDiff, Nat.reduceEqDiff, Nat.reduceLT, Nat.le_refl, Nat.zero_le, Int.reduceToNat, Int.reduceAdd, Int.reduceSub, Int.reduceMul, Int.reduceNeg, Int.reduceLT, Int.reduceLE, Int.reduceEq, Nat.zero_add, Nat.add_zero, Nat.reduceBEq, Nat.one_ne_zero, Nat.zero_ne_one, Nat.lt_irrefl, Nat.succ_ne_zero, w32_id, ixc, ixc2, Int.toNat_natCast]
  refine V_it (pc := 4) (fun k => [(2, 176), (0, (f : Int)), (0, ah D f k), (0, (k : Int))]) (fun _ => h) (hp (h 220) f).toNat (fun k hk ih => ?_) ?_
  · have ab := ah_b hD hf4 (show k ≤ 4 by omega)
    have db := hD (4 * f + k) (by omega)
    have dd := Dl f k hf4 (by omega)
    refine S_X6_totalOf_4 _ _ _ _ ?_; simp (disch := omega) only [B_X6_totalOf_4, bi_0, x_ic, x_lc, x_ld, x_st, x_sl, x_inc, x_b32, x_b64, x_d32, x_d64, x_s64, x_un, x_lcmp, x_dup, x_pop, x_dup2, x_if, x_cmp, x_sw, swk, x_ald, x_ast, x_alen, x_getf, x_putf, x_inv, x_mm, x_copy, x_iret, x_lret, x_vret, ok1, pu, ct, rcv, rcs, ent0, List.getElem?_cons_zero, List.getElem?_cons_succ, List.getElem?_nil, List.set_cons_zero, List.set_cons_succ, List.take_succ_cons, List.take_zero, List.drop_succ_cons, List.drop_zero, List.reverse_cons, List.reverse_nil, List.nil_append, List.cons_append, List.length_cons, List.length_nil, true_and, and_true, and_self, ne_eq, not_true_eq_false, not_false_eq_true, reduceIte, true_or, or_true, false_or, or_false, Nat.reduceAdd, Nat.reduceSub, Nat.reduceMul, Nat.reduceLeDiff, Nat.reduceEqDiff, Nat.reduceLT, Nat.le_refl, Nat.zero_le, Int.reduceToNat, Int.reduceAdd, Int.reduceSub, Int.reduceMul, Int.reduceNeg, Int.reduceLT, Int.reduceLE, Int.reduceEq, Nat.zero_add, Nat.add_zero, Nat.reduceBEq, Nat.one_ne_zero, Nat.zero_ne_one, Nat.lt_irrefl, Nat.succ_ne_zero, w32_id, ixc, ixc2, Int.toNat_natCast, ob_175, hs, s1, nf7 L hnb, nln8 hnb, x2, sl, ln_176, (stg_d L hf4).1, (stg_d L hf4).2, dd]
    (repeat' (first | assumption | (with_reducible refine And.intro ?_ ?_) | (refine im (fun hq => ?_); (try (exfalso; omega; done))) | omega))
  · refine S_X6_totalOf_4 _ _ _ _ ?_; simp (disch := omega) only [B_X6_totalOf_4, bi_0, x_ic, x_lc, x_ld, x_st, x_sl, x_inc, x_b32, x_b64, x_d32, x_d64, x_s64, x_un, x_lcmp, x_dup, x_pop, x_dup2, x_if, x_cmp, x_sw, swk, x_ald, x_ast, x_alen, x_getf, x_putf, x_inv, x_mm, x_copy, x_iret, x_lret, x_vret, ok1, pu, ct, rcv, rcs, ent0, List.getElem?_cons_zero, List.getElem?_cons_succ, List.getElem?_nil, List.set_cons_zero, List.set_cons_succ, List.take_succ_cons, List.take_zero, List.drop_succ_cons, List.drop_zero, List.reverse_cons, List.reverse_nil, List.nil_append, List.cons_append, List.length_cons, List.length_nil, true_and, and_true, and_self, ne_eq, not_true_eq_false, not_false_eq_true, reduceIte, true_or, or_true, false_or, or_false, Nat.reduceAdd, Nat.reduceSub, Nat.reduceMul, Nat.reduceLeDiff, Nat.reduceEqDiff, Nat.reduceLT, Nat.le_refl, Nat.zero_le, Int.reduceToNat, Int.reduceAdd, Int.reduceSub, Int.reduceMul, Int.reduceNeg, Int.reduceLT, Int.reduceLE, Int.reduceEq, Nat.zero_add, Nat.add_zero, Nat.reduceBEq, Nat.one_ne_zero, Nat.zero_ne_one, Nat.lt_irrefl, Nat.succ_ne_zero, w32_id, ixc, ixc2, Int.toNat_natCast, ob_175, hs, s1, nf7 L hnb, nln8 hnb, x2]
    (repeat' (first | assumption | (with_reducible refine And.intro ?_ ?_) | (refine im (fun hq => ?_); (try (exfalso; omega; done))) | omega))
    refine S_X6_totalOf_34 _ _ _ _ ?_; simp (disch := omega) only [B_X6_totalOf_34, bi_0, x_ic, x_lc, x_ld, x_st, x_sl, x_inc, x_b32, x_b64, x_d32, x_d64, x_s64, x_un, x_lcmp, x_dup, x_pop, x_dup2, x_if, x_cmp, x_sw, swk, x_ald, x_ast, x_alen, x_getf, x_putf, x_inv, x_mm, x_copy, x_iret, x_lret, x_vret, ok1, pu, ct, rcv, rcs, ent0, List.getElem?_cons_zero, List.getElem?_cons_succ, List.getElem?_nil, List.set_cons_zero, List.set_cons_succ, List.take_succ_cons, List.take_zero, List.drop_succ_cons, List.drop_zero, List.reverse_cons, List.reverse_nil, List.nil_append, List.cons_append, List.length_cons, List.length_nil, true_and, and_true, and_self, ne_eq, not_true_eq_false, not_false_eq_true, reduceIte, true_or, or_true, false_or, or_false, Nat.reduceAdd, Nat.reduceSub, Nat.reduceMul, Nat.reduceLeDiff, Nat.reduceEqDiff, Nat.reduceLT, Nat.le_refl, Nat.zero_le, Int.reduceToNat, Int.reduceAdd, Int.reduceSub, Int.reduceMul, Int.reduceNeg, Int.reduceLT, Int.reduceLE, Int.reduceEq, Nat.zero_add, Nat.add_zero, Nat.reduceBEq, Nat.one_ne_zero, Nat.zero_ne_one, Nat.lt_irrefl, Nat.succ_ne_zero, w32_id, ixc, ixc2, Int.toNat_natCast]
    exact Rt_mk rfl
theorem c_arrivingAt (L : Lay h) {f n t : Nat} (hf : f < 4) (hn : n < 4) (ht : t ≤ 120) : Cl l (d + 1) M_X6_arrivingAt [(2, 176), (0, (f : Int)), (0, (n : Int)), (0, (t : Int))] SHP h (Rt (h (187 + (4 * n + f)) t) SHP h) := by
  have sl := (stg_l L).2.2.1
  have ix : ((n : Int) * 4 + (f : Int)).toNat = 4 * n + f := by omega
  have hi : 4 * n + f < 16 := by omega
  show V l (d + 1) 0 0 M_X6_arrivingAt 0 0 0 _ [(2, 176), (0, (f : Int)), (0, (n : Int)), (0, (t : Int))] [] SHP h
  refine S_X6_arrivingAt_0 _ _ _ _ ?_; simp (disch := omega) only [B_X6_arrivingAt_0, bi_0, x_ic, x_lc, x_ld, x_st, x_sl, x_inc, x_b32, x_b64, x_d32, x_d64, x_s64, x_un, x_lcmp, x_dup, x_pop, x_dup2, x_if, x_cmp, x_sw, swk, x_ald, x_ast, x_alen, x_getf, x_putf, x_inv, x_mm, x_copy, x_iret, x_lret, x_vret, ok1, pu, ct, rcv, rcs, ent0, List.getElem?_cons_zero, List.getElem?_cons_succ, List.getElem?_nil, List.set_cons_zero, List.set_cons_succ, List.take_succ_cons, List.take_zero, List.drop_succ_cons, List.drop_zero, List.reverse_cons, List.reverse_nil, List.nil_append, List.cons_append, List.length_cons, List.length_nil, true_and, and_true, and_self, ne_eq, not_true_eq_false, not_false_eq_true, reduceIte, true_or, or_true, false_or, or_false, Nat.reduceAdd, Nat.reduceSub, Nat.reduceMul, Nat.reduceLeDiff, Nat.reduceEqDiff, Nat.reduceLT, Nat.le_refl, Nat.zero_le, Int.reduceToNat, Int.reduceAdd, Int.reduceSub, Int.reduceMul, Int.reduceNeg, Int.reduceLT, Int.reduceLE, Int.reduceEq, Nat.zero_add, Nat.add_zero, Nat.reduceBEq, Nat.one_ne_zero, Nat.zero_ne_one, Nat.lt_irrefl, Nat.succ_ne_zero, w32_id, ixc, ixc2, Int.toNat_natCast, ob_175, sl, ln_186, ix, (stg_a L hi).1, (stg_a L hi).2]
  (repeat' (first | assumption | (with_reducible refine And.intro ?_ ?_) | (refine im (fun hq => ?_); (try (exfalso; omega; done))) | omega))
  exact Rt_mk rfl
end CT

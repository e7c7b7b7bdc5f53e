/-! a net told: what is always so -/
def WQc (row : Nat → Int) (c : Nat) : Prop := (1 ≤ row (4 + 11 * c) ∧ row (4 + 11 * c) ≤ 8) ∧ (1 ≤ row (5 + 11 * c) ∧ row (5 + 11 * c) ≤ row (4 + 11 * c)) ∧ (0 ≤ row (6 + 11 * c) ∧ row (6 + 11 * c) ≤ 99) ∧ (∀ j : Nat, (j : Int) < row (4 + 11 * c) → 0 ≤ row (7 + 11 * c + j) ∧ row (7 + 11 * c + j) ≤ 99) ∧ (∀ j : Nat, (j : Int) + 1 < row (4 + 11 * c) → row (7 + 11 * c + j) ≤ row (7 + 11 * c + (j + 1))) ∧ row (7 + 11 * c + ((row (4 + 11 * c)).toNat - 1)) - row (7 + 11 * c + ((row (4 + 11 * c)).toNat - (row (5 + 11 * c)).toNat)) ≤ row (6 + 11 * c)
def WQf (row : Nat → Int) (f : Nat) : Prop := (0 ≤ sby row f ∧ sby row f < row 0) ∧ (1 ≤ hp row f ∧ hp row f ≤ 4) ∧ (∀ k : Nat, (k : Int) < hp row f → 0 ≤ nd row f k ∧ nd row f k < row 1) ∧ ∀ j k : Nat, (j : Int) < hp row f → (k : Int) < hp row f → nd row f j = nd row f k → j = k
def WQ (row : Nat → Int) : Prop := W0 row ∧ (∀ c : Nat, (c : Int) < row 0 → WQc row c) ∧ (∀ q : Nat, (q : Int) < row 1 → (0 ≤ kd row q ∧ kd row q ≤ 3) ∧ (0 ≤ cu row q ∧ cu row q < row 0)) ∧ ∀ f : Nat, (f : Int) < row 2 → WQf row f
theorem WQc_cg {row row' : Nat → Int} {c : Nat} (H : ∀ j, 4 + 11 * c ≤ j → j < 15 + 11 * c → row' j = row j) (W : WQc row c) : WQc row' c := by
  obtain ⟨a1, a2, a3, a4, a5, a6⟩ := W
  have e4 := H (4 + 11 * c) (by omega) (by omega)
  have e5 := H (5 + 11 * c) (by omega) (by omega)
  have e6 := H (6 + 11 * c) (by omega) (by omega)
  unfold WQc
  rw [e4, e5, e6, H (7 + 11 * c + ((row (4 + 11 * c)).toNat - 1)) (by omega) (by omega), H (7 + 11 * c + ((row (4 + 11 * c)).toNat - (row (5 + 11 * c)).toNat)) (by omega) (by omega)]
  refine ⟨a1, a2, a3, fun j hj => ?_, fun j hj => ?_, a6⟩
  · rw [H _ (by omega) (by omega)]; exact a4 j hj
  · rw [H _ (by omega) (by omega), H _ (by omega) (by omega)]; exact a5 j hj
theorem WQf_cg {row row' : Nat → Int} {f : Nat} (h0 : row 0 ≤ row' 0) (h1 : row 1 ≤ row' 1) (H : ∀ j, 78 + 6 * f ≤ j → j < 84 + 6 * f → row' j = row j) (W : WQf row f) : WQf row' f := by
  obtain ⟨a1, a2, a3, a4⟩ := W
  have e1 : sby row' f = sby row f := H _ (by omega) (by omega)
  have e2 : hp row' f = hp row f := H _ (by omega) (by omega)
  have e3 : ∀ k : Nat, (k : Int) < hp row f → nd row' f k = nd row f k := fun k hk => H _ (by omega) (by omega)
  unfold WQf
  rw [e1, e2]
  refine ⟨⟨a1.1, by omega⟩, a2, fun k hk => ?_, fun j k hj hk => ?_⟩
  · rw [e3 k hk]; have := a3 k hk; omega
  · rw [e3 j hj, e3 k hk]; exact a4 j k hj hk
section PNW
variable {s : Nat → Int} {n i : Nat} {row nm : Nat → Int}
theorem cvU_z (e : cvU s n row nm i = 0) : (row 0 ≠ 6 ∧ isNm s n (i + 1) ∧ ¬ knP row nm (tkVa s n (i + 1))) ∧ (0 < cvM s n i ∧ cvM s n i ≤ 8) ∧ (∀ j, j < cvM s n i → nuU s n (i + 3 + j) (lwV s n (i + 3) j) 99 = 0) ∧ nuU s n (i + 4 + cvM s n i) 1 (cvM s n i) = 0 ∧ nuU s n (i + 6 + cvM s n i) (tkVa s n (i + 2 + cvM s n i) - tkVa s n (i + 3 + cvM s n i - (tkVa s n (i + 4 + cvM s n i)).toNat)) 99 = 0 := by
  have e0 := e
  unfold cvU at e
  obtain ⟨e, z7⟩ := orF_z.mp e
  obtain ⟨e, _⟩ := orF_z.mp e
  obtain ⟨e, z5⟩ := orF_z.mp e
  obtain ⟨e, _⟩ := orF_z.mp e
  obtain ⟨e, z3⟩ := orF_z.mp e
  have := vlF_ok (s := s) (n := n) (i := i + 3) 9 0 rfl (by decide) z3
  exact ⟨nmU_z (cvU_n e0), this.1, fun j hj => this.2 j (Nat.zero_le _) hj, z5, z7⟩
theorem cvRow_at {c : Nat} (hc : c = (row 0).toNat) (hM : cvM s n i ≤ 8) : cvRow s n row i (4 + 11 * c) = cvM s n i ∧ cvRow s n row i (5 + 11 * c) = tkVa s n (i + 4 + cvM s n i) ∧ cvRow s n row i (6 + 11 * c) = tkVa s n (i + 6 + cvM s n i) ∧ ∀ j, j < cvM s n i → cvRow s n row i (7 + 11 * c + j) = tkVa s n (i + 3 + j) := by
  unfold cvRow
  rw [← hc]
  refine ⟨?_, ?_, ?_, fun j hj => ?_⟩
  · rw [ru_ne (by omega), ru_ne (by omega), ru_ne (by omega), ru_at]
  · rw [ru_ne (by omega), ru_ne (by omega), ru_at]
  · rw [ru_ne (by omega), ru_at]
  · rw [ru_ne (by omega), ru_ne (by omega), ru_ne (by omega), ru_ne (by omega)]
    unfold vlRow
    rw [if_pos (by omega), show i + 3 + (7 + 11 * c + j - (7 + 11 * c)) = i + 3 + j by omega]
theorem cvRow_ne {q : Nat} (h0 : q ≠ 0) (h : q < 4 + 11 * (row 0).toNat ∨ 15 + 11 * (row 0).toNat ≤ q) (hm : cvM s n i ≤ 8) : cvRow s n row i q = row q := by
  unfold cvRow
  rw [ru_ne h0, ru_ne (by omega), ru_ne (by omega), ru_ne (by omega)]
  unfold vlRow
  rw [if_neg (by omega)]
theorem WQ_cv (W : WQ row) (e : cvU s n row nm i = 0) : WQ (cvRow s n row i) := by
  obtain ⟨⟨⟨w1, w2⟩, w34, w56⟩, wc, wn, wf⟩ := W
  obtain ⟨z1, z2, z3, z4, z5⟩ := cvU_z e
  obtain ⟨M, hM⟩ : ∃ M, M = cvM s n i := ⟨_, rfl⟩
  obtain ⟨c, hc⟩ : ∃ c : Nat, c = (row 0).toNat := ⟨_, rfl⟩
  obtain ⟨r1, r2, r3, r4⟩ := cvRow_at (s := s) (n := n) (i := i) hc z2.2
  rw [← hM] at z2 z3 z4 z5 r1 r2 r3 r4
  have ne : ∀ q, q ≠ 0 → q < 4 + 11 * c ∨ 15 + 11 * c ≤ q → cvRow s n row i q = row q := fun q a b => cvRow_ne a (by omega) (by omega)
  have c6 : c ≤ 5 := by omega
  have e0 : cvRow s n row i 0 = row 0 + 1 := cvRow_0
  refine ⟨⟨by omega, by rw [ne 1 (by decide) (by omega)]; exact w34, by rw [ne 2 (by decide) (by omega)]; exact w56⟩, fun c' hc' => ?_, fun q hq => ?_, fun f hf => ?_⟩
  · by_cases x : c' = c
    · rw [x]
      have v4 := nuU_z z4
      have v5 := nuU_z z5
      have vn4 := tkVa_n v4.1
      have vn5 := tkVa_n v5.1
      have vj : ∀ j, j < M → 0 ≤ tkVa s n (i + 3 + j) ∧ tkVa s n (i + 3 + j) ≤ 99 := fun j hj => by
        have a := nuU_z (z3 j hj)
        have b := tkVa_n a.1
        omega
      unfold WQc
      rw [r1, r2, r3]
      refine ⟨by omega, by omega, by omega, fun j hj => ?_, fun j hj => ?_, ?_⟩
      · rw [r4 j (by omega)]; exact vj j (by omega)
      · rw [r4 j (by omega), r4 (j + 1) (by omega)]
        have a := (nuU_z (z3 (j + 1) (by omega))).2.1
        unfold lwV at a
        rw [if_neg (by omega), show i + 3 + (j + 1) - 1 = i + 3 + j by omega] at a
        exact a
      · rw [r4 _ (by omega), r4 _ (by omega), Int.toNat_natCast, show i + 3 + (M - 1) = i + 2 + M by omega, show i + 3 + (M - (tkVa s n (i + 4 + M)).toNat) = i + 3 + M - (tkVa s n (i + 4 + M)).toNat by omega]
        exact v5.2.1
    · exact WQc_cg (fun j a b => ne j (by omega) (by omega)) (wc c' (by omega))
  · rw [ne 1 (by decide) (by omega)] at hq
    have ek : kd (cvRow s n row i) q = kd row q := ne _ (by omega) (by omega)
    have ec : cu (cvRow s n row i) q = cu row q := ne _ (by omega) (by omega)
    rw [ek, ec, e0]
    have := wn q hq
    omega
  · rw [ne 2 (by decide) (by omega)] at hf
    exact WQf_cg (by omega) (by rw [ne 1 (by decide) (by omega)]; exact Int.le_refl _) (fun j a b => ne j (by omega) (by omega)) (wf f hf)
theorem ndU_z (e : ndU s n row nm i = 0) : (row 1 ≠ 4 ∧ isNm s n (i + 1) ∧ ¬ knP row nm (tkVa s n (i + 1))) ∧ (0 ≤ whF s n (i + 2) 12 4 ∧ whF s n (i + 2) 12 4 < 4) ∧ (0 ≤ naF nm (tkVa s n (i + 4)) 0 (row 0).toNat ∧ naF nm (tkVa s n (i + 4)) 0 (row 0).toNat < (row 0).toNat) := by
  have e0 := e
  unfold ndU at e
  obtain ⟨e, z4⟩ := orF_z.mp e
  obtain ⟨e, _⟩ := orF_z.mp e
  obtain ⟨e, z2⟩ := orF_z.mp e
  have b := whF_b (s := s) (n := n) (i := i + 2) (w0 := 12) (k := 4)
  have t := tdU_z z4
  refine ⟨nmU_z (ndU_n e0), ?_, t.2.1, t.2.2.1⟩
  unfold onU at z2
  by_cases x : 0 ≤ whF s n (i + 2) 12 4
  · exact ⟨x, by omega⟩
  · rw [iF_f x] at z2
    have := flt_b (s := s) (n := n) (i := i + 2) (w := 1) (by decide)
    omega
theorem ndRow_at {c : Nat} (hc : c = (row 1).toNat) : kd (ndRow s n row nm i) c = whF s n (i + 2) 12 4 ∧ cu (ndRow s n row nm i) c = naF nm (tkVa s n (i + 4)) 0 (row 0).toNat := by
  unfold kd cu ndRow
  rw [← hc]
  exact ⟨by rw [ru_ne (by omega), ru_ne (by omega), ru_at], by rw [ru_ne (by omega), ru_at]⟩
theorem WQ_nd (W : WQ row) (e : ndU s n row nm i = 0) : WQ (ndRow s n row nm i) := by
  obtain ⟨⟨w12, ⟨w3, w4⟩, w56⟩, wc, wn, wf⟩ := W
  obtain ⟨z1, z2, z3⟩ := ndU_z e
  obtain ⟨c, hc⟩ : ∃ c : Nat, c = (row 1).toNat := ⟨_, rfl⟩
  obtain ⟨r1, r2⟩ := ndRow_at (s := s) (n := n) (i := i) (nm := nm) hc
  have ne : ∀ q, q ≠ 1 → q < 70 + 2 * c ∨ 72 + 2 * c ≤ q → ndRow s n row nm i q = row q := fun q a b => ndRow_lo a (by omega)
  have e1 : ndRow s n row nm i 1 = row 1 + 1 := ndRow_1
  have e0 := ne 0 (by decide) (by omega)
  refine ⟨⟨by rw [e0]; exact w12, by omega, by rw [ne 2 (by decide) (by omega)]; exact w56⟩, fun c' hc' => ?_, fun q hq => ?_, fun f hf => ?_⟩
  · rw [e0] at hc'
    exact WQc_cg (fun j a b => ne j (by omega) (by omega)) (wc c' hc')
  · by_cases x : q = c
    · rw [x, r1, r2, e0]; omega
    · have ek : kd (ndRow s n row nm i) q = kd row q := ne _ (by omega) (by omega)
      have ec : cu (ndRow s n row nm i) q = cu row q := ne _ (by omega) (by omega)
      rw [ek, ec, e0]
      exact wn q (by omega)
  · rw [ne 2 (by decide) (by omega)] at hf
    exact WQf_cg (by rw [e0]; exact Int.le_refl _) (by omega) (fun j a b => ne j (by omega) (by omega)) (wf f hf)
theorem flU_z (W : W0 row) (e : flU s n row nm i = 0) : (row 2 ≠ 4 ∧ isNm s n (i + 1) ∧ ¬ knP row nm (tkVa s n (i + 1))) ∧ (0 ≤ naF nm (tkVa s n (i + 3)) 0 (row 0).toNat ∧ naF nm (tkVa s n (i + 3)) 0 (row 0).toNat < (row 0).toNat) ∧ (0 < flM s n row nm i ∧ flM s n row nm i ≤ 4) ∧ wyO s n nm (row 1).toNat (i + 5) (flM s n row nm i) := by
  have e0 := e
  obtain ⟨_, w3, _⟩ := W
  unfold flU at e
  obtain ⟨e, z5⟩ := orF_z.mp e
  obtain ⟨e, _⟩ := orF_z.mp e
  obtain ⟨e, z3⟩ := orF_z.mp e
  have t := tdU_z z3
  have o := wyF_ok (s := s) (n := n) (i := i + 5) (nm := nm) (kk := (row 1).toNat) (by omega) 5 0 rfl (by decide) (fun j hj => absurd hj (by omega)) z5
  exact ⟨nmU_z (flU_n e0), ⟨t.2.1, t.2.2.1⟩, ⟨o.1, o.2.le (by omega)⟩, o.2⟩
theorem flRow_at {c : Nat} (hc : c = (row 2).toNat) : sby (flRow s n row nm i) c = naF nm (tkVa s n (i + 3)) 0 (row 0).toNat ∧ hp (flRow s n row nm i) c = flM s n row nm i ∧ ∀ k, k < flM s n row nm i → nd (flRow s n row nm i) c k = hpN s n nm (row 1).toNat (i + 5) k := by
  unfold sby hp nd flRow
  rw [← hc]
  refine ⟨by rw [ru_ne (by omega), ru_ne (by omega), ru_at], by rw [ru_ne (by omega), ru_at], fun k hk => ?_⟩
  rw [ru_ne (by omega), ru_ne (by omega), ru_ne (by omega)]
  unfold wyRow
  rw [if_pos (by omega), show 80 + 6 * c + k - (80 + 6 * c) = k by omega]
theorem flRow_ne {q : Nat} (h0 : q ≠ 2) (h : q < 78 + 6 * (row 2).toNat ∨ 84 + 6 * (row 2).toNat ≤ q) (hm : flM s n row nm i ≤ 4) : flRow s n row nm i q = row q := by
  unfold flRow
  rw [ru_ne h0, ru_ne (by omega), ru_ne (by omega)]
  unfold wyRow
  rw [if_neg (by omega)]
theorem WQ_fl (W : WQ row) (e : flU s n row nm i = 0) : WQ (flRow s n row nm i) := by
  obtain ⟨w0, wc, wn, wf⟩ := W
  obtain ⟨z1, z2, z3, z4⟩ := flU_z w0 e
  obtain ⟨w12, w34, w5, w6⟩ := w0
  obtain ⟨c, hc⟩ : ∃ c : Nat, c = (row 2).toNat := ⟨_, rfl⟩
  obtain ⟨r1, r2, r3⟩ := flRow_at (s := s) (n := n) (i := i) (nm := nm) hc
  have ne : ∀ q, q ≠ 2 → q < 78 + 6 * c ∨ 84 + 6 * c ≤ q → flRow s n row nm i q = row q := fun q a b => flRow_ne a (by omega) z3.2
  have e2 : flRow s n row nm i 2 = row 2 + 1 := flRow_2
  have e0 := ne 0 (by decide) (by omega)
  have e1 := ne 1 (by decide) (by omega)
  refine ⟨⟨by rw [e0]; exact w12, by rw [e1]; exact w34, by omega⟩, fun c' hc' => ?_, fun q hq => ?_, fun f hf => ?_⟩
  · rw [e0] at hc'
    exact WQc_cg (fun j a b => ne j (by omega) (by omega)) (wc c' hc')
  · rw [e1] at hq
    have ek : kd (flRow s n row nm i) q = kd row q := ne _ (by omega) (by omega)
    have ec : cu (flRow s n row nm i) q = cu row q := ne _ (by omega) (by omega)
    rw [ek, ec, e0]
    exact wn q hq
  · by_cases x : f = c
    · rw [x]
      unfold WQf
      rw [r1, r2, e0, e1]
      refine ⟨by omega, by omega, fun k hk => ?_, fun j k hj hk hjk => ?_⟩
      · rw [r3 k (by omega)]
        have := z4.b (j := k) (by omega)
        omega
      · rw [r3 j (by omega), r3 k (by omega)] at hjk
        rcases Nat.lt_trichotomy j k with a | a | a
        · exact absurd hjk (z4.ds a (by omega))
        · exact a
        · exact absurd hjk.symm (z4.ds a (by omega))
    · exact WQf_cg (by rw [e0]; exact Int.le_refl _) (by rw [e1]; exact Int.le_refl _) (fun j a b => ne j (by omega) (by omega)) (wf f (by omega))
theorem WQ_ln {X : NX} (W : WQ X.1) (e : (lnX s n X i).1 = 0) : WQ (lnX s n X i).2.2.1 := by
  unfold lnX at e ⊢
  by_cases a : isWd s n i 0
  · rw [iF_t a] at e ⊢
    exact WQ_cv W e
  rw [iF_f a] at e ⊢
  by_cases a : isWd s n i 4
  · rw [iF_t a] at e ⊢
    exact WQ_nd W e
  rw [iF_f a] at e ⊢
  by_cases a : isWd s n i 6
  · rw [iF_t a] at e ⊢
    exact WQ_fl W e
  rw [iF_f a] at e ⊢
  by_cases a : isWd s n i 9
  · rw [iF_t a] at e ⊢
    unfold lwX at e ⊢
    by_cases b : 0 ≤ X.1 3
    · rw [iF_t b] at e
      have b3 := flt_b (s := s) (n := n) (i := i) (w := 3) (by decide)
      dsimp only at e
      omega
    · rw [iF_f b]
      dsimp only
      obtain ⟨w0, wc, wn, wf⟩ := W
      have ne : ∀ q, q ≠ 3 → ru X.1 3 0 q = X.1 q := fun q a => ru_ne a
      refine ⟨?_, fun c hc => ?_, fun q hq => ?_, fun f hf => ?_⟩
      · unfold W0; rw [ne 0 (by decide), ne 1 (by decide), ne 2 (by decide)]; exact w0
      · rw [ne 0 (by decide)] at hc
        exact WQc_cg (fun j a b => ne j (by omega)) (wc c hc)
      · rw [ne 1 (by decide)] at hq
        have ek : kd (ru X.1 3 0) q = kd X.1 q := ne _ (by omega)
        have ec : cu (ru X.1 3 0) q = cu X.1 q := ne _ (by omega)
        rw [ek, ec, ne 0 (by decide)]
        exact wn q hq
      · rw [ne 2 (by decide)] at hf
        exact WQf_cg (by rw [ne 0 (by decide)]; exact Int.le_refl _) (by rw [ne 1 (by decide)]; exact Int.le_refl _) (fun j a b => ne j (by omega)) (wf f hf)
  · rw [iF_f a] at e
    have b1 := flt_b (s := s) (n := n) (i := i) (w := 1) (by decide)
    dsimp only at e
    omega
theorem hopTo_cg {row' : Nat → Int} {f : Nat} {v : Int} : ∀ {k : Nat}, (∀ j, j < k → nd row' f j = nd row f j) → hopTo row' f v k = hopTo row f v k
  | 0, _ => rfl
  | k + 1, H => by
    unfold hopTo
    rw [H k (by omega), hopTo_cg (k := k) (fun j hj => H j (by omega))]
theorem hop_cg {row' : Nat → Int} {f : Nat} {v : Int} (h4 : hp row f ≤ 4) (H : ∀ j, 78 + 6 * f ≤ j → j < 84 + 6 * f → row' j = row j) : hop row' f v = hop row f v := by
  unfold hop
  have e : hp row' f = hp row f := H _ (by omega) (by omega)
  rw [e]
  exact hopTo_cg (fun j hj => H _ (by omega) (by omega))
theorem ovr_cg {row' : Nat → Int} (W : WQ row) (h2 : row' 2 = row 2) (H : ∀ j, 78 ≤ j → j < 102 → row' j = row j) (q : Nat) : ovr row' q = ovr row q := by
  funext f
  unfold ovr
  rw [h2]
  by_cases e : (f : Int) < row 2
  · have w := W.2.2.2 f e
    have := W.1.2.2
    rw [hop_cg w.2.1.2 (fun j a b => H j (by omega) (by omega))]
  · rw [decide_eq_false e, Bool.false_and, Bool.false_and]
end PNW

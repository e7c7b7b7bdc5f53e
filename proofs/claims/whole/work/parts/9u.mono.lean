/-! a curve told never falls -/
theorem dv_eq {x A q : Int} (hA : 0 < A) (h1 : q * A ≤ x) (h2 : x < q * A + A) : x / A = q := by
  have a := Int.le_ediv_of_mul_le hA h1
  have b := Int.ediv_lt_of_lt_mul hA (show x < (q + 1) * A by rw [Int.add_mul, Int.one_mul]; exact h2)
  omega
theorem WQ.mono {row : Nat → Int} (W : WQ row) : Mono row := by
  intro c t c0 c1 t0 _
  obtain ⟨k, rfl⟩ : ∃ k : Nat, c = (k : Int) := ⟨c.toNat, by omega⟩
  obtain ⟨x1, x2, x3, x4, x5, x6⟩ := W.2.1 k c1
  unfold vOf
  rw [show (4 + 11 * (k : Int)).toNat = 4 + 11 * k by omega, show (4 + 11 * (k : Int) + 1).toNat = 5 + 11 * k by omega, show (4 + 11 * (k : Int) + 2).toNat = 6 + 11 * k by omega]
  obtain ⟨Ln, hL⟩ : ∃ L, L = row (4 + 11 * k) := ⟨_, rfl⟩
  obtain ⟨A, hA⟩ : ∃ A, A = row (5 + 11 * k) := ⟨_, rfl⟩
  obtain ⟨D, hD⟩ : ∃ D, D = row (6 + 11 * k) := ⟨_, rfl⟩
  rw [← hL] at x1 x2 x4 x5 x6 ⊢
  rw [← hA] at x2 x6 ⊢
  rw [← hD] at x3 x6 ⊢
  -- a value by its place
  obtain ⟨v, hv⟩ : ∃ v : Int → Int, v = fun j => row (7 + 11 * k + j.toNat) := ⟨_, rfl⟩
  have ev : ∀ j : Int, 0 ≤ j → row (4 + 11 * (k : Int) + 3 + j).toNat = v j := fun j hj => by rw [hv, show (4 + 11 * (k : Int) + 3 + j).toNat = 7 + 11 * k + j.toNat by omega]
  have mono : ∀ j : Int, 0 ≤ j → j + 1 < Ln → v j ≤ v (j + 1) := fun j h0 h1 => by
    have := x5 j.toNat (by omega)
    rw [hv]
    dsimp only
    rw [show (j + 1).toNat = j.toNat + 1 by omega]
    exact this
  have wrap : v (Ln - 1) ≤ v (Ln - A) + D := by
    rw [hv]
    dsimp only
    rw [show (Ln - 1).toNat = Ln.toNat - 1 by omega, show (Ln - A).toNat = Ln.toNat - A.toNat by omega]
    omega
  by_cases h1 : t + 1 < Ln
  · rw [if_pos (by omega), if_pos h1, ev t t0, ev (t + 1) (by omega)]
    exact mono t t0 h1
  · rw [if_neg h1]
    by_cases h2 : t < Ln
    · rw [if_pos h2, ev t t0]
      have : (t + 1 - Ln) / A = 0 := dv_eq (by omega) (by omega) (by omega)
      rw [this, show 4 + 11 * (k : Int) + 3 + (t + 1) - (0 + 1) * A = 4 + 11 * (k : Int) + 3 + (t + 1 - A) by omega, ev _ (by omega), show t = Ln - 1 by omega, show Ln - 1 + 1 - A = Ln - A by omega]
      omega
    · rw [if_neg h2]
      obtain ⟨q, hq⟩ : ∃ q, q = (t - Ln) / A := ⟨_, rfl⟩
      have p1 : q * A ≤ t - Ln := by rw [hq]; exact Int.ediv_mul_le _ (by omega)
      have p2 : t - Ln < q * A + A := by
        have := Int.lt_ediv_add_one_mul_self (t - Ln) (show 0 < A by omega)
        rw [← hq, Int.add_mul, Int.one_mul] at this
        exact this
      obtain ⟨P, hP⟩ : ∃ P, P = q * A := ⟨_, rfl⟩
      have e1 : (q + 1) * A = P + A := by rw [Int.add_mul, Int.one_mul, hP]
      have e2 : (q + 1 + 1) * A = P + A + A := by rw [Int.add_mul, Int.one_mul, e1]
      have f1 : (q + 1 + 1) * D = (q + 1) * D + D := by rw [Int.add_mul (q + 1), Int.one_mul]
      rw [← hP] at p1 p2
      rw [← hq, e1, show 4 + 11 * (k : Int) + 3 + t - (P + A) = 4 + 11 * (k : Int) + 3 + (t - P - A) by omega, ev _ (by omega)]
      by_cases h3 : t + 1 - Ln < P + A
      · have : (t + 1 - Ln) / A = q := dv_eq (by omega) (by rw [← hP]; omega) (by rw [← hP]; omega)
        rw [this, e1, show 4 + 11 * (k : Int) + 3 + (t + 1) - (P + A) = 4 + 11 * (k : Int) + 3 + (t - P - A + 1) by omega, ev _ (by omega)]
        have := mono (t - P - A) (by omega) (by omega)
        omega
      · have : (t + 1 - Ln) / A = q + 1 := dv_eq (by omega) (by rw [e1]; omega) (by rw [e1]; omega)
        rw [this, e2, show 4 + 11 * (k : Int) + 3 + (t + 1) - (P + A + A) = 4 + 11 * (k : Int) + 3 + (t + 1 - P - A - A) by omega, ev _ (by omega), f1, show t - P - A = Ln - 1 by omega, show t + 1 - P - A - A = Ln - A by omega]
        omega
/-- what two rows have in common, as far as a net goes -/
theorem CNX.rn {h : Mem} {nb : Nat} {X : NX} (C : CNX h nb X) (W : WQ X.1) (e : ∀ j, j < 110 → h 220 j = X.1 j) : RN h nb ∧ WN (h 220) ∧ Mono (h 220) := by
  have W' : WQ (h 220) := by
    obtain ⟨w0, wc, wn, wf⟩ := W
    obtain ⟨a, b, c⟩ := w0
    refine ⟨by unfold W0; rw [e 0 (by decide), e 1 (by decide), e 2 (by decide)]; exact ⟨a, b, c⟩, fun q hq => ?_, fun q hq => ?_, fun f hf => ?_⟩
    · rw [e 0 (by decide)] at hq
      exact WQc_cg (fun j x y => e j (by omega)) (wc q hq)
    · rw [e 1 (by decide)] at hq
      unfold kd cu
      rw [e _ (by omega), e _ (by omega), e 0 (by decide)]
      exact wn q hq
    · rw [e 2 (by decide)] at hf
      exact WQf_cg (by rw [e 0 (by decide)]; exact Int.le_refl _) (by rw [e 1 (by decide)]; exact Int.le_refl _) (fun j x y => e j (by omega)) (wf f hf)
  refine ⟨?_, W'.wn, W'.mono⟩
  obtain ⟨RX, Rc, Rn, Ro, Rf, _⟩ := C
  have w0 := W.1
  obtain ⟨⟨a1, a2⟩, ⟨b1, b2⟩, c1, c2⟩ := w0
  refine ⟨⟨by rw [e 0 (by decide)]; exact RX.1.1, fun c hc => ?_⟩, ⟨by rw [e 1 (by decide)]; exact RX.1.2.1, by rw [e 2 (by decide)]; exact RX.1.2.2⟩, fun q hq => ?_, fun f hf => ?_⟩
  · rw [e 0 (by decide)] at hc
    obtain ⟨r1, r2, r3, r4⟩ := Rc c hc
    have wc := W.2.1 c hc
    rw [show (4 + 11 * (c : Int)).toNat = 4 + 11 * c by omega, show (4 + 11 * (c : Int) + 1).toNat = 5 + 11 * c by omega, show (4 + 11 * (c : Int) + 2).toNat = 6 + 11 * c by omega, e _ (by omega), e _ (by omega), e _ (by omega)]
    refine ⟨r1, r2, r3, fun j j0 j1 => ?_⟩
    have w8 := wc.1.2
    rw [show (4 + 11 * (c : Int) + 3 + j).toNat = 7 + 11 * c + j.toNat by omega, e _ (by omega)]
    rw [show nb + 18 + 2 * c + 1 = nb + 19 + 2 * c by omega]
    exact (r4 j.toNat (by omega)).symm
  · rw [e 1 (by decide)] at hq
    have := Rn q hq
    unfold kd cu at this ⊢
    rw [e _ (by omega), e _ (by omega), ovr_cg W (e 2 (by decide)) (fun j x y => e j (by omega))]
    exact ⟨this.1, this.2, Ro q (by omega)⟩
  · rw [e 2 (by decide)] at hf
    have := Rf f hf
    have wf := (W.2.2.2 f hf).2.1.2
    unfold sby hp nd at this ⊢
    unfold hp at wf
    rw [e _ (by omega), e _ (by omega)]
    exact ⟨this.1, this.2.1, fun k hk => by rw [e _ (by omega)]; exact this.2.2 k hk⟩

/-! a law told: its words are a program; a curve told never falls -/
theorem dpt_cg {P Q : Nat → Wd} : ∀ {n : Nat}, (∀ i, i < n → P i = Q i) → dpt P n = dpt Q n
  | 0, _ => rfl
  | n + 1, h => by
    unfold dpt
    rw [h n (by omega), dpt_cg (n := n) (fun i hi => h i (by omega))]
def PWw (w : Wd) (e : Nat) : Prop := (1 ≤ w.1 ∧ w.1 ≤ 10) ∧ w.2 ≤ 9999 ∧ (w.1 = 2 → w.2 < 4) ∧ (w.1 ≤ 2 → e ≤ 20) ∧ (w.1 = 3 → 1 ≤ e) ∧ (4 ≤ w.1 → 2 ≤ e)
def PWp (L : LwS) (e : Nat) : Prop := (∀ i, i < L.2 → PWw (L.1 i) (dpt L.1 i)) ∧ dpt L.1 L.2 = e
theorem PWp_lad {L : LwS} {e : Nat} (W : PWp L e) {w : Wd} (hw : PWw w e) : PWp (lad L w) (if w.1 ≤ 2 then e + 1 else if w.1 = 3 then e else e - 1) := by
  have cg : ∀ i, i ≤ L.2 → dpt (lad L w).1 i = dpt L.1 i := fun i hi => dpt_cg (fun j hj => if_neg (by omega))
  have at1 : (lad L w).1 L.2 = w := if_pos rfl
  refine ⟨fun i hi => ?_, ?_⟩
  · have hi : i < L.2 + 1 := hi
    rw [cg i (by omega)]
    by_cases x : i = L.2
    · rw [x, at1, W.2]; exact hw
    · rw [show (lad L w).1 i = L.1 i from if_neg x]; exact W.1 i (by omega)
  · show dpt (lad L w).1 (L.2 + 1) = _
    rw [dpt, at1, cg L.2 (Nat.le_refl _), W.2]
def FWq (F : Nat → LwS → Int × Nat × LwS) (B : Nat) : Prop := ∀ i L e, e ≤ B → PWp L e → (F i L).1 = 0 → PWp (F i L).2.2 (e + 1)
section PPW
variable {s : Nat → Int} {n : Nat} {F : Nat → LwS → Int × Nat × LwS} {B : Nat}
theorem op_c {q i c : Nat} (h : opA s n q i = some c) : 4 ≤ c ∧ c ≤ 10 := by
  unfold opA at h
  have two : ∀ (A A' : Prop) (x y : Nat), iF A (some x) (iF A' (some y) none) = some c → c = x ∨ c = y := fun A A' x y h => by
    by_cases a : A
    · rw [iF_t a] at h; exact Or.inl (Option.some.inj h).symm
    · rw [iF_f a] at h
      by_cases b : A'
      · rw [iF_t b] at h; exact Or.inr (Option.some.inj h).symm
      · rw [iF_f b] at h; exact absurd h (by simp)
  split at h
  · have := two _ _ _ _ h; omega
  · split at h
    · have := two _ _ _ _ h; omega
    · split at h
      · have := two _ _ _ _ h; omega
      · by_cases a : isSn s n i 42
        · rw [iF_t a] at h; have := Option.some.inj h; omega
        · rw [iF_f a] at h; exact absurd h (by simp)
theorem FW_exL (W : FWq F (B + 1)) {q : Nat} : ∀ (g i : Nat) (L : LwS) (e : Nat), e ≤ B → PWp L (e + 1) → (exL F (opA s n q) g i L).1 = 0 → PWp (exL F (opA s n q) g i L).2.2 (e + 1)
  | 0, i, L, e, _, h, _ => h
  | g + 1, i, L, e, he, h, h0 => by
    rw [exL] at h0 ⊢
    cases eo : opA s n q i with
    | none => exact h
    | some c =>
      rw [eo] at h0
      dsimp only at h0 ⊢
      by_cases x : (F (i + 1) L).1 = 0
      · rw [iF_t x] at h0 ⊢
        have c1 := op_c eo
        have w2 := W (i + 1) L (e + 1) (by omega) h x
        have w3 := PWp_lad w2 (w := (c, 0)) ⟨by dsimp only; omega, by dsimp only; omega, fun y => by dsimp only at y; omega, fun y => by dsimp only at y; omega, fun y => by dsimp only at y; omega, fun y => by omega⟩
        rw [if_neg (by dsimp only; omega), if_neg (by dsimp only; omega), show e + 1 + 1 - 1 = e + 1 by omega] at w3
        exact FW_exL W g _ _ e he w3 h0
      · rw [iF_f x] at h0
        exact absurd h0 x
theorem FW_prs (W : FWq F (B + 1)) (q : Nat) : FWq (prs s n q F) B := by
  intro i L e he h h0
  unfold prs at h0 ⊢
  by_cases x : (F i L).1 = 0
  · rw [iF_t x] at h0 ⊢
    exact FW_exL W _ _ _ e he (W i L e (by omega) h x) h0
  · rw [iF_f x] at h0
    exact absurd h0 x
theorem FW_whl (W : FWq F (B + 4)) : FWq (whl s n F) B := FW_prs (FW_prs (FW_prs (FW_prs W 3) 2) 1) 0
theorem FW_exP : ∀ k, k ≤ 5 → FWq (exP s n k) (24 - 4 * k)
  | 0, _ => by
    intro i L e he h h0
    rw [exP] at h0
    have b1 := flt_b (s := s) (n := n) (i := i) (w := 1) (by decide)
    have b5 := flt_b (s := s) (n := n) (i := i) (w := 5) (by decide)
    dsimp only at h0
    by_cases x : 0 ≤ whF s n i 19 4 ∨ tkSo s n i = 2 ∨ isSn s n i 40 ∨ isWd s n i 16
    · rw [iF_t x] at h0; omega
    · rw [iF_f x] at h0; omega
  | k + 1, hk => by
    have ih := FW_exP k (by omega)
    have iw : FWq (whl s n (exP s n k)) (20 - 4 * k) := FW_whl (by rw [show 20 - 4 * k + 4 = 24 - 4 * k by omega]; exact ih)
    intro i L e he h h0
    rw [exP] at h0 ⊢
    by_cases a : isWd s n i 16
    · rw [iF_t a] at h0 ⊢
      by_cases x : (exP s n k (i + 1) L).1 = 0
      · rw [iF_t x]
        have w2 := ih (i + 1) L e (by omega) h x
        have w3 := PWp_lad w2 (w := (3, 0)) ⟨by decide, by decide, fun y => absurd y (by decide), fun y => absurd y (by decide), fun _ => by omega, fun y => absurd y (by decide)⟩
        rw [if_neg (by decide), if_pos rfl] at w3
        exact w3
      · rw [iF_f x] at h0; exact absurd h0 x
    rw [iF_f a] at h0 ⊢
    by_cases a : isSn s n i 40
    · rw [iF_t a] at h0 ⊢
      by_cases x : orF (whl s n (exP s n k) (i + 1) L).1 (snU s n (whl s n (exP s n k) (i + 1) L).2.1 41) = 0
      · rw [iF_t x]
        exact iw (i + 1) L e (by omega) h (orF_z.mp x).1
      · rw [iF_f x] at h0; exact absurd h0 x
    rw [iF_f a] at h0 ⊢
    by_cases a : tkSo s n i = 2
    · rw [iF_t a]
      have vb := tkVa_n a
      have w3 := PWp_lad h (w := (1, (tkVa s n i).toNat)) ⟨by dsimp only; omega, by dsimp only; omega, fun y => absurd y (by dsimp only; omega), fun _ => by omega, fun y => absurd y (by dsimp only; omega), fun y => absurd y (by dsimp only; omega)⟩
      rw [if_pos (by dsimp only; omega)] at w3
      exact w3
    rw [iF_f a] at h0 ⊢
    by_cases a : 0 ≤ whF s n i 19 4
    · rw [iF_t a]
      have wb := whF_b (s := s) (n := n) (i := i) (w0 := 19) (k := 4)
      have w3 := PWp_lad h (w := (2, (whF s n i 19 4).toNat)) ⟨by dsimp only; omega, by dsimp only; omega, fun _ => by dsimp only; omega, fun _ => by omega, fun y => absurd y (by dsimp only; omega), fun y => absurd y (by dsimp only; omega)⟩
      rw [if_pos (by dsimp only; omega)] at w3
      exact w3
    · rw [iF_f a] at h0
      have b1 := flt_b (s := s) (n := n) (i := i) (w := 1) (by decide)
      dsimp only at h0
      omega
/-- of all that is told -/
def LWq (X : NX) : Prop := (X.1 3 = -1 ∧ X.2.2.2 = 0) ∨ (X.1 3 = 0 ∧ PWp X.2.2 1)
theorem LWq_ln {X : NX} {i : Nat} (W : LWq X) (W0' : W0 X.1) (e : (lnX s n X i).1 = 0) : LWq (lnX s n X i).2.2 := by
  obtain ⟨⟨w1, w2⟩, ⟨w3, w4⟩, w5, w6⟩ := W0'
  unfold lnX at e ⊢
  by_cases a : isWd s n i 0
  · rw [iF_t a]
    unfold LWq
    dsimp only
    rw [cvRow_l4 (q := 3) (by decide) (by decide)]; exact W
  rw [iF_f a] at e ⊢
  by_cases a : isWd s n i 4
  · rw [iF_t a]
    unfold LWq
    dsimp only
    rw [ndRow_lo (q := 3) (by decide) (by omega)]; exact W
  rw [iF_f a] at e ⊢
  by_cases a : isWd s n i 6
  · rw [iF_t a]
    unfold LWq
    dsimp only
    rw [flRow_lo (q := 3) (by decide) (by omega)]; exact W
  rw [iF_f a] at e ⊢
  by_cases a : isWd s n i 9
  · rw [iF_t a] at e ⊢
    unfold lwX at e ⊢
    by_cases b : 0 ≤ X.1 3
    · rw [iF_t b] at e
      have b3 := flt_b (s := s) (n := n) (i := i) (w := 3) (by decide)
      dsimp only at e
      omega
    · rw [iF_f b] at e ⊢
      rcases W with ⟨x, y⟩ | ⟨x, y⟩
      · refine Or.inr ⟨ru_at (r := X.1) (j := 3) (v := 0), ?_⟩
        have h0 : PWp X.2.2 0 := ⟨fun j hj => absurd hj (by omega), by rw [y]; rfl⟩
        exact FW_whl (B := 0) (FW_exP 5 (by decide)) (i + 1) X.2.2 0 (Nat.le_refl _) h0 e
      · omega
  · rw [iF_f a] at e
    have b1 := flt_b (s := s) (n := n) (i := i) (w := 1) (by decide)
    dsimp only at e
    omega
theorem ntF_w : ∀ (g i : Nat) (X : NX), WQ X.1 → LWq X → (ntF s n g i X).1 = 0 → WQ (ntF s n g i X).2.1 ∧ LWq (ntF s n g i X).2
  | 0, i, X, W, V, _ => ⟨W, V⟩
  | g + 1, i, X, W, V, h0 => by
    rw [ntF] at h0 ⊢
    by_cases a : tkSo s n i = 0
    · rw [iF_t a]; exact ⟨W, V⟩
    rw [iF_f a] at h0 ⊢
    by_cases b : lsF s n X i = 0
    · rw [iF_t b] at h0 ⊢
      have z := (orF_z.mp b).1
      exact ntF_w g _ _ (WQ_ln W z) (LWq_ln V W.1 z) h0
    · rw [iF_f b] at h0; exact absurd h0 b
end PPW
theorem PWp.pw {L : LwS} (W : PWp L 1) : PW L.1 L.2 := W
theorem WQ.wn {row : Nat → Int} (W : WQ row) : WN row := by
  obtain ⟨⟨a, b, c⟩, wc, wn, wf⟩ := W
  refine ⟨⟨a, fun q q0 q1 => ?_⟩, b, c, fun q hq => (wn q hq).1, fun q hq => (wn q hq).2, fun f hf => (wf f hf).1, fun f hf => (wf f hf).2.1, fun f k hf hk => (wf f hf).2.2.1 k hk, fun f j k hf hj hk => (wf f hf).2.2.2 j k hj hk⟩
  obtain ⟨c1, rfl⟩ : ∃ c1 : Nat, q = (c1 : Int) := ⟨q.toNat, by omega⟩
  obtain ⟨x1, x2, x3, x4, x5, x6⟩ := wc c1 q1
  unfold CW
  rw [show (4 + 11 * (c1 : Int)).toNat = 4 + 11 * c1 by omega, show (4 + 11 * (c1 : Int) + 1).toNat = 5 + 11 * c1 by omega, show (4 + 11 * (c1 : Int) + 2).toNat = 6 + 11 * c1 by omega]
  refine ⟨by omega, x1, x2, x3, fun j j0 j1 => ?_⟩
  rw [show (4 + 11 * (c1 : Int) + 3 + j).toNat = 7 + 11 * c1 + j.toNat by omega]
  exact x4 j.toNat (by omega)

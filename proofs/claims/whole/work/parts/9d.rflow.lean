/-! the reference: a flow read -/
section RFL
variable {l : Launch} {d : Nat} {h : Mem} {s : Nat → Int} {n N i : Nat}
theorem tdU_z {nm : Nat → Int} {a m : Nat} {B : Int → Prop} (e : tdU s n nm i a m B = 0) : isNm s n i ∧ 0 ≤ naF nm (tkVa s n i) a m ∧ naF nm (tkVa s n i) a m < m ∧ ¬ B (naF nm (tkVa s n i) a m) := by
  unfold tdU at e
  have b1 := flt_b (s := s) (n := n) (i := i) (w := 1) (by decide)
  have b2 := flt_b (s := s) (n := n) (i := i) (w := 2) (by decide)
  have b3 := flt_b (s := s) (n := n) (i := i) (w := 3) (by decide)
  have bn := naF_b (nm := nm) (v := tkVa s n i) (a := a) (k := m)
  by_cases x : isNm s n i
  · rw [iF_t x] at e
    by_cases y : naF nm (tkVa s n i) a m < 0
    · rw [iF_t y] at e; omega
    · rw [iF_f y] at e
      by_cases z : B (naF nm (tkVa s n i) a m)
      · rw [iF_t z] at e; omega
      · exact ⟨x, by omega, bn.2, z⟩
  · rw [iF_f x] at e; omega
theorem tdU_B {nm : Nat → Int} {a m : Nat} {B B' : Int → Prop} (e : ∀ v, 0 ≤ v → v < (m : Int) → (B v ↔ B' v)) : tdU s n nm i a m B = tdU s n nm i a m B' := by
  unfold tdU
  have bn := naF_b (nm := nm) (v := tkVa s n i) (a := a) (k := m)
  by_cases y : naF nm (tkVa s n i) a m < 0
  · rw [iF_t y, iF_t y]
  · rw [iF_f y, iF_f y, propext (e _ (by omega) bn.2)]
theorem pig4 {g : Nat → Int} {m : Nat} (hb : ∀ j, j < m → 0 ≤ g j ∧ g j < 4) (hd : ∀ j k, j < k → k < m → g j ≠ g k) : m ≤ 4 := by
  by_cases e : m ≤ 4
  · exact e
  have b0 := hb 0 (by omega)
  have b1 := hb 1 (by omega)
  have b2 := hb 2 (by omega)
  have b3 := hb 3 (by omega)
  have b4 := hb 4 (by omega)
  have d01 := hd 0 1 (by decide) (by omega)
  have d02 := hd 0 2 (by decide) (by omega)
  have d03 := hd 0 3 (by decide) (by omega)
  have d04 := hd 0 4 (by decide) (by omega)
  have d12 := hd 1 2 (by decide) (by omega)
  have d13 := hd 1 3 (by decide) (by omega)
  have d14 := hd 1 4 (by decide) (by omega)
  have d23 := hd 2 3 (by decide) (by omega)
  have d24 := hd 2 4 (by decide) (by omega)
  have d34 := hd 3 4 (by decide) (by omega)
  have c0 : g 0 = 0 ∨ g 0 = 1 ∨ g 0 = 2 ∨ g 0 = 3 := by omega
  have c1 : g 1 = 0 ∨ g 1 = 1 ∨ g 1 = 2 ∨ g 1 = 3 := by omega
  have c2 : g 2 = 0 ∨ g 2 = 1 ∨ g 2 = 2 ∨ g 2 = 3 := by omega
  rcases c0 with x | x | x | x <;> rcases c1 with y | y | y | y <;> rcases c2 with z | z | z | z <;> omega
/-- all hops below k are right ones -/
def wyO (s : Nat → Int) (n : Nat) (nm : Nat → Int) (kk i k : Nat) : Prop := ∀ j, j < k → tdU s n nm (i + j) 6 kk (fun v => ∃ q, q < j ∧ hpN s n nm kk i q = v) = 0
theorem wyO.b {nm : Nat → Int} {kk k : Nat} (O : wyO s n nm kk i k) {j : Nat} (hj : j < k) : 0 ≤ hpN s n nm kk i j ∧ hpN s n nm kk i j < kk := by
  obtain ⟨_, a, b, _⟩ := tdU_z (O j hj)
  exact ⟨a, b⟩
theorem wyO.ds {nm : Nat → Int} {kk k : Nat} (O : wyO s n nm kk i k) {j q : Nat} (hq : q < j) (hj : j < k) : hpN s n nm kk i q ≠ hpN s n nm kk i j := by
  obtain ⟨_, _, _, a⟩ := tdU_z (O j hj)
  exact fun x => a ⟨q, hq, x⟩
theorem wyO.le {nm : Nat → Int} {kk k : Nat} (O : wyO s n nm kk i k) (h4 : kk ≤ 4) : k ≤ 4 := pig4 (g := fun j => hpN s n nm kk i j) (fun j hj => by have := O.b hj; omega) (fun j q a b => O.ds a b)
theorem wyF_ok {nm : Nat → Int} {kk : Nat} (h4 : kk ≤ 4) : ∀ (g m : Nat), m + g = 5 → 1 ≤ g → wyO s n nm kk i m → (wyF s n nm kk i g m).1 = 0 → m < (wyF s n nm kk i g m).2 ∧ wyO s n nm kk i (wyF s n nm kk i g m).2
  | 0, m, _, h1, _, _ => absurd h1 (by decide)
  | g + 1, m, hg, _, O, h0 => by
    rw [wyF] at h0 ⊢
    by_cases a : tdU s n nm (i + m) 6 kk (fun v => ∃ j, j < m ∧ hpN s n nm kk i j = v) = 0
    · have O2 : wyO s n nm kk i (m + 1) := fun j hj => by
        by_cases e : j = m
        · rw [e]; exact a
        · exact O j (by omega)
      have := O2.le h4
      rw [iF_t a] at h0 ⊢
      by_cases b : isNm s n (i + m + 1)
      · rw [iF_t b] at h0 ⊢
        obtain ⟨x, y⟩ := wyF_ok h4 g (m + 1) (by omega) (by omega) O2 h0
        exact ⟨by omega, y⟩
      · rw [iF_f b]
        exact ⟨Nat.lt_succ_self m, O2⟩
    · rw [iF_f a] at h0; exact absurd h0 a
/-- the nodes met -/
noncomputable def wyB (s : Nat → Int) (n : Nat) (nm : Nat → Int) (kk i k : Nat) : Nat → Bool := fun q => @decide (∃ j, j < k ∧ hpN s n nm kk i j = (q : Int)) (Classical.propDecidable _)
theorem wyB_t {nm : Nat → Int} {kk k q : Nat} : wyB s n nm kk i k q = true ↔ ∃ j, j < k ∧ hpN s n nm kk i j = (q : Int) := by
  unfold wyB
  exact @decide_eq_true_iff _ (Classical.propDecidable _)
theorem wyB_bit {nm : Nat → Int} {kk k : Nat} {v : Int} (hv : 0 ≤ v ∧ v < 6) : bitP (v6 (wyB s n nm kk i k)) v ↔ ∃ j, j < k ∧ hpN s n nm kk i j = v := by
  obtain ⟨q, rfl⟩ : ∃ q : Nat, v = (q : Int) := ⟨v.toNat, by omega⟩
  unfold bitP
  rw [v6_bit _ (by omega), ← wyB_t]
  by_cases e : wyB s n nm kk i k q = true
  · rw [if_pos e]; exact ⟨fun _ => e, fun _ => rfl⟩
  · rw [if_neg e]; exact ⟨fun x => absurd x (by decide), fun x => absurd x e⟩
theorem wyB_s {nm : Nat → Int} {kk k f : Nat} (hf : f < 6) (e : hpN s n nm kk i k = (f : Int)) : o32 (fun x y => x ||| y) (v6 (wyB s n nm kk i k)) (o32 (fun x y => x <<< (y &&& 31)) 1 (f : Int)) = v6 (wyB s n nm kk i (k + 1)) := by
  rw [v6_or _ hf]
  refine v6_cong (fun q _ => ?_)
  rw [Bool.eq_iff_iff, Bool.or_eq_true, wyB_t, wyB_t, beq_iff_eq]
  constructor
  · rintro (⟨j, a, b⟩ | rfl)
    · exact ⟨j, by omega, b⟩
    · exact ⟨k, by omega, e⟩
  · rintro ⟨j, a, b⟩
    by_cases x : j = k
    · rw [x, e] at b; exact Or.inr (by omega)
    · exact Or.inl ⟨j, by omega, b⟩
theorem wyB_0 {nm : Nat → Int} {kk : Nat} : v6 (wyB s n nm kk i 0) = 0 := by
  rw [v6_cong (c := fun _ => false) (fun q _ => by rw [Bool.eq_false_iff]; exact fun x => by obtain ⟨j, a, _⟩ := wyB_t.mp x; omega)]
  rfl
theorem wyRow_s {row nm : Nat → Int} {b kk k : Nat} : ru (wyRow s n row nm b kk i k) (b + k) (hpN s n nm kk i k) = wyRow s n row nm b kk i (k + 1) := by
  funext q
  unfold ru wyRow
  by_cases e : q = b + k
  · rw [if_pos e, if_pos (by omega), e, show b + k - b = k by omega]
  · rw [if_neg e]
    by_cases e2 : b ≤ q ∧ q < b + k
    · rw [if_pos e2, if_pos (by omega)]
    · rw [if_neg e2, if_neg (by omega)]
theorem wyRow_0 {row nm : Nat → Int} {b kk : Nat} : wyRow s n row nm b kk i 0 = row := by
  funext q
  unfold wyRow
  rw [if_neg (by omega)]
theorem u_readFlow (K : KR h s n N) (A : AtR h N i 0) (hi : i < N) (W : W0 (rowOf h)) : Cl l (d + 6) M_X11_readFlow [(2, 215)] SHP h (fun r sh' h' => r = 0 ∧ sh' = SHP ∧ Frx h h' ∧ AtF h' N (i + 5 + flM s n (rowOf h) (nmOf h) i) (flU s n (rowOf h) (nmOf h) i) ∧ (flU s n (rowOf h) (nmOf h) i = 0 → rowOf h' = flRow s n (rowOf h) (nmOf h) i ∧ nmOf h' = ru (nmOf h) (10 + (rowOf h 2).toNat) (tkVa s n (i + 1)) ∧ Smx h h')) := by
  refine Cl_hide (fun Q hQ => ?_)
  have W' := W
  obtain ⟨⟨w1, w2⟩, ⟨w3, w4⟩, w5, w6⟩ := W
  obtain ⟨c, hc⟩ : ∃ c : Nat, c = (rowOf h 2).toNat := ⟨_, rfl⟩
  have e1 : h 220 (110 + 2) = (c : Int) := by
    have : h 220 (110 + 2) = rowOf h 2 := rfl
    omega
  have hr : rowOf h 2 = (c : Int) := by omega
  obtain ⟨c0, hc0⟩ : ∃ c0 : Nat, c0 = (rowOf h 0).toNat := ⟨_, rfl⟩
  obtain ⟨c1, hc1⟩ : ∃ c1 : Nat, c1 = (rowOf h 1).toNat := ⟨_, rfl⟩
  unfold flU flRow at hQ
  rw [hr, Int.toNat_natCast, ← hc0, ← hc1] at hQ
  obtain ⟨M, hM⟩ : ∃ M, M = flM s n (rowOf h) (nmOf h) i := ⟨_, rfl⟩
  obtain ⟨fv, hfv⟩ : ∃ fv, fv = (wyF s n (nmOf h) c1 (i + 5) 5 0).1 := ⟨_, rfl⟩
  obtain ⟨f1, hf1⟩ : ∃ f, f = nmU s n (rowOf h) (nmOf h) (c : Int) 4 i := ⟨_, rfl⟩
  rw [← hM, ← hfv, ← hf1] at hQ
  obtain ⟨F2, hF2⟩ : ∃ f, f = orF (orF (orF f1 (wdU s n (i + 2) 7)) (tdU s n (nmOf h) (i + 3) 0 c0 (fun _ => False))) (wdU s n (i + 4) 8) := ⟨_, rfl⟩
  rw [← hF2] at hQ
  obtain ⟨U, hU⟩ : ∃ U, U = orF F2 fv := ⟨_, rfl⟩
  rw [← hU] at hQ
  obtain ⟨cv, hcv⟩ : ∃ cv, cv = naF (nmOf h) (tkVa s n (i + 3)) 0 c0 := ⟨_, rfl⟩
  rw [← hcv] at hQ
  -- behind the way
  have tail : ∀ (m : Mem) (x2 met many : Int) (x6 : PV), Frx h m → Smx h m → AtF m N (i + 5 + M) U → (U = 0 → many = (M : Int) ∧ M ≤ 4 ∧ x2 = cv ∧ rowOf m = wyRow s n (rowOf h) (nmOf h) (80 + 6 * c) c1 (i + 5) M ∧ nmOf m = ru (nmOf h) (10 + c) (tkVa s n (i + 1))) → V l (d + 6) 0 0 M_X11_readFlow 0 0 115 Q [(2, 215), (0, (c : Int)), (0, x2), (0, 188 + 6 * (c : Int)), (0, met), (0, many), x6] [] SHP m := by
    intro m x2 met many x6 F S A3 ok
    have g8 := A3.1
    have L3 := (F.kr K).1
    refine S_X11_readFlow_115 _ _ _ _ ?_; simp (disch := omega) only [B_X11_readFlow_115, bi_0, x_ic, x_lc, x_ld, x_st, x_sl, x_inc, x_b32, x_b64, x_d32, x_d64, x_s64, x_un, x_lcmp, x_dup, x_pop, x_dup2, x_if, x_cmp, x_sw, swk, x_ald, x_ast, x_alen, x_getf, x_putf, x_inv, x_mm, x_copy, x_iret, x_lret, x_vret, ok1, pu, ct, rcv, rcs, ent0, List.getElem?_cons_zero, List.getElem?_cons_succ, List.getElem?_nil, List.set_cons_zero, List.set_cons_succ, List.take_succ_cons, List.take_zero, List.drop_succ_cons, List.drop_zero, List.reverse_cons, List.reverse_nil, List.nil_append, List.cons_append, List.length_cons, List.length_nil, true_and, and_true, and_self, ne_eq, not_true_eq_false, not_false_eq_true, reduceIte, true_or, or_true, false_or, or_false, Nat.reduceAdd, Nat.reduceSub, Nat.reduceMul, Nat.reduceLeDiff, Nat.reduceEqDiff, Nat.reduceLT, Nat.le_refl, Nat.zero_le, Int.reduceToNat, Int.reduceAdd, Int.reduceSub, Int.reduceMul, Int.reduceNeg, Int.reduceLT, Int.reduceLE, Int.reduceEq, Nat.zero_add, Nat.add_zero, Nat.reduceBEq, Nat.one_ne_zero, Nat.zero_ne_one, Nat.lt_irrefl, Nat.succ_ne_zero, w32_id, ixc, ixc2, Int.toNat_natCast, ob_214, g8]
    refine ⟨fun z => ?_, fun z => ?_⟩
    · obtain ⟨k1, k2, k3, k4, k5⟩ := ok z
      rw [k1, k3]
      have e0 : m 220 112 = (c : Int) := by
        have : m 220 112 = rowOf m 2 := rfl
        rw [this, k4]; unfold wyRow; rw [if_neg (by omega)]; exact hr
      have e0b : up (up m 220 (188 + 6 * (c : Int)).toNat cv) 220 (188 + 6 * (c : Int) + 1).toNat (M : Int) 220 112 = (c : Int) := by
        rw [up_nj (by omega), up_nj (by omega)]; exact e0
      (try simp (disch := omega) only [bi_0, x_ic, x_lc, x_ld, x_st, x_sl, x_inc, x_b32, x_b64, x_d32, x_d64, x_s64, x_un, x_lcmp, x_dup, x_pop, x_dup2, x_if, x_cmp, x_sw, swk, x_ald, x_ast, x_alen, x_getf, x_putf, x_inv, x_mm, x_copy, x_iret, x_lret, x_vret, ok1, pu, ct, rcv, rcs, ent0, List.getElem?_cons_zero, List.getElem?_cons_succ, List.getElem?_nil, List.set_cons_zero, List.set_cons_succ, List.take_succ_cons, List.take_zero, List.drop_succ_cons, List.drop_zero, List.reverse_cons, List.reverse_nil, List.nil_append, List.cons_append, List.length_cons, List.length_nil, true_and, and_true, and_self, ne_eq, not_true_eq_false, not_false_eq_true, reduceIte, true_or, or_true, false_or, or_false, Nat.reduceAdd, Nat.reduceSub, Nat.reduceMul, Nat.reduceLeDiff, Nat.reduceEqDiff, Nat.reduceLT, Nat.le_refl, Nat.zero_le, Int.reduceToNat, Int.reduceAdd, Int.reduceSub, Int.reduceMul, Int.reduceNeg, Int.reduceLT, Int.reduceLE, Int.reduceEq, Nat.zero_add, Nat.add_zero, Nat.reduceBEq, Nat.one_ne_zero, Nat.zero_ne_one, Nat.lt_irrefl, Nat.succ_ne_zero, w32_id, ixc, ixc2, Int.toNat_natCast, ob_214, up_ne, ly_214_10 L3, ln_220, e0b])
      refine ⟨by omega, by omega, ?_⟩
      refine S_X11_readFlow_150 _ _ _ _ ?_; simp (disch := omega) only [B_X11_readFlow_150, bi_0, x_ic, x_lc, x_ld, x_st, x_sl, x_inc, x_b32, x_b64, x_d32, x_d64, x_s64, x_un, x_lcmp, x_dup, x_pop, x_dup2, x_if, x_cmp, x_sw, swk, x_ald, x_ast, x_alen, x_getf, x_putf, x_inv, x_mm, x_copy, x_iret, x_lret, x_vret, ok1, pu, ct, rcv, rcs, ent0, List.getElem?_cons_zero, List.getElem?_cons_succ, List.getElem?_nil, List.set_cons_zero, List.set_cons_succ, List.take_succ_cons, List.take_zero, List.drop_succ_cons, List.drop_zero, List.reverse_cons, List.reverse_nil, List.nil_append, List.cons_append, List.length_cons, List.length_nil, true_and, and_true, and_self, ne_eq, not_true_eq_false, not_false_eq_true, reduceIte, true_or, or_true, false_or, or_false, Nat.reduceAdd, Nat.reduceSub, Nat.reduceMul, Nat.reduceLeDiff, Nat.reduceEqDiff, Nat.reduceLT, Nat.le_refl, Nat.zero_le, Int.reduceToNat, Int.reduceAdd, Int.reduceSub, Int.reduceMul, Int.reduceNeg, Int.reduceLT, Int.reduceLE, Int.reduceEq, Nat.zero_add, Nat.add_zero, Nat.reduceBEq, Nat.one_ne_zero, Nat.zero_ne_one, Nat.lt_irrefl, Nat.succ_ne_zero, w32_id, ixc, ixc2, Int.toNat_natCast]
      refine hQ _ _ _ ⟨rfl, rfl, F.trans ((Frx_row (by omega)).trans ((Frx_row (by omega)).trans (Frx_row (by omega)))), ?_, fun _ => ⟨?_, ?_, ?_⟩⟩
      · exact A3.fr (by rw [up_ne (by decide), up_ne (by decide), up_ne (by decide)])
      · rw [rowOf_up (j := 2) (by rfl), rowOf_up (j := 79 + 6 * c) (by omega), rowOf_up (j := 78 + 6 * c) (by omega), k4]
      · rw [nmOf_ne (by decide), nmOf_ne (by decide), nmOf_ne (by decide), k5]
      · exact S.trans ⟨by rw [up_ne (by decide), up_ne (by decide), up_ne (by decide)], by rw [up_ne (by decide), up_ne (by decide), up_ne (by decide)]⟩
    · refine S_X11_readFlow_150 _ _ _ _ ?_; simp (disch := omega) only [B_X11_readFlow_150, bi_0, x_ic, x_lc, x_ld, x_st, x_sl, x_inc, x_b32, x_b64, x_d32, x_d64, x_s64, x_un, x_lcmp, x_dup, x_pop, x_dup2, x_if, x_cmp, x_sw, swk, x_ald, x_ast, x_alen, x_getf, x_putf, x_inv, x_mm, x_copy, x_iret, x_lret, x_vret, ok1, pu, ct, rcv, rcs, ent0, List.getElem?_cons_zero, List.getElem?_cons_succ, List.getElem?_nil, List.set_cons_zero, List.set_cons_succ, List.take_succ_cons, List.take_zero, List.drop_succ_cons, List.drop_zero, List.reverse_cons, List.reverse_nil, List.nil_append, List.cons_append, List.length_cons, List.length_nil, true_and, and_true, and_self, ne_eq, not_true_eq_false, not_false_eq_true, reduceIte, true_or, or_true, false_or, or_false, Nat.reduceAdd, Nat.reduceSub, Nat.reduceMul, Nat.reduceLeDiff, Nat.reduceEqDiff, Nat.reduceLT, Nat.le_refl, Nat.zero_le, Int.reduceToNat, Int.reduceAdd, Int.reduceSub, Int.reduceMul, Int.reduceNeg, Int.reduceLT, Int.reduceLE, Int.reduceEq, Nat.zero_add, Nat.add_zero, Nat.reduceBEq, Nat.one_ne_zero, Nat.zero_ne_one, Nat.lt_irrefl, Nat.succ_ne_zero, w32_id, ixc, ixc2, Int.toNat_natCast]
      exact hQ _ _ _ ⟨rfl, rfl, F, A3, fun x => absurd x z⟩
  -- the names as they are looked up
  have rc1 : ∀ m : Mem, rowOf m 1 = rowOf h 1 → m 220 (110 + 1) = (c1 : Int) := fun m x => by
    have : m 220 (110 + 1) = rowOf m 1 := rfl
    omega
  -- the way
  have key : F2 = 0 → ∀ (g k : Nat) (m : Mem) (x6 : PV), k + g = 5 → 1 ≤ g → (wyF s n (nmOf h) c1 (i + 5) g k).1 = fv → (wyF s n (nmOf h) c1 (i + 5) g k).2 = M → wyO s n (nmOf h) c1 (i + 5) k → Frx h m → Smx h m → AtF m N (i + 5 + k) 0 → rowOf m = wyRow s n (rowOf h) (nmOf h) (80 + 6 * c) c1 (i + 5) k → nmOf m = ru (nmOf h) (10 + c) (tkVa s n (i + 1)) → V l (d + 6) 0 0 M_X11_readFlow 0 0 54 Q [(2, 215), (0, (c : Int)), (0, cv), (0, 188 + 6 * (c : Int)), (0, v6 (wyB s n (nmOf h) c1 (i + 5) k)), (0, (k : Int)), x6] [] SHP m := by
    intro hF20 g
    have h30 : U = fv := by rw [hU, hF20, orF_0]
    induction g with
    | zero => intro k m x6 _ h1; omega
    | succ g ih =>
      intro k m x6 hg _ v1 v2 O F S A3 hrow hnm
      have K3 := F.kr K
      have e1 : m 220 (110 + 1) = (c1 : Int) := rc1 m (by rw [hrow]; unfold wyRow; rw [if_neg (by omega)])
      refine S_X11_readFlow_54 _ _ _ _ ?_; simp (disch := omega) only [B_X11_readFlow_54, bi_0, x_ic, x_lc, x_ld, x_st, x_sl, x_inc, x_b32, x_b64, x_d32, x_d64, x_s64, x_un, x_lcmp, x_dup, x_pop, x_dup2, x_if, x_cmp, x_sw, swk, x_ald, x_ast, x_alen, x_getf, x_putf, x_inv, x_mm, x_copy, x_iret, x_lret, x_vret, ok1, pu, ct, rcv, rcs, ent0, List.getElem?_cons_zero, List.getElem?_cons_succ, List.getElem?_nil, List.set_cons_zero, List.set_cons_succ, List.take_succ_cons, List.take_zero, List.drop_succ_cons, List.drop_zero, List.reverse_cons, List.reverse_nil, List.nil_append, List.cons_append, List.length_cons, List.length_nil, true_and, and_true, and_self, ne_eq, not_true_eq_false, not_false_eq_true, reduceIte, true_or, or_true, false_or, or_false, Nat.reduceAdd, Nat.reduceSub, Nat.reduceMul, Nat.reduceLeDiff, Nat.reduceEqDiff, Nat.reduceLT, Nat.le_refl, Nat.zero_le, Int.reduceToNat, Int.reduceAdd, Int.reduceSub, Int.reduceMul, Int.reduceNeg, Int.reduceLT, Int.reduceLE, Int.reduceEq, Nat.zero_add, Nat.add_zero, Nat.reduceBEq, Nat.one_ne_zero, Nat.zero_ne_one, Nat.lt_irrefl, Nat.succ_ne_zero, w32_id, ixc, ixc2, Int.toNat_natCast, ob_214]
      refine Cl.app (r_read (l := l) (d := d + 4) K3.1 (w := 1) (by decide)) ?_
      (try simp (disch := omega) only [bi_0, x_ic, x_lc, x_ld, x_st, x_sl, x_inc, x_b32, x_b64, x_d32, x_d64, x_s64, x_un, x_lcmp, x_dup, x_pop, x_dup2, x_if, x_cmp, x_sw, swk, x_ald, x_ast, x_alen, x_getf, x_putf, x_inv, x_mm, x_copy, x_iret, x_lret, x_vret, ok1, pu, ct, rcv, rcs, ent0, List.getElem?_cons_zero, List.getElem?_cons_succ, List.getElem?_nil, List.set_cons_zero, List.set_cons_succ, List.take_succ_cons, List.take_zero, List.drop_succ_cons, List.drop_zero, List.reverse_cons, List.reverse_nil, List.nil_append, List.cons_append, List.length_cons, List.length_nil, true_and, and_true, and_self, ne_eq, not_true_eq_false, not_false_eq_true, reduceIte, true_or, or_true, false_or, or_false, Nat.reduceAdd, Nat.reduceSub, Nat.reduceMul, Nat.reduceLeDiff, Nat.reduceEqDiff, Nat.reduceLT, Nat.le_refl, Nat.zero_le, Int.reduceToNat, Int.reduceAdd, Int.reduceSub, Int.reduceMul, Int.reduceNeg, Int.reduceLT, Int.reduceLE, Int.reduceEq, Nat.zero_add, Nat.add_zero, Nat.reduceBEq, Nat.one_ne_zero, Nat.zero_ne_one, Nat.lt_irrefl, Nat.succ_ne_zero, w32_id, ixc, ixc2, Int.toNat_natCast, ob_214, e1])
      refine Cl.imp (u_takeTold (l := l) (d := d + 1) K3 A3 (a := 14 + 6) (m := c1) (by omega) (v6 (wyB s n (nmOf h) c1 (i + 5) k))) (fun r6 sh' m2 q => ?_)
      obtain ⟨rfl, G2, A4, q2⟩ := q
      have en : ∀ q, q < c1 → m 222 (14 + 6 + q) = nmOf h (6 + q) := fun q hq => by
        have := congrFun hnm (6 + q)
        rw [ru_ne (by omega)] at this
        rw [← this, Nat.add_assoc]; rfl
      have etd : tdU s n (m 222) (i + 5 + k) (14 + 6) c1 (bitP (v6 (wyB s n (nmOf h) c1 (i + 5) k))) = tdU s n (nmOf h) (i + 5 + k) 6 c1 (fun v => ∃ j, j < k ∧ hpN s n (nmOf h) c1 (i + 5) j = v) := by
        rw [tdU_cg (nm' := nmOf h) (a' := 6) en]
        exact tdU_B (fun v a b => wyB_bit (by omega))
      rw [orF_0, etd] at A4 q2
      rw [naF_cg (nm' := nmOf h) (a' := 6) en] at q2
      have K4 := G2.kr K3
      have g8 := A4.1
      rw [wyF] at v1 v2
      (try simp (disch := omega) only [bi_0, x_ic, x_lc, x_ld, x_st, x_sl, x_inc, x_b32, x_b64, x_d32, x_d64, x_s64, x_un, x_lcmp, x_dup, x_pop, x_dup2, x_if, x_cmp, x_sw, swk, x_ald, x_ast, x_alen, x_getf, x_putf, x_inv, x_mm, x_copy, x_iret, x_lret, x_vret, ok1, pu, ct, rcv, rcs, ent0, List.getElem?_cons_zero, List.getElem?_cons_succ, List.getElem?_nil, List.set_cons_zero, List.set_cons_succ, List.take_succ_cons, List.take_zero, List.drop_succ_cons, List.drop_zero, List.reverse_cons, List.reverse_nil, List.nil_append, List.cons_append, List.length_cons, List.length_nil, true_and, and_true, and_self, ne_eq, not_true_eq_false, not_false_eq_true, reduceIte, true_or, or_true, false_or, or_false, Nat.reduceAdd, Nat.reduceSub, Nat.reduceMul, Nat.reduceLeDiff, Nat.reduceEqDiff, Nat.reduceLT, Nat.le_refl, Nat.zero_le, Int.reduceToNat, Int.reduceAdd, Int.reduceSub, Int.reduceMul, Int.reduceNeg, Int.reduceLT, Int.reduceLE, Int.reduceEq, Nat.zero_add, Nat.add_zero, Nat.reduceBEq, Nat.one_ne_zero, Nat.zero_ne_one, Nat.lt_irrefl, Nat.succ_ne_zero, w32_id, ixc, ixc2, Int.toNat_natCast, ob_214, g8])
      refine ⟨fun z => ?_, fun z => ?_⟩
      · rw [iF_t z] at v1 v2
        rw [z] at A4
        have e6 : r6 = hpN s n (nmOf h) c1 (i + 5) k := q2 z
        have O2 : wyO s n (nmOf h) c1 (i + 5) (k + 1) := fun j hj => by
          by_cases e : j = k
          · rw [e]; exact z
          · exact O j (by omega)
        have k4 := O2.le (by omega)
        have hb := O2.b (j := k) (by omega)
        obtain ⟨f, hf⟩ : ∃ f : Nat, hpN s n (nmOf h) c1 (i + 5) k = (f : Int) := ⟨(hpN s n (nmOf h) c1 (i + 5) k).toNat, by omega⟩
        have eb := wyB_s (s := s) (n := n) (i := i + 5) (nm := nmOf h) (kk := c1) (k := k) (f := f) (by omega) hf
        rw [hf] at e6
        rw [e6]
        obtain ⟨m3, hm3⟩ : ∃ m3, m3 = up m2 220 (188 + 6 * (c : Int) + 2 + (k : Int)).toNat (f : Int) := ⟨_, rfl⟩
        have A5 : AtF m3 N (i + 5 + (k + 1)) 0 := by rw [hm3]; exact A4.fr (up_ne (by decide))
        have B5 := A5.at0
        have b8 := B5.2.2
        have Fm3 : Frx m2 m3 := by rw [hm3]; exact Frx_row (by omega)
        have Sm3 : Smx m2 m3 := by rw [hm3]; exact ⟨up_ne (by decide), by rw [up_ne (by decide)]⟩
        have K5 := Fm3.kr K4
        have row5 : rowOf m3 = wyRow s n (rowOf h) (nmOf h) (80 + 6 * c) c1 (i + 5) (k + 1) := by
          rw [hm3, rowOf_up (j := 80 + 6 * c + k) (by omega), G2.row, hrow, ← hf, wyRow_s]
        have nm5 : nmOf m3 = ru (nmOf h) (10 + c) (tkVa s n (i + 1)) := by rw [hm3, nmOf_ne (by decide), G2.nm, hnm]
        have FF := F.trans (G2.rx.trans Fm3)
        have SS := S.trans (G2.sm.trans Sm3)
        (try simp (disch := omega) only [bi_0, x_ic, x_lc, x_ld, x_st, x_sl, x_inc, x_b32, x_b64, x_d32, x_d64, x_s64, x_un, x_lcmp, x_dup, x_pop, x_dup2, x_if, x_cmp, x_sw, swk, x_ald, x_ast, x_alen, x_getf, x_putf, x_inv, x_mm, x_copy, x_iret, x_lret, x_vret, ok1, pu, ct, rcv, rcs, ent0, List.getElem?_cons_zero, List.getElem?_cons_succ, List.getElem?_nil, List.set_cons_zero, List.set_cons_succ, List.take_succ_cons, List.take_zero, List.drop_succ_cons, List.drop_zero, List.reverse_cons, List.reverse_nil, List.nil_append, List.cons_append, List.length_cons, List.length_nil, true_and, and_true, and_self, ne_eq, not_true_eq_false, not_false_eq_true, reduceIte, true_or, or_true, false_or, or_false, Nat.reduceAdd, Nat.reduceSub, Nat.reduceMul, Nat.reduceLeDiff, Nat.reduceEqDiff, Nat.reduceLT, Nat.le_refl, Nat.zero_le, Int.reduceToNat, Int.reduceAdd, Int.reduceSub, Int.reduceMul, Int.reduceNeg, Int.reduceLT, Int.reduceLE, Int.reduceEq, Nat.zero_add, Nat.add_zero, Nat.reduceBEq, Nat.one_ne_zero, Nat.zero_ne_one, Nat.lt_irrefl, Nat.succ_ne_zero, w32_id, ixc, ixc2, Int.toNat_natCast, ob_214, ly_214_10 K4.1, ln_220, ← hm3, eb])
        refine ⟨by omega, ?_⟩
        refine S_X11_readFlow_101 _ _ _ _ ?_; simp (disch := omega) only [B_X11_readFlow_101, bi_0, x_ic, x_lc, x_ld, x_st, x_sl, x_inc, x_b32, x_b64, x_d32, x_d64, x_s64, x_un, x_lcmp, x_dup, x_pop, x_dup2, x_if, x_cmp, x_sw, swk, x_ald, x_ast, x_alen, x_getf, x_putf, x_inv, x_mm, x_copy, x_iret, x_lret, x_vret, ok1, pu, ct, rcv, rcs, ent0, List.getElem?_cons_zero, List.getElem?_cons_succ, List.getElem?_nil, List.set_cons_zero, List.set_cons_succ, List.take_succ_cons, List.take_zero, List.drop_succ_cons, List.drop_zero, List.reverse_cons, List.reverse_nil, List.nil_append, List.cons_append, List.length_cons, List.length_nil, true_and, and_true, and_self, ne_eq, not_true_eq_false, not_false_eq_true, reduceIte, true_or, or_true, false_or, or_false, Nat.reduceAdd, Nat.reduceSub, Nat.reduceMul, Nat.reduceLeDiff, Nat.reduceEqDiff, Nat.reduceLT, Nat.le_refl, Nat.zero_le, Int.reduceToNat, Int.reduceAdd, Int.reduceSub, Int.reduceMul, Int.reduceNeg, Int.reduceLT, Int.reduceLE, Int.reduceEq, Nat.zero_add, Nat.add_zero, Nat.reduceBEq, Nat.one_ne_zero, Nat.zero_ne_one, Nat.lt_irrefl, Nat.succ_ne_zero, w32_id, ixc, ixc2, Int.toNat_natCast, ob_214, b8]
        refine ⟨fun _ => ?_, fun y => y.elim⟩
        refine Cl.app (r_isName0 (l := l) (d := d + 2) K5 B5) ?_
        (try simp (disch := omega) only [bi_0, x_ic, x_lc, x_ld, x_st, x_sl, x_inc, x_b32, x_b64, x_d32, x_d64, x_s64, x_un, x_lcmp, x_dup, x_pop, x_dup2, x_if, x_cmp, x_sw, swk, x_ald, x_ast, x_alen, x_getf, x_putf, x_inv, x_mm, x_copy, x_iret, x_lret, x_vret, ok1, pu, ct, rcv, rcs, ent0, List.getElem?_cons_zero, List.getElem?_cons_succ, List.getElem?_nil, List.set_cons_zero, List.set_cons_succ, List.take_succ_cons, List.take_zero, List.drop_succ_cons, List.drop_zero, List.reverse_cons, List.reverse_nil, List.nil_append, List.cons_append, List.length_cons, List.length_nil, true_and, and_true, and_self, ne_eq, not_true_eq_false, not_false_eq_true, reduceIte, true_or, or_true, false_or, or_false, Nat.reduceAdd, Nat.reduceSub, Nat.reduceMul, Nat.reduceLeDiff, Nat.reduceEqDiff, Nat.reduceLT, Nat.le_refl, Nat.zero_le, Int.reduceToNat, Int.reduceAdd, Int.reduceSub, Int.reduceMul, Int.reduceNeg, Int.reduceLT, Int.reduceLE, Int.reduceEq, Nat.zero_add, Nat.add_zero, Nat.reduceBEq, Nat.one_ne_zero, Nat.zero_ne_one, Nat.lt_irrefl, Nat.succ_ne_zero, w32_id, ixc, ixc2, Int.toNat_natCast, bI_0])
        rw [show i + 5 + (k + 1) = i + 5 + k + 1 by omega]
        refine ⟨fun x => ?_, fun x => ?_⟩
        · rw [iF_f x] at v1 v2
          dsimp only at v1 v2
          have e3 : U = 0 := h30.trans v1.symm
          refine tail m3 _ _ _ _ FF SS ?_ (fun _ => ⟨?_, by omega, rfl, ?_, nm5⟩)
          · rw [e3, ← v2]; exact A5
          · rw [← v2]; rfl
          · rw [← v2]; exact row5
        · rw [iF_t (Classical.not_not.mp x)] at v1 v2
          exact ih (k + 1) m3 _ (by omega) (by omega) v1 v2 O2 FF SS A5 row5 nm5
      · rw [iF_f z] at v1 v2
        dsimp only at v1 v2
        have e3 : U ≠ 0 := by rw [h30, ← v1]; exact z
        refine S_X11_readFlow_101 _ _ _ _ ?_; simp (disch := omega) only [B_X11_readFlow_101, bi_0, x_ic, x_lc, x_ld, x_st, x_sl, x_inc, x_b32, x_b64, x_d32, x_d64, x_s64, x_un, x_lcmp, x_dup, x_pop, x_dup2, x_if, x_cmp, x_sw, swk, x_ald, x_ast, x_alen, x_getf, x_putf, x_inv, x_mm, x_copy, x_iret, x_lret, x_vret, ok1, pu, ct, rcv, rcs, ent0, List.getElem?_cons_zero, List.getElem?_cons_succ, List.getElem?_nil, List.set_cons_zero, List.set_cons_succ, List.take_succ_cons, List.take_zero, List.drop_succ_cons, List.drop_zero, List.reverse_cons, List.reverse_nil, List.nil_append, List.cons_append, List.length_cons, List.length_nil, true_and, and_true, and_self, ne_eq, not_true_eq_false, not_false_eq_true, reduceIte, true_or, or_true, false_or, or_false, Nat.reduceAdd, Nat.reduceSub, Nat.reduceMul, Nat.reduceLeDiff, Nat.reduceEqDiff, Nat.reduceLT, Nat.le_refl, Nat.zero_le, Int.reduceToNat, Int.reduceAdd, Int.reduceSub, Int.reduceMul, Int.reduceNeg, Int.reduceLT, Int.reduceLE, Int.reduceEq, Nat.zero_add, Nat.add_zero, Nat.reduceBEq, Nat.one_ne_zero, Nat.zero_ne_one, Nat.lt_irrefl, Nat.succ_ne_zero, w32_id, ixc, ixc2, Int.toNat_natCast, ob_214, g8]
        refine ⟨fun x => absurd x z, fun _ => ?_⟩
        refine tail m2 _ _ _ _ (F.trans G2.rx) (S.trans G2.sm) ?_ (fun x => absurd x e3)
        rw [h30, ← v1]
        exact A4.nx z
  show V l (d + 6) 0 0 M_X11_readFlow 0 0 0 Q [(2, 215), (9, 0), (9, 0), (9, 0), (9, 0), (9, 0), (9, 0)] [] SHP h
  refine S_X11_readFlow_0 _ _ _ _ ?_; simp (disch := omega) only [B_X11_readFlow_0, bi_0, x_ic, x_lc, x_ld, x_st, x_sl, x_inc, x_b32, x_b64, x_d32, x_d64, x_s64, x_un, x_lcmp, x_dup, x_pop, x_dup2, x_if, x_cmp, x_sw, swk, x_ald, x_ast, x_alen, x_getf, x_putf, x_inv, x_mm, x_copy, x_iret, x_lret, x_vret, ok1, pu, ct, rcv, rcs, ent0, List.getElem?_cons_zero, List.getElem?_cons_succ, List.getElem?_nil, List.set_cons_zero, List.set_cons_succ, List.take_succ_cons, List.take_zero, List.drop_succ_cons, List.drop_zero, List.reverse_cons, List.reverse_nil, List.nil_append, List.cons_append, List.length_cons, List.length_nil, true_and, and_true, and_self, ne_eq, not_true_eq_false, not_false_eq_true, reduceIte, true_or, or_true, false_or, or_false, Nat.reduceAdd, Nat.reduceSub, Nat.reduceMul, Nat.reduceLeDiff, Nat.reduceEqDiff, Nat.reduceLT, Nat.le_refl, Nat.zero_le, Int.reduceToNat, Int.reduceAdd, Int.reduceSub, Int.reduceMul, Int.reduceNeg, Int.reduceLT, Int.reduceLE, Int.reduceEq, Nat.zero_add, Nat.add_zero, Nat.reduceBEq, Nat.one_ne_zero, Nat.zero_ne_one, Nat.lt_irrefl, Nat.succ_ne_zero, w32_id, ixc, ixc2, Int.toNat_natCast, ob_214]
  refine Cl.app (r_read (l := l) (d := d + 4) K.1 (w := 2) (by decide)) ?_
  (try simp (disch := omega) only [bi_0, x_ic, x_lc, x_ld, x_st, x_sl, x_inc, x_b32, x_b64, x_d32, x_d64, x_s64, x_un, x_lcmp, x_dup, x_pop, x_dup2, x_if, x_cmp, x_sw, swk, x_ald, x_ast, x_alen, x_getf, x_putf, x_inv, x_mm, x_copy, x_iret, x_lret, x_vret, ok1, pu, ct, rcv, rcs, ent0, List.getElem?_cons_zero, List.getElem?_cons_succ, List.getElem?_nil, List.set_cons_zero, List.set_cons_succ, List.take_succ_cons, List.take_zero, List.drop_succ_cons, List.drop_zero, List.reverse_cons, List.reverse_nil, List.nil_append, List.cons_append, List.length_cons, List.length_nil, true_and, and_true, and_self, ne_eq, not_true_eq_false, not_false_eq_true, reduceIte, true_or, or_true, false_or, or_false, Nat.reduceAdd, Nat.reduceSub, Nat.reduceMul, Nat.reduceLeDiff, Nat.reduceEqDiff, Nat.reduceLT, Nat.le_refl, Nat.zero_le, Int.reduceToNat, Int.reduceAdd, Int.reduceSub, Int.reduceMul, Int.reduceNeg, Int.reduceLT, Int.reduceLE, Int.reduceEq, Nat.zero_add, Nat.add_zero, Nat.reduceBEq, Nat.one_ne_zero, Nat.zero_ne_one, Nat.lt_irrefl, Nat.succ_ne_zero, w32_id, ixc, ixc2, Int.toNat_natCast, ob_214, e1])
  refine Cl.imp (u_readName (l := l) (d := d) K A hi W' (fr := 10) (many := c) (most := 4) (by omega) (by decide)) (fun r sh' m1 q => ?_)
  obtain ⟨rfl, rfl, G1, A1, q1⟩ := q
  rw [show ((4 : Nat) : Int) = 4 from rfl, ← hf1] at A1 q1
  have K1 := G1.kr K
  (try simp (disch := omega) only [bi_0, x_ic, x_lc, x_ld, x_st, x_sl, x_inc, x_b32, x_b64, x_d32, x_d64, x_s64, x_un, x_lcmp, x_dup, x_pop, x_dup2, x_if, x_cmp, x_sw, swk, x_ald, x_ast, x_alen, x_getf, x_putf, x_inv, x_mm, x_copy, x_iret, x_lret, x_vret, ok1, pu, ct, rcv, rcs, ent0, List.getElem?_cons_zero, List.getElem?_cons_succ, List.getElem?_nil, List.set_cons_zero, List.set_cons_succ, List.take_succ_cons, List.take_zero, List.drop_succ_cons, List.drop_zero, List.reverse_cons, List.reverse_nil, List.nil_append, List.cons_append, List.length_cons, List.length_nil, true_and, and_true, and_self, ne_eq, not_true_eq_false, not_false_eq_true, reduceIte, true_or, or_true, false_or, or_false, Nat.reduceAdd, Nat.reduceSub, Nat.reduceMul, Nat.reduceLeDiff, Nat.reduceEqDiff, Nat.reduceLT, Nat.le_refl, Nat.zero_le, Int.reduceToNat, Int.reduceAdd, Int.reduceSub, Int.reduceMul, Int.reduceNeg, Int.reduceLT, Int.reduceLE, Int.reduceEq, Nat.zero_add, Nat.add_zero, Nat.reduceBEq, Nat.one_ne_zero, Nat.zero_ne_one, Nat.lt_irrefl, Nat.succ_ne_zero, w32_id, ixc, ixc2, Int.toNat_natCast, ob_214])
  refine Cl.imp (u_takeWord (l := l) (d := d + 2) K1 A1 (w := 7) (by decide)) (fun r sh' m2 q => ?_)
  obtain ⟨rfl, rfl, G2, A2⟩ := q
  have K2 := G2.kr K1
  have row2 := G2.row.trans q1.1.1
  have e0 : m2 220 (110 + 0) = (c0 : Int) := by
    have : m2 220 (110 + 0) = rowOf m2 0 := rfl
    rw [row2] at this
    omega
  (try simp (disch := omega) only [bi_0, x_ic, x_lc, x_ld, x_st, x_sl, x_inc, x_b32, x_b64, x_d32, x_d64, x_s64, x_un, x_lcmp, x_dup, x_pop, x_dup2, x_if, x_cmp, x_sw, swk, x_ald, x_ast, x_alen, x_getf, x_putf, x_inv, x_mm, x_copy, x_iret, x_lret, x_vret, ok1, pu, ct, rcv, rcs, ent0, List.getElem?_cons_zero, List.getElem?_cons_succ, List.getElem?_nil, List.set_cons_zero, List.set_cons_succ, List.take_succ_cons, List.take_zero, List.drop_succ_cons, List.drop_zero, List.reverse_cons, List.reverse_nil, List.nil_append, List.cons_append, List.length_cons, List.length_nil, true_and, and_true, and_self, ne_eq, not_true_eq_false, not_false_eq_true, reduceIte, true_or, or_true, false_or, or_false, Nat.reduceAdd, Nat.reduceSub, Nat.reduceMul, Nat.reduceLeDiff, Nat.reduceEqDiff, Nat.reduceLT, Nat.le_refl, Nat.zero_le, Int.reduceToNat, Int.reduceAdd, Int.reduceSub, Int.reduceMul, Int.reduceNeg, Int.reduceLT, Int.reduceLE, Int.reduceEq, Nat.zero_add, Nat.add_zero, Nat.reduceBEq, Nat.one_ne_zero, Nat.zero_ne_one, Nat.lt_irrefl, Nat.succ_ne_zero, w32_id, ixc, ixc2, Int.toNat_natCast, ob_214])
  refine Cl.app (r_read (l := l) (d := d + 4) K2.1 (w := 0) (by decide)) ?_
  (try simp (disch := omega) only [bi_0, x_ic, x_lc, x_ld, x_st, x_sl, x_inc, x_b32, x_b64, x_d32, x_d64, x_s64, x_un, x_lcmp, x_dup, x_pop, x_dup2, x_if, x_cmp, x_sw, swk, x_ald, x_ast, x_alen, x_getf, x_putf, x_inv, x_mm, x_copy, x_iret, x_lret, x_vret, ok1, pu, ct, rcv, rcs, ent0, List.getElem?_cons_zero, List.getElem?_cons_succ, List.getElem?_nil, List.set_cons_zero, List.set_cons_succ, List.take_succ_cons, List.take_zero, List.drop_succ_cons, List.drop_zero, List.reverse_cons, List.reverse_nil, List.nil_append, List.cons_append, List.length_cons, List.length_nil, true_and, and_true, and_self, ne_eq, not_true_eq_false, not_false_eq_true, reduceIte, true_or, or_true, false_or, or_false, Nat.reduceAdd, Nat.reduceSub, Nat.reduceMul, Nat.reduceLeDiff, Nat.reduceEqDiff, Nat.reduceLT, Nat.le_refl, Nat.zero_le, Int.reduceToNat, Int.reduceAdd, Int.reduceSub, Int.reduceMul, Int.reduceNeg, Int.reduceLT, Int.reduceLE, Int.reduceEq, Nat.zero_add, Nat.add_zero, Nat.reduceBEq, Nat.one_ne_zero, Nat.zero_ne_one, Nat.lt_irrefl, Nat.succ_ne_zero, w32_id, ixc, ixc2, Int.toNat_natCast, ob_214, e0])
  refine Cl.imp (u_takeTold (l := l) (d := d + 1) K2 A2 (a := 14 + 0) (m := c0) (by omega) 0) (fun r3 sh' m3 q => ?_)
  obtain ⟨rfl, G3, A3, q3⟩ := q
  have K3 := G3.kr K2
  have en : f1 = 0 → ∀ q, q < c0 → m2 222 (14 + 0 + q) = nmOf h (0 + q) := fun e q hq => by
    have := congrFun ((G2.nm).trans (q1.2 e)) (0 + q)
    rw [ru_ne (by omega)] at this
    rw [← this, Nat.add_assoc]; rfl
  have td : orF (orF f1 (wdU s n (i + 2) 7)) (tdU s n (m2 222) (i + 2 + 1) (14 + 0) c0 (bitP 0)) = orF (orF f1 (wdU s n (i + 2) 7)) (tdU s n (nmOf h) (i + 3) 0 c0 (fun _ => False)) := by
    by_cases e : f1 = 0
    · rw [tdU_0 (by omega), tdU_cg (nm' := nmOf h) (a' := 0) (en e)]
    · have x1 : orF f1 (wdU s n (i + 2) 7) ≠ 0 := fun x => e (orF_z.mp x).1
      rw [orF_n x1, orF_n x1]
  rw [td] at A3 q3
  (try simp (disch := omega) only [bi_0, x_ic, x_lc, x_ld, x_st, x_sl, x_inc, x_b32, x_b64, x_d32, x_d64, x_s64, x_un, x_lcmp, x_dup, x_pop, x_dup2, x_if, x_cmp, x_sw, swk, x_ald, x_ast, x_alen, x_getf, x_putf, x_inv, x_mm, x_copy, x_iret, x_lret, x_vret, ok1, pu, ct, rcv, rcs, ent0, List.getElem?_cons_zero, List.getElem?_cons_succ, List.getElem?_nil, List.set_cons_zero, List.set_cons_succ, List.take_succ_cons, List.take_zero, List.drop_succ_cons, List.drop_zero, List.reverse_cons, List.reverse_nil, List.nil_append, List.cons_append, List.length_cons, List.length_nil, true_and, and_true, and_self, ne_eq, not_true_eq_false, not_false_eq_true, reduceIte, true_or, or_true, false_or, or_false, Nat.reduceAdd, Nat.reduceSub, Nat.reduceMul, Nat.reduceLeDiff, Nat.reduceEqDiff, Nat.reduceLT, Nat.le_refl, Nat.zero_le, Int.reduceToNat, Int.reduceAdd, Int.reduceSub, Int.reduceMul, Int.reduceNeg, Int.reduceLT, Int.reduceLE, Int.reduceEq, Nat.zero_add, Nat.add_zero, Nat.reduceBEq, Nat.one_ne_zero, Nat.zero_ne_one, Nat.lt_irrefl, Nat.succ_ne_zero, w32_id, ixc, ixc2, Int.toNat_natCast, ob_214])
  refine Cl.imp (u_takeWord (l := l) (d := d + 2) K3 A3 (w := 8) (by decide)) (fun r sh' m4 q => ?_)
  obtain ⟨rfl, rfl, G4, A4⟩ := q
  rw [show i + 2 + 1 + 1 = i + 4 from rfl, ← hF2] at A4
  have K4 := G4.kr K3
  have G24 := G2.trans (G3.trans G4)
  have FF := G1.trans G24.rx
  have SS := q1.1.2.trans G24.sm
  have row4 := G24.row.trans q1.1.1
  (try simp (disch := omega) only [bi_0, x_ic, x_lc, x_ld, x_st, x_sl, x_inc, x_b32, x_b64, x_d32, x_d64, x_s64, x_un, x_lcmp, x_dup, x_pop, x_dup2, x_if, x_cmp, x_sw, swk, x_ald, x_ast, x_alen, x_getf, x_putf, x_inv, x_mm, x_copy, x_iret, x_lret, x_vret, ok1, pu, ct, rcv, rcs, ent0, List.getElem?_cons_zero, List.getElem?_cons_succ, List.getElem?_nil, List.set_cons_zero, List.set_cons_succ, List.take_succ_cons, List.take_zero, List.drop_succ_cons, List.drop_zero, List.reverse_cons, List.reverse_nil, List.nil_append, List.cons_append, List.length_cons, List.length_nil, true_and, and_true, and_self, ne_eq, not_true_eq_false, not_false_eq_true, reduceIte, true_or, or_true, false_or, or_false, Nat.reduceAdd, Nat.reduceSub, Nat.reduceMul, Nat.reduceLeDiff, Nat.reduceEqDiff, Nat.reduceLT, Nat.le_refl, Nat.zero_le, Int.reduceToNat, Int.reduceAdd, Int.reduceSub, Int.reduceMul, Int.reduceNeg, Int.reduceLT, Int.reduceLE, Int.reduceEq, Nat.zero_add, Nat.add_zero, Nat.reduceBEq, Nat.one_ne_zero, Nat.zero_ne_one, Nat.lt_irrefl, Nat.succ_ne_zero, w32_id, ixc, ixc2, Int.toNat_natCast])
  by_cases e : F2 = 0
  · have z1 := orF_z.mp (hF2.symm.trans e)
    have z2 := orF_z.mp z1.1
    have z3 := orF_z.mp z2.1
    have e3 : r3 = cv := by rw [q3 z1.1, hcv]; exact naF_cg (en z3.1)
    have nm4 : nmOf m4 = ru (nmOf h) (10 + c) (tkVa s n (i + 1)) := by rw [G24.nm, q1.2 z3.1]
    rw [e] at A4
    have k0 := key e 5 0 m4 (9, 0) rfl (by decide) hfv.symm (by rw [hM, hc1]; rfl) (fun j hj => absurd hj (by omega)) FF SS A4 (by rw [wyRow_0]; exact row4) nm4
    rw [wyB_0, ← e3] at k0
    exact k0
  · have e3 : U = F2 := by rw [hU, orF_n e]
    have e1 : m4 220 (110 + 1) = (c1 : Int) := rc1 m4 (by rw [row4])
    refine S_X11_readFlow_54 _ _ _ _ ?_; simp (disch := omega) only [B_X11_readFlow_54, bi_0, x_ic, x_lc, x_ld, x_st, x_sl, x_inc, x_b32, x_b64, x_d32, x_d64, x_s64, x_un, x_lcmp, x_dup, x_pop, x_dup2, x_if, x_cmp, x_sw, swk, x_ald, x_ast, x_alen, x_getf, x_putf, x_inv, x_mm, x_copy, x_iret, x_lret, x_vret, ok1, pu, ct, rcv, rcs, ent0, List.getElem?_cons_zero, List.getElem?_cons_succ, List.getElem?_nil, List.set_cons_zero, List.set_cons_succ, List.take_succ_cons, List.take_zero, List.drop_succ_cons, List.drop_zero, List.reverse_cons, List.reverse_nil, List.nil_append, List.cons_append, List.length_cons, List.length_nil, true_and, and_true, and_self, ne_eq, not_true_eq_false, not_false_eq_true, reduceIte, true_or, or_true, false_or, or_false, Nat.reduceAdd, Nat.reduceSub, Nat.reduceMul, Nat.reduceLeDiff, Nat.reduceEqDiff, Nat.reduceLT, Nat.le_refl, Nat.zero_le, Int.reduceToNat, Int.reduceAdd, Int.reduceSub, Int.reduceMul, Int.reduceNeg, Int.reduceLT, Int.reduceLE, Int.reduceEq, Nat.zero_add, Nat.add_zero, Nat.reduceBEq, Nat.one_ne_zero, Nat.zero_ne_one, Nat.lt_irrefl, Nat.succ_ne_zero, w32_id, ixc, ixc2, Int.toNat_natCast, ob_214]
    refine Cl.app (r_read (l := l) (d := d + 4) K4.1 (w := 1) (by decide)) ?_
    (try simp (disch := omega) only [bi_0, x_ic, x_lc, x_ld, x_st, x_sl, x_inc, x_b32, x_b64, x_d32, x_d64, x_s64, x_un, x_lcmp, x_dup, x_pop, x_dup2, x_if, x_cmp, x_sw, swk, x_ald, x_ast, x_alen, x_getf, x_putf, x_inv, x_mm, x_copy, x_iret, x_lret, x_vret, ok1, pu, ct, rcv, rcs, ent0, List.getElem?_cons_zero, List.getElem?_cons_succ, List.getElem?_nil, List.set_cons_zero, List.set_cons_succ, List.take_succ_cons, List.take_zero, List.drop_succ_cons, List.drop_zero, List.reverse_cons, List.reverse_nil, List.nil_append, List.cons_append, List.length_cons, List.length_nil, true_and, and_true, and_self, ne_eq, not_true_eq_false, not_false_eq_true, reduceIte, true_or, or_true, false_or, or_false, Nat.reduceAdd, Nat.reduceSub, Nat.reduceMul, Nat.reduceLeDiff, Nat.reduceEqDiff, Nat.reduceLT, Nat.le_refl, Nat.zero_le, Int.reduceToNat, Int.reduceAdd, Int.reduceSub, Int.reduceMul, Int.reduceNeg, Int.reduceLT, Int.reduceLE, Int.reduceEq, Nat.zero_add, Nat.add_zero, Nat.reduceBEq, Nat.one_ne_zero, Nat.zero_ne_one, Nat.lt_irrefl, Nat.succ_ne_zero, w32_id, ixc, ixc2, Int.toNat_natCast, ob_214, e1])
    refine Cl.imp (u_takeTold (l := l) (d := d + 1) K4 A4 (a := 14 + 6) (m := c1) (by omega) 0) (fun r6 sh' m5 q => ?_)
    obtain ⟨rfl, G5, A5, _⟩ := q
    rw [orF_n e] at A5
    have g8 := A5.1
    (try simp (disch := omega) only [bi_0, x_ic, x_lc, x_ld, x_st, x_sl, x_inc, x_b32, x_b64, x_d32, x_d64, x_s64, x_un, x_lcmp, x_dup, x_pop, x_dup2, x_if, x_cmp, x_sw, swk, x_ald, x_ast, x_alen, x_getf, x_putf, x_inv, x_mm, x_copy, x_iret, x_lret, x_vret, ok1, pu, ct, rcv, rcs, ent0, List.getElem?_cons_zero, List.getElem?_cons_succ, List.getElem?_nil, List.set_cons_zero, List.set_cons_succ, List.take_succ_cons, List.take_zero, List.drop_succ_cons, List.drop_zero, List.reverse_cons, List.reverse_nil, List.nil_append, List.cons_append, List.length_cons, List.length_nil, true_and, and_true, and_self, ne_eq, not_true_eq_false, not_false_eq_true, reduceIte, true_or, or_true, false_or, or_false, Nat.reduceAdd, Nat.reduceSub, Nat.reduceMul, Nat.reduceLeDiff, Nat.reduceEqDiff, Nat.reduceLT, Nat.le_refl, Nat.zero_le, Int.reduceToNat, Int.reduceAdd, Int.reduceSub, Int.reduceMul, Int.reduceNeg, Int.reduceLT, Int.reduceLE, Int.reduceEq, Nat.zero_add, Nat.add_zero, Nat.reduceBEq, Nat.one_ne_zero, Nat.zero_ne_one, Nat.lt_irrefl, Nat.succ_ne_zero, w32_id, ixc, ixc2, Int.toNat_natCast, ob_214, g8])
    refine ⟨fun x => absurd x e, fun _ => ?_⟩
    refine S_X11_readFlow_101 _ _ _ _ ?_; simp (disch := omega) only [B_X11_readFlow_101, bi_0, x_ic, x_lc, x_ld, x_st, x_sl, x_inc, x_b32, x_b64, x_d32, x_d64, x_s64, x_un, x_lcmp, x_dup, x_pop, x_dup2, x_if, x_cmp, x_sw, swk, x_ald, x_ast, x_alen, x_getf, x_putf, x_inv, x_mm, x_copy, x_iret, x_lret, x_vret, ok1, pu, ct, rcv, rcs, ent0, List.getElem?_cons_zero, List.getElem?_cons_succ, List.getElem?_nil, List.set_cons_zero, List.set_cons_succ, List.take_succ_cons, List.take_zero, List.drop_succ_cons, List.drop_zero, List.reverse_cons, List.reverse_nil, List.nil_append, List.cons_append, List.length_cons, List.length_nil, true_and, and_true, and_self, ne_eq, not_true_eq_false, not_false_eq_true, reduceIte, true_or, or_true, false_or, or_false, Nat.reduceAdd, Nat.reduceSub, Nat.reduceMul, Nat.reduceLeDiff, Nat.reduceEqDiff, Nat.reduceLT, Nat.le_refl, Nat.zero_le, Int.reduceToNat, Int.reduceAdd, Int.reduceSub, Int.reduceMul, Int.reduceNeg, Int.reduceLT, Int.reduceLE, Int.reduceEq, Nat.zero_add, Nat.add_zero, Nat.reduceBEq, Nat.one_ne_zero, Nat.zero_ne_one, Nat.lt_irrefl, Nat.succ_ne_zero, w32_id, ixc, ixc2, Int.toNat_natCast, ob_214, g8]
    refine ⟨fun x => absurd x e, fun _ => ?_⟩
    exact tail m5 _ _ _ _ (FF.trans G5.rx) (SS.trans G5.sm) (by rw [e3]; exact A5.nx e) (fun x => absurd (e3.symm.trans x) e)
end RFL

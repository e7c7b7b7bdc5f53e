/-! the class: a law read -/
/-- the text has N tokens -/
def NdT (s : Nat → Int) (n N : Nat) : Prop := N ≤ 1000 ∧ (∀ i, i < N → tkSo s n i ≠ 0) ∧ tkSo s n N = 0
theorem NdT_ex {s : Nat → Int} {n : Nat} (hn : n ≤ 1000) : ∃ N, NdT s n N := by
  obtain ⟨p, h1, h2, h3, h4⟩ := first_not (P := fun j => tkSo s n j ≠ 0) (k := 0) (n := n + 1) (Nat.zero_le _)
  have up : ∀ j, j ≤ p → j ≤ tkB s n j := by
    intro j
    induction j with
    | zero => intro _; exact Nat.zero_le _
    | succ j ih =>
      intro hj
      have := ih (by omega)
      have := ((tk_t s n j).le).2.2.2.1 (h3 j (Nat.zero_le _) (by omega))
      omega
  have := up p (Nat.le_refl _)
  have := tkB_le s n p
  exact ⟨p, by omega, fun i hi => h3 i (Nat.zero_le _) hi, Classical.not_not.mp (h4 (by omega))⟩
theorem NdT.lt {s : Nat → Int} {n N i : Nat} (E : NdT s n N) (hi : i ≤ N) (h0 : tkSo s n i ≠ 0) : i + 1 ≤ N := by
  by_cases e : i = N
  · rw [e] at h0; exact absurd E.2.2 h0
  · omega
def LxC (h : Mem) (nb : Nat) (L : LwS) : Prop := h (nb + 15) 2 = (L.2 : Int) ∧ ∀ i, i < L.2 → h (nb + 16) i = trC (L.1 i)
/-- the cells of a law, and the token -/
def Flc (nb : Nat) (h h' : Mem) : Prop := (∀ a, a ≠ 1 → a ≠ nb + 15 → a ≠ nb + 16 → h' a = h a) ∧ (∀ j, j ≤ 2 → h' 1 j = h 1 j) ∧ ∀ j, j ≠ 2 → h' (nb + 15) j = h (nb + 15) j
theorem Flc.rfl {nb : Nat} {h : Mem} : Flc nb h h := ⟨fun _ _ _ _ => Eq.refl _, fun _ _ => Eq.refl _, fun _ _ => Eq.refl _⟩
theorem Flc.trans {nb : Nat} {h h1 h2 : Mem} (a : Flc nb h h1) (b : Flc nb h1 h2) : Flc nb h h2 := ⟨fun i p q r => (b.1 i p q r).trans (a.1 i p q r), fun j p => (b.2.1 j p).trans (a.2.1 j p), fun j p => (b.2.2 j p).trans (a.2.2 j p)⟩
theorem Fs1.lc {nb : Nat} {h h' : Mem} (hn : nb = 4 ∨ nb = 34) (f : Fs1 h h') : Flc nb h h' := ⟨fun i p _ _ => f.1 i p, fun j p => f.2 j (Or.inl p), fun j _ => by rw [f.1 (nb + 15) (by omega)]⟩
theorem Flc_8 {nb : Nat} {h : Mem} {v : Int} (hn : nb = 4 ∨ nb = 34) : Flc nb h (up h 1 8 v) := ⟨fun i p _ _ => up_ne p, fun j p => up_nj (by omega), fun j _ => by rw [up_ne (by omega)]⟩
theorem Flc.nt {nb : Nat} {h h' : Mem} (hn : nb = 4 ∨ nb = 34) (f : Flc nb h h') : Fnt nb h h' := by
  refine ⟨fun i p q => f.1 i p (by omega) (by omega), f.2.1, fun i j p q r => ?_⟩
  unfold ntW at r
  by_cases e : i = nb + 15
  · rw [e]; exact f.2.2 j (by omega)
  · rw [f.1 i (by omega) e (by omega)]
theorem LxC.fs {nb : Nat} {h h' : Mem} {L : LwS} (hn : nb = 4 ∨ nb = 34) (X : LxC h nb L) (f : Fs1 h h') : LxC h' nb L := by
  unfold LxC
  rw [f.1 (nb + 15) (by omega), f.1 (nb + 16) (by omega)]
  exact X
section CLW
variable {l : Launch} {d : Nat} {h : Mem} {s : Nat → Int} {n N i nb : Nat} {D : Int} {F : Nat → LwS → Int × Nat × LwS}
theorem c_addW (T : Lay h) (hn : nb = 4 ∨ nb = 34) {L : LwS} (X : LxC h nb L) (hL : L.2 < 1000) (w : Wd) {v : Int} (hv : v = trC w) : Cl l (d + 1) M_X1_add [(2, ((nb + 15 : Nat) : Int) + 1), (0, v)] SHP h (fun r sh' h' => r = 0 ∧ sh' = SHP ∧ Flc nb h h' ∧ h' 1 = h 1 ∧ LxC h' nb (lad L w)) := by
  refine Cl_hide (fun Q hQ => ?_)
  have o := nob15 hn
  have f0 := (law_f T hn).1
  have l0 := (law_ln hn).1
  have x1 := X.1
  have ix : (((nb + 15 : Nat) : Int) + 1).toNat - 1 = nb + 15 := by omega
  have g0 : up h (nb + 16) L.2 v (nb + 15) 2 = (L.2 : Int) := by rw [up_ne (by omega)]; exact x1
  show V l (d + 1) 0 0 M_X1_add 0 0 0 Q [(2, ((nb + 15 : Nat) : Int) + 1), (0, v)] [] SHP h
  refine S_X1_add_0 _ _ _ _ ?_; simp (disch := omega) only [B_X1_add_0, bi_0, x_ic, x_lc, x_ld, x_st, x_sl, x_inc, x_b32, x_b64, x_d32, x_d64, x_s64, x_un, x_lcmp, x_dup, x_pop, x_dup2, x_if, x_cmp, x_sw, swk, x_ald, x_ast, x_alen, x_getf, x_putf, x_inv, x_mm, x_copy, x_iret, x_lret, x_vret, ok1, pu, ct, rcv, rcs, ent0, List.getElem?_cons_zero, List.getElem?_cons_succ, List.getElem?_nil, List.set_cons_zero, List.set_cons_succ, List.take_succ_cons, List.take_zero, List.drop_succ_cons, List.drop_zero, List.reverse_cons, List.reverse_nil, List.nil_append, List.cons_append, List.length_cons, List.length_nil, true_and, and_true, and_self, ne_eq, not_true_eq_false, not_false_eq_true, reduceIte, true_or, or_true, false_or, or_false, Nat.reduceAdd, Nat.reduceSub, Nat.reduceMul, Nat.reduceLeDiff, Nat.reduceEqDiff, Nat.reduceLT, Nat.le_refl, Nat.zero_le, Int.reduceToNat, Int.reduceAdd, Int.reduceSub, Int.reduceMul, Int.reduceNeg, Int.reduceLT, Int.reduceLE, Int.reduceEq, Nat.zero_add, Nat.add_zero, Nat.reduceBEq, Nat.one_ne_zero, Nat.zero_ne_one, Nat.lt_irrefl, Nat.succ_ne_zero, w32_id, ixc, ixc2, Int.toNat_natCast, o, f0, l0, x1, ix, g0]
  refine ⟨fun y => absurd y (by omega), fun _ => ⟨by omega, ?_⟩⟩
  refine S_X1_add_32 _ _ _ _ ?_; simp (disch := omega) only [B_X1_add_32, bi_0, x_ic, x_lc, x_ld, x_st, x_sl, x_inc, x_b32, x_b64, x_d32, x_d64, x_s64, x_un, x_lcmp, x_dup, x_pop, x_dup2, x_if, x_cmp, x_sw, swk, x_ald, x_ast, x_alen, x_getf, x_putf, x_inv, x_mm, x_copy, x_iret, x_lret, x_vret, ok1, pu, ct, rcv, rcs, ent0, List.getElem?_cons_zero, List.getElem?_cons_succ, List.getElem?_nil, List.set_cons_zero, List.set_cons_succ, List.take_succ_cons, List.take_zero, List.drop_succ_cons, List.drop_zero, List.reverse_cons, List.reverse_nil, List.nil_append, List.cons_append, List.length_cons, List.length_nil, true_and, and_true, and_self, ne_eq, not_true_eq_false, not_false_eq_true, reduceIte, true_or, or_true, false_or, or_false, Nat.reduceAdd, Nat.reduceSub, Nat.reduceMul, Nat.reduceLeDiff, Nat.reduceEqDiff, Nat.reduceLT, Nat.le_refl, Nat.zero_le, Int.reduceToNat, Int.reduceAdd, Int.reduceSub, Int.reduceMul, Int.reduceNeg, Int.reduceLT, Int.reduceLE, Int.reduceEq, Nat.zero_add, Nat.add_zero, Nat.reduceBEq, Nat.one_ne_zero, Nat.zero_ne_one, Nat.lt_irrefl, Nat.succ_ne_zero, w32_id, ixc, ixc2, Int.toNat_natCast]
  refine hQ _ _ _ ⟨rfl, rfl, ⟨fun a _ p q => by rw [up_ne p, up_ne q], fun j _ => by rw [up_ne (by omega), up_ne (by omega)], fun j p => by rw [up_nj p, up_ne (by omega)]⟩, by rw [up_ne (by omega), up_ne (by omega)], up_at, fun i hi => ?_⟩
  rw [up_ne (by omega)]
  have hi : i < L.2 + 1 := hi
  show _ = trC (if i = L.2 then w else L.1 i)
  by_cases e : i = L.2
  · rw [if_pos e, e, up_at, hv]
  · rw [if_neg e, up_nj e]; exact X.2 i (by omega)
def sOf (k : Int) : Int := if k = 42 then 3 else if k = 43 ∨ k = 45 then 2 else if k = 60 ∨ k = 61 then 1 else if k = 145 ∨ k = 146 then 0 else -1
theorem op_kd (C : CuC h s n i) {q : Nat} (hq : q < 4) : (opA s n q i = none ∧ sOf (h 1 5) ≠ (q : Int)) ∨ ∃ c, opA s n q i = some c ∧ sOf (h 1 5) = (q : Int) ∧ trC (c, 0) = -(h 1 5) ∧ (40 ≤ h 1 5 ∧ h 1 5 ≤ 146) ∧ tkSo s n i ≠ 0 := by
  have k17 : h 1 5 = 145 ↔ isWd s n i 17 := kd_w C (w := 17) (by decide)
  have k18 : h 1 5 = 146 ↔ isWd s n i 18 := kd_w C (w := 18) (by decide)
  have s42 : h 1 5 = 42 ↔ isSn s n i 42 := kd_s C (by unfold isSg; omega)
  have s43 : h 1 5 = 43 ↔ isSn s n i 43 := kd_s C (by unfold isSg; omega)
  have s45 : h 1 5 = 45 ↔ isSn s n i 45 := kd_s C (by unfold isSg; omega)
  have s60 : h 1 5 = 60 ↔ isSn s n i 60 := kd_s C (by unfold isSg; omega)
  have s61 : h 1 5 = 61 ↔ isSn s n i 61 := kd_s C (by unfold isSg; omega)
  obtain ⟨k, hk⟩ : ∃ k, k = h 1 5 := ⟨_, rfl⟩
  rw [← hk] at k17 k18 s42 s43 s45 s60 s61 ⊢
  unfold opA sOf
  rcases (show q = 0 ∨ q = 1 ∨ q = 2 ∨ q = 3 by omega) with rfl | rfl | rfl | rfl
  · rw [if_pos rfl]
    by_cases a : isWd s n i 17
    · rw [iF_t a, k17.mpr a]; exact Or.inr ⟨9, rfl, rfl, rfl, by decide, so_wd a⟩
    · rw [iF_f a]
      by_cases b : isWd s n i 18
      · rw [iF_t b, k18.mpr b]; exact Or.inr ⟨10, rfl, rfl, rfl, by decide, so_wd b⟩
      · rw [iF_f b]
        have a1 : ¬ k = 145 := fun x => a (k17.mp x)
        have b1 : ¬ k = 146 := fun x => b (k18.mp x)
        exact Or.inl ⟨rfl, by (repeat' split) <;> omega⟩
  · rw [if_neg (by decide), if_pos rfl]
    by_cases a : isSn s n i 60
    · rw [iF_t a, s60.mpr a]; exact Or.inr ⟨7, rfl, rfl, rfl, by decide, so_sn a⟩
    · rw [iF_f a]
      by_cases b : isSn s n i 61
      · rw [iF_t b, s61.mpr b]; exact Or.inr ⟨8, rfl, rfl, rfl, by decide, so_sn b⟩
      · rw [iF_f b]
        have a1 : ¬ k = 60 := fun x => a (s60.mp x)
        have b1 : ¬ k = 61 := fun x => b (s61.mp x)
        exact Or.inl ⟨rfl, by (repeat' split) <;> omega⟩
  · rw [if_neg (by decide), if_neg (by decide), if_pos rfl]
    by_cases a : isSn s n i 43
    · rw [iF_t a, s43.mpr a]; exact Or.inr ⟨4, rfl, rfl, rfl, by decide, so_sn a⟩
    · rw [iF_f a]
      by_cases b : isSn s n i 45
      · rw [iF_t b, s45.mpr b]; exact Or.inr ⟨5, rfl, rfl, rfl, by decide, so_sn b⟩
      · rw [iF_f b]
        have a1 : ¬ k = 43 := fun x => a (s43.mp x)
        have b1 : ¬ k = 45 := fun x => b (s45.mp x)
        exact Or.inl ⟨rfl, by (repeat' split) <;> omega⟩
  · rw [if_neg (by decide), if_neg (by decide), if_neg (by decide)]
    by_cases a : isSn s n i 42
    · rw [iF_t a, s42.mpr a]; exact Or.inr ⟨6, rfl, rfl, rfl, by decide, so_sn a⟩
    · rw [iF_f a]
      have a1 : ¬ k = 42 := fun x => a (s42.mp x)
      exact Or.inl ⟨rfl, by (repeat' split) <;> omega⟩
/-- what holds behind a reader whose answer is R -/
def ExR (h : Mem) (s : Nat → Int) (n N nb i c : Nat) (R : Int × Nat × LwS) : Int → Shp → Mem → Prop := fun r sh' h' => sh' = SHP ∧ Flc nb h h' ∧ ((R.1 = 0 ∧ r = 1 ∧ CuC h' s n R.2.1 ∧ LxC h' nb R.2.2 ∧ R.2.2.2 + i ≤ c + R.2.1 ∧ R.2.1 ≤ N ∧ h' 1 8 = h 1 8) ∨ (R.1 ≠ 0 ∧ r = 0 ∧ h' 1 8 = R.1))
def ExD (l : Launch) (d : Nat) (s : Nat → Int) (n N nb : Nat) (q D : Int) (F : Nat → LwS → Int × Nat × LwS) : Prop := ∀ (h : Mem) (i : Nat) (L : LwS), TxC h s n → CuC h s n i → LxC h nb L → L.2 ≤ i → i ≤ N → Cl l d M_X2_readPairs [(2, 66), (2, ((nb + 15 : Nat) : Int) + 1), (0, q), (0, D)] SHP h (ExR h s n N nb i L.2 (F i L))
def ExE (l : Launch) (d : Nat) (s : Nat → Int) (n N nb : Nat) (D : Int) (F : Nat → LwS → Int × Nat × LwS) : Prop := ∀ (h : Mem) (i : Nat) (L : LwS), TxC h s n → CuC h s n i → LxC h nb L → L.2 ≤ i → i ≤ N → Cl l d M_X2_readPart [(2, 66), (2, ((nb + 15 : Nat) : Int) + 1), (0, D)] SHP h (ExR h s n N nb i L.2 (F i L))
theorem c_pairs4 (hn : nb = 4 ∨ nb = 34) (C : ExE l d s n N nb D F) : ExD l (d + 1) s n N nb 4 D F := by
  intro h i L T Cu X hL hi
  refine Cl_hide (fun Q hQ => ?_)
  show V l (d + 1) 0 0 M_X2_readPairs 0 0 0 Q [(2, 66), (2, ((nb + 15 : Nat) : Int) + 1), (0, 4), (0, D), (9, 0), (9, 0), (9, 0)] [] SHP h
  refine S_X2_readPairs_0 _ _ _ _ ?_; simp (disch := omega) only [B_X2_readPairs_0, bi_0, x_ic, x_lc, x_ld, x_st, x_sl, x_inc, x_b32, x_b64, x_d32, x_d64, x_s64, x_un, x_lcmp, x_dup, x_pop, x_dup2, x_if, x_cmp, x_sw, swk, x_ald, x_ast, x_alen, x_getf, x_putf, x_inv, x_mm, x_copy, x_iret, x_lret, x_vret, ok1, pu, ct, rcv, rcs, ent0, List.getElem?_cons_zero, List.getElem?_cons_succ, List.getElem?_nil, List.set_cons_zero, List.set_cons_succ, List.take_succ_cons, List.take_zero, List.drop_succ_cons, List.drop_zero, List.reverse_cons, List.reverse_nil, List.nil_append, List.cons_append, List.length_cons, List.length_nil, true_and, and_true, and_self, ne_eq, not_true_eq_false, not_false_eq_true, reduceIte, true_or, or_true, false_or, or_false, Nat.reduceAdd, Nat.reduceSub, Nat.reduceMul, Nat.reduceLeDiff, Nat.reduceEqDiff, Nat.reduceLT, Nat.le_refl, Nat.zero_le, Int.reduceToNat, Int.reduceAdd, Int.reduceSub, Int.reduceMul, Int.reduceNeg, Int.reduceLT, Int.reduceLE, Int.reduceEq, Nat.zero_add, Nat.add_zero, Nat.reduceBEq, Nat.one_ne_zero, Nat.zero_ne_one, Nat.lt_irrefl, Nat.succ_ne_zero, w32_id, ixc, ixc2, Int.toNat_natCast, ob_65]
  refine ⟨fun y => y.elim, fun _ => ?_⟩
  refine Cl.imp (C h i L T Cu X hL hi) (fun r sh' h' q => ?_)
  have q' := q
  obtain ⟨rfl, _, q⟩ := q
  (try simp (disch := omega) only [bi_0, x_ic, x_lc, x_ld, x_st, x_sl, x_inc, x_b32, x_b64, x_d32, x_d64, x_s64, x_un, x_lcmp, x_dup, x_pop, x_dup2, x_if, x_cmp, x_sw, swk, x_ald, x_ast, x_alen, x_getf, x_putf, x_inv, x_mm, x_copy, x_iret, x_lret, x_vret, ok1, pu, ct, rcv, rcs, ent0, List.getElem?_cons_zero, List.getElem?_cons_succ, List.getElem?_nil, List.set_cons_zero, List.set_cons_succ, List.take_succ_cons, List.take_zero, List.drop_succ_cons, List.drop_zero, List.reverse_cons, List.reverse_nil, List.nil_append, List.cons_append, List.length_cons, List.length_nil, true_and, and_true, and_self, ne_eq, not_true_eq_false, not_false_eq_true, reduceIte, true_or, or_true, false_or, or_false, Nat.reduceAdd, Nat.reduceSub, Nat.reduceMul, Nat.reduceLeDiff, Nat.reduceEqDiff, Nat.reduceLT, Nat.le_refl, Nat.zero_le, Int.reduceToNat, Int.reduceAdd, Int.reduceSub, Int.reduceMul, Int.reduceNeg, Int.reduceLT, Int.reduceLE, Int.reduceEq, Nat.zero_add, Nat.add_zero, Nat.reduceBEq, Nat.one_ne_zero, Nat.zero_ne_one, Nat.lt_irrefl, Nat.succ_ne_zero, w32_id, ixc, ixc2, Int.toNat_natCast])
  refine ⟨?_, hQ _ _ _ q'⟩
  rcases q with q | q
  · rw [q.2.1]; decide
  · rw [q.2.1]; decide
theorem c_pairs (hn : nb = 4 ∨ nb = 34) (E : NdT s n N) {q : Nat} (hq : q < 4) (C : ExD l (d + 3) s n N nb ((q : Int) + 1) D F) : ExD l (d + 4) s n N nb q D (prs s n q F) := by
  intro h i0 L0 T Cu X hL hi0
  refine Cl_hide (fun Q hQ => ?_)
  have N1 := E.1
  have o15 := nob15 hn
  have eG : exG q = 1 ∨ exG q = 1000 := by unfold exG; split <;> simp
  have key : ∀ (g j i : Nat) (L : LwS) (m : Mem) (x6 : PV), j + g = exG q → CuC m s n i → LxC m nb L → L.2 + i0 ≤ L0.2 + i → i ≤ N → Flc nb h m → m 1 8 = h 1 8 → (∀ r sh h', ExR h s n N nb i0 L0.2 (exL F (opA s n q) g i L) r sh h' → Q r sh h') → V l (d + 4) 0 0 M_X2_readPairs 0 0 43 Q [(2, 66), (2, ((nb + 15 : Nat) : Int) + 1), (0, (q : Int)), (0, D), (0, (exG q : Int)), (0, (j : Int)), x6] [] SHP m := by
    intro g
    induction g with
    | zero =>
      intro j i L m x6 hj Cm Xm Lm iN Fm m8 hQ2
      refine S_X2_readPairs_43 _ _ _ _ ?_; simp (disch := omega) only [B_X2_readPairs_43, bi_0, x_ic, x_lc, x_ld, x_st, x_sl, x_inc, x_b32, x_b64, x_d32, x_d64, x_s64, x_un, x_lcmp, x_dup, x_pop, x_dup2, x_if, x_cmp, x_sw, swk, x_ald, x_ast, x_alen, x_getf, x_putf, x_inv, x_mm, x_copy, x_iret, x_lret, x_vret, ok1, pu, ct, rcv, rcs, ent0, List.getElem?_cons_zero, List.getElem?_cons_succ, List.getElem?_nil, List.set_cons_zero, List.set_cons_succ, List.take_succ_cons, List.take_zero, List.drop_succ_cons, List.drop_zero, List.reverse_cons, List.reverse_nil, List.nil_append, List.cons_append, List.length_cons, List.length_nil, true_and, and_true, and_self, ne_eq, not_true_eq_false, not_false_eq_true, reduceIte, true_or, or_true, false_or, or_false, Nat.reduceAdd, Nat.reduceSub, Nat.reduceMul, Nat.reduceLeDiff, Nat.reduceEqDiff, Nat.reduceLT, Nat.le_refl, Nat.zero_le, Int.reduceToNat, Int.reduceAdd, Int.reduceSub, Int.reduceMul, Int.reduceNeg, Int.reduceLT, Int.reduceLE, Int.reduceEq, Nat.zero_add, Nat.add_zero, Nat.reduceBEq, Nat.one_ne_zero, Nat.zero_ne_one, Nat.lt_irrefl, Nat.succ_ne_zero, w32_id, ixc, ixc2, Int.toNat_natCast, ob_65]
      refine ⟨fun _ => ?_, fun y => absurd (show (exG q : Int) ≤ j by omega) y⟩
      refine S_X2_readPairs_107 _ _ _ _ ?_; simp (disch := omega) only [B_X2_readPairs_107, bi_0, x_ic, x_lc, x_ld, x_st, x_sl, x_inc, x_b32, x_b64, x_d32, x_d64, x_s64, x_un, x_lcmp, x_dup, x_pop, x_dup2, x_if, x_cmp, x_sw, swk, x_ald, x_ast, x_alen, x_getf, x_putf, x_inv, x_mm, x_copy, x_iret, x_lret, x_vret, ok1, pu, ct, rcv, rcs, ent0, List.getElem?_cons_zero, List.getElem?_cons_succ, List.getElem?_nil, List.set_cons_zero, List.set_cons_succ, List.take_succ_cons, List.take_zero, List.drop_succ_cons, List.drop_zero, List.reverse_cons, List.reverse_nil, List.nil_append, List.cons_append, List.length_cons, List.length_nil, true_and, and_true, and_self, ne_eq, not_true_eq_false, not_false_eq_true, reduceIte, true_or, or_true, false_or, or_false, Nat.reduceAdd, Nat.reduceSub, Nat.reduceMul, Nat.reduceLeDiff, Nat.reduceEqDiff, Nat.reduceLT, Nat.le_refl, Nat.zero_le, Int.reduceToNat, Int.reduceAdd, Int.reduceSub, Int.reduceMul, Int.reduceNeg, Int.reduceLT, Int.reduceLE, Int.reduceEq, Nat.zero_add, Nat.add_zero, Nat.reduceBEq, Nat.one_ne_zero, Nat.zero_ne_one, Nat.lt_irrefl, Nat.succ_ne_zero, w32_id, ixc, ixc2, Int.toNat_natCast]
      exact hQ2 _ _ _ ⟨rfl, Fm, Or.inl ⟨rfl, rfl, Cm, Xm, Lm, iN, m8⟩⟩
    | succ g ih =>
      intro j i L m x6 hj Cm Xm Lm iN Fm m8 hQ2
      have Tm := (Fm.nt hn).tx hn T
      have t0 := ly_65_0 Tm.1
      rw [exL] at hQ2
      refine S_X2_readPairs_43 _ _ _ _ ?_; simp (disch := omega) only [B_X2_readPairs_43, bi_0, x_ic, x_lc, x_ld, x_st, x_sl, x_inc, x_b32, x_b64, x_d32, x_d64, x_s64, x_un, x_lcmp, x_dup, x_pop, x_dup2, x_if, x_cmp, x_sw, swk, x_ald, x_ast, x_alen, x_getf, x_putf, x_inv, x_mm, x_copy, x_iret, x_lret, x_vret, ok1, pu, ct, rcv, rcs, ent0, List.getElem?_cons_zero, List.getElem?_cons_succ, List.getElem?_nil, List.set_cons_zero, List.set_cons_succ, List.take_succ_cons, List.take_zero, List.drop_succ_cons, List.drop_zero, List.reverse_cons, List.reverse_nil, List.nil_append, List.cons_append, List.length_cons, List.length_nil, true_and, and_true, and_self, ne_eq, not_true_eq_false, not_false_eq_true, reduceIte, true_or, or_true, false_or, or_false, Nat.reduceAdd, Nat.reduceSub, Nat.reduceMul, Nat.reduceLeDiff, Nat.reduceEqDiff, Nat.reduceLT, Nat.le_refl, Nat.zero_le, Int.reduceToNat, Int.reduceAdd, Int.reduceSub, Int.reduceMul, Int.reduceNeg, Int.reduceLT, Int.reduceLE, Int.reduceEq, Nat.zero_add, Nat.add_zero, Nat.reduceBEq, Nat.one_ne_zero, Nat.zero_ne_one, Nat.lt_irrefl, Nat.succ_ne_zero, w32_id, ixc, ixc2, Int.toNat_natCast, ob_65, t0, ob_1]
      refine ⟨fun y => absurd y (by omega), fun _ => ?_⟩
      refine Cl.app (c_strengthOf (l := l) (d := d + 2) (h := m) (sh := SHP) (m 1 5)) ?_
      rw [show (if m 1 5 = 42 then (3 : Int) else if m 1 5 = 43 ∨ m 1 5 = 45 then 2 else if m 1 5 = 60 ∨ m 1 5 = 61 then 1 else if m 1 5 = 145 ∨ m 1 5 = 146 then 0 else -1) = sOf (m 1 5) from rfl]
      (try simp (disch := omega) only [bi_0, x_ic, x_lc, x_ld, x_st, x_sl, x_inc, x_b32, x_b64, x_d32, x_d64, x_s64, x_un, x_lcmp, x_dup, x_pop, x_dup2, x_if, x_cmp, x_sw, swk, x_ald, x_ast, x_alen, x_getf, x_putf, x_inv, x_mm, x_copy, x_iret, x_lret, x_vret, ok1, pu, ct, rcv, rcs, ent0, List.getElem?_cons_zero, List.getElem?_cons_succ, List.getElem?_nil, List.set_cons_zero, List.set_cons_succ, List.take_succ_cons, List.take_zero, List.drop_succ_cons, List.drop_zero, List.reverse_cons, List.reverse_nil, List.nil_append, List.cons_append, List.length_cons, List.length_nil, true_and, and_true, and_self, ne_eq, not_true_eq_false, not_false_eq_true, reduceIte, true_or, or_true, false_or, or_false, Nat.reduceAdd, Nat.reduceSub, Nat.reduceMul, Nat.reduceLeDiff, Nat.reduceEqDiff, Nat.reduceLT, Nat.le_refl, Nat.zero_le, Int.reduceToNat, Int.reduceAdd, Int.reduceSub, Int.reduceMul, Int.reduceNeg, Int.reduceLT, Int.reduceLE, Int.reduceEq, Nat.zero_add, Nat.add_zero, Nat.reduceBEq, Nat.one_ne_zero, Nat.zero_ne_one, Nat.lt_irrefl, Nat.succ_ne_zero, w32_id, ixc, ixc2, Int.toNat_natCast, ob_65, t0, ob_1])
      rcases op_kd Cm hq with ⟨e1, e2⟩ | ⟨c, e1, e2, e3, e4, e5⟩
      · rw [e1] at hQ2
        dsimp only at hQ2
        refine ⟨fun y => absurd y e2, fun _ => ?_⟩
        refine S_X2_readPairs_107 _ _ _ _ ?_; simp (disch := omega) only [B_X2_readPairs_107, bi_0, x_ic, x_lc, x_ld, x_st, x_sl, x_inc, x_b32, x_b64, x_d32, x_d64, x_s64, x_un, x_lcmp, x_dup, x_pop, x_dup2, x_if, x_cmp, x_sw, swk, x_ald, x_ast, x_alen, x_getf, x_putf, x_inv, x_mm, x_copy, x_iret, x_lret, x_vret, ok1, pu, ct, rcv, rcs, ent0, List.getElem?_cons_zero, List.getElem?_cons_succ, List.getElem?_nil, List.set_cons_zero, List.set_cons_succ, List.take_succ_cons, List.take_zero, List.drop_succ_cons, List.drop_zero, List.reverse_cons, List.reverse_nil, List.nil_append, List.cons_append, List.length_cons, List.length_nil, true_and, and_true, and_self, ne_eq, not_true_eq_false, not_false_eq_true, reduceIte, true_or, or_true, false_or, or_false, Nat.reduceAdd, Nat.reduceSub, Nat.reduceMul, Nat.reduceLeDiff, Nat.reduceEqDiff, Nat.reduceLT, Nat.le_refl, Nat.zero_le, Int.reduceToNat, Int.reduceAdd, Int.reduceSub, Int.reduceMul, Int.reduceNeg, Int.reduceLT, Int.reduceLE, Int.reduceEq, Nat.zero_add, Nat.add_zero, Nat.reduceBEq, Nat.one_ne_zero, Nat.zero_ne_one, Nat.lt_irrefl, Nat.succ_ne_zero, w32_id, ixc, ixc2, Int.toNat_natCast]
        exact hQ2 _ _ _ ⟨rfl, Fm, Or.inl ⟨rfl, rfl, Cm, Xm, Lm, iN, m8⟩⟩
      · rw [e1] at hQ2
        dsimp only at hQ2
        have iN2 := E.lt iN e5
        refine ⟨fun _ => ?_, fun y => absurd e2 y⟩
        refine Cl.imp (c_next (l := l) (d := d) Tm Cm) (fun r sh' m1 q' => ?_)
        obtain ⟨rfl, rfl, F1, C1⟩ := q'
        have T1 := Tm.fs F1
        (try simp (disch := omega) only [bi_0, x_ic, x_lc, x_ld, x_st, x_sl, x_inc, x_b32, x_b64, x_d32, x_d64, x_s64, x_un, x_lcmp, x_dup, x_pop, x_dup2, x_if, x_cmp, x_sw, swk, x_ald, x_ast, x_alen, x_getf, x_putf, x_inv, x_mm, x_copy, x_iret, x_lret, x_vret, ok1, pu, ct, rcv, rcs, ent0, List.getElem?_cons_zero, List.getElem?_cons_succ, List.getElem?_nil, List.set_cons_zero, List.set_cons_succ, List.take_succ_cons, List.take_zero, List.drop_succ_cons, List.drop_zero, List.reverse_cons, List.reverse_nil, List.nil_append, List.cons_append, List.length_cons, List.length_nil, true_and, and_true, and_self, ne_eq, not_true_eq_false, not_false_eq_true, reduceIte, true_or, or_true, false_or, or_false, Nat.reduceAdd, Nat.reduceSub, Nat.reduceMul, Nat.reduceLeDiff, Nat.reduceEqDiff, Nat.reduceLT, Nat.le_refl, Nat.zero_le, Int.reduceToNat, Int.reduceAdd, Int.reduceSub, Int.reduceMul, Int.reduceNeg, Int.reduceLT, Int.reduceLE, Int.reduceEq, Nat.zero_add, Nat.add_zero, Nat.reduceBEq, Nat.one_ne_zero, Nat.zero_ne_one, Nat.lt_irrefl, Nat.succ_ne_zero, w32_id, ixc, ixc2, Int.toNat_natCast, ob_65])
        refine Cl.imp (C m1 (i + 1) L T1 C1 (Xm.fs hn F1) (by omega) iN2) (fun r sh' m2 q' => ?_)
        obtain ⟨rfl, F2, q'⟩ := q'
        have FF := Fm.trans ((F1.lc hn).trans F2)
        rcases q' with ⟨r1, rfl, C2, X2, b2, i2, r8⟩ | ⟨r1, rfl, r8⟩
        · rw [iF_t r1] at hQ2
          have T2 := (FF.nt hn).tx hn T
          have b5 : -(m 1 5) = trC (c, 0) := e3.symm
          (try simp (disch := omega) only [bi_0, x_ic, x_lc, x_ld, x_st, x_sl, x_inc, x_b32, x_b64, x_d32, x_d64, x_s64, x_un, x_lcmp, x_dup, x_pop, x_dup2, x_if, x_cmp, x_sw, swk, x_ald, x_ast, x_alen, x_getf, x_putf, x_inv, x_mm, x_copy, x_iret, x_lret, x_vret, ok1, pu, ct, rcv, rcs, ent0, List.getElem?_cons_zero, List.getElem?_cons_succ, List.getElem?_nil, List.set_cons_zero, List.set_cons_succ, List.take_succ_cons, List.take_zero, List.drop_succ_cons, List.drop_zero, List.reverse_cons, List.reverse_nil, List.nil_append, List.cons_append, List.length_cons, List.length_nil, true_and, and_true, and_self, ne_eq, not_true_eq_false, not_false_eq_true, reduceIte, true_or, or_true, false_or, or_false, Nat.reduceAdd, Nat.reduceSub, Nat.reduceMul, Nat.reduceLeDiff, Nat.reduceEqDiff, Nat.reduceLT, Nat.le_refl, Nat.zero_le, Int.reduceToNat, Int.reduceAdd, Int.reduceSub, Int.reduceMul, Int.reduceNeg, Int.reduceLT, Int.reduceLE, Int.reduceEq, Nat.zero_add, Nat.add_zero, Nat.reduceBEq, Nat.one_ne_zero, Nat.zero_ne_one, Nat.lt_irrefl, Nat.succ_ne_zero, w32_id, ixc, ixc2, Int.toNat_natCast])
          refine ⟨fun y => y.elim, fun _ => ?_⟩
          refine S_X2_readPairs_94 _ _ _ _ ?_; simp (disch := omega) only [B_X2_readPairs_94, bi_0, x_ic, x_lc, x_ld, x_st, x_sl, x_inc, x_b32, x_b64, x_d32, x_d64, x_s64, x_un, x_lcmp, x_dup, x_pop, x_dup2, x_if, x_cmp, x_sw, swk, x_ald, x_ast, x_alen, x_getf, x_putf, x_inv, x_mm, x_copy, x_iret, x_lret, x_vret, ok1, pu, ct, rcv, rcs, ent0, List.getElem?_cons_zero, List.getElem?_cons_succ, List.getElem?_nil, List.set_cons_zero, List.set_cons_succ, List.take_succ_cons, List.take_zero, List.drop_succ_cons, List.drop_zero, List.reverse_cons, List.reverse_nil, List.nil_append, List.cons_append, List.length_cons, List.length_nil, true_and, and_true, and_self, ne_eq, not_true_eq_false, not_false_eq_true, reduceIte, true_or, or_true, false_or, or_false, Nat.reduceAdd, Nat.reduceSub, Nat.reduceMul, Nat.reduceLeDiff, Nat.reduceEqDiff, Nat.reduceLT, Nat.le_refl, Nat.zero_le, Int.reduceToNat, Int.reduceAdd, Int.reduceSub, Int.reduceMul, Int.reduceNeg, Int.reduceLT, Int.reduceLE, Int.reduceEq, Nat.zero_add, Nat.add_zero, Nat.reduceBEq, Nat.one_ne_zero, Nat.zero_ne_one, Nat.lt_irrefl, Nat.succ_ne_zero, w32_id, ixc, ixc2, Int.toNat_natCast, o15]
          refine Cl.imp (c_addW (l := l) (d := d + 2) T2.1 hn X2 (by omega) (c, 0) b5) (fun r sh' m3 q' => ?_)
          obtain ⟨rfl, rfl, F3, e31, X3⟩ := q'
          (try simp (disch := omega) only [bi_0, x_ic, x_lc, x_ld, x_st, x_sl, x_inc, x_b32, x_b64, x_d32, x_d64, x_s64, x_un, x_lcmp, x_dup, x_pop, x_dup2, x_if, x_cmp, x_sw, swk, x_ald, x_ast, x_alen, x_getf, x_putf, x_inv, x_mm, x_copy, x_iret, x_lret, x_vret, ok1, pu, ct, rcv, rcs, ent0, List.getElem?_cons_zero, List.getElem?_cons_succ, List.getElem?_nil, List.set_cons_zero, List.set_cons_succ, List.take_succ_cons, List.take_zero, List.drop_succ_cons, List.drop_zero, List.reverse_cons, List.reverse_nil, List.nil_append, List.cons_append, List.length_cons, List.length_nil, true_and, and_true, and_self, ne_eq, not_true_eq_false, not_false_eq_true, reduceIte, true_or, or_true, false_or, or_false, Nat.reduceAdd, Nat.reduceSub, Nat.reduceMul, Nat.reduceLeDiff, Nat.reduceEqDiff, Nat.reduceLT, Nat.le_refl, Nat.zero_le, Int.reduceToNat, Int.reduceAdd, Int.reduceSub, Int.reduceMul, Int.reduceNeg, Int.reduceLT, Int.reduceLE, Int.reduceEq, Nat.zero_add, Nat.add_zero, Nat.reduceBEq, Nat.one_ne_zero, Nat.zero_ne_one, Nat.lt_irrefl, Nat.succ_ne_zero, w32_id, ixc, ixc2, Int.toNat_natCast])
          refine ih (j + 1) _ _ m3 _ (by omega) (C2.fr e31) X3 ?_ i2 (FF.trans F3) ?_ hQ2
          · show (F (i + 1) L).2.2.2 + 1 + i0 ≤ _; omega
          · rw [e31, r8, F1.2 8 (Or.inr rfl)]; exact m8
        · rw [iF_f r1] at hQ2
          (try simp (disch := omega) only [bi_0, x_ic, x_lc, x_ld, x_st, x_sl, x_inc, x_b32, x_b64, x_d32, x_d64, x_s64, x_un, x_lcmp, x_dup, x_pop, x_dup2, x_if, x_cmp, x_sw, swk, x_ald, x_ast, x_alen, x_getf, x_putf, x_inv, x_mm, x_copy, x_iret, x_lret, x_vret, ok1, pu, ct, rcv, rcs, ent0, List.getElem?_cons_zero, List.getElem?_cons_succ, List.getElem?_nil, List.set_cons_zero, List.set_cons_succ, List.take_succ_cons, List.take_zero, List.drop_succ_cons, List.drop_zero, List.reverse_cons, List.reverse_nil, List.nil_append, List.cons_append, List.length_cons, List.length_nil, true_and, and_true, and_self, ne_eq, not_true_eq_false, not_false_eq_true, reduceIte, true_or, or_true, false_or, or_false, Nat.reduceAdd, Nat.reduceSub, Nat.reduceMul, Nat.reduceLeDiff, Nat.reduceEqDiff, Nat.reduceLT, Nat.le_refl, Nat.zero_le, Int.reduceToNat, Int.reduceAdd, Int.reduceSub, Int.reduceMul, Int.reduceNeg, Int.reduceLT, Int.reduceLE, Int.reduceEq, Nat.zero_add, Nat.add_zero, Nat.reduceBEq, Nat.one_ne_zero, Nat.zero_ne_one, Nat.lt_irrefl, Nat.succ_ne_zero, w32_id, ixc, ixc2, Int.toNat_natCast])
          refine ⟨fun _ => ?_, fun y => y.elim⟩
          exact hQ2 _ _ _ ⟨rfl, FF, Or.inr ⟨r1, rfl, r8⟩⟩
  show V l (d + 4) 0 0 M_X2_readPairs 0 0 0 Q [(2, 66), (2, ((nb + 15 : Nat) : Int) + 1), (0, (q : Int)), (0, D), (9, 0), (9, 0), (9, 0)] [] SHP h
  refine S_X2_readPairs_0 _ _ _ _ ?_; simp (disch := omega) only [B_X2_readPairs_0, bi_0, x_ic, x_lc, x_ld, x_st, x_sl, x_inc, x_b32, x_b64, x_d32, x_d64, x_s64, x_un, x_lcmp, x_dup, x_pop, x_dup2, x_if, x_cmp, x_sw, swk, x_ald, x_ast, x_alen, x_getf, x_putf, x_inv, x_mm, x_copy, x_iret, x_lret, x_vret, ok1, pu, ct, rcv, rcs, ent0, List.getElem?_cons_zero, List.getElem?_cons_succ, List.getElem?_nil, List.set_cons_zero, List.set_cons_succ, List.take_succ_cons, List.take_zero, List.drop_succ_cons, List.drop_zero, List.reverse_cons, List.reverse_nil, List.nil_append, List.cons_append, List.length_cons, List.length_nil, true_and, and_true, and_self, ne_eq, not_true_eq_false, not_false_eq_true, reduceIte, true_or, or_true, false_or, or_false, Nat.reduceAdd, Nat.reduceSub, Nat.reduceMul, Nat.reduceLeDiff, Nat.reduceEqDiff, Nat.reduceLT, Nat.le_refl, Nat.zero_le, Int.reduceToNat, Int.reduceAdd, Int.reduceSub, Int.reduceMul, Int.reduceNeg, Int.reduceLT, Int.reduceLE, Int.reduceEq, Nat.zero_add, Nat.add_zero, Nat.reduceBEq, Nat.one_ne_zero, Nat.zero_ne_one, Nat.lt_irrefl, Nat.succ_ne_zero, w32_id, ixc, ixc2, Int.toNat_natCast, ob_65]
  refine ⟨fun _ => ?_, fun y => absurd (show (q : Int) ≤ 3 by omega) y⟩
  refine S_X2_readPairs_12 _ _ _ _ ?_; simp (disch := omega) only [B_X2_readPairs_12, bi_0, x_ic, x_lc, x_ld, x_st, x_sl, x_inc, x_b32, x_b64, x_d32, x_d64, x_s64, x_un, x_lcmp, x_dup, x_pop, x_dup2, x_if, x_cmp, x_sw, swk, x_ald, x_ast, x_alen, x_getf, x_putf, x_inv, x_mm, x_copy, x_iret, x_lret, x_vret, ok1, pu, ct, rcv, rcs, ent0, List.getElem?_cons_zero, List.getElem?_cons_succ, List.getElem?_nil, List.set_cons_zero, List.set_cons_succ, List.take_succ_cons, List.take_zero, List.drop_succ_cons, List.drop_zero, List.reverse_cons, List.reverse_nil, List.nil_append, List.cons_append, List.length_cons, List.length_nil, true_and, and_true, and_self, ne_eq, not_true_eq_false, not_false_eq_true, reduceIte, true_or, or_true, false_or, or_false, Nat.reduceAdd, Nat.reduceSub, Nat.reduceMul, Nat.reduceLeDiff, Nat.reduceEqDiff, Nat.reduceLT, Nat.le_refl, Nat.zero_le, Int.reduceToNat, Int.reduceAdd, Int.reduceSub, Int.reduceMul, Int.reduceNeg, Int.reduceLT, Int.reduceLE, Int.reduceEq, Nat.zero_add, Nat.add_zero, Nat.reduceBEq, Nat.one_ne_zero, Nat.zero_ne_one, Nat.lt_irrefl, Nat.succ_ne_zero, w32_id, ixc, ixc2, Int.toNat_natCast, ob_65]
  refine Cl.imp (C h i0 L0 T Cu X hL hi0) (fun r sh' m1 q' => ?_)
  obtain ⟨rfl, F1, q'⟩ := q'
  unfold prs at hQ
  rcases q' with ⟨r1, rfl, C2, X2, b2, i2, r8⟩ | ⟨r1, rfl, r8⟩
  · rw [iF_t r1] at hQ
    (try simp (disch := omega) only [bi_0, x_ic, x_lc, x_ld, x_st, x_sl, x_inc, x_b32, x_b64, x_d32, x_d64, x_s64, x_un, x_lcmp, x_dup, x_pop, x_dup2, x_if, x_cmp, x_sw, swk, x_ald, x_ast, x_alen, x_getf, x_putf, x_inv, x_mm, x_copy, x_iret, x_lret, x_vret, ok1, pu, ct, rcv, rcs, ent0, List.getElem?_cons_zero, List.getElem?_cons_succ, List.getElem?_nil, List.set_cons_zero, List.set_cons_succ, List.take_succ_cons, List.take_zero, List.drop_succ_cons, List.drop_zero, List.reverse_cons, List.reverse_nil, List.nil_append, List.cons_append, List.length_cons, List.length_nil, true_and, and_true, and_self, ne_eq, not_true_eq_false, not_false_eq_true, reduceIte, true_or, or_true, false_or, or_false, Nat.reduceAdd, Nat.reduceSub, Nat.reduceMul, Nat.reduceLeDiff, Nat.reduceEqDiff, Nat.reduceLT, Nat.le_refl, Nat.zero_le, Int.reduceToNat, Int.reduceAdd, Int.reduceSub, Int.reduceMul, Int.reduceNeg, Int.reduceLT, Int.reduceLE, Int.reduceEq, Nat.zero_add, Nat.add_zero, Nat.reduceBEq, Nat.one_ne_zero, Nat.zero_ne_one, Nat.lt_irrefl, Nat.succ_ne_zero, w32_id, ixc, ixc2, Int.toNat_natCast])
    refine ⟨fun y => y.elim, fun _ => ?_⟩
    have k0 := key (exG q) 0 _ _ m1 (9, 0) (by omega) C2 X2 b2 i2 F1 r8 hQ
    refine S_X2_readPairs_26 _ _ _ _ ?_; simp (disch := omega) only [B_X2_readPairs_26, bi_0, x_ic, x_lc, x_ld, x_st, x_sl, x_inc, x_b32, x_b64, x_d32, x_d64, x_s64, x_un, x_lcmp, x_dup, x_pop, x_dup2, x_if, x_cmp, x_sw, swk, x_ald, x_ast, x_alen, x_getf, x_putf, x_inv, x_mm, x_copy, x_iret, x_lret, x_vret, ok1, pu, ct, rcv, rcs, ent0, List.getElem?_cons_zero, List.getElem?_cons_succ, List.getElem?_nil, List.set_cons_zero, List.set_cons_succ, List.take_succ_cons, List.take_zero, List.drop_succ_cons, List.drop_zero, List.reverse_cons, List.reverse_nil, List.nil_append, List.cons_append, List.length_cons, List.length_nil, true_and, and_true, and_self, ne_eq, not_true_eq_false, not_false_eq_true, reduceIte, true_or, or_true, false_or, or_false, Nat.reduceAdd, Nat.reduceSub, Nat.reduceMul, Nat.reduceLeDiff, Nat.reduceEqDiff, Nat.reduceLT, Nat.le_refl, Nat.zero_le, Int.reduceToNat, Int.reduceAdd, Int.reduceSub, Int.reduceMul, Int.reduceNeg, Int.reduceLT, Int.reduceLE, Int.reduceEq, Nat.zero_add, Nat.add_zero, Nat.reduceBEq, Nat.one_ne_zero, Nat.zero_ne_one, Nat.lt_irrefl, Nat.succ_ne_zero, w32_id, ixc, ixc2, Int.toNat_natCast]
    refine ⟨fun y => ?_, fun y => ?_⟩
    · have q1 : q = 1 := by omega
      have e : exG q = 1 := by rw [q1]; rfl
      rw [e] at k0
      refine S_X2_readPairs_38 _ _ _ _ ?_; simp (disch := omega) only [B_X2_readPairs_38, bi_0, x_ic, x_lc, x_ld, x_st, x_sl, x_inc, x_b32, x_b64, x_d32, x_d64, x_s64, x_un, x_lcmp, x_dup, x_pop, x_dup2, x_if, x_cmp, x_sw, swk, x_ald, x_ast, x_alen, x_getf, x_putf, x_inv, x_mm, x_copy, x_iret, x_lret, x_vret, ok1, pu, ct, rcv, rcs, ent0, List.getElem?_cons_zero, List.getElem?_cons_succ, List.getElem?_nil, List.set_cons_zero, List.set_cons_succ, List.take_succ_cons, List.take_zero, List.drop_succ_cons, List.drop_zero, List.reverse_cons, List.reverse_nil, List.nil_append, List.cons_append, List.length_cons, List.length_nil, true_and, and_true, and_self, ne_eq, not_true_eq_false, not_false_eq_true, reduceIte, true_or, or_true, false_or, or_false, Nat.reduceAdd, Nat.reduceSub, Nat.reduceMul, Nat.reduceLeDiff, Nat.reduceEqDiff, Nat.reduceLT, Nat.le_refl, Nat.zero_le, Int.reduceToNat, Int.reduceAdd, Int.reduceSub, Int.reduceMul, Int.reduceNeg, Int.reduceLT, Int.reduceLE, Int.reduceEq, Nat.zero_add, Nat.add_zero, Nat.reduceBEq, Nat.one_ne_zero, Nat.zero_ne_one, Nat.lt_irrefl, Nat.succ_ne_zero, w32_id, ixc, ixc2, Int.toNat_natCast]
      exact k0
    · have q1 : q ≠ 1 := by omega
      have e : exG q = 1000 := by unfold exG; rw [if_neg q1]
      rw [e] at k0
      refine S_X2_readPairs_35 _ _ _ _ ?_; simp (disch := omega) only [B_X2_readPairs_35, bi_0, x_ic, x_lc, x_ld, x_st, x_sl, x_inc, x_b32, x_b64, x_d32, x_d64, x_s64, x_un, x_lcmp, x_dup, x_pop, x_dup2, x_if, x_cmp, x_sw, swk, x_ald, x_ast, x_alen, x_getf, x_putf, x_inv, x_mm, x_copy, x_iret, x_lret, x_vret, ok1, pu, ct, rcv, rcs, ent0, List.getElem?_cons_zero, List.getElem?_cons_succ, List.getElem?_nil, List.set_cons_zero, List.set_cons_succ, List.take_succ_cons, List.take_zero, List.drop_succ_cons, List.drop_zero, List.reverse_cons, List.reverse_nil, List.nil_append, List.cons_append, List.length_cons, List.length_nil, true_and, and_true, and_self, ne_eq, not_true_eq_false, not_false_eq_true, reduceIte, true_or, or_true, false_or, or_false, Nat.reduceAdd, Nat.reduceSub, Nat.reduceMul, Nat.reduceLeDiff, Nat.reduceEqDiff, Nat.reduceLT, Nat.le_refl, Nat.zero_le, Int.reduceToNat, Int.reduceAdd, Int.reduceSub, Int.reduceMul, Int.reduceNeg, Int.reduceLT, Int.reduceLE, Int.reduceEq, Nat.zero_add, Nat.add_zero, Nat.reduceBEq, Nat.one_ne_zero, Nat.zero_ne_one, Nat.lt_irrefl, Nat.succ_ne_zero, w32_id, ixc, ixc2, Int.toNat_natCast]
      refine S_X2_readPairs_38 _ _ _ _ ?_; simp (disch := omega) only [B_X2_readPairs_38, bi_0, x_ic, x_lc, x_ld, x_st, x_sl, x_inc, x_b32, x_b64, x_d32, x_d64, x_s64, x_un, x_lcmp, x_dup, x_pop, x_dup2, x_if, x_cmp, x_sw, swk, x_ald, x_ast, x_alen, x_getf, x_putf, x_inv, x_mm, x_copy, x_iret, x_lret, x_vret, ok1, pu, ct, rcv, rcs, ent0, List.getElem?_cons_zero, List.getElem?_cons_succ, List.getElem?_nil, List.set_cons_zero, List.set_cons_succ, List.take_succ_cons, List.take_zero, List.drop_succ_cons, List.drop_zero, List.reverse_cons, List.reverse_nil, List.nil_append, List.cons_append, List.length_cons, List.length_nil, true_and, and_true, and_self, ne_eq, not_true_eq_false, not_false_eq_true, reduceIte, true_or, or_true, false_or, or_false, Nat.reduceAdd, Nat.reduceSub, Nat.reduceMul, Nat.reduceLeDiff, Nat.reduceEqDiff, Nat.reduceLT, Nat.le_refl, Nat.zero_le, Int.reduceToNat, Int.reduceAdd, Int.reduceSub, Int.reduceMul, Int.reduceNeg, Int.reduceLT, Int.reduceLE, Int.reduceEq, Nat.zero_add, Nat.add_zero, Nat.reduceBEq, Nat.one_ne_zero, Nat.zero_ne_one, Nat.lt_irrefl, Nat.succ_ne_zero, w32_id, ixc, ixc2, Int.toNat_natCast]
      exact k0
  · rw [iF_f r1] at hQ
    (try simp (disch := omega) only [bi_0, x_ic, x_lc, x_ld, x_st, x_sl, x_inc, x_b32, x_b64, x_d32, x_d64, x_s64, x_un, x_lcmp, x_dup, x_pop, x_dup2, x_if, x_cmp, x_sw, swk, x_ald, x_ast, x_alen, x_getf, x_putf, x_inv, x_mm, x_copy, x_iret, x_lret, x_vret, ok1, pu, ct, rcv, rcs, ent0, List.getElem?_cons_zero, List.getElem?_cons_succ, List.getElem?_nil, List.set_cons_zero, List.set_cons_succ, List.take_succ_cons, List.take_zero, List.drop_succ_cons, List.drop_zero, List.reverse_cons, List.reverse_nil, List.nil_append, List.cons_append, List.length_cons, List.length_nil, true_and, and_true, and_self, ne_eq, not_true_eq_false, not_false_eq_true, reduceIte, true_or, or_true, false_or, or_false, Nat.reduceAdd, Nat.reduceSub, Nat.reduceMul, Nat.reduceLeDiff, Nat.reduceEqDiff, Nat.reduceLT, Nat.le_refl, Nat.zero_le, Int.reduceToNat, Int.reduceAdd, Int.reduceSub, Int.reduceMul, Int.reduceNeg, Int.reduceLT, Int.reduceLE, Int.reduceEq, Nat.zero_add, Nat.add_zero, Nat.reduceBEq, Nat.one_ne_zero, Nat.zero_ne_one, Nat.lt_irrefl, Nat.succ_ne_zero, w32_id, ixc, ixc2, Int.toNat_natCast])
    refine ⟨fun _ => ?_, fun y => y.elim⟩
    exact hQ _ _ _ ⟨rfl, F1, Or.inr ⟨r1, rfl, r8⟩⟩
end CLW

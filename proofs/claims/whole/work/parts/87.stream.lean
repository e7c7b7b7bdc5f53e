/-! the tokens of a text, told once for both -/
theorem first_not {P : Nat → Prop} {k n : Nat} (hk : k ≤ n) : ∃ p, k ≤ p ∧ p ≤ n ∧ (∀ j, k ≤ j → j < p → P j) ∧ (p < n → ¬ P p) := by
  have key : ∀ g k, k + g = n → ∃ p, k ≤ p ∧ p ≤ n ∧ (∀ j, k ≤ j → j < p → P j) ∧ (p < n → ¬ P p) := by
    intro g
    induction g with
    | zero => intro k hk; exact ⟨k, Nat.le_refl _, by omega, fun j h1 h2 => absurd h2 (by omega), fun q => absurd q (by omega)⟩
    | succ g ih =>
      intro k hk
      by_cases h : P k
      · obtain ⟨p, h1, h2, h3, h4⟩ := ih (k + 1) (by omega)
        refine ⟨p, by omega, h2, fun j a b => ?_, h4⟩
        by_cases e : j = k
        · rw [e]; exact h
        · exact h3 j (by omega) b
      · exact ⟨k, Nat.le_refl _, by omega, fun j h1 h2 => absurd h2 (by omega), fun _ => h⟩
  exact key (n - k) k (by omega)
theorem Tok_ex (s : Nat → Int) {k n : Nat} (hk : k ≤ n) : ∃ (p e : Nat) (st v : Int), Tok s n k p e st v := by
  obtain ⟨p, h1, h2, h3, h4⟩ := first_not (P := fun j => isSp (s j)) hk
  by_cases hp : p = n
  · exact ⟨p, n, 0, 0, ⟨h1, h2, h3⟩, Or.inl ⟨hp, rfl, rfl⟩⟩
  have hpn : p < n := by omega
  by_cases hl : isLt (s p)
  · obtain ⟨e, e1, e2, e3, e4⟩ := first_not (P := fun j => isLt (s j)) (k := p) (n := n) h2
    have : p ≠ e := fun q => by rw [← q] at e4; exact e4 hpn hl
    exact ⟨p, e, if p + 8 < e then 4 else 1, cdN 37 96 s p (e - p), ⟨h1, h2, h3⟩, Or.inr (Or.inl ⟨hpn, hl, ⟨by omega, e2, e3, e4⟩, rfl, fun _ => rfl⟩)⟩
  by_cases hd : isDg (s p)
  · obtain ⟨e, e1, e2, e3, e4⟩ := first_not (P := fun j => isDg (s j)) (k := p) (n := n) h2
    have : p ≠ e := fun q => by rw [← q] at e4; exact e4 hpn hd
    exact ⟨p, e, if p + 4 < e then 4 else 2, cdN 10 48 s p (e - p), ⟨h1, h2, h3⟩, Or.inr (Or.inr (Or.inl ⟨hpn, hd, ⟨by omega, e2, e3, e4⟩, rfl, fun _ => rfl⟩))⟩
  by_cases hs : isSg (s p)
  · exact ⟨p, p + 1, 3, s p, ⟨h1, h2, h3⟩, Or.inr (Or.inr (Or.inr ⟨hpn, ⟨h4 hpn, hl, hd⟩, rfl, rfl, Or.inl ⟨hs, rfl⟩⟩))⟩
  · exact ⟨p, p + 1, 4, s p, ⟨h1, h2, h3⟩, Or.inr (Or.inr (Or.inr ⟨hpn, ⟨h4 hpn, hl, hd⟩, rfl, rfl, Or.inr ⟨hs, rfl⟩⟩))⟩
theorem Tok.le {s : Nat → Int} {n k p e : Nat} {st v : Int} (a : Tok s n k p e st v) : k ≤ p ∧ p ≤ n ∧ e ≤ n ∧ (st ≠ 0 → k < e ∧ p < n) ∧ (st = 0 → p = n) := by
  have a1 := a.1
  rcases a.2 with q | q | q | q
  · exact ⟨a1.1, a1.2.1, by omega, fun x => absurd q.2.1 x, fun _ => q.1⟩
  · refine ⟨a1.1, a1.2.1, q.2.2.1.2.1, fun _ => ⟨by omega, q.1⟩, fun x => ?_⟩
    have := q.2.2.2.1
    split at this <;> omega
  · refine ⟨a1.1, a1.2.1, q.2.2.1.2.1, fun _ => ⟨by omega, q.1⟩, fun x => ?_⟩
    have := q.2.2.2.1
    split at this <;> omega
  · refine ⟨a1.1, a1.2.1, by omega, fun _ => ⟨by omega, q.1⟩, fun x => ?_⟩
    rcases q.2.2.2.2 with y | y <;> omega
/-- a token's place, end, sort and value, told once -/
noncomputable def tkE (s : Nat → Int) (n k : Nat) : Nat × Nat × Int × Int := by
  classical exact if h : ∃ x : Nat × Nat × Int × Int, Tok s n k x.1 x.2.1 x.2.2.1 x.2.2.2 then Classical.choose h else (0, 0, 0, 0)
theorem tkE_t (s : Nat → Int) {n k : Nat} (hk : k ≤ n) : Tok s n k (tkE s n k).1 (tkE s n k).2.1 (tkE s n k).2.2.1 (tkE s n k).2.2.2 := by
  have h : ∃ x : Nat × Nat × Int × Int, Tok s n k x.1 x.2.1 x.2.2.1 x.2.2.2 := by
    obtain ⟨p, e, st, v, t⟩ := Tok_ex s hk
    exact ⟨(p, e, st, v), t⟩
  unfold tkE
  rw [dif_pos h]
  exact Classical.choose_spec h
/-- where each token's reading begins -/
noncomputable def tkB (s : Nat → Int) (n : Nat) : Nat → Nat
  | 0 => 0
  | i + 1 => (tkE s n (tkB s n i)).2.1
noncomputable def tkPl (s : Nat → Int) (n i : Nat) : Nat := (tkE s n (tkB s n i)).1
noncomputable def tkSo (s : Nat → Int) (n i : Nat) : Int := (tkE s n (tkB s n i)).2.2.1
noncomputable def tkVa (s : Nat → Int) (n i : Nat) : Int := (tkE s n (tkB s n i)).2.2.2
theorem tkB_le (s : Nat → Int) (n : Nat) : ∀ i, tkB s n i ≤ n
  | 0 => Nat.zero_le _
  | i + 1 => (tkE_t s (tkB_le s n i)).le.2.2.1
theorem tk_t (s : Nat → Int) (n i : Nat) : Tok s n (tkB s n i) (tkPl s n i) (tkB s n (i + 1)) (tkSo s n i) (tkVa s n i) := tkE_t s (tkB_le s n i)
/-- what the reference has cut is this -/
theorem Cuts.is {s : Nat → Int} {n : Nat} {pos : Nat → Nat} {pl so va : Nat → Int} {t : Nat} (C : Cuts s n pos pl so va t) : (∀ i, i ≤ t → pos i = tkB s n i ∧ pl i = (tkPl s n i : Int) ∧ so i = tkSo s n i ∧ (so i = 1 ∨ so i = 2 ∨ so i = 3 → va i = tkVa s n i)) ∧ (∀ i, i < t → tkSo s n i ≠ 0) ∧ tkSo s n t = 0 := by
  have hb : ∀ i, i ≤ t → pos i = tkB s n i := by
    intro i
    induction i with
    | zero => intro _; exact C.1.1
    | succ i ih =>
      intro hi
      have e := ih (by omega)
      obtain ⟨⟨p, _, T⟩, _, _⟩ := C.1.2 i (by omega)
      rw [e] at T
      exact (T.un (tk_t s n i)).2.1
  have hl : tkPl s n t = n ∧ tkSo s n t = 0 := by
    have T := C.2.2.2.2
    rw [hb t (Nat.le_refl _)] at T
    have u := T.un (tk_t s n t)
    exact ⟨u.1.symm, u.2.2.1.symm⟩
  refine ⟨fun i hi => ?_, fun i hi => ?_, hl.2⟩
  · refine ⟨hb i hi, ?_⟩
    by_cases e : i = t
    · rw [e, C.2.2.1, C.2.2.2.1, hl.1, hl.2]
      exact ⟨rfl, rfl, fun x => absurd x (by decide)⟩
    · obtain ⟨⟨p, h1, T⟩, _, _⟩ := C.1.2 i (by omega)
      rw [hb i hi] at T
      have u := T.un (tk_t s n i)
      exact ⟨by rw [h1, u.1], u.2.2.1, u.2.2.2⟩
  · obtain ⟨⟨p, h1, T⟩, h2, _⟩ := C.1.2 i hi
    rw [hb i (by omega)] at T
    rw [← (T.un (tk_t s n i)).2.2.1]; exact h2
/-- the class stands at a token -/
def CuC (h : Mem) (s : Nat → Int) (n i : Nat) : Prop := TkC h (tkSo s n i) (tkVa s n i) (tkPl s n i) (tkB s n (i + 1))
/-- the class's tape holds the text -/
def TxC (h : Mem) (s : Nat → Int) (n : Nat) : Prop := Lay h ∧ TpC h (s, n) ∧ TpW (s, n) ∧ WdC h
theorem TxC.fs {h h' : Mem} {s : Nat → Int} {n : Nat} (T : TxC h s n) (f : Fs1 h h') : TxC h' s n := ⟨f.lay T.1, f.tp T.2.1, T.2.2.1, f.wd T.2.2.2⟩
theorem KdP.un1 {v v' k : Int} {st : Int} (h : KdP st v k) (e : st = 1 ∨ st = 2 ∨ st = 3 → v = v') : KdP st v' k := by
  rcases h with q | q | q | q | q
  · exact Or.inl q
  · have := e (Or.inl q.1); subst this; exact Or.inr (Or.inl q)
  · exact Or.inr (Or.inr (Or.inl q))
  · have := e (Or.inr (Or.inr q.1)); subst this; exact Or.inr (Or.inr (Or.inr (Or.inl q)))
  · exact Or.inr (Or.inr (Or.inr (Or.inr q)))
theorem TkC.is {h : Mem} {s : Nat → Int} {n i p e : Nat} {st v : Int} (T : Tok s n (tkB s n i) p e st v) (K : TkC h st v p e) : CuC h s n i := by
  have u := T.un (tk_t s n i)
  obtain ⟨k1, k2, k3, k4, k5⟩ := K
  unfold CuC
  rw [← u.1, ← u.2.1, ← u.2.2.1]
  refine ⟨k1, k2, k3.un1 u.2.2.2, fun q => ?_, fun q => ?_⟩
  · rw [k4 q]; exact u.2.2.2 (Or.inr (Or.inl q))
  · rw [← u.2.2.2 (Or.inl q)]; exact k5 q
section SR
variable {l : Launch} {d : Nat} {h : Mem} {s : Nat → Int} {n : Nat}
theorem c_next (T : TxC h s n) {i : Nat} (C : CuC h s n i) : Cl l (d + 3) M_X8_step [(2, 2)] SHP h (fun r sh' h' => r = 0 ∧ sh' = SHP ∧ Fs1 h h' ∧ CuC h' s n (i + 1)) := by
  refine Cl.imp (c_step (l := l) (d := d) T.1 T.2.1 T.2.2.1 T.2.2.2 (tkB_le s n (i + 1)) C.2.1) (fun r sh' h' q => ?_)
  obtain ⟨q1, q2, q3, p, e, st, v, t, k⟩ := q
  exact ⟨q1, q2, q3, k.is t⟩
theorem c_begin (T : TxC h s n) : Cl l (d + 4) M_X8_begin [(2, 2)] SHP h (fun r sh' h' => r = 0 ∧ sh' = SHP ∧ Fs1 (up h 1 8 0) h' ∧ CuC h' s n 0) := by
  refine Cl_hide (fun Q hQ => ?_)
  obtain ⟨T1, T2, T3, T4⟩ := T
  have L2 : Lay (up (up h 1 4 0) 1 8 0) := Lay_upf (Lay_upf T1 (by decide +kernel)) (by decide +kernel)
  have e2 : ∀ i, i ≠ 1 → up (up h 1 4 0) 1 8 0 i = h i := fun i hi => by rw [up_ne hi, up_ne hi]
  have TX2 : TxC (up (up h 1 4 0) 1 8 0) s n := ⟨L2, ⟨by rw [up_nj (by decide), up_nj (by decide)]; exact T2.1, by rw [e2 2 (by decide)]; exact T2.2⟩, T3, by unfold WdC; rw [e2 3 (by decide)]; exact T4⟩
  show V l (d + 4) 0 0 M_X8_begin 0 0 0 Q [(2, 2)] [] SHP h
  refine S_X8_begin_0 _ _ _ _ ?_; simp (disch := omega) only [B_X8_begin_0, bi_0, x_ic, x_lc, x_ld, x_st, x_sl, x_inc, x_b32, x_b64, x_d32, x_d64, x_s64, x_un, x_lcmp, x_dup, x_pop, x_dup2, x_if, x_cmp, x_sw, swk, x_ald, x_ast, x_alen, x_getf, x_putf, x_inv, x_mm, x_copy, x_iret, x_lret, x_vret, ok1, pu, ct, rcv, rcs, ent0, List.getElem?_cons_zero, List.getElem?_cons_succ, List.getElem?_nil, List.set_cons_zero, List.set_cons_succ, List.take_succ_cons, List.take_zero, List.drop_succ_cons, List.drop_zero, List.reverse_cons, List.reverse_nil, List.nil_append, List.cons_append, List.length_cons, List.length_nil, true_and, and_true, and_self, ne_eq, not_true_eq_false, not_false_eq_true, reduceIte, true_or, or_true, false_or, or_false, Nat.reduceAdd, Nat.reduceSub, Nat.reduceMul, Nat.reduceLeDiff, Nat.reduceEqDiff, Nat.reduceLT, Nat.le_refl, Nat.zero_le, Int.reduceToNat, Int.reduceAdd, Int.reduceSub, Int.reduceMul, Int.reduceNeg, Int.reduceLT, Int.reduceLE, Int.reduceEq, Nat.zero_add, Nat.add_zero, Nat.reduceBEq, Nat.one_ne_zero, Nat.zero_ne_one, Nat.lt_irrefl, Nat.succ_ne_zero, w32_id, ixc, ixc2, Int.toNat_natCast, ob_1]
  refine Cl.imp (c_step (l := l) (d := d) TX2.1 TX2.2.1 TX2.2.2.1 TX2.2.2.2 (k := 0) (Nat.zero_le _) (by rw [up_nj (by decide), up_at]; rfl)) (fun r sh' h' q => ?_)
  obtain ⟨rfl, rfl, F, p, e, st, v, t, k⟩ := q
  (try simp (disch := omega) only [bi_0, x_ic, x_lc, x_ld, x_st, x_sl, x_inc, x_b32, x_b64, x_d32, x_d64, x_s64, x_un, x_lcmp, x_dup, x_pop, x_dup2, x_if, x_cmp, x_sw, swk, x_ald, x_ast, x_alen, x_getf, x_putf, x_inv, x_mm, x_copy, x_iret, x_lret, x_vret, ok1, pu, ct, rcv, rcs, ent0, List.getElem?_cons_zero, List.getElem?_cons_succ, List.getElem?_nil, List.set_cons_zero, List.set_cons_succ, List.take_succ_cons, List.take_zero, List.drop_succ_cons, List.drop_zero, List.reverse_cons, List.reverse_nil, List.nil_append, List.cons_append, List.length_cons, List.length_nil, true_and, and_true, and_self, ne_eq, not_true_eq_false, not_false_eq_true, reduceIte, true_or, or_true, false_or, or_false, Nat.reduceAdd, Nat.reduceSub, Nat.reduceMul, Nat.reduceLeDiff, Nat.reduceEqDiff, Nat.reduceLT, Nat.le_refl, Nat.zero_le, Int.reduceToNat, Int.reduceAdd, Int.reduceSub, Int.reduceMul, Int.reduceNeg, Int.reduceLT, Int.reduceLE, Int.reduceEq, Nat.zero_add, Nat.add_zero, Nat.reduceBEq, Nat.one_ne_zero, Nat.zero_ne_one, Nat.lt_irrefl, Nat.succ_ne_zero, w32_id, ixc, ixc2, Int.toNat_natCast])
  refine hQ _ _ _ ⟨rfl, rfl, ?_, k.is (i := 0) t⟩
  refine Fs1.trans ⟨fun i hi => by rw [e2 i hi, up_ne hi], fun j hj => ?_⟩ F
  by_cases e8 : j = 8
  · rw [e8, up_at, up_at]
  · rw [up_nj e8, up_nj e8, up_nj (by omega)]
/-- a fault is told -/
theorem c_wrong {i : Nat} (T : TxC h s n) (C : CuC h s n i) {w : Int} (hw : 1 ≤ w ∧ w ≤ 5) : Cl l (d + 1) M_X8_wrong [(2, 2), (0, w)] SHP h (Rt 0 SHP (up h 1 8 (w + 16 * (tkPl s n i : Int)))) := by
  have c3 := C.1
  have b := (tk_t s n i).le.2.1
  have tw := T.2.2.1.1
  dsimp only at tw
  show V l (d + 1) 0 0 M_X8_wrong 0 0 0 _ [(2, 2), (0, w)] [] SHP h
  refine S_X8_wrong_0 _ _ _ _ ?_; simp (disch := omega) only [B_X8_wrong_0, bi_0, x_ic, x_lc, x_ld, x_st, x_sl, x_inc, x_b32, x_b64, x_d32, x_d64, x_s64, x_un, x_lcmp, x_dup, x_pop, x_dup2, x_if, x_cmp, x_sw, swk, x_ald, x_ast, x_alen, x_getf, x_putf, x_inv, x_mm, x_copy, x_iret, x_lret, x_vret, ok1, pu, ct, rcv, rcs, ent0, List.getElem?_cons_zero, List.getElem?_cons_succ, List.getElem?_nil, List.set_cons_zero, List.set_cons_succ, List.take_succ_cons, List.take_zero, List.drop_succ_cons, List.drop_zero, List.reverse_cons, List.reverse_nil, List.nil_append, List.cons_append, List.length_cons, List.length_nil, true_and, and_true, and_self, ne_eq, not_true_eq_false, not_false_eq_true, reduceIte, true_or, or_true, false_or, or_false, Nat.reduceAdd, Nat.reduceSub, Nat.reduceMul, Nat.reduceLeDiff, Nat.reduceEqDiff, Nat.reduceLT, Nat.le_refl, Nat.zero_le, Int.reduceToNat, Int.reduceAdd, Int.reduceSub, Int.reduceMul, Int.reduceNeg, Int.reduceLT, Int.reduceLE, Int.reduceEq, Nat.zero_add, Nat.add_zero, Nat.reduceBEq, Nat.one_ne_zero, Nat.zero_ne_one, Nat.lt_irrefl, Nat.succ_ne_zero, w32_id, ixc, ixc2, Int.toNat_natCast, ob_1, c3]
  exact Rt_mk rfl
end SR

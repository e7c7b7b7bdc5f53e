/-! the reference: what arrives, what is left -/
/-- sum of g 0 .. g (k - 1) -/
def sm (g : Nat → Int) : Nat → Int
  | 0 => 0
  | k + 1 => sm g k + g k
theorem sm_b {g : Nat → Int} {B : Int} : ∀ {k : Nat}, (∀ i, i < k → 0 ≤ g i ∧ g i ≤ B) → 0 ≤ sm g k ∧ sm g k ≤ k * B
  | 0, _ => ⟨Int.le_refl 0, by unfold sm; omega⟩
  | k + 1, h => by
    have h1 := sm_b (g := g) (B := B) (k := k) (fun i q => h i (by omega))
    have h2 := h k (by omega)
    have e : ((k + 1 : Nat) : Int) * B = k * B + B := by rw [Int.natCast_add, Int.add_mul]; simp
    unfold sm; omega
theorem sm_cong {g g' : Nat → Int} : ∀ {k : Nat}, (∀ i, i < k → g i = g' i) → sm g k = sm g' k
  | 0, _ => rfl
  | k + 1, h => by
    unfold sm; rw [sm_cong (fun i q => h i (by omega)), h k (by omega)]
theorem sm_up {g : Nat → Int} {k : Nat} (m : Nat) (h : ∀ i, k ≤ i → i < k + m → g i = 0) : sm g (k + m) = sm g k := by
  induction m with
  | zero => rfl
  | succ m ih => rw [show k + (m + 1) = (k + m) + 1 by omega, sm, ih (fun i q1 q2 => h i q1 (by omega)), h (k + m) (by omega) (by omega)]; omega
/-- the delays of a flow ahead of a hop -/
def ah (D : Nat → Int) (f k : Nat) : Int := sm (fun j => D (4 * f + j)) k
/-- delays as they may be -/
def DB (D : Nat → Int) : Prop := ∀ i, i < 16 → 0 ≤ D i ∧ D i ≤ 60
theorem ah_b {D : Nat → Int} (hD : DB D) {f k : Nat} (hf : f < 4) (hk : k ≤ 4) : 0 ≤ ah D f k ∧ ah D f k ≤ 240 := by
  have := sm_b (g := fun j => D (4 * f + j)) (B := 60) (k := k) (fun i q => hD _ (by omega))
  unfold ah; omega
def arv (nt D : Nat → Int) (f : Nat) (n t : Int) : Int := vOf nt (sby nt f) (t + ah D f (hop nt f n).toNat)
theorem arv_b {nt D : Nat → Int} (W : WN nt) (hD : DB D) {f : Nat} (hf : (f : Int) < nt 2) (n : Int) {t : Int} (h0 : 0 ≤ t) (h1 : t ≤ 120) : 0 ≤ arv nt D f n t ∧ arv nt D f n t ≤ 40000 := by
  have nf := W.nf
  have hh := W.hpB f hf
  have hs := W.sb f hf
  have hb : (hop nt f n).toNat ≤ 4 := by
    by_cases q : 0 ≤ hop nt f n
    · have := hop_some q; omega
    · omega
  have ha := ah_b hD (show f < 4 by omega) hb
  have := vOf_b (W.wc.2 _ hs.1 hs.2) (t := t + ah D f (hop nt f n).toNat) (by omega) (by omega)
  unfold arv; omega
/-- what arrives at a node of some flows -/
def arS (nt D : Nat → Int) (n : Nat) (P : Nat → Bool) (t : Int) : Int := sm (fun f => if P f then arv nt D f n t else 0) (nt 2).toNat
theorem arS_b {nt D : Nat → Int} (W : WN nt) (hD : DB D) (n : Nat) (P : Nat → Bool) {t : Int} (h0 : 0 ≤ t) (h1 : t ≤ 120) : 0 ≤ arS nt D n P t ∧ arS nt D n P t ≤ 160000 := by
  have nf := W.nf
  have := sm_b (g := fun f => if P f then arv nt D f n t else 0) (B := 40000) (k := (nt 2).toNat) (fun i q => by
    have := arv_b W hD (show (i : Int) < nt 2 by omega) n h0 h1
    (try dsimp only)
    split
    · exact this
    · omega)
  unfold arS; omega
/-- the most so far, 0 at least -/
def mx0 (g : Nat → Int) : Nat → Int
  | 0 => max 0 (g 0)
  | k + 1 => max (mx0 g k) (g (k + 1))
theorem mx0_b {g : Nat → Int} {B : Int} (hB : 0 ≤ B) : ∀ {k : Nat}, (∀ i, i ≤ k → g i ≤ B) → 0 ≤ mx0 g k ∧ mx0 g k ≤ B
  | 0, h => by have := h 0 (Nat.le_refl 0); unfold mx0; omega
  | k + 1, h => by
    have h1 := mx0_b hB (k := k) (fun i q => h i (by omega))
    have h2 := h (k + 1) (Nat.le_refl _)
    unfold mx0; omega
theorem mx0_cong {g g' : Nat → Int} : ∀ {k : Nat}, (∀ i, i ≤ k → g i = g' i) → mx0 g k = mx0 g' k
  | 0, h => by unfold mx0; rw [h 0 (Nat.le_refl 0)]
  | k + 1, h => by unfold mx0; rw [mx0_cong (k := k) (fun i q => h i (by omega)), h (k + 1) (Nat.le_refl _)]
/-- the curve by which a node serves, one being tried -/
def cuT (nt : Nat → Int) (tn tc : Int) (n : Nat) : Int := if (n : Int) = tn then tc else cu nt n
def TrW (nt : Nat → Int) (tn tc : Int) : Prop := tn = -1 ∨ (0 ≤ tc ∧ tc < nt 0)
theorem cuT_b {nt : Nat → Int} (W : WN nt) {tn tc : Int} (ht : TrW nt tn tc) {n : Nat} (hn : (n : Int) < nt 1) : 0 ≤ cuT nt tn tc n ∧ cuT nt tn tc n < nt 0 := by
  have := W.cuB n hn
  unfold cuT
  split
  · rcases ht with h | h
    · omega
    · exact h
  · exact this
def srv (nt : Nat → Int) (tn tc : Int) (n : Nat) (t : Int) : Int := vOf nt (cuT nt tn tc n) t
theorem srv_b {nt : Nat → Int} (W : WN nt) {tn tc : Int} (ht : TrW nt tn tc) {n : Nat} (hn : (n : Int) < nt 1) {t : Int} (h0 : 0 ≤ t) (h1 : t ≤ 120) : 0 ≤ srv nt tn tc n t ∧ srv nt tn tc n t ≤ 20000 := by
  have hc := cuT_b W ht hn
  have := vOf_b (W.wc.2 _ hc.1 hc.2) (t := t) h0 (by omega)
  unfold srv; omega
/-- the others that count, by the node's kind -/
def oth (nt : Nat → Int) (f n : Nat) : Nat → Bool := if kd nt n = 0 then (fun i => ovr nt n i && !(i == f)) else (fun i => ovr nt n i && decide (i < f))
/-- what is left of a node for a flow -/
def lft (nt D : Nat → Int) (tn tc : Int) (f n t : Nat) : Int :=
  if kd nt n = 3 then srv nt tn tc n t / pop6 (ovr nt n) else if kd nt n = 2 then srv nt tn tc n t else mx0 (fun s => srv nt tn tc n s - arS nt D n (oth nt f n) s) t
theorem lft_b {nt D : Nat → Int} (W : WN nt) (hD : DB D) {tn tc : Int} (ht : TrW nt tn tc) {f n : Nat} (hn : (n : Int) < nt 1) {t : Nat} (h1 : t ≤ 120) : 0 ≤ lft nt D tn tc f n t ∧ lft nt D tn tc f n t ≤ 20000 := by
  have hs := srv_b W ht hn (t := (t : Int)) (by omega) (by omega)
  unfold lft
  split
  · have hp := pop6_b (ovr nt n)
    by_cases q : pop6 (ovr nt n) = 0
    · rw [q, Int.ediv_zero]; omega
    · have := ediv_b hs.1 (b := pop6 (ovr nt n)) (by omega); omega
  · split
    · exact hs
    · refine mx0_b (by decide) (fun i hi => ?_)
      have := srv_b W ht hn (t := (i : Int)) (by omega) (by omega)
      have := arS_b W hD n (oth nt f n) (t := (i : Int)) (by omega) (by omega)
      omega
section ML
variable {l : Launch} {d : Nat} {h : Mem}
theorem r_aheadOf (L : Lay h) (hD : DB (h 232)) {f k : Nat} (hf : f < 4) (hk : k ≤ 4) : Cl l (d + 1) M_X11_aheadOf [(2, 215), (0, (f : Int)), (0, (k : Int))] SHP h (Rt (ah (h 232) f k) SHP h) := by
  show V l (d + 1) 0 0 M_X11_aheadOf 0 0 0 _ [(2, 215), (0, (f : Int)), (0, (k : Int)), (9, 0), (9, 0)] [] SHP h
  refine S_X11_aheadOf_0 _ _ _ _ ?_; simp (disch := omega) only [B_X11_aheadOf_0, bi_0, x_ic, x_lc, x_ld, x_st, x_sl, x_inc, x_b32, x_b64, x_d32, x_d64, x_s64, x_un, x_lcmp, x_dup, x_pop, x_dup2, x_if, x_cmp, x_sw, swk, x_ald, x_ast, x_alen, x_getf, x_putf, x_inv, x_mm, x_copy, x_iret, x_lret, x_vret, ok1, pu, ct, rcv, rcs, ent0, List.getElem?_cons_zero, List.getElem?_cons_succ, List.getElem?_nil, List.set_cons_zero, List.set_cons_succ, List.take_succ_cons, List.take_zero, List.drop_succ_cons, List.drop_zero, List.reverse_cons, List.reverse_nil, List.nil_append, List.cons_append, List.length_cons, List.length_nil, true_and, and_true, and_self, ne_eq, not_true_eq_false, not_false_eq_true, reduceIte, true_or, or_true, false_or, or_false, Nat.reduceAdd, Nat.reduceSub, Nat.reduceMul, Nat.reduceLeDiff, Nat.reduceEqDiff, Nat.reduceLT, Nat.le_refl, Nat.zero_le, Int.reduceToNat, Int.reduceAdd, Int.reduceSub, Int.reduceMul, Int.reduceNeg, Int.reduceLT, Int.reduceLE, Int.reduceEq, Nat.zero_add, Nat.add_zero, Nat.reduceBEq, Nat.one_ne_zero, Nat.zero_ne_one, Nat.lt_irrefl, Nat.succ_ne_zero, w32_id, ixc, ixc2, Int.toNat_natCast]
  refine V_it (pc := 5) (fun j => [(2, 215), (0, (f : Int)), (0, (k : Int)), (0, ah (h 232) f j), (0, (j : Int))]) (fun _ => h) k (fun j hj ih => ?_) ?_
  · have h1 := ah_b hD hf (show j ≤ 4 by omega)
    have h2 := hD (4 * f + j) (by omega)
    have j1 : (4 * (f : Int) + (j : Int)).toNat = 4 * f + j := by omega
    refine S_X11_aheadOf_5 _ _ _ _ ?_; simp (disch := omega) only [B_X11_aheadOf_5, bi_0, x_ic, x_lc, x_ld, x_st, x_sl, x_inc, x_b32, x_b64, x_d32, x_d64, x_s64, x_un, x_lcmp, x_dup, x_pop, x_dup2, x_if, x_cmp, x_sw, swk, x_ald, x_ast, x_alen, x_getf, x_putf, x_inv, x_mm, x_copy, x_iret, x_lret, x_vret, ok1, pu, ct, rcv, rcs, ent0, List.getElem?_cons_zero, List.getElem?_cons_succ, List.getElem?_nil, List.set_cons_zero, List.set_cons_succ, List.take_succ_cons, List.take_zero, List.drop_succ_cons, List.drop_zero, List.reverse_cons, List.reverse_nil, List.nil_append, List.cons_append, List.length_cons, List.length_nil, true_and, and_true, and_self, ne_eq, not_true_eq_false, not_false_eq_true, reduceIte, true_or, or_true, false_or, or_false, Nat.reduceAdd, Nat.reduceSub, Nat.reduceMul, Nat.reduceLeDiff, Nat.reduceEqDiff, Nat.reduceLT, Nat.le_refl, Nat.zero_le, Int.reduceToNat, Int.reduceAdd, Int.reduceSub, Int.reduceMul, Int.reduceNeg, Int.reduceLT, Int.reduceLE, Int.reduceEq, Nat.zero_add, Nat.add_zero, Nat.reduceBEq, Nat.one_ne_zero, Nat.zero_ne_one, Nat.lt_irrefl, Nat.succ_ne_zero, w32_id, ixc, ixc2, Int.toNat_natCast, ob_214, ly_214_25 L, ln_232, j1]
    refine ⟨fun z => absurd z (by omega), fun _ => ⟨by omega, ?_⟩⟩
    exact ih
  · refine S_X11_aheadOf_5 _ _ _ _ ?_; simp (disch := omega) only [B_X11_aheadOf_5, bi_0, x_ic, x_lc, x_ld, x_st, x_sl, x_inc, x_b32, x_b64, x_d32, x_d64, x_s64, x_un, x_lcmp, x_dup, x_pop, x_dup2, x_if, x_cmp, x_sw, swk, x_ald, x_ast, x_alen, x_getf, x_putf, x_inv, x_mm, x_copy, x_iret, x_lret, x_vret, ok1, pu, ct, rcv, rcs, ent0, List.getElem?_cons_zero, List.getElem?_cons_succ, List.getElem?_nil, List.set_cons_zero, List.set_cons_succ, List.take_succ_cons, List.take_zero, List.drop_succ_cons, List.drop_zero, List.reverse_cons, List.reverse_nil, List.nil_append, List.cons_append, List.length_cons, List.length_nil, true_and, and_true, and_self, ne_eq, not_true_eq_false, not_false_eq_true, reduceIte, true_or, or_true, false_or, or_false, Nat.reduceAdd, Nat.reduceSub, Nat.reduceMul, Nat.reduceLeDiff, Nat.reduceEqDiff, Nat.reduceLT, Nat.le_refl, Nat.zero_le, Int.reduceToNat, Int.reduceAdd, Int.reduceSub, Int.reduceMul, Int.reduceNeg, Int.reduceLT, Int.reduceLE, Int.reduceEq, Nat.zero_add, Nat.add_zero, Nat.reduceBEq, Nat.one_ne_zero, Nat.zero_ne_one, Nat.lt_irrefl, Nat.succ_ne_zero, w32_id, ixc, ixc2, Int.toNat_natCast]
    refine ⟨fun _ => ?_, fun z => absurd z (by omega)⟩
    refine S_X11_aheadOf_31 _ _ _ _ ?_; simp (disch := omega) only [B_X11_aheadOf_31, bi_0, x_ic, x_lc, x_ld, x_st, x_sl, x_inc, x_b32, x_b64, x_d32, x_d64, x_s64, x_un, x_lcmp, x_dup, x_pop, x_dup2, x_if, x_cmp, x_sw, swk, x_ald, x_ast, x_alen, x_getf, x_putf, x_inv, x_mm, x_copy, x_iret, x_lret, x_vret, ok1, pu, ct, rcv, rcs, ent0, List.getElem?_cons_zero, List.getElem?_cons_succ, List.getElem?_nil, List.set_cons_zero, List.set_cons_succ, List.take_succ_cons, List.take_zero, List.drop_succ_cons, List.drop_zero, List.reverse_cons, List.reverse_nil, List.nil_append, List.cons_append, List.length_cons, List.length_nil, true_and, and_true, and_self, ne_eq, not_true_eq_false, not_false_eq_true, reduceIte, true_or, or_true, false_or, or_false, Nat.reduceAdd, Nat.reduceSub, Nat.reduceMul, Nat.reduceLeDiff, Nat.reduceEqDiff, Nat.reduceLT, Nat.le_refl, Nat.zero_le, Int.reduceToNat, Int.reduceAdd, Int.reduceSub, Int.reduceMul, Int.reduceNeg, Int.reduceLT, Int.reduceLE, Int.reduceEq, Nat.zero_add, Nat.add_zero, Nat.reduceBEq, Nat.one_ne_zero, Nat.zero_ne_one, Nat.lt_irrefl, Nat.succ_ne_zero, w32_id, ixc, ixc2, Int.toNat_natCast]
    exact Rt_mk rfl
theorem r_arrivesAt (L : Lay h) (W : WN (h 220)) (hD : DB (h 232)) {f k : Nat} (hf : (f : Int) < h 220 2) (hk : k ≤ 4) {t : Int} (h0 : 0 ≤ t) (h1 : t ≤ 120) : Cl l (d + 2) M_X11_arrivesAt [(2, 215), (0, (f : Int)), (0, (k : Int)), (0, t)] SHP h (Rt (vOf (h 220) (sby (h 220) f) (t + ah (h 232) f k)) SHP h) := by
  have nf := W.nf
  have ha := ah_b hD (show f < 4 by omega) hk
  have hs := W.sb f hf
  show V l (d + 2) 0 0 M_X11_arrivesAt 0 0 0 _ [(2, 215), (0, (f : Int)), (0, (k : Int)), (0, t)] [] SHP h
  refine S_X11_arrivesAt_0 _ _ _ _ ?_; simp (disch := omega) only [B_X11_arrivesAt_0, bi_0, x_ic, x_lc, x_ld, x_st, x_sl, x_inc, x_b32, x_b64, x_d32, x_d64, x_s64, x_un, x_lcmp, x_dup, x_pop, x_dup2, x_if, x_cmp, x_sw, swk, x_ald, x_ast, x_alen, x_getf, x_putf, x_inv, x_mm, x_copy, x_iret, x_lret, x_vret, ok1, pu, ct, rcv, rcs, ent0, List.getElem?_cons_zero, List.getElem?_cons_succ, List.getElem?_nil, List.set_cons_zero, List.set_cons_succ, List.take_succ_cons, List.take_zero, List.drop_succ_cons, List.drop_zero, List.reverse_cons, List.reverse_nil, List.nil_append, List.cons_append, List.length_cons, List.length_nil, true_and, and_true, and_self, ne_eq, not_true_eq_false, not_false_eq_true, reduceIte, true_or, or_true, false_or, or_false, Nat.reduceAdd, Nat.reduceSub, Nat.reduceMul, Nat.reduceLeDiff, Nat.reduceEqDiff, Nat.reduceLT, Nat.le_refl, Nat.zero_le, Int.reduceToNat, Int.reduceAdd, Int.reduceSub, Int.reduceMul, Int.reduceNeg, Int.reduceLT, Int.reduceLE, Int.reduceEq, Nat.zero_add, Nat.add_zero, Nat.reduceBEq, Nat.one_ne_zero, Nat.zero_ne_one, Nat.lt_irrefl, Nat.succ_ne_zero, w32_id, ixc, ixc2, Int.toNat_natCast, ob_214]
  refine Cl.app (r_sendsBy L (by omega)) ?_
  (try simp (disch := omega) only [bi_0, x_ic, x_lc, x_ld, x_st, x_sl, x_inc, x_b32, x_b64, x_d32, x_d64, x_s64, x_un, x_lcmp, x_dup, x_pop, x_dup2, x_if, x_cmp, x_sw, swk, x_ald, x_ast, x_alen, x_getf, x_putf, x_inv, x_mm, x_copy, x_iret, x_lret, x_vret, ok1, pu, ct, rcv, rcs, ent0, List.getElem?_cons_zero, List.getElem?_cons_succ, List.getElem?_nil, List.set_cons_zero, List.set_cons_succ, List.take_succ_cons, List.take_zero, List.drop_succ_cons, List.drop_zero, List.reverse_cons, List.reverse_nil, List.nil_append, List.cons_append, List.length_cons, List.length_nil, true_and, and_true, and_self, ne_eq, not_true_eq_false, not_false_eq_true, reduceIte, true_or, or_true, false_or, or_false, Nat.reduceAdd, Nat.reduceSub, Nat.reduceMul, Nat.reduceLeDiff, Nat.reduceEqDiff, Nat.reduceLT, Nat.le_refl, Nat.zero_le, Int.reduceToNat, Int.reduceAdd, Int.reduceSub, Int.reduceMul, Int.reduceNeg, Int.reduceLT, Int.reduceLE, Int.reduceEq, Nat.zero_add, Nat.add_zero, Nat.reduceBEq, Nat.one_ne_zero, Nat.zero_ne_one, Nat.lt_irrefl, Nat.succ_ne_zero, w32_id, ixc, ixc2, Int.toNat_natCast, ob_214])
  refine Cl.app (r_aheadOf L hD (by omega) hk) ?_
  (try simp (disch := omega) only [bi_0, x_ic, x_lc, x_ld, x_st, x_sl, x_inc, x_b32, x_b64, x_d32, x_d64, x_s64, x_un, x_lcmp, x_dup, x_pop, x_dup2, x_if, x_cmp, x_sw, swk, x_ald, x_ast, x_alen, x_getf, x_putf, x_inv, x_mm, x_copy, x_iret, x_lret, x_vret, ok1, pu, ct, rcv, rcs, ent0, List.getElem?_cons_zero, List.getElem?_cons_succ, List.getElem?_nil, List.set_cons_zero, List.set_cons_succ, List.take_succ_cons, List.take_zero, List.drop_succ_cons, List.drop_zero, List.reverse_cons, List.reverse_nil, List.nil_append, List.cons_append, List.length_cons, List.length_nil, true_and, and_true, and_self, ne_eq, not_true_eq_false, not_false_eq_true, reduceIte, true_or, or_true, false_or, or_false, Nat.reduceAdd, Nat.reduceSub, Nat.reduceMul, Nat.reduceLeDiff, Nat.reduceEqDiff, Nat.reduceLT, Nat.le_refl, Nat.zero_le, Int.reduceToNat, Int.reduceAdd, Int.reduceSub, Int.reduceMul, Int.reduceNeg, Int.reduceLT, Int.reduceLE, Int.reduceEq, Nat.zero_add, Nat.add_zero, Nat.reduceBEq, Nat.one_ne_zero, Nat.zero_ne_one, Nat.lt_irrefl, Nat.succ_ne_zero, w32_id, ixc, ixc2, Int.toNat_natCast, ob_214])
  refine Cl.app (r_valueOf L (W.wc.2 _ hs.1 hs.2) (by omega) (by omega)) ?_
  exact Rt_mk rfl
theorem r_arrivesOf (L : Lay h) (W : WN (h 220)) (hD : DB (h 232)) {n : Nat} {P : Nat → Bool} (hP : ∀ f, P f = true → ovr (h 220) n f = true) {t : Int} (h0 : 0 ≤ t) (h1 : t ≤ 120) : Cl l (d + 3) M_X11_arrivesOf [(2, 215), (0, (n : Int)), (0, v6 P), (0, t)] SHP h (Rt (arS (h 220) (h 232) n P t) SHP h) := by
  have nf := W.nf
  show V l (d + 3) 0 0 M_X11_arrivesOf 0 0 0 _ [(2, 215), (0, (n : Int)), (0, v6 P), (0, t), (9, 0), (9, 0)] [] SHP h
  refine S_X11_arrivesOf_0 _ _ _ _ ?_; simp (disch := omega) only [B_X11_arrivesOf_0, bi_0, x_ic, x_lc, x_ld, x_st, x_sl, x_inc, x_b32, x_b64, x_d32, x_d64, x_s64, x_un, x_lcmp, x_dup, x_pop, x_dup2, x_if, x_cmp, x_sw, swk, x_ald, x_ast, x_alen, x_getf, x_putf, x_inv, x_mm, x_copy, x_iret, x_lret, x_vret, ok1, pu, ct, rcv, rcs, ent0, List.getElem?_cons_zero, List.getElem?_cons_succ, List.getElem?_nil, List.set_cons_zero, List.set_cons_succ, List.take_succ_cons, List.take_zero, List.drop_succ_cons, List.drop_zero, List.reverse_cons, List.reverse_nil, List.nil_append, List.cons_append, List.length_cons, List.length_nil, true_and, and_true, and_self, ne_eq, not_true_eq_false, not_false_eq_true, reduceIte, true_or, or_true, false_or, or_false, Nat.reduceAdd, Nat.reduceSub, Nat.reduceMul, Nat.reduceLeDiff, Nat.reduceEqDiff, Nat.reduceLT, Nat.le_refl, Nat.zero_le, Int.reduceToNat, Int.reduceAdd, Int.reduceSub, Int.reduceMul, Int.reduceNeg, Int.reduceLT, Int.reduceLE, Int.reduceEq, Nat.zero_add, Nat.add_zero, Nat.reduceBEq, Nat.one_ne_zero, Nat.zero_ne_one, Nat.lt_irrefl, Nat.succ_ne_zero, w32_id, ixc, ixc2, Int.toNat_natCast]
  generalize hg : (fun f => if P f then arv (h 220) (h 232) f n t else 0) = g
  have gb : ∀ f : Nat, (f : Int) < h 220 2 → 0 ≤ g f ∧ g f ≤ 40000 := fun f hf => by
    have := arv_b W hD hf n h0 h1
    rw [← hg]; dsimp only
    split
    · exact this
    · omega
  refine V_it (pc := 6) (fun f => [(2, 215), (0, (n : Int)), (0, v6 P), (0, t), (0, sm g f), (0, (f : Int))]) (fun _ => h) (h 220 2).toNat (fun f hf ih => ?_) ?_
  · have b1 := sm_b (g := g) (B := 40000) (k := f) (fun i q => gb i (by omega))
    have b2 := gb f (by omega)
    refine S_X11_arrivesOf_6 _ _ _ _ ?_; simp (disch := omega) only [B_X11_arrivesOf_6, bi_0, x_ic, x_lc, x_ld, x_st, x_sl, x_inc, x_b32, x_b64, x_d32, x_d64, x_s64, x_un, x_lcmp, x_dup, x_pop, x_dup2, x_if, x_cmp, x_sw, swk, x_ald, x_ast, x_alen, x_getf, x_putf, x_inv, x_mm, x_copy, x_iret, x_lret, x_vret, ok1, pu, ct, rcv, rcs, ent0, List.getElem?_cons_zero, List.getElem?_cons_succ, List.getElem?_nil, List.set_cons_zero, List.set_cons_succ, List.take_succ_cons, List.take_zero, List.drop_succ_cons, List.drop_zero, List.reverse_cons, List.reverse_nil, List.nil_append, List.cons_append, List.length_cons, List.length_nil, true_and, and_true, and_self, ne_eq, not_true_eq_false, not_false_eq_true, reduceIte, true_or, or_true, false_or, or_false, Nat.reduceAdd, Nat.reduceSub, Nat.reduceMul, Nat.reduceLeDiff, Nat.reduceEqDiff, Nat.reduceLT, Nat.le_refl, Nat.zero_le, Int.reduceToNat, Int.reduceAdd, Int.reduceSub, Int.reduceMul, Int.reduceNeg, Int.reduceLT, Int.reduceLE, Int.reduceEq, Nat.zero_add, Nat.add_zero, Nat.reduceBEq, Nat.one_ne_zero, Nat.zero_ne_one, Nat.lt_irrefl, Nat.succ_ne_zero, w32_id, ixc, ixc2, Int.toNat_natCast, ob_214]
    refine Cl.app (r_flows L) ?_
    (try simp (disch := omega) only [bi_0, x_ic, x_lc, x_ld, x_st, x_sl, x_inc, x_b32, x_b64, x_d32, x_d64, x_s64, x_un, x_lcmp, x_dup, x_pop, x_dup2, x_if, x_cmp, x_sw, swk, x_ald, x_ast, x_alen, x_getf, x_putf, x_inv, x_mm, x_copy, x_iret, x_lret, x_vret, ok1, pu, ct, rcv, rcs, ent0, List.getElem?_cons_zero, List.getElem?_cons_succ, List.getElem?_nil, List.set_cons_zero, List.set_cons_succ, List.take_succ_cons, List.take_zero, List.drop_succ_cons, List.drop_zero, List.reverse_cons, List.reverse_nil, List.nil_append, List.cons_append, List.length_cons, List.length_nil, true_and, and_true, and_self, ne_eq, not_true_eq_false, not_false_eq_true, reduceIte, true_or, or_true, false_or, or_false, Nat.reduceAdd, Nat.reduceSub, Nat.reduceMul, Nat.reduceLeDiff, Nat.reduceEqDiff, Nat.reduceLT, Nat.le_refl, Nat.zero_le, Int.reduceToNat, Int.reduceAdd, Int.reduceSub, Int.reduceMul, Int.reduceNeg, Int.reduceLT, Int.reduceLE, Int.reduceEq, Nat.zero_add, Nat.add_zero, Nat.reduceBEq, Nat.one_ne_zero, Nat.zero_ne_one, Nat.lt_irrefl, Nat.succ_ne_zero, w32_id, ixc, ixc2, Int.toNat_natCast, ob_214])
    rw [v6_bit P (show f < 6 by omega)]
    refine ⟨fun z => absurd z (by omega), fun _ => ⟨fun e => ?_, fun e => ?_⟩⟩
    · have hpf : P f = true := by
        cases hq : P f
        · rw [hq] at e; exact absurd e (by decide)
        · rfl
      have ho := hP f hpf
      have hh : 0 ≤ hop (h 220) f n := by
        unfold ovr at ho
        simp only [Bool.and_eq_true, decide_eq_true_eq] at ho
        exact ho.2
      have hs := hop_some hh
      have hb := W.hpB f (by omega)
      have eg : g f = vOf (h 220) (sby (h 220) f) (t + ah (h 232) f (hop (h 220) f n).toNat) := by rw [← hg]; dsimp only; rw [if_pos hpf]; rfl
      refine Cl.app (r_hopAt L W (by omega) _) ?_
      (try simp (disch := omega) only [bi_0, x_ic, x_lc, x_ld, x_st, x_sl, x_inc, x_b32, x_b64, x_d32, x_d64, x_s64, x_un, x_lcmp, x_dup, x_pop, x_dup2, x_if, x_cmp, x_sw, swk, x_ald, x_ast, x_alen, x_getf, x_putf, x_inv, x_mm, x_copy, x_iret, x_lret, x_vret, ok1, pu, ct, rcv, rcs, ent0, List.getElem?_cons_zero, List.getElem?_cons_succ, List.getElem?_nil, List.set_cons_zero, List.set_cons_succ, List.take_succ_cons, List.take_zero, List.drop_succ_cons, List.drop_zero, List.reverse_cons, List.reverse_nil, List.nil_append, List.cons_append, List.length_cons, List.length_nil, true_and, and_true, and_self, ne_eq, not_true_eq_false, not_false_eq_true, reduceIte, true_or, or_true, false_or, or_false, Nat.reduceAdd, Nat.reduceSub, Nat.reduceMul, Nat.reduceLeDiff, Nat.reduceEqDiff, Nat.reduceLT, Nat.le_refl, Nat.zero_le, Int.reduceToNat, Int.reduceAdd, Int.reduceSub, Int.reduceMul, Int.reduceNeg, Int.reduceLT, Int.reduceLE, Int.reduceEq, Nat.zero_add, Nat.add_zero, Nat.reduceBEq, Nat.one_ne_zero, Nat.zero_ne_one, Nat.lt_irrefl, Nat.succ_ne_zero, w32_id, ixc, ixc2, Int.toNat_natCast, ob_214])
      rw [show hop (h 220) f n = ((hop (h 220) f n).toNat : Int) by omega]
      refine Cl.app (r_arrivesAt L W hD (by omega) (by omega) h0 h1) ?_
      rw [← eg]
      (try simp (disch := omega) only [bi_0, x_ic, x_lc, x_ld, x_st, x_sl, x_inc, x_b32, x_b64, x_d32, x_d64, x_s64, x_un, x_lcmp, x_dup, x_pop, x_dup2, x_if, x_cmp, x_sw, swk, x_ald, x_ast, x_alen, x_getf, x_putf, x_inv, x_mm, x_copy, x_iret, x_lret, x_vret, ok1, pu, ct, rcv, rcs, ent0, List.getElem?_cons_zero, List.getElem?_cons_succ, List.getElem?_nil, List.set_cons_zero, List.set_cons_succ, List.take_succ_cons, List.take_zero, List.drop_succ_cons, List.drop_zero, List.reverse_cons, List.reverse_nil, List.nil_append, List.cons_append, List.length_cons, List.length_nil, true_and, and_true, and_self, ne_eq, not_true_eq_false, not_false_eq_true, reduceIte, true_or, or_true, false_or, or_false, Nat.reduceAdd, Nat.reduceSub, Nat.reduceMul, Nat.reduceLeDiff, Nat.reduceEqDiff, Nat.reduceLT, Nat.le_refl, Nat.zero_le, Int.reduceToNat, Int.reduceAdd, Int.reduceSub, Int.reduceMul, Int.reduceNeg, Int.reduceLT, Int.reduceLE, Int.reduceEq, Nat.zero_add, Nat.add_zero, Nat.reduceBEq, Nat.one_ne_zero, Nat.zero_ne_one, Nat.lt_irrefl, Nat.succ_ne_zero, w32_id, ixc, ixc2, Int.toNat_natCast])
      refine S_X11_arrivesOf_45 _ _ _ _ ?_; simp (disch := omega) only [B_X11_arrivesOf_45, bi_0, x_ic, x_lc, x_ld, x_st, x_sl, x_inc, x_b32, x_b64, x_d32, x_d64, x_s64, x_un, x_lcmp, x_dup, x_pop, x_dup2, x_if, x_cmp, x_sw, swk, x_ald, x_ast, x_alen, x_getf, x_putf, x_inv, x_mm, x_copy, x_iret, x_lret, x_vret, ok1, pu, ct, rcv, rcs, ent0, List.getElem?_cons_zero, List.getElem?_cons_succ, List.getElem?_nil, List.set_cons_zero, List.set_cons_succ, List.take_succ_cons, List.take_zero, List.drop_succ_cons, List.drop_zero, List.reverse_cons, List.reverse_nil, List.nil_append, List.cons_append, List.length_cons, List.length_nil, true_and, and_true, and_self, ne_eq, not_true_eq_false, not_false_eq_true, reduceIte, true_or, or_true, false_or, or_false, Nat.reduceAdd, Nat.reduceSub, Nat.reduceMul, Nat.reduceLeDiff, Nat.reduceEqDiff, Nat.reduceLT, Nat.le_refl, Nat.zero_le, Int.reduceToNat, Int.reduceAdd, Int.reduceSub, Int.reduceMul, Int.reduceNeg, Int.reduceLT, Int.reduceLE, Int.reduceEq, Nat.zero_add, Nat.add_zero, Nat.reduceBEq, Nat.one_ne_zero, Nat.zero_ne_one, Nat.lt_irrefl, Nat.succ_ne_zero, w32_id, ixc, ixc2, Int.toNat_natCast]
      exact ih
    · have hpf : P f = false := by
        cases hq : P f
        · rfl
        · rw [hq] at e; exact absurd rfl e
      have eg : g f = 0 := by rw [← hg]; dsimp only; rw [hpf]; rfl
      refine S_X11_arrivesOf_44 _ _ _ _ ?_; simp (disch := omega) only [B_X11_arrivesOf_44, bi_0, x_ic, x_lc, x_ld, x_st, x_sl, x_inc, x_b32, x_b64, x_d32, x_d64, x_s64, x_un, x_lcmp, x_dup, x_pop, x_dup2, x_if, x_cmp, x_sw, swk, x_ald, x_ast, x_alen, x_getf, x_putf, x_inv, x_mm, x_copy, x_iret, x_lret, x_vret, ok1, pu, ct, rcv, rcs, ent0, List.getElem?_cons_zero, List.getElem?_cons_succ, List.getElem?_nil, List.set_cons_zero, List.set_cons_succ, List.take_succ_cons, List.take_zero, List.drop_succ_cons, List.drop_zero, List.reverse_cons, List.reverse_nil, List.nil_append, List.cons_append, List.length_cons, List.length_nil, true_and, and_true, and_self, ne_eq, not_true_eq_false, not_false_eq_true, reduceIte, true_or, or_true, false_or, or_false, Nat.reduceAdd, Nat.reduceSub, Nat.reduceMul, Nat.reduceLeDiff, Nat.reduceEqDiff, Nat.reduceLT, Nat.le_refl, Nat.zero_le, Int.reduceToNat, Int.reduceAdd, Int.reduceSub, Int.reduceMul, Int.reduceNeg, Int.reduceLT, Int.reduceLE, Int.reduceEq, Nat.zero_add, Nat.add_zero, Nat.reduceBEq, Nat.one_ne_zero, Nat.zero_ne_one, Nat.lt_irrefl, Nat.succ_ne_zero, w32_id, ixc, ixc2, Int.toNat_natCast]
      refine S_X11_arrivesOf_45 _ _ _ _ ?_; simp (disch := omega) only [B_X11_arrivesOf_45, bi_0, x_ic, x_lc, x_ld, x_st, x_sl, x_inc, x_b32, x_b64, x_d32, x_d64, x_s64, x_un, x_lcmp, x_dup, x_pop, x_dup2, x_if, x_cmp, x_sw, swk, x_ald, x_ast, x_alen, x_getf, x_putf, x_inv, x_mm, x_copy, x_iret, x_lret, x_vret, ok1, pu, ct, rcv, rcs, ent0, List.getElem?_cons_zero, List.getElem?_cons_succ, List.getElem?_nil, List.set_cons_zero, List.set_cons_succ, List.take_succ_cons, List.take_zero, List.drop_succ_cons, List.drop_zero, List.reverse_cons, List.reverse_nil, List.nil_append, List.cons_append, List.length_cons, List.length_nil, true_and, and_true, and_self, ne_eq, not_true_eq_false, not_false_eq_true, reduceIte, true_or, or_true, false_or, or_false, Nat.reduceAdd, Nat.reduceSub, Nat.reduceMul, Nat.reduceLeDiff, Nat.reduceEqDiff, Nat.reduceLT, Nat.le_refl, Nat.zero_le, Int.reduceToNat, Int.reduceAdd, Int.reduceSub, Int.reduceMul, Int.reduceNeg, Int.reduceLT, Int.reduceLE, Int.reduceEq, Nat.zero_add, Nat.add_zero, Nat.reduceBEq, Nat.one_ne_zero, Nat.zero_ne_one, Nat.lt_irrefl, Nat.succ_ne_zero, w32_id, ixc, ixc2, Int.toNat_natCast]
      unfold sm at ih
      rw [eg] at ih
      exact ih
  · refine S_X11_arrivesOf_6 _ _ _ _ ?_; simp (disch := omega) only [B_X11_arrivesOf_6, bi_0, x_ic, x_lc, x_ld, x_st, x_sl, x_inc, x_b32, x_b64, x_d32, x_d64, x_s64, x_un, x_lcmp, x_dup, x_pop, x_dup2, x_if, x_cmp, x_sw, swk, x_ald, x_ast, x_alen, x_getf, x_putf, x_inv, x_mm, x_copy, x_iret, x_lret, x_vret, ok1, pu, ct, rcv, rcs, ent0, List.getElem?_cons_zero, List.getElem?_cons_succ, List.getElem?_nil, List.set_cons_zero, List.set_cons_succ, List.take_succ_cons, List.take_zero, List.drop_succ_cons, List.drop_zero, List.reverse_cons, List.reverse_nil, List.nil_append, List.cons_append, List.length_cons, List.length_nil, true_and, and_true, and_self, ne_eq, not_true_eq_false, not_false_eq_true, reduceIte, true_or, or_true, false_or, or_false, Nat.reduceAdd, Nat.reduceSub, Nat.reduceMul, Nat.reduceLeDiff, Nat.reduceEqDiff, Nat.reduceLT, Nat.le_refl, Nat.zero_le, Int.reduceToNat, Int.reduceAdd, Int.reduceSub, Int.reduceMul, Int.reduceNeg, Int.reduceLT, Int.reduceLE, Int.reduceEq, Nat.zero_add, Nat.add_zero, Nat.reduceBEq, Nat.one_ne_zero, Nat.zero_ne_one, Nat.lt_irrefl, Nat.succ_ne_zero, w32_id, ixc, ixc2, Int.toNat_natCast, ob_214]
    refine Cl.app (r_flows L) ?_
    refine ⟨fun _ => ?_, fun z => absurd z (by omega)⟩
    refine S_X11_arrivesOf_54 _ _ _ _ ?_; simp (disch := omega) only [B_X11_arrivesOf_54, bi_0, x_ic, x_lc, x_ld, x_st, x_sl, x_inc, x_b32, x_b64, x_d32, x_d64, x_s64, x_un, x_lcmp, x_dup, x_pop, x_dup2, x_if, x_cmp, x_sw, swk, x_ald, x_ast, x_alen, x_getf, x_putf, x_inv, x_mm, x_copy, x_iret, x_lret, x_vret, ok1, pu, ct, rcv, rcs, ent0, List.getElem?_cons_zero, List.getElem?_cons_succ, List.getElem?_nil, List.set_cons_zero, List.set_cons_succ, List.take_succ_cons, List.take_zero, List.drop_succ_cons, List.drop_zero, List.reverse_cons, List.reverse_nil, List.nil_append, List.cons_append, List.length_cons, List.length_nil, true_and, and_true, and_self, ne_eq, not_true_eq_false, not_false_eq_true, reduceIte, true_or, or_true, false_or, or_false, Nat.reduceAdd, Nat.reduceSub, Nat.reduceMul, Nat.reduceLeDiff, Nat.reduceEqDiff, Nat.reduceLT, Nat.le_refl, Nat.zero_le, Int.reduceToNat, Int.reduceAdd, Int.reduceSub, Int.reduceMul, Int.reduceNeg, Int.reduceLT, Int.reduceLE, Int.reduceEq, Nat.zero_add, Nat.add_zero, Nat.reduceBEq, Nat.one_ne_zero, Nat.zero_ne_one, Nat.lt_irrefl, Nat.succ_ne_zero, w32_id, ixc, ixc2, Int.toNat_natCast]
    exact Rt_mk (by unfold arS; rw [hg])
end ML

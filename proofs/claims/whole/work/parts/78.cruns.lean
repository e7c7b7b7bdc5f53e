/-! the class: counts, ages, draws, runs -/
theorem gD_list {α : Type} (L : List α) (e : α) : L = (List.range L.length).map (fun i => L.getD i e) := by
  apply gD_ext e
  · rw [List.length_map, List.length_range]
  · intro i hi
    rw [gD_map (fun i => L.getD i e) 0 _ (by rw [List.length_range]; exact hi), gD_rng 0 hi]
theorem plg {α : Type} (L : List α) (e : α) (p : α → Bool) : (pl (fun i => p (L.getD i e)) L.length).length = (L.filter p).length := by
  have h1 : L.filter p = ((List.range L.length).map (fun i => L.getD i e)).filter p := by rw [← gD_list L e]
  rw [h1, List.filter_map, List.length_map]
  rfl
theorem cntU_f (us : List Un) (f : Int) : cntU us f = ((us.filter (fun u => decide ((u.1 : Int) = f))).length : Int) := by
  unfold cntU
  exact congrArg Int.ofNat (plg us (0, 0, 0) (fun u => decide ((u.1 : Int) = f)))
def cqN (nt : Nat → Int) (us : List Un) (f : Int) (n : Nat) : Int := ((pl (fun i => decide ((qL nt us n).getD i 0 / 64 = f)) (qL nt us n).length).length : Int)
def cqS (nt : Nat → Int) (us : List Un) (f : Int) : Nat → Int
  | 0 => 0
  | n + 1 => cqS nt us f n + cqN nt us f n
theorem cqN_f {nt : Nat → Int} {us : List Un} {f : Int} {n : Nat} : cqN nt us f n = (((qL nt us n).filter (fun e => decide (e / 64 = f))).length : Int) := congrArg Int.ofNat (plg (qL nt us n) 0 (fun e => decide (e / 64 = f)))
theorem cqS_u {nt : Nat → Int} {us : List Un} {f : Int} (h : ∀ u, u ∈ us → (0 ≤ nd nt u.1 u.2.1 ∧ nd nt u.1 u.2.1 < 4) ∧ u.2.2 < 64) : cqS nt us f 4 = cntU us f := by
  rw [cntU_f]
  show cqS nt us f 4 = _
  simp only [cqS, cqN_f]
  induction us with
  | nil => rfl
  | cons u us ih =>
    have ih := ih (fun v hv => h v (List.mem_cons_of_mem _ hv))
    have hu := h u List.mem_cons_self
    have ed := (enc_d hu.2).1
    have st : ∀ n : Nat, (((qL nt (u :: us) n).filter (fun e => decide (e / 64 = f))).length : Int) = (((qL nt us n).filter (fun e => decide (e / 64 = f))).length : Int) + (if nd nt u.1 u.2.1 = (n : Int) then (if (u.1 : Int) = f then 1 else 0) else 0) := fun n => by
      unfold qL
      rw [List.filter_cons]
      by_cases e : nd nt u.1 u.2.1 = (n : Int)
      · rw [if_pos (by simp [e]), if_pos e, List.map_cons, List.filter_cons, ed]
        by_cases e2 : (u.1 : Int) = f
        · rw [if_pos (by simp [e2]), if_pos e2]; simp
        · rw [if_neg (by simp [e2]), if_neg e2]; simp
      · rw [if_neg (by simp [e]), if_neg e]; simp
    have sf : (((u :: us).filter (fun u => decide ((u.1 : Int) = f))).length : Int) = ((us.filter (fun u => decide ((u.1 : Int) = f))).length : Int) + (if (u.1 : Int) = f then 1 else 0) := by
      rw [List.filter_cons]
      by_cases e2 : (u.1 : Int) = f
      · rw [if_pos (by simp [e2]), if_pos e2]; simp
      · rw [if_neg (by simp [e2]), if_neg e2]; simp
    have s0 := st 0
    have s1 := st 1
    have s2 := st 2
    have s3 := st 3
    rw [s0, s1, s2, s3, sf, ← ih]
    have := hu.1
    generalize (if (u.1 : Int) = f then (1 : Int) else 0) = z
    have hc : nd nt u.1 u.2.1 = 0 ∨ nd nt u.1 u.2.1 = 1 ∨ nd nt u.1 u.2.1 = 2 ∨ nd nt u.1 u.2.1 = 3 := by omega
    rcases hc with e | e | e | e <;> simp only [e] <;> simp <;> omega
/-- the oldest of a flow among some -/
def OldP (P : Int → Prop) (f r : Int) : Prop := (r = -1 ∧ ∀ e, P e → e / 64 ≠ f) ∨ ∃ e, P e ∧ e / 64 = f ∧ r = e % 64 ∧ ∀ e', P e' → e' / 64 = f → r ≤ e' % 64
theorem OldP.un {P : Int → Prop} {f r r' : Int} (a : OldP P f r) (b : OldP P f r') : r = r' := by
  rcases a with ⟨a1, a2⟩ | ⟨e, a1, a2, a3, a4⟩
  · rcases b with ⟨b1, b2⟩ | ⟨e', b1, b2, b3, b4⟩
    · omega
    · exact absurd b2 (a2 e' b1)
  · rcases b with ⟨b1, b2⟩ | ⟨e', b1, b2, b3, b4⟩
    · exact absurd a2 (b2 e a1)
    · have := a4 e' b1 b2
      have := b4 e a1 a2
      omega
theorem OldP.iff {P P' : Int → Prop} {f r : Int} (a : OldP P f r) (h : ∀ e, P e ↔ P' e) : OldP P' f r := by
  rw [← show P = P' from funext fun e => propext (h e)]; exact a
/-- one more is looked at -/
theorem OldP.add {P : Int → Prop} {f r e : Int} (a : OldP P f r) : (e / 64 = f ∧ (r = -1 ∨ e % 64 < r) → OldP (fun x => P x ∨ x = e) f (e % 64)) ∧ (¬ (e / 64 = f ∧ (r = -1 ∨ e % 64 < r)) → OldP (fun x => P x ∨ x = e) f r) := by
  have em : ∀ x : Int, 0 ≤ x % 64 := fun x => Int.emod_nonneg _ (by decide)
  constructor
  · rintro ⟨h1, h2⟩
    refine Or.inr ⟨e, Or.inr rfl, h1, rfl, fun e' he hf => ?_⟩
    rcases he with he | he
    · rcases a with ⟨a1, a2⟩ | ⟨e0, a1, a2, a3, a4⟩
      · exact absurd hf (a2 e' he)
      · have := a4 e' he hf
        have := em e0
        omega
    · rw [he]; exact Int.le_refl _
  · intro h
    rcases a with ⟨a1, a2⟩ | ⟨e0, a1, a2, a3, a4⟩
    · refine Or.inl ⟨a1, fun x hx => ?_⟩
      rcases hx with hx | hx
      · exact a2 x hx
      · rw [hx]; exact fun q => h ⟨q, Or.inl a1⟩
    · refine Or.inr ⟨e0, Or.inl a1, a2, a3, fun e' he hf => ?_⟩
      rcases he with he | he
      · exact a4 e' he hf
      · rw [he] at hf ⊢
        by_cases q : e % 64 < r
        · exact absurd ⟨hf, Or.inr q⟩ h
        · omega
theorem olR_s {us : List Un} {f : Int} (h : ∀ k, k < us.length → (uA us k).2.2 < 64) : ∀ {k : Nat}, k ≤ us.length → OldP (fun e => ∃ j, j < k ∧ e = enc (uA us j)) f (olR us f k)
  | 0, _ => Or.inl ⟨rfl, fun e ⟨j, hj, _⟩ => absurd hj (Nat.not_lt_zero j)⟩
  | k + 1, hk => by
    have ih := olR_s (f := f) h (k := k) (by omega)
    have ed := enc_d (h k (by omega))
    have ad := ih.add (e := enc (uA us k))
    have ii : ∀ e, ((∃ j, j < k ∧ e = enc (uA us j)) ∨ e = enc (uA us k)) ↔ ∃ j, j < k + 1 ∧ e = enc (uA us j) := fun e => ⟨fun q => by
      rcases q with ⟨j, a, b⟩ | q
      · exact ⟨j, by omega, b⟩
      · exact ⟨k, by omega, q⟩, fun ⟨j, a, b⟩ => by
      by_cases e2 : j = k
      · subst e2; exact Or.inr b
      · exact Or.inl ⟨j, by omega, b⟩⟩
    have rb : olR us f k = -1 ∨ 0 ≤ olR us f k := by
      rcases ih with ⟨a, _⟩ | ⟨e, _, _, a, _⟩
      · exact Or.inl a
      · right; rw [a]; exact Int.emod_nonneg _ (by decide)
    rw [olR]
    by_cases c : ((uA us k).1 : Int) = f ∧ (olR us f k < 0 ∨ ((uA us k).2.2 : Int) < olR us f k)
    · rw [if_pos c]
      have := (ad.1 ⟨by rw [ed.1]; exact c.1, by rw [ed.2]; omega⟩).iff ii
      rw [ed.2] at this; exact this
    · rw [if_neg c]
      exact (ad.2 (fun q => c ⟨by rw [← ed.1]; exact q.1, by rw [ed.2] at q; omega⟩)).iff ii
theorem tkG_b {nt : Nat → Int} {T : TS} : 0 ≤ tkG nt T := by
  unfold tkG mvd
  have : ∀ i, 0 ≤ (mvR nt T (slA nt T) i).2.2.2 := fun i => by
    induction i with
    | zero => exact Int.le_refl 0
    | succ i ih => rw [mvR, mvS]; split <;> dsimp only <;> omega
  exact this _
section CN
variable {l : Launch} {d : Nat} {h : Mem} {tb nb : Nat} {T : TS}
theorem c_latestOfAll (L : Lay h) (ht : Trf tb) : Cl l (d + 1) M_X9_latestOfAll [(2, (tb : Int) + 1)] SHP h (Rt (lmx (h (tb + 20)) 4) SHP h) := by
  have o := tf_ob ht
  show V l (d + 1) 0 0 M_X9_latestOfAll 0 0 0 _ [(2, (tb : Int) + 1), (9, 0), (9, 0)] [] SHP h
  refine S_X9_latestOfAll_0 _ _ _ _ ?_; simp (disch := omega) only [B_X9_latestOfAll_0, bi_0, x_ic, x_lc, x_ld, x_st, x_sl, x_inc, x_b32, x_b64, x_d32, x_d64, x_s64, x_un, x_lcmp, x_dup, x_pop, x_dup2, x_if, x_cmp, x_sw, swk, x_ald, x_ast, x_alen, x_getf, x_putf, x_inv, x_mm, x_copy, x_iret, x_lret, x_vret, ok1, pu, ct, rcv, rcs, ent0, List.getElem?_cons_zero, List.getElem?_cons_succ, List.getElem?_nil, List.set_cons_zero, List.set_cons_succ, List.take_succ_cons, List.take_zero, List.drop_succ_cons, List.drop_zero, List.reverse_cons, List.reverse_nil, List.nil_append, List.cons_append, List.length_cons, List.length_nil, true_and, and_true, and_self, ne_eq, not_true_eq_false, not_false_eq_true, reduceIte, true_or, or_true, false_or, or_false, Nat.reduceAdd, Nat.reduceSub, Nat.reduceMul, Nat.reduceLeDiff, Nat.reduceEqDiff, Nat.reduceLT, Nat.le_refl, Nat.zero_le, Int.reduceToNat, Int.reduceAdd, Int.reduceSub, Int.reduceMul, Int.reduceNeg, Int.reduceLT, Int.reduceLE, Int.reduceEq, Nat.zero_add, Nat.add_zero, Nat.reduceBEq, Nat.one_ne_zero, Nat.zero_ne_one, Nat.lt_irrefl, Nat.succ_ne_zero, w32_id, ixc, ixc2, Int.toNat_natCast]
  refine V_it (pc := 4) (fun i => [(2, (tb : Int) + 1), (0, lmx (h (tb + 20)) i), (0, (i : Int))]) (fun _ => h) 4 (fun i hi ih => ?_) ?_
  · refine S_X9_latestOfAll_4 _ _ _ _ ?_; simp (disch := omega) only [B_X9_latestOfAll_4, bi_0, x_ic, x_lc, x_ld, x_st, x_sl, x_inc, x_b32, x_b64, x_d32, x_d64, x_s64, x_un, x_lcmp, x_dup, x_pop, x_dup2, x_if, x_cmp, x_sw, swk, x_ald, x_ast, x_alen, x_getf, x_putf, x_inv, x_mm, x_copy, x_iret, x_lret, x_vret, ok1, pu, ct, rcv, rcs, ent0, List.getElem?_cons_zero, List.getElem?_cons_succ, List.getElem?_nil, List.set_cons_zero, List.set_cons_succ, List.take_succ_cons, List.take_zero, List.drop_succ_cons, List.drop_zero, List.reverse_cons, List.reverse_nil, List.nil_append, List.cons_append, List.length_cons, List.length_nil, true_and, and_true, and_self, ne_eq, not_true_eq_false, not_false_eq_true, reduceIte, true_or, or_true, false_or, or_false, Nat.reduceAdd, Nat.reduceSub, Nat.reduceMul, Nat.reduceLeDiff, Nat.reduceEqDiff, Nat.reduceLT, Nat.le_refl, Nat.zero_le, Int.reduceToNat, Int.reduceAdd, Int.reduceSub, Int.reduceMul, Int.reduceNeg, Int.reduceLT, Int.reduceLE, Int.reduceEq, Nat.zero_add, Nat.add_zero, Nat.reduceBEq, Nat.one_ne_zero, Nat.zero_ne_one, Nat.lt_irrefl, Nat.succ_ne_zero, w32_id, ixc, ixc2, Int.toNat_natCast, o, tf7 L ht, tl20 ht]
    (repeat' (first | assumption | (with_reducible refine And.intro ?_ ?_) | (refine im (fun hq => ?_); (try (exfalso; omega; done))) | omega))
  · refine S_X9_latestOfAll_4 _ _ _ _ ?_; simp (disch := omega) only [B_X9_latestOfAll_4, bi_0, x_ic, x_lc, x_ld, x_st, x_sl, x_inc, x_b32, x_b64, x_d32, x_d64, x_s64, x_un, x_lcmp, x_dup, x_pop, x_dup2, x_if, x_cmp, x_sw, swk, x_ald, x_ast, x_alen, x_getf, x_putf, x_inv, x_mm, x_copy, x_iret, x_lret, x_vret, ok1, pu, ct, rcv, rcs, ent0, List.getElem?_cons_zero, List.getElem?_cons_succ, List.getElem?_nil, List.set_cons_zero, List.set_cons_succ, List.take_succ_cons, List.take_zero, List.drop_succ_cons, List.drop_zero, List.reverse_cons, List.reverse_nil, List.nil_append, List.cons_append, List.length_cons, List.length_nil, true_and, and_true, and_self, ne_eq, not_true_eq_false, not_false_eq_true, reduceIte, true_or, or_true, false_or, or_false, Nat.reduceAdd, Nat.reduceSub, Nat.reduceMul, Nat.reduceLeDiff, Nat.reduceEqDiff, Nat.reduceLT, Nat.le_refl, Nat.zero_le, Int.reduceToNat, Int.reduceAdd, Int.reduceSub, Int.reduceMul, Int.reduceNeg, Int.reduceLT, Int.reduceLE, Int.reduceEq, Nat.zero_add, Nat.add_zero, Nat.reduceBEq, Nat.one_ne_zero, Nat.zero_ne_one, Nat.lt_irrefl, Nat.succ_ne_zero, w32_id, ixc, ixc2, Int.toNat_natCast]
    (repeat' (first | assumption | (with_reducible refine And.intro ?_ ?_) | (refine im (fun hq => ?_); (try (exfalso; omega; done))) | omega))
    refine S_X9_latestOfAll_26 _ _ _ _ ?_; simp (disch := omega) only [B_X9_latestOfAll_26, bi_0, x_ic, x_lc, x_ld, x_st, x_sl, x_inc, x_b32, x_b64, x_d32, x_d64, x_s64, x_un, x_lcmp, x_dup, x_pop, x_dup2, x_if, x_cmp, x_sw, swk, x_ald, x_ast, x_alen, x_getf, x_putf, x_inv, x_mm, x_copy, x_iret, x_lret, x_vret, ok1, pu, ct, rcv, rcs, ent0, List.getElem?_cons_zero, List.getElem?_cons_succ, List.getElem?_nil, List.set_cons_zero, List.set_cons_succ, List.take_succ_cons, List.take_zero, List.drop_succ_cons, List.drop_zero, List.reverse_cons, List.reverse_nil, List.nil_append, List.cons_append, List.length_cons, List.length_nil, true_and, and_true, and_self, ne_eq, not_true_eq_false, not_false_eq_true, reduceIte, true_or, or_true, false_or, or_false, Nat.reduceAdd, Nat.reduceSub, Nat.reduceMul, Nat.reduceLeDiff, Nat.reduceEqDiff, Nat.reduceLT, Nat.le_refl, Nat.zero_le, Int.reduceToNat, Int.reduceAdd, Int.reduceSub, Int.reduceMul, Int.reduceNeg, Int.reduceLT, Int.reduceLE, Int.reduceEq, Nat.zero_add, Nat.add_zero, Nat.reduceBEq, Nat.one_ne_zero, Nat.zero_ne_one, Nat.lt_irrefl, Nat.succ_ne_zero, w32_id, ixc, ixc2, Int.toNat_natCast]
    exact Rt_mk rfl
theorem c_unitsOf (L : Lay h) (ht : Trf tb) (W : WN (h 220)) (C : CS h tb T) (Tw : TW (h 220) T) (f : Int) : Cl l (d + 1) M_X9_unitsOf [(2, (tb : Int) + 1), (0, f)] SHP h (Rt (cntU (usT T) f) SHP h) := by
  have o := tf_ob ht
  obtain ⟨c1, c2, c3, c4, c5⟩ := id C
  have hl := Tw.2.1
  have hu : ∀ u, u ∈ usT T → (0 ≤ nd (h 220) u.1 u.2.1 ∧ nd (h 220) u.1 u.2.1 < 4) ∧ u.2.2 < 64 := fun u hu => ⟨TX.nd4 W Tw.tx u hu, by
    obtain ⟨k, hk, ek⟩ := memU hu
    have := (Tw.2.2.1 k hk).2.2
    rw [ek] at this
    have := Tw.1
    omega⟩
  rw [← cqS_u hu]
  have ql : ∀ n, (qL (h 220) (usT T) n).length ≤ 40 := fun n => by
    rw [qL_len]; unfold ixs
    have := pl_len (p := atU (h 220) (usT T) n) (m := (usT T).length)
    omega
  have eb : ∀ n i, i < (qL (h 220) (usT T) n).length → 0 ≤ (qL (h 220) (usT T) n).getD i 0 ∧ (qL (h 220) (usT T) n).getD i 0 < 100000 := fun n i hi => by
    have := gD_mem 0 hi
    obtain ⟨u, hu1, hu2⟩ := List.mem_map.mp this
    rw [← hu2]
    have hmem := (List.mem_filter.mp hu1).1
    obtain ⟨k, hk, ek⟩ := memU hmem
    have h1 := (Tw.2.2.1 k hk).1
    rw [ek] at h1
    have := (hu u hmem).2
    have := W.nf
    unfold enc; omega
  have cb : ∀ n, n ≤ 4 → 0 ≤ cqS (h 220) (usT T) f n ∧ cqS (h 220) (usT T) f n ≤ 40 * n := fun n => by
    induction n with
    | zero => intro _; exact ⟨Int.le_refl 0, Int.le_refl 0⟩
    | succ n ih =>
      intro hn
      have ih := ih (by omega)
      have := pl_len (p := fun i => decide ((qL (h 220) (usT T) n).getD i 0 / 64 = f)) (m := (qL (h 220) (usT T) n).length)
      have := ql n
      rw [cqS]; unfold cqN; omega
  show V l (d + 1) 0 0 M_X9_unitsOf 0 0 0 _ [(2, (tb : Int) + 1), (0, f), (9, 0), (9, 0), (9, 0)] [] SHP h
  refine S_X9_unitsOf_0 _ _ _ _ ?_; simp (disch := omega) only [B_X9_unitsOf_0, bi_0, x_ic, x_lc, x_ld, x_st, x_sl, x_inc, x_b32, x_b64, x_d32, x_d64, x_s64, x_un, x_lcmp, x_dup, x_pop, x_dup2, x_if, x_cmp, x_sw, swk, x_ald, x_ast, x_alen, x_getf, x_putf, x_inv, x_mm, x_copy, x_iret, x_lret, x_vret, ok1, pu, ct, rcv, rcs, ent0, List.getElem?_cons_zero, List.getElem?_cons_succ, List.getElem?_nil, List.set_cons_zero, List.set_cons_succ, List.take_succ_cons, List.take_zero, List.drop_succ_cons, List.drop_zero, List.reverse_cons, List.reverse_nil, List.nil_append, List.cons_append, List.length_cons, List.length_nil, true_and, and_true, and_self, ne_eq, not_true_eq_false, not_false_eq_true, reduceIte, true_or, or_true, false_or, or_false, Nat.reduceAdd, Nat.reduceSub, Nat.reduceMul, Nat.reduceLeDiff, Nat.reduceEqDiff, Nat.reduceLT, Nat.le_refl, Nat.zero_le, Int.reduceToNat, Int.reduceAdd, Int.reduceSub, Int.reduceMul, Int.reduceNeg, Int.reduceLT, Int.reduceLE, Int.reduceEq, Nat.zero_add, Nat.add_zero, Nat.reduceBEq, Nat.one_ne_zero, Nat.zero_ne_one, Nat.lt_irrefl, Nat.succ_ne_zero, w32_id, ixc, ixc2, Int.toNat_natCast]
  refine V_it (pc := 4) (fun n => [(2, (tb : Int) + 1), (0, f), (0, cqS (h 220) (usT T) f n), (0, (n : Int)), (9, 0)]) (fun _ => h) 4 (fun n hn ih => ?_) ?_
  · obtain ⟨q1, q2⟩ := c2 n hn
    have cbn := cb n (by omega)
    refine S_X9_unitsOf_4 _ _ _ _ ?_; simp (disch := omega) only [B_X9_unitsOf_4, bi_0, x_ic, x_lc, x_ld, x_st, x_sl, x_inc, x_b32, x_b64, x_d32, x_d64, x_s64, x_un, x_lcmp, x_dup, x_pop, x_dup2, x_if, x_cmp, x_sw, swk, x_ald, x_ast, x_alen, x_getf, x_putf, x_inv, x_mm, x_copy, x_iret, x_lret, x_vret, ok1, pu, ct, rcv, rcs, ent0, List.getElem?_cons_zero, List.getElem?_cons_succ, List.getElem?_nil, List.set_cons_zero, List.set_cons_succ, List.take_succ_cons, List.take_zero, List.drop_succ_cons, List.drop_zero, List.reverse_cons, List.reverse_nil, List.nil_append, List.cons_append, List.length_cons, List.length_nil, true_and, and_true, and_self, ne_eq, not_true_eq_false, not_false_eq_true, reduceIte, true_or, or_true, false_or, or_false, Nat.reduceAdd, Nat.reduceSub, Nat.reduceMul, Nat.reduceLeDiff, Nat.reduceEqDiff, Nat.reduceLT, Nat.le_refl, Nat.zero_le, Int.reduceToNat, Int.reduceAdd, Int.reduceSub, Int.reduceMul, Int.reduceNeg, Int.reduceLT, Int.reduceLE, Int.reduceEq, Nat.zero_add, Nat.add_zero, Nat.reduceBEq, Nat.one_ne_zero, Nat.zero_ne_one, Nat.lt_irrefl, Nat.succ_ne_zero, w32_id, ixc, ixc2, Int.toNat_natCast]
    refine ⟨fun z => absurd z (by omega), fun _ => ?_⟩
    refine V_is (pc := 12) (fun i => [(2, (tb : Int) + 1), (0, f), (0, cqS (h 220) (usT T) f n + ((pl (fun i => decide ((qL (h 220) (usT T) n).getD i 0 / 64 = f)) i).length : Int)), (0, (n : Int)), (0, (i : Int))]) (fun _ => h) (qL (h 220) (usT T) n).length (by simp [pl]) rfl (fun i hi ih2 => ?_) ?_
    · have v := q2 i hi
      have e1 := eb n i hi
      have d1 : dv32 ((qL (h 220) (usT T) n).getD i 0) 64 = (qL (h 220) (usT T) n).getD i 0 / 64 := dv32_pos e1.1 (by omega) (by decide) (by decide)
      have pb := pl_len (p := fun i => decide ((qL (h 220) (usT T) n).getD i 0 / 64 = f)) (m := i)
      have ql1 := ql n
      rw [pl_cn, ← Int.add_assoc] at ih2
      refine S_X9_unitsOf_12 _ _ _ _ ?_; simp (disch := omega) only [B_X9_unitsOf_12, bi_0, x_ic, x_lc, x_ld, x_st, x_sl, x_inc, x_b32, x_b64, x_d32, x_d64, x_s64, x_un, x_lcmp, x_dup, x_pop, x_dup2, x_if, x_cmp, x_sw, swk, x_ald, x_ast, x_alen, x_getf, x_putf, x_inv, x_mm, x_copy, x_iret, x_lret, x_vret, ok1, pu, ct, rcv, rcs, ent0, List.getElem?_cons_zero, List.getElem?_cons_succ, List.getElem?_nil, List.set_cons_zero, List.set_cons_succ, List.take_succ_cons, List.take_zero, List.drop_succ_cons, List.drop_zero, List.reverse_cons, List.reverse_nil, List.nil_append, List.cons_append, List.length_cons, List.length_nil, true_and, and_true, and_self, ne_eq, not_true_eq_false, not_false_eq_true, reduceIte, true_or, or_true, false_or, or_false, Nat.reduceAdd, Nat.reduceSub, Nat.reduceMul, Nat.reduceLeDiff, Nat.reduceEqDiff, Nat.reduceLT, Nat.le_refl, Nat.zero_le, Int.reduceToNat, Int.reduceAdd, Int.reduceSub, Int.reduceMul, Int.reduceNeg, Int.reduceLT, Int.reduceLE, Int.reduceEq, Nat.zero_add, Nat.add_zero, Nat.reduceBEq, Nat.one_ne_zero, Nat.zero_ne_one, Nat.lt_irrefl, Nat.succ_ne_zero, w32_id, ixc, ixc2, Int.toNat_natCast, o, tf3 L ht, tl16 ht, q1, tf0 L ht, tl1 ht, tf_q L ht hn, tlq ht hn, v, d1]
      refine ⟨by omega, fun z => absurd z (by omega), fun _ => ⟨by omega, by omega, fun z => ?_, fun z => ?_⟩⟩
      · rw [if_pos (by simp only [decide_eq_true_eq]; exact z)] at ih2
        refine S_X9_unitsOf_42 _ _ _ _ ?_; simp (disch := omega) only [B_X9_unitsOf_42, bi_0, x_ic, x_lc, x_ld, x_st, x_sl, x_inc, x_b32, x_b64, x_d32, x_d64, x_s64, x_un, x_lcmp, x_dup, x_pop, x_dup2, x_if, x_cmp, x_sw, swk, x_ald, x_ast, x_alen, x_getf, x_putf, x_inv, x_mm, x_copy, x_iret, x_lret, x_vret, ok1, pu, ct, rcv, rcs, ent0, List.getElem?_cons_zero, List.getElem?_cons_succ, List.getElem?_nil, List.set_cons_zero, List.set_cons_succ, List.take_succ_cons, List.take_zero, List.drop_succ_cons, List.drop_zero, List.reverse_cons, List.reverse_nil, List.nil_append, List.cons_append, List.length_cons, List.length_nil, true_and, and_true, and_self, ne_eq, not_true_eq_false, not_false_eq_true, reduceIte, true_or, or_true, false_or, or_false, Nat.reduceAdd, Nat.reduceSub, Nat.reduceMul, Nat.reduceLeDiff, Nat.reduceEqDiff, Nat.reduceLT, Nat.le_refl, Nat.zero_le, Int.reduceToNat, Int.reduceAdd, Int.reduceSub, Int.reduceMul, Int.reduceNeg, Int.reduceLT, Int.reduceLE, Int.reduceEq, Nat.zero_add, Nat.add_zero, Nat.reduceBEq, Nat.one_ne_zero, Nat.zero_ne_one, Nat.lt_irrefl, Nat.succ_ne_zero, w32_id, ixc, ixc2, Int.toNat_natCast]
        exact ih2
      · rw [if_neg (by simp only [decide_eq_true_eq]; exact z), Int.add_zero] at ih2
        refine S_X9_unitsOf_42 _ _ _ _ ?_; simp (disch := omega) only [B_X9_unitsOf_42, bi_0, x_ic, x_lc, x_ld, x_st, x_sl, x_inc, x_b32, x_b64, x_d32, x_d64, x_s64, x_un, x_lcmp, x_dup, x_pop, x_dup2, x_if, x_cmp, x_sw, swk, x_ald, x_ast, x_alen, x_getf, x_putf, x_inv, x_mm, x_copy, x_iret, x_lret, x_vret, ok1, pu, ct, rcv, rcs, ent0, List.getElem?_cons_zero, List.getElem?_cons_succ, List.getElem?_nil, List.set_cons_zero, List.set_cons_succ, List.take_succ_cons, List.take_zero, List.drop_succ_cons, List.drop_zero, List.reverse_cons, List.reverse_nil, List.nil_append, List.cons_append, List.length_cons, List.length_nil, true_and, and_true, and_self, ne_eq, not_true_eq_false, not_false_eq_true, reduceIte, true_or, or_true, false_or, or_false, Nat.reduceAdd, Nat.reduceSub, Nat.reduceMul, Nat.reduceLeDiff, Nat.reduceEqDiff, Nat.reduceLT, Nat.le_refl, Nat.zero_le, Int.reduceToNat, Int.reduceAdd, Int.reduceSub, Int.reduceMul, Int.reduceNeg, Int.reduceLT, Int.reduceLE, Int.reduceEq, Nat.zero_add, Nat.add_zero, Nat.reduceBEq, Nat.one_ne_zero, Nat.zero_ne_one, Nat.lt_irrefl, Nat.succ_ne_zero, w32_id, ixc, ixc2, Int.toNat_natCast]
        exact ih2
    · refine S_X9_unitsOf_12 _ _ _ _ ?_; simp (disch := omega) only [B_X9_unitsOf_12, bi_0, x_ic, x_lc, x_ld, x_st, x_sl, x_inc, x_b32, x_b64, x_d32, x_d64, x_s64, x_un, x_lcmp, x_dup, x_pop, x_dup2, x_if, x_cmp, x_sw, swk, x_ald, x_ast, x_alen, x_getf, x_putf, x_inv, x_mm, x_copy, x_iret, x_lret, x_vret, ok1, pu, ct, rcv, rcs, ent0, List.getElem?_cons_zero, List.getElem?_cons_succ, List.getElem?_nil, List.set_cons_zero, List.set_cons_succ, List.take_succ_cons, List.take_zero, List.drop_succ_cons, List.drop_zero, List.reverse_cons, List.reverse_nil, List.nil_append, List.cons_append, List.length_cons, List.length_nil, true_and, and_true, and_self, ne_eq, not_true_eq_false, not_false_eq_true, reduceIte, true_or, or_true, false_or, or_false, Nat.reduceAdd, Nat.reduceSub, Nat.reduceMul, Nat.reduceLeDiff, Nat.reduceEqDiff, Nat.reduceLT, Nat.le_refl, Nat.zero_le, Int.reduceToNat, Int.reduceAdd, Int.reduceSub, Int.reduceMul, Int.reduceNeg, Int.reduceLT, Int.reduceLE, Int.reduceEq, Nat.zero_add, Nat.add_zero, Nat.reduceBEq, Nat.one_ne_zero, Nat.zero_ne_one, Nat.lt_irrefl, Nat.succ_ne_zero, w32_id, ixc, ixc2, Int.toNat_natCast, o, tf3 L ht, tl16 ht, q1]
      refine ⟨by omega, fun _ => ?_, fun z => absurd z (by omega)⟩
      refine S_X9_unitsOf_48 _ _ _ _ ?_; simp (disch := omega) only [B_X9_unitsOf_48, bi_0, x_ic, x_lc, x_ld, x_st, x_sl, x_inc, x_b32, x_b64, x_d32, x_d64, x_s64, x_un, x_lcmp, x_dup, x_pop, x_dup2, x_if, x_cmp, x_sw, swk, x_ald, x_ast, x_alen, x_getf, x_putf, x_inv, x_mm, x_copy, x_iret, x_lret, x_vret, ok1, pu, ct, rcv, rcs, ent0, List.getElem?_cons_zero, List.getElem?_cons_succ, List.getElem?_nil, List.set_cons_zero, List.set_cons_succ, List.take_succ_cons, List.take_zero, List.drop_succ_cons, List.drop_zero, List.reverse_cons, List.reverse_nil, List.nil_append, List.cons_append, List.length_cons, List.length_nil, true_and, and_true, and_self, ne_eq, not_true_eq_false, not_false_eq_true, reduceIte, true_or, or_true, false_or, or_false, Nat.reduceAdd, Nat.reduceSub, Nat.reduceMul, Nat.reduceLeDiff, Nat.reduceEqDiff, Nat.reduceLT, Nat.le_refl, Nat.zero_le, Int.reduceToNat, Int.reduceAdd, Int.reduceSub, Int.reduceMul, Int.reduceNeg, Int.reduceLT, Int.reduceLE, Int.reduceEq, Nat.zero_add, Nat.add_zero, Nat.reduceBEq, Nat.one_ne_zero, Nat.zero_ne_one, Nat.lt_irrefl, Nat.succ_ne_zero, w32_id, ixc, ixc2, Int.toNat_natCast]
      exact V_fg [4] ih
  · refine S_X9_unitsOf_4 _ _ _ _ ?_; simp (disch := omega) only [B_X9_unitsOf_4, bi_0, x_ic, x_lc, x_ld, x_st, x_sl, x_inc, x_b32, x_b64, x_d32, x_d64, x_s64, x_un, x_lcmp, x_dup, x_pop, x_dup2, x_if, x_cmp, x_sw, swk, x_ald, x_ast, x_alen, x_getf, x_putf, x_inv, x_mm, x_copy, x_iret, x_lret, x_vret, ok1, pu, ct, rcv, rcs, ent0, List.getElem?_cons_zero, List.getElem?_cons_succ, List.getElem?_nil, List.set_cons_zero, List.set_cons_succ, List.take_succ_cons, List.take_zero, List.drop_succ_cons, List.drop_zero, List.reverse_cons, List.reverse_nil, List.nil_append, List.cons_append, List.length_cons, List.length_nil, true_and, and_true, and_self, ne_eq, not_true_eq_false, not_false_eq_true, reduceIte, true_or, or_true, false_or, or_false, Nat.reduceAdd, Nat.reduceSub, Nat.reduceMul, Nat.reduceLeDiff, Nat.reduceEqDiff, Nat.reduceLT, Nat.le_refl, Nat.zero_le, Int.reduceToNat, Int.reduceAdd, Int.reduceSub, Int.reduceMul, Int.reduceNeg, Int.reduceLT, Int.reduceLE, Int.reduceEq, Nat.zero_add, Nat.add_zero, Nat.reduceBEq, Nat.one_ne_zero, Nat.zero_ne_one, Nat.lt_irrefl, Nat.succ_ne_zero, w32_id, ixc, ixc2, Int.toNat_natCast]
    refine ⟨fun _ => ?_, fun z => absurd z (by omega)⟩
    refine S_X9_unitsOf_54 _ _ _ _ ?_; simp (disch := omega) only [B_X9_unitsOf_54, bi_0, x_ic, x_lc, x_ld, x_st, x_sl, x_inc, x_b32, x_b64, x_d32, x_d64, x_s64, x_un, x_lcmp, x_dup, x_pop, x_dup2, x_if, x_cmp, x_sw, swk, x_ald, x_ast, x_alen, x_getf, x_putf, x_inv, x_mm, x_copy, x_iret, x_lret, x_vret, ok1, pu, ct, rcv, rcs, ent0, List.getElem?_cons_zero, List.getElem?_cons_succ, List.getElem?_nil, List.set_cons_zero, List.set_cons_succ, List.take_succ_cons, List.take_zero, List.drop_succ_cons, List.drop_zero, List.reverse_cons, List.reverse_nil, List.nil_append, List.cons_append, List.length_cons, List.length_nil, true_and, and_true, and_self, ne_eq, not_true_eq_false, not_false_eq_true, reduceIte, true_or, or_true, false_or, or_false, Nat.reduceAdd, Nat.reduceSub, Nat.reduceMul, Nat.reduceLeDiff, Nat.reduceEqDiff, Nat.reduceLT, Nat.le_refl, Nat.zero_le, Int.reduceToNat, Int.reduceAdd, Int.reduceSub, Int.reduceMul, Int.reduceNeg, Int.reduceLT, Int.reduceLE, Int.reduceEq, Nat.zero_add, Nat.add_zero, Nat.reduceBEq, Nat.one_ne_zero, Nat.zero_ne_one, Nat.lt_irrefl, Nat.succ_ne_zero, w32_id, ixc, ixc2, Int.toNat_natCast]
    exact Rt_mk rfl
theorem c_oldestOf (L : Lay h) (ht : Trf tb) (W : WN (h 220)) (C : CS h tb T) (Tw : TW (h 220) T) (f : Int) : Cl l (d + 1) M_X9_oldestOf [(2, (tb : Int) + 1), (0, f)] SHP h (Rt (olR (usT T) f (usT T).length) SHP h) := by
  have o := tf_ob ht
  obtain ⟨c1, c2, c3, c4, c5⟩ := id C
  have hl := Tw.2.1
  have nf := W.nf
  have htm := Tw.1
  have h64 : ∀ k, k < (usT T).length → (uA (usT T) k).2.2 < 64 := fun k hk => by have := (Tw.2.2.1 k hk).2.2; omega
  have ql : ∀ n, (qL (h 220) (usT T) n).length ≤ 40 := fun n => by
    rw [qL_len]; unfold ixs
    have := pl_len (p := atU (h 220) (usT T) n) (m := (usT T).length)
    omega
  have inq : ∀ e, (∃ j, j < (usT T).length ∧ e = enc (uA (usT T) j)) ↔ ∃ n, n < 4 ∧ e ∈ qL (h 220) (usT T) n := fun e => ⟨fun ⟨j, hj, he⟩ => by
    have hn := TX.nd4 W Tw.tx _ (uA_mem hj)
    refine ⟨(nd (h 220) (uA (usT T) j).1 (uA (usT T) j).2.1).toNat, by omega, ?_⟩
    rw [he]
    exact List.mem_map.mpr ⟨uA (usT T) j, List.mem_filter.mpr ⟨uA_mem hj, by simp; omega⟩, rfl⟩, fun ⟨n, hn, he⟩ => by
    obtain ⟨u, hu1, hu2⟩ := List.mem_map.mp he
    obtain ⟨k, hk, ek⟩ := memU (List.mem_filter.mp hu1).1
    exact ⟨k, hk, by rw [ek]; exact hu2.symm⟩⟩
  have eb : ∀ n i, n < 4 → i < (qL (h 220) (usT T) n).length → 0 ≤ (qL (h 220) (usT T) n).getD i 0 ∧ (qL (h 220) (usT T) n).getD i 0 < 100000 := fun n i hn hi => by
    obtain ⟨j, hj, he⟩ := (inq _).mpr ⟨n, hn, gD_mem 0 hi⟩
    rw [he]
    have := (Tw.2.2.1 j hj).1
    have := h64 j hj
    unfold enc; omega
  show V l (d + 1) 0 0 M_X9_oldestOf 0 0 0 _ [(2, (tb : Int) + 1), (0, f), (9, 0), (9, 0), (9, 0), (9, 0)] [] SHP h
  refine S_X9_oldestOf_0 _ _ _ _ ?_; simp (disch := omega) only [B_X9_oldestOf_0, bi_0, x_ic, x_lc, x_ld, x_st, x_sl, x_inc, x_b32, x_b64, x_d32, x_d64, x_s64, x_un, x_lcmp, x_dup, x_pop, x_dup2, x_if, x_cmp, x_sw, swk, x_ald, x_ast, x_alen, x_getf, x_putf, x_inv, x_mm, x_copy, x_iret, x_lret, x_vret, ok1, pu, ct, rcv, rcs, ent0, List.getElem?_cons_zero, List.getElem?_cons_succ, List.getElem?_nil, List.set_cons_zero, List.set_cons_succ, List.take_succ_cons, List.take_zero, List.drop_succ_cons, List.drop_zero, List.reverse_cons, List.reverse_nil, List.nil_append, List.cons_append, List.length_cons, List.length_nil, true_and, and_true, and_self, ne_eq, not_true_eq_false, not_false_eq_true, reduceIte, true_or, or_true, false_or, or_false, Nat.reduceAdd, Nat.reduceSub, Nat.reduceMul, Nat.reduceLeDiff, Nat.reduceEqDiff, Nat.reduceLT, Nat.le_refl, Nat.zero_le, Int.reduceToNat, Int.reduceAdd, Int.reduceSub, Int.reduceMul, Int.reduceNeg, Int.reduceLT, Int.reduceLE, Int.reduceEq, Nat.zero_add, Nat.add_zero, Nat.reduceBEq, Nat.one_ne_zero, Nat.zero_ne_one, Nat.lt_irrefl, Nat.succ_ne_zero, w32_id, ixc, ixc2, Int.toNat_natCast]
  -- by nodes
  have key : ∀ (g n : Nat), n + g = 4 → ∀ r, OldP (fun e => ∃ n', n' < n ∧ e ∈ qL (h 220) (usT T) n') f r → V l (d + 1) 0 0 M_X9_oldestOf 0 0 4 (Rt (olR (usT T) f (usT T).length) SHP h) [(2, (tb : Int) + 1), (0, f), (0, r), (0, (n : Int)), (9, 0), (9, 0)] [] SHP h := by
    intro g
    induction g with
    | zero =>
      intro n hn r hr
      refine S_X9_oldestOf_4 _ _ _ _ ?_; simp (disch := omega) only [B_X9_oldestOf_4, bi_0, x_ic, x_lc, x_ld, x_st, x_sl, x_inc, x_b32, x_b64, x_d32, x_d64, x_s64, x_un, x_lcmp, x_dup, x_pop, x_dup2, x_if, x_cmp, x_sw, swk, x_ald, x_ast, x_alen, x_getf, x_putf, x_inv, x_mm, x_copy, x_iret, x_lret, x_vret, ok1, pu, ct, rcv, rcs, ent0, List.getElem?_cons_zero, List.getElem?_cons_succ, List.getElem?_nil, List.set_cons_zero, List.set_cons_succ, List.take_succ_cons, List.take_zero, List.drop_succ_cons, List.drop_zero, List.reverse_cons, List.reverse_nil, List.nil_append, List.cons_append, List.length_cons, List.length_nil, true_and, and_true, and_self, ne_eq, not_true_eq_false, not_false_eq_true, reduceIte, true_or, or_true, false_or, or_false, Nat.reduceAdd, Nat.reduceSub, Nat.reduceMul, Nat.reduceLeDiff, Nat.reduceEqDiff, Nat.reduceLT, Nat.le_refl, Nat.zero_le, Int.reduceToNat, Int.reduceAdd, Int.reduceSub, Int.reduceMul, Int.reduceNeg, Int.reduceLT, Int.reduceLE, Int.reduceEq, Nat.zero_add, Nat.add_zero, Nat.reduceBEq, Nat.one_ne_zero, Nat.zero_ne_one, Nat.lt_irrefl, Nat.succ_ne_zero, w32_id, ixc, ixc2, Int.toNat_natCast]
      refine ⟨fun _ => ?_, fun z => absurd z (by omega)⟩
      refine S_X9_oldestOf_79 _ _ _ _ ?_; simp (disch := omega) only [B_X9_oldestOf_79, bi_0, x_ic, x_lc, x_ld, x_st, x_sl, x_inc, x_b32, x_b64, x_d32, x_d64, x_s64, x_un, x_lcmp, x_dup, x_pop, x_dup2, x_if, x_cmp, x_sw, swk, x_ald, x_ast, x_alen, x_getf, x_putf, x_inv, x_mm, x_copy, x_iret, x_lret, x_vret, ok1, pu, ct, rcv, rcs, ent0, List.getElem?_cons_zero, List.getElem?_cons_succ, List.getElem?_nil, List.set_cons_zero, List.set_cons_succ, List.take_succ_cons, List.take_zero, List.drop_succ_cons, List.drop_zero, List.reverse_cons, List.reverse_nil, List.nil_append, List.cons_append, List.length_cons, List.length_nil, true_and, and_true, and_self, ne_eq, not_true_eq_false, not_false_eq_true, reduceIte, true_or, or_true, false_or, or_false, Nat.reduceAdd, Nat.reduceSub, Nat.reduceMul, Nat.reduceLeDiff, Nat.reduceEqDiff, Nat.reduceLT, Nat.le_refl, Nat.zero_le, Int.reduceToNat, Int.reduceAdd, Int.reduceSub, Int.reduceMul, Int.reduceNeg, Int.reduceLT, Int.reduceLE, Int.reduceEq, Nat.zero_add, Nat.add_zero, Nat.reduceBEq, Nat.one_ne_zero, Nat.zero_ne_one, Nat.lt_irrefl, Nat.succ_ne_zero, w32_id, ixc, ixc2, Int.toNat_natCast]
      refine Rt_mk ?_
      rw [show n = 4 by omega] at hr
      exact OldP.un (hr.iff (fun e => (inq e).symm)) (olR_s h64 (Nat.le_refl _))
    | succ g ih =>
      intro n hn r hr
      have hn4 : n < 4 := by omega
      obtain ⟨q1, q2⟩ := c2 n hn4
      refine S_X9_oldestOf_4 _ _ _ _ ?_; simp (disch := omega) only [B_X9_oldestOf_4, bi_0, x_ic, x_lc, x_ld, x_st, x_sl, x_inc, x_b32, x_b64, x_d32, x_d64, x_s64, x_un, x_lcmp, x_dup, x_pop, x_dup2, x_if, x_cmp, x_sw, swk, x_ald, x_ast, x_alen, x_getf, x_putf, x_inv, x_mm, x_copy, x_iret, x_lret, x_vret, ok1, pu, ct, rcv, rcs, ent0, List.getElem?_cons_zero, List.getElem?_cons_succ, List.getElem?_nil, List.set_cons_zero, List.set_cons_succ, List.take_succ_cons, List.take_zero, List.drop_succ_cons, List.drop_zero, List.reverse_cons, List.reverse_nil, List.nil_append, List.cons_append, List.length_cons, List.length_nil, true_and, and_true, and_self, ne_eq, not_true_eq_false, not_false_eq_true, reduceIte, true_or, or_true, false_or, or_false, Nat.reduceAdd, Nat.reduceSub, Nat.reduceMul, Nat.reduceLeDiff, Nat.reduceEqDiff, Nat.reduceLT, Nat.le_refl, Nat.zero_le, Int.reduceToNat, Int.reduceAdd, Int.reduceSub, Int.reduceMul, Int.reduceNeg, Int.reduceLT, Int.reduceLE, Int.reduceEq, Nat.zero_add, Nat.add_zero, Nat.reduceBEq, Nat.one_ne_zero, Nat.zero_ne_one, Nat.lt_irrefl, Nat.succ_ne_zero, w32_id, ixc, ixc2, Int.toNat_natCast]
      refine ⟨fun z => absurd z (by omega), fun _ => ?_⟩
      have inner : ∀ (g2 i : Nat), i + g2 = (qL (h 220) (usT T) n).length → ∀ r, OldP (fun e => (∃ n', n' < n ∧ e ∈ qL (h 220) (usT T) n') ∨ ∃ j, j < i ∧ e = (qL (h 220) (usT T) n).getD j 0) f r → V l (d + 1) 0 0 M_X9_oldestOf 0 0 12 (Rt (olR (usT T) f (usT T).length) SHP h) [(2, (tb : Int) + 1), (0, f), (0, r), (0, (n : Int)), (0, (i : Int)), (9, 0)] [] SHP h := by
        intro g2
        induction g2 with
        | zero =>
          intro i hi r hr
          refine S_X9_oldestOf_12 _ _ _ _ ?_; simp (disch := omega) only [B_X9_oldestOf_12, bi_0, x_ic, x_lc, x_ld, x_st, x_sl, x_inc, x_b32, x_b64, x_d32, x_d64, x_s64, x_un, x_lcmp, x_dup, x_pop, x_dup2, x_if, x_cmp, x_sw, swk, x_ald, x_ast, x_alen, x_getf, x_putf, x_inv, x_mm, x_copy, x_iret, x_lret, x_vret, ok1, pu, ct, rcv, rcs, ent0, List.getElem?_cons_zero, List.getElem?_cons_succ, List.getElem?_nil, List.set_cons_zero, List.set_cons_succ, List.take_succ_cons, List.take_zero, List.drop_succ_cons, List.drop_zero, List.reverse_cons, List.reverse_nil, List.nil_append, List.cons_append, List.length_cons, List.length_nil, true_and, and_true, and_self, ne_eq, not_true_eq_false, not_false_eq_true, reduceIte, true_or, or_true, false_or, or_false, Nat.reduceAdd, Nat.reduceSub, Nat.reduceMul, Nat.reduceLeDiff, Nat.reduceEqDiff, Nat.reduceLT, Nat.le_refl, Nat.zero_le, Int.reduceToNat, Int.reduceAdd, Int.reduceSub, Int.reduceMul, Int.reduceNeg, Int.reduceLT, Int.reduceLE, Int.reduceEq, Nat.zero_add, Nat.add_zero, Nat.reduceBEq, Nat.one_ne_zero, Nat.zero_ne_one, Nat.lt_irrefl, Nat.succ_ne_zero, w32_id, ixc, ixc2, Int.toNat_natCast, o, tf3 L ht, tl16 ht, q1]
          refine ⟨by omega, fun _ => ?_, fun z => absurd z (by omega)⟩
          refine S_X9_oldestOf_73 _ _ _ _ ?_; simp (disch := omega) only [B_X9_oldestOf_73, bi_0, x_ic, x_lc, x_ld, x_st, x_sl, x_inc, x_b32, x_b64, x_d32, x_d64, x_s64, x_un, x_lcmp, x_dup, x_pop, x_dup2, x_if, x_cmp, x_sw, swk, x_ald, x_ast, x_alen, x_getf, x_putf, x_inv, x_mm, x_copy, x_iret, x_lret, x_vret, ok1, pu, ct, rcv, rcs, ent0, List.getElem?_cons_zero, List.getElem?_cons_succ, List.getElem?_nil, List.set_cons_zero, List.set_cons_succ, List.take_succ_cons, List.take_zero, List.drop_succ_cons, List.drop_zero, List.reverse_cons, List.reverse_nil, List.nil_append, List.cons_append, List.length_cons, List.length_nil, true_and, and_true, and_self, ne_eq, not_true_eq_false, not_false_eq_true, reduceIte, true_or, or_true, false_or, or_false, Nat.reduceAdd, Nat.reduceSub, Nat.reduceMul, Nat.reduceLeDiff, Nat.reduceEqDiff, Nat.reduceLT, Nat.le_refl, Nat.zero_le, Int.reduceToNat, Int.reduceAdd, Int.reduceSub, Int.reduceMul, Int.reduceNeg, Int.reduceLT, Int.reduceLE, Int.reduceEq, Nat.zero_add, Nat.add_zero, Nat.reduceBEq, Nat.one_ne_zero, Nat.zero_ne_one, Nat.lt_irrefl, Nat.succ_ne_zero, w32_id, ixc, ixc2, Int.toNat_natCast]
          refine V_fg [4] ?_
          refine ih (n + 1) (by omega) r (hr.iff (fun e => ⟨fun q => ?_, fun q => ?_⟩))
          · rcases q with ⟨n', a, b⟩ | ⟨j, a, b⟩
            · exact ⟨n', by omega, b⟩
            · exact ⟨n, by omega, by rw [b]; exact gD_mem 0 (by omega)⟩
          · obtain ⟨n', a, b⟩ := q
            by_cases e2 : n' = n
            · subst e2
              obtain ⟨j, hj, ej⟩ := List.mem_iff_getElem.mp b
              exact Or.inr ⟨j, by omega, by rw [List.getD_eq_getElem?_getD, List.getElem?_eq_getElem hj]; exact ej.symm⟩
            · exact Or.inl ⟨n', by omega, b⟩
        | succ g2 ih2 =>
          intro i hi r hr
          have hil : i < (qL (h 220) (usT T) n).length := by omega
          have v := q2 i hil
          have e1 := eb n i hn4 hil
          have qln := ql n
          obtain ⟨e, he⟩ : ∃ e, e = (qL (h 220) (usT T) n).getD i 0 := ⟨_, rfl⟩
          rw [← he] at v e1
          have d1 : dv32 e 64 = e / 64 := dv32_pos e1.1 (by omega) (by decide) (by decide)
          have r1 : rm32 e 64 = e % 64 := rm32_pos e1.1 (by omega) (by decide) (by decide)
          have ad := hr.add (e := e)
          have ii : ∀ x, (((∃ n', n' < n ∧ x ∈ qL (h 220) (usT T) n') ∨ ∃ j, j < i ∧ x = (qL (h 220) (usT T) n).getD j 0) ∨ x = e) ↔ ((∃ n', n' < n ∧ x ∈ qL (h 220) (usT T) n') ∨ ∃ j, j < i + 1 ∧ x = (qL (h 220) (usT T) n).getD j 0) := fun x => ⟨fun q => by
            rcases q with (q | ⟨j, a, b⟩) | q
            · exact Or.inl q
            · exact Or.inr ⟨j, by omega, b⟩
            · exact Or.inr ⟨i, by omega, by rw [q, he]⟩, fun q => by
            rcases q with q | ⟨j, a, b⟩
            · exact Or.inl (Or.inl q)
            · by_cases e2 : j = i
              · subst e2; exact Or.inr (by rw [b, he])
              · exact Or.inl (Or.inr ⟨j, by omega, b⟩)⟩
          have no : ¬ (e / 64 = f ∧ (r = -1 ∨ e % 64 < r)) → V l (d + 1) 0 0 M_X9_oldestOf 0 0 67 (Rt (olR (usT T) f (usT T).length) SHP h) [(2, (tb : Int) + 1), (0, f), (0, r), (0, (n : Int)), (0, (i : Int)), (0, e % 64)] [] SHP h := by
            intro hc
            refine S_X9_oldestOf_67 _ _ _ _ ?_; simp (disch := omega) only [B_X9_oldestOf_67, bi_0, x_ic, x_lc, x_ld, x_st, x_sl, x_inc, x_b32, x_b64, x_d32, x_d64, x_s64, x_un, x_lcmp, x_dup, x_pop, x_dup2, x_if, x_cmp, x_sw, swk, x_ald, x_ast, x_alen, x_getf, x_putf, x_inv, x_mm, x_copy, x_iret, x_lret, x_vret, ok1, pu, ct, rcv, rcs, ent0, List.getElem?_cons_zero, List.getElem?_cons_succ, List.getElem?_nil, List.set_cons_zero, List.set_cons_succ, List.take_succ_cons, List.take_zero, List.drop_succ_cons, List.drop_zero, List.reverse_cons, List.reverse_nil, List.nil_append, List.cons_append, List.length_cons, List.length_nil, true_and, and_true, and_self, ne_eq, not_true_eq_false, not_false_eq_true, reduceIte, true_or, or_true, false_or, or_false, Nat.reduceAdd, Nat.reduceSub, Nat.reduceMul, Nat.reduceLeDiff, Nat.reduceEqDiff, Nat.reduceLT, Nat.le_refl, Nat.zero_le, Int.reduceToNat, Int.reduceAdd, Int.reduceSub, Int.reduceMul, Int.reduceNeg, Int.reduceLT, Int.reduceLE, Int.reduceEq, Nat.zero_add, Nat.add_zero, Nat.reduceBEq, Nat.one_ne_zero, Nat.zero_ne_one, Nat.lt_irrefl, Nat.succ_ne_zero, w32_id, ixc, ixc2, Int.toNat_natCast]
            refine V_fg [5] ?_
            exact ih2 (i + 1) (by omega) r ((ad.2 hc).iff ii)
          have yes : (e / 64 = f ∧ (r = -1 ∨ e % 64 < r)) → V l (d + 1) 0 0 M_X9_oldestOf 0 0 64 (Rt (olR (usT T) f (usT T).length) SHP h) [(2, (tb : Int) + 1), (0, f), (0, r), (0, (n : Int)), (0, (i : Int)), (0, e % 64)] [] SHP h := by
            intro hc
            refine S_X9_oldestOf_64 _ _ _ _ ?_; simp (disch := omega) only [B_X9_oldestOf_64, bi_0, x_ic, x_lc, x_ld, x_st, x_sl, x_inc, x_b32, x_b64, x_d32, x_d64, x_s64, x_un, x_lcmp, x_dup, x_pop, x_dup2, x_if, x_cmp, x_sw, swk, x_ald, x_ast, x_alen, x_getf, x_putf, x_inv, x_mm, x_copy, x_iret, x_lret, x_vret, ok1, pu, ct, rcv, rcs, ent0, List.getElem?_cons_zero, List.getElem?_cons_succ, List.getElem?_nil, List.set_cons_zero, List.set_cons_succ, List.take_succ_cons, List.take_zero, List.drop_succ_cons, List.drop_zero, List.reverse_cons, List.reverse_nil, List.nil_append, List.cons_append, List.length_cons, List.length_nil, true_and, and_true, and_self, ne_eq, not_true_eq_false, not_false_eq_true, reduceIte, true_or, or_true, false_or, or_false, Nat.reduceAdd, Nat.reduceSub, Nat.reduceMul, Nat.reduceLeDiff, Nat.reduceEqDiff, Nat.reduceLT, Nat.le_refl, Nat.zero_le, Int.reduceToNat, Int.reduceAdd, Int.reduceSub, Int.reduceMul, Int.reduceNeg, Int.reduceLT, Int.reduceLE, Int.reduceEq, Nat.zero_add, Nat.add_zero, Nat.reduceBEq, Nat.one_ne_zero, Nat.zero_ne_one, Nat.lt_irrefl, Nat.succ_ne_zero, w32_id, ixc, ixc2, Int.toNat_natCast]
            refine S_X9_oldestOf_67 _ _ _ _ ?_; simp (disch := omega) only [B_X9_oldestOf_67, bi_0, x_ic, x_lc, x_ld, x_st, x_sl, x_inc, x_b32, x_b64, x_d32, x_d64, x_s64, x_un, x_lcmp, x_dup, x_pop, x_dup2, x_if, x_cmp, x_sw, swk, x_ald, x_ast, x_alen, x_getf, x_putf, x_inv, x_mm, x_copy, x_iret, x_lret, x_vret, ok1, pu, ct, rcv, rcs, ent0, List.getElem?_cons_zero, List.getElem?_cons_succ, List.getElem?_nil, List.set_cons_zero, List.set_cons_succ, List.take_succ_cons, List.take_zero, List.drop_succ_cons, List.drop_zero, List.reverse_cons, List.reverse_nil, List.nil_append, List.cons_append, List.length_cons, List.length_nil, true_and, and_true, and_self, ne_eq, not_true_eq_false, not_false_eq_true, reduceIte, true_or, or_true, false_or, or_false, Nat.reduceAdd, Nat.reduceSub, Nat.reduceMul, Nat.reduceLeDiff, Nat.reduceEqDiff, Nat.reduceLT, Nat.le_refl, Nat.zero_le, Int.reduceToNat, Int.reduceAdd, Int.reduceSub, Int.reduceMul, Int.reduceNeg, Int.reduceLT, Int.reduceLE, Int.reduceEq, Nat.zero_add, Nat.add_zero, Nat.reduceBEq, Nat.one_ne_zero, Nat.zero_ne_one, Nat.lt_irrefl, Nat.succ_ne_zero, w32_id, ixc, ixc2, Int.toNat_natCast]
            refine V_fg [5] ?_
            exact ih2 (i + 1) (by omega) _ ((ad.1 hc).iff ii)
          refine S_X9_oldestOf_12 _ _ _ _ ?_; simp (disch := omega) only [B_X9_oldestOf_12, bi_0, x_ic, x_lc, x_ld, x_st, x_sl, x_inc, x_b32, x_b64, x_d32, x_d64, x_s64, x_un, x_lcmp, x_dup, x_pop, x_dup2, x_if, x_cmp, x_sw, swk, x_ald, x_ast, x_alen, x_getf, x_putf, x_inv, x_mm, x_copy, x_iret, x_lret, x_vret, ok1, pu, ct, rcv, rcs, ent0, List.getElem?_cons_zero, List.getElem?_cons_succ, List.getElem?_nil, List.set_cons_zero, List.set_cons_succ, List.take_succ_cons, List.take_zero, List.drop_succ_cons, List.drop_zero, List.reverse_cons, List.reverse_nil, List.nil_append, List.cons_append, List.length_cons, List.length_nil, true_and, and_true, and_self, ne_eq, not_true_eq_false, not_false_eq_true, reduceIte, true_or, or_true, false_or, or_false, Nat.reduceAdd, Nat.reduceSub, Nat.reduceMul, Nat.reduceLeDiff, Nat.reduceEqDiff, Nat.reduceLT, Nat.le_refl, Nat.zero_le, Int.reduceToNat, Int.reduceAdd, Int.reduceSub, Int.reduceMul, Int.reduceNeg, Int.reduceLT, Int.reduceLE, Int.reduceEq, Nat.zero_add, Nat.add_zero, Nat.reduceBEq, Nat.one_ne_zero, Nat.zero_ne_one, Nat.lt_irrefl, Nat.succ_ne_zero, w32_id, ixc, ixc2, Int.toNat_natCast, o, tf3 L ht, tl16 ht, q1, tf0 L ht, tl1 ht, tf_q L ht hn4, tlq ht hn4, v, d1, r1]
          refine ⟨by omega, fun z => absurd z (by omega), fun _ => ⟨by omega, by omega, by omega, by omega, fun z => ⟨fun z1 => ?_, fun z1 => ⟨fun z2 => ?_, fun z2 => ?_⟩⟩, fun z => ?_⟩⟩
          · exact yes ⟨z, Or.inl z1⟩
          · exact no (fun q => by omega)
          · exact yes ⟨z, Or.inr (by omega)⟩
          · exact no (fun q => z q.1)
      exact inner (qL (h 220) (usT T) n).length 0 (by omega) r (hr.iff (fun e => ⟨fun q => Or.inl q, fun q => by
        rcases q with q | ⟨j, a, _⟩
        · exact q
        · omega⟩))
  exact key 4 0 rfl (-1) (Or.inl ⟨rfl, fun e ⟨n', a, _⟩ => absurd a (Nat.not_lt_zero n')⟩)
theorem c_keepsTo (L : Lay h) (ht : Trf tb) (hnb : nb = 4 ∨ nb = 34) (R : RN h nb) (W : WN (h 220)) (C : CS h tb T) (Tw : TW (h 220) T) {f c : Nat} (hf : (f : Int) < h 220 2) (hc : sby (h 220) f = (c : Int)) : Cl l (d + 2) M_X9_keepsTo [(2, (tb : Int) + 1), (2, ((nb + 18 + 2 * c : Nat) : Int) + 1), (0, (f : Int))] SHP h (Rt (bI (FitP (h 220) f (tmT T) (ptT T f))) SHP h) := by
  have o := tf_ob ht
  have nf := W.nf
  have w6 := W.wc.1
  have htm := Tw.1
  obtain ⟨c1, c2, c3, c4, c5⟩ := id C
  have hsb := W.sb f hf
  have hcm : (c : Int) < h 220 0 := by omega
  have oc := (net_c L hnb (show c < 6 by omega)).2.1.1
  have hf4 : f < 4 := by omega
  obtain ⟨pt, hpt⟩ : ∃ pt, pt = ptT T f := ⟨_, rfl⟩
  rw [← hpt]
  have av := fun (k : Nat) (hk : k ≤ 60) => by
    have := c_at (l := l) (d := d) (net_c L hnb (show c < 6 by omega)).2 (R.1.cg W.wc hcm) (t := (k : Int) + 1) (by omega) (by omega)
    rw [R.1.va W.wc hcm (by omega), ← hc] at this
    exact this
  show V l (d + 2) 0 0 M_X9_keepsTo 0 0 0 _ [(2, (tb : Int) + 1), (2, ((nb + 18 + 2 * c : Nat) : Int) + 1), (0, (f : Int)), (9, 0), (9, 0), (9, 0)] [] SHP h
  refine S_X9_keepsTo_0 _ _ _ _ ?_; simp (disch := omega) only [B_X9_keepsTo_0, bi_0, x_ic, x_lc, x_ld, x_st, x_sl, x_inc, x_b32, x_b64, x_d32, x_d64, x_s64, x_un, x_lcmp, x_dup, x_pop, x_dup2, x_if, x_cmp, x_sw, swk, x_ald, x_ast, x_alen, x_getf, x_putf, x_inv, x_mm, x_copy, x_iret, x_lret, x_vret, ok1, pu, ct, rcv, rcs, ent0, List.getElem?_cons_zero, List.getElem?_cons_succ, List.getElem?_nil, List.set_cons_zero, List.set_cons_succ, List.take_succ_cons, List.take_zero, List.drop_succ_cons, List.drop_zero, List.reverse_cons, List.reverse_nil, List.nil_append, List.cons_append, List.length_cons, List.length_nil, true_and, and_true, and_self, ne_eq, not_true_eq_false, not_false_eq_true, reduceIte, true_or, or_true, false_or, or_false, Nat.reduceAdd, Nat.reduceSub, Nat.reduceMul, Nat.reduceLeDiff, Nat.reduceEqDiff, Nat.reduceLT, Nat.le_refl, Nat.zero_le, Int.reduceToNat, Int.reduceAdd, Int.reduceSub, Int.reduceMul, Int.reduceNeg, Int.reduceLT, Int.reduceLE, Int.reduceEq, Nat.zero_add, Nat.add_zero, Nat.reduceBEq, Nat.one_ne_zero, Nat.zero_ne_one, Nat.lt_irrefl, Nat.succ_ne_zero, w32_id, ixc, ixc2, Int.toNat_natCast]
  have key : ∀ (g a : Nat), a + g = tmT T + 1 → (∀ a' k : Nat, a' < a → a' + k ≤ tmT T → wsm pt a' (k + 1) ≤ vOf (h 220) (sby (h 220) f) ((k : Int) + 1)) → V l (d + 2) 0 0 M_X9_keepsTo 0 0 2 (Rt (bI (FitP (h 220) f (tmT T) pt)) SHP h) [(2, (tb : Int) + 1), (2, ((nb + 18 + 2 * c : Nat) : Int) + 1), (0, (f : Int)), (0, (a : Int)), (9, 0), (9, 0)] [] SHP h := by
    intro g
    induction g with
    | zero =>
      intro a ha hA
      refine S_X9_keepsTo_2 _ _ _ _ ?_; simp (disch := omega) only [B_X9_keepsTo_2, bi_0, x_ic, x_lc, x_ld, x_st, x_sl, x_inc, x_b32, x_b64, x_d32, x_d64, x_s64, x_un, x_lcmp, x_dup, x_pop, x_dup2, x_if, x_cmp, x_sw, swk, x_ald, x_ast, x_alen, x_getf, x_putf, x_inv, x_mm, x_copy, x_iret, x_lret, x_vret, ok1, pu, ct, rcv, rcs, ent0, List.getElem?_cons_zero, List.getElem?_cons_succ, List.getElem?_nil, List.set_cons_zero, List.set_cons_succ, List.take_succ_cons, List.take_zero, List.drop_succ_cons, List.drop_zero, List.reverse_cons, List.reverse_nil, List.nil_append, List.cons_append, List.length_cons, List.length_nil, true_and, and_true, and_self, ne_eq, not_true_eq_false, not_false_eq_true, reduceIte, true_or, or_true, false_or, or_false, Nat.reduceAdd, Nat.reduceSub, Nat.reduceMul, Nat.reduceLeDiff, Nat.reduceEqDiff, Nat.reduceLT, Nat.le_refl, Nat.zero_le, Int.reduceToNat, Int.reduceAdd, Int.reduceSub, Int.reduceMul, Int.reduceNeg, Int.reduceLT, Int.reduceLE, Int.reduceEq, Nat.zero_add, Nat.add_zero, Nat.reduceBEq, Nat.one_ne_zero, Nat.zero_ne_one, Nat.lt_irrefl, Nat.succ_ne_zero, w32_id, ixc, ixc2, Int.toNat_natCast, o, c1]
      refine ⟨fun _ => ?_, fun z => absurd z (by omega)⟩
      refine S_X9_keepsTo_68 _ _ _ _ ?_; simp (disch := omega) only [B_X9_keepsTo_68, bi_0, x_ic, x_lc, x_ld, x_st, x_sl, x_inc, x_b32, x_b64, x_d32, x_d64, x_s64, x_un, x_lcmp, x_dup, x_pop, x_dup2, x_if, x_cmp, x_sw, swk, x_ald, x_ast, x_alen, x_getf, x_putf, x_inv, x_mm, x_copy, x_iret, x_lret, x_vret, ok1, pu, ct, rcv, rcs, ent0, List.getElem?_cons_zero, List.getElem?_cons_succ, List.getElem?_nil, List.set_cons_zero, List.set_cons_succ, List.take_succ_cons, List.take_zero, List.drop_succ_cons, List.drop_zero, List.reverse_cons, List.reverse_nil, List.nil_append, List.cons_append, List.length_cons, List.length_nil, true_and, and_true, and_self, ne_eq, not_true_eq_false, not_false_eq_true, reduceIte, true_or, or_true, false_or, or_false, Nat.reduceAdd, Nat.reduceSub, Nat.reduceMul, Nat.reduceLeDiff, Nat.reduceEqDiff, Nat.reduceLT, Nat.le_refl, Nat.zero_le, Int.reduceToNat, Int.reduceAdd, Int.reduceSub, Int.reduceMul, Int.reduceNeg, Int.reduceLT, Int.reduceLE, Int.reduceEq, Nat.zero_add, Nat.add_zero, Nat.reduceBEq, Nat.one_ne_zero, Nat.zero_ne_one, Nat.lt_irrefl, Nat.succ_ne_zero, w32_id, ixc, ixc2, Int.toNat_natCast]
      exact Rt_mk (bI_t (fun a' k h1 => hA a' k (by omega) h1)).symm
    | succ g ih =>
      intro a ha hA
      refine S_X9_keepsTo_2 _ _ _ _ ?_; simp (disch := omega) only [B_X9_keepsTo_2, bi_0, x_ic, x_lc, x_ld, x_st, x_sl, x_inc, x_b32, x_b64, x_d32, x_d64, x_s64, x_un, x_lcmp, x_dup, x_pop, x_dup2, x_if, x_cmp, x_sw, swk, x_ald, x_ast, x_alen, x_getf, x_putf, x_inv, x_mm, x_copy, x_iret, x_lret, x_vret, ok1, pu, ct, rcv, rcs, ent0, List.getElem?_cons_zero, List.getElem?_cons_succ, List.getElem?_nil, List.set_cons_zero, List.set_cons_succ, List.take_succ_cons, List.take_zero, List.drop_succ_cons, List.drop_zero, List.reverse_cons, List.reverse_nil, List.nil_append, List.cons_append, List.length_cons, List.length_nil, true_and, and_true, and_self, ne_eq, not_true_eq_false, not_false_eq_true, reduceIte, true_or, or_true, false_or, or_false, Nat.reduceAdd, Nat.reduceSub, Nat.reduceMul, Nat.reduceLeDiff, Nat.reduceEqDiff, Nat.reduceLT, Nat.le_refl, Nat.zero_le, Int.reduceToNat, Int.reduceAdd, Int.reduceSub, Int.reduceMul, Int.reduceNeg, Int.reduceLT, Int.reduceLE, Int.reduceEq, Nat.zero_add, Nat.add_zero, Nat.reduceBEq, Nat.one_ne_zero, Nat.zero_ne_one, Nat.lt_irrefl, Nat.succ_ne_zero, w32_id, ixc, ixc2, Int.toNat_natCast, o, c1]
      refine ⟨fun z => absurd z (by omega), fun _ => ?_⟩
      have inner : ∀ (g2 k : Nat), a + k + g2 = tmT T + 1 → (∀ k' : Nat, k' < k → wsm pt a (k' + 1) ≤ vOf (h 220) (sby (h 220) f) ((k' : Int) + 1)) → V l (d + 2) 0 0 M_X9_keepsTo 0 0 16 (Rt (bI (FitP (h 220) f (tmT T) pt)) SHP h) [(2, (tb : Int) + 1), (2, ((nb + 18 + 2 * c : Nat) : Int) + 1), (0, (f : Int)), (0, (a : Int)), (0, wsm pt a k), (0, (a : Int) + (k : Int))] [] SHP h := by
        intro g2
        induction g2 with
        | zero =>
          intro k hk hK
          refine S_X9_keepsTo_16 _ _ _ _ ?_; simp (disch := omega) only [B_X9_keepsTo_16, bi_0, x_ic, x_lc, x_ld, x_st, x_sl, x_inc, x_b32, x_b64, x_d32, x_d64, x_s64, x_un, x_lcmp, x_dup, x_pop, x_dup2, x_if, x_cmp, x_sw, swk, x_ald, x_ast, x_alen, x_getf, x_putf, x_inv, x_mm, x_copy, x_iret, x_lret, x_vret, ok1, pu, ct, rcv, rcs, ent0, List.getElem?_cons_zero, List.getElem?_cons_succ, List.getElem?_nil, List.set_cons_zero, List.set_cons_succ, List.take_succ_cons, List.take_zero, List.drop_succ_cons, List.drop_zero, List.reverse_cons, List.reverse_nil, List.nil_append, List.cons_append, List.length_cons, List.length_nil, true_and, and_true, and_self, ne_eq, not_true_eq_false, not_false_eq_true, reduceIte, true_or, or_true, false_or, or_false, Nat.reduceAdd, Nat.reduceSub, Nat.reduceMul, Nat.reduceLeDiff, Nat.reduceEqDiff, Nat.reduceLT, Nat.le_refl, Nat.zero_le, Int.reduceToNat, Int.reduceAdd, Int.reduceSub, Int.reduceMul, Int.reduceNeg, Int.reduceLT, Int.reduceLE, Int.reduceEq, Nat.zero_add, Nat.add_zero, Nat.reduceBEq, Nat.one_ne_zero, Nat.zero_ne_one, Nat.lt_irrefl, Nat.succ_ne_zero, w32_id, ixc, ixc2, Int.toNat_natCast, o, c1]
          refine ⟨fun _ => ?_, fun z => absurd z (by omega)⟩
          refine S_X9_keepsTo_62 _ _ _ _ ?_; simp (disch := omega) only [B_X9_keepsTo_62, bi_0, x_ic, x_lc, x_ld, x_st, x_sl, x_inc, x_b32, x_b64, x_d32, x_d64, x_s64, x_un, x_lcmp, x_dup, x_pop, x_dup2, x_if, x_cmp, x_sw, swk, x_ald, x_ast, x_alen, x_getf, x_putf, x_inv, x_mm, x_copy, x_iret, x_lret, x_vret, ok1, pu, ct, rcv, rcs, ent0, List.getElem?_cons_zero, List.getElem?_cons_succ, List.getElem?_nil, List.set_cons_zero, List.set_cons_succ, List.take_succ_cons, List.take_zero, List.drop_succ_cons, List.drop_zero, List.reverse_cons, List.reverse_nil, List.nil_append, List.cons_append, List.length_cons, List.length_nil, true_and, and_true, and_self, ne_eq, not_true_eq_false, not_false_eq_true, reduceIte, true_or, or_true, false_or, or_false, Nat.reduceAdd, Nat.reduceSub, Nat.reduceMul, Nat.reduceLeDiff, Nat.reduceEqDiff, Nat.reduceLT, Nat.le_refl, Nat.zero_le, Int.reduceToNat, Int.reduceAdd, Int.reduceSub, Int.reduceMul, Int.reduceNeg, Int.reduceLT, Int.reduceLE, Int.reduceEq, Nat.zero_add, Nat.add_zero, Nat.reduceBEq, Nat.one_ne_zero, Nat.zero_ne_one, Nat.lt_irrefl, Nat.succ_ne_zero, w32_id, ixc, ixc2, Int.toNat_natCast]
          refine V_fg [4, 5] ?_
          refine ih (a + 1) (by omega) (fun a' k' h1 h2 => ?_)
          by_cases e : a' = a
          · subst e; exact hK k' (by omega)
          · exact hA a' k' (by omega) h2
        | succ g2 ih2 =>
          intro k hk hK
          have ix : ((a : Int) + (k : Int)).toNat = a + k := by omega
          have pv : h (tb + 12 + f) (a + k) = pt (a + k) := by rw [hpt]; exact c5 f (a + k) hf4 (by omega)
          have ew : w32 (wsm pt a k + pt (a + k)) = wsm pt a (k + 1) := rfl
          have e5 : (a : Int) + (k : Int) + 1 - (a : Int) = (k : Int) + 1 := by omega
          refine S_X9_keepsTo_16 _ _ _ _ ?_; simp (disch := omega) only [B_X9_keepsTo_16, bi_0, x_ic, x_lc, x_ld, x_st, x_sl, x_inc, x_b32, x_b64, x_d32, x_d64, x_s64, x_un, x_lcmp, x_dup, x_pop, x_dup2, x_if, x_cmp, x_sw, swk, x_ald, x_ast, x_alen, x_getf, x_putf, x_inv, x_mm, x_copy, x_iret, x_lret, x_vret, ok1, pu, ct, rcv, rcs, ent0, List.getElem?_cons_zero, List.getElem?_cons_succ, List.getElem?_nil, List.set_cons_zero, List.set_cons_succ, List.take_succ_cons, List.take_zero, List.drop_succ_cons, List.drop_zero, List.reverse_cons, List.reverse_nil, List.nil_append, List.cons_append, List.length_cons, List.length_nil, true_and, and_true, and_self, ne_eq, not_true_eq_false, not_false_eq_true, reduceIte, true_or, or_true, false_or, or_false, Nat.reduceAdd, Nat.reduceSub, Nat.reduceMul, Nat.reduceLeDiff, Nat.reduceEqDiff, Nat.reduceLT, Nat.le_refl, Nat.zero_le, Int.reduceToNat, Int.reduceAdd, Int.reduceSub, Int.reduceMul, Int.reduceNeg, Int.reduceLT, Int.reduceLE, Int.reduceEq, Nat.zero_add, Nat.add_zero, Nat.reduceBEq, Nat.one_ne_zero, Nat.zero_ne_one, Nat.lt_irrefl, Nat.succ_ne_zero, w32_id, ixc, ixc2, Int.toNat_natCast, o, c1, tf2 L ht, tl11 ht, tf_p L ht hf4, tlp ht hf4, ix, pv, ew, e5]
          refine ⟨fun z => absurd z (by omega), fun _ => ⟨by omega, by omega, oc, ?_⟩⟩
          refine Cl.app (av k (by omega)) ?_
          (try simp (disch := omega) only [bi_0, x_ic, x_lc, x_ld, x_st, x_sl, x_inc, x_b32, x_b64, x_d32, x_d64, x_s64, x_un, x_lcmp, x_dup, x_pop, x_dup2, x_if, x_cmp, x_sw, swk, x_ald, x_ast, x_alen, x_getf, x_putf, x_inv, x_mm, x_copy, x_iret, x_lret, x_vret, ok1, pu, ct, rcv, rcs, ent0, List.getElem?_cons_zero, List.getElem?_cons_succ, List.getElem?_nil, List.set_cons_zero, List.set_cons_succ, List.take_succ_cons, List.take_zero, List.drop_succ_cons, List.drop_zero, List.reverse_cons, List.reverse_nil, List.nil_append, List.cons_append, List.length_cons, List.length_nil, true_and, and_true, and_self, ne_eq, not_true_eq_false, not_false_eq_true, reduceIte, true_or, or_true, false_or, or_false, Nat.reduceAdd, Nat.reduceSub, Nat.reduceMul, Nat.reduceLeDiff, Nat.reduceEqDiff, Nat.reduceLT, Nat.le_refl, Nat.zero_le, Int.reduceToNat, Int.reduceAdd, Int.reduceSub, Int.reduceMul, Int.reduceNeg, Int.reduceLT, Int.reduceLE, Int.reduceEq, Nat.zero_add, Nat.add_zero, Nat.reduceBEq, Nat.one_ne_zero, Nat.zero_ne_one, Nat.lt_irrefl, Nat.succ_ne_zero, w32_id, ixc, ixc2, Int.toNat_natCast])
          refine ⟨fun y => ?_, fun y => ?_⟩
          · refine S_X9_keepsTo_56 _ _ _ _ ?_; simp (disch := omega) only [B_X9_keepsTo_56, bi_0, x_ic, x_lc, x_ld, x_st, x_sl, x_inc, x_b32, x_b64, x_d32, x_d64, x_s64, x_un, x_lcmp, x_dup, x_pop, x_dup2, x_if, x_cmp, x_sw, swk, x_ald, x_ast, x_alen, x_getf, x_putf, x_inv, x_mm, x_copy, x_iret, x_lret, x_vret, ok1, pu, ct, rcv, rcs, ent0, List.getElem?_cons_zero, List.getElem?_cons_succ, List.getElem?_nil, List.set_cons_zero, List.set_cons_succ, List.take_succ_cons, List.take_zero, List.drop_succ_cons, List.drop_zero, List.reverse_cons, List.reverse_nil, List.nil_append, List.cons_append, List.length_cons, List.length_nil, true_and, and_true, and_self, ne_eq, not_true_eq_false, not_false_eq_true, reduceIte, true_or, or_true, false_or, or_false, Nat.reduceAdd, Nat.reduceSub, Nat.reduceMul, Nat.reduceLeDiff, Nat.reduceEqDiff, Nat.reduceLT, Nat.le_refl, Nat.zero_le, Int.reduceToNat, Int.reduceAdd, Int.reduceSub, Int.reduceMul, Int.reduceNeg, Int.reduceLT, Int.reduceLE, Int.reduceEq, Nat.zero_add, Nat.add_zero, Nat.reduceBEq, Nat.one_ne_zero, Nat.zero_ne_one, Nat.lt_irrefl, Nat.succ_ne_zero, w32_id, ixc, ixc2, Int.toNat_natCast]
            have := ih2 (k + 1) (by omega) (fun k' hk' => by
              by_cases e : k' = k
              · subst e; exact y
              · exact hK k' (by omega))
            rw [show (a : Int) + ((k + 1 : Nat) : Int) = (a : Int) + (k : Int) + 1 by omega] at this
            exact this
          · exact Rt_mk (bI_f (fun q => y (q a k (by omega)))).symm
      have := inner (tmT T + 1 - a) 0 (by omega) (fun k' q => absurd q (by omega))
      rw [show (a : Int) + ((0 : Nat) : Int) = (a : Int) by omega] at this
      exact this
  exact key (tmT T + 1) 0 (by omega) (fun a' k q => absurd q (by omega))
theorem c_servedFirst (L : Lay h) (ht : Trf tb) (hnb : nb = 4 ∨ nb = 34) (R : RN h nb) (W : WN (h 220)) (C : CS h tb T) (Tw : TW (h 220) T) {n : Nat} (hn : (n : Int) < h 220 1) : Cl l (d + 3) M_X9_servedFirst [(2, (tb : Int) + 1), (2, (nb : Int) + 1), (0, (n : Int))] SHP h (Rt (svsF (h 220) T n) SHP h) := by
  have o := tf_ob ht
  have nn := W.nn
  have nf := W.nf
  have s1 := (net_sh hnb).1
  have htm := Tw.1
  have hn4 : n < 4 := by omega
  obtain ⟨c1, c2, c3, c4, c5⟩ := id C
  have bb := Tw.2.2.2.1 n hn4
  have q := c2 n hn4
  rw [qL_ix] at q
  have q1 := q.1
  rw [List.length_map] at q1
  have hl : (ixs (h 220) (usT T) n).length ≤ 40 := by
    unfold ixs
    have := pl_len (p := atU (h 220) (usT T) n) (m := (usT T).length)
    have := Tw.2.1
    omega
  have cq := c_quota (l := l) (d := d) L ht hnb R W hn (bz := bzT T) (c3 n hn4) (by omega)
  have x4 := (R.2.2.1 n hn).1
  have kb := W.kdB n hn
  unfold svsF
  rw [Int.toNat_natCast]
  have hn0 : (0 : Int) ≤ (n : Int) ∧ (n : Int) < h 220 1 := by omega
  refine Cl_hide (fun Q hQ => ?_)
  have no : ¬ (((0 : Int) ≤ (n : Int) ∧ (n : Int) < h 220 1) ∧ 1 ≤ quo (h 220) (bzT T) n ∧ ixs (h 220) (usT T) n ≠ []) → V l (d + 3) 0 0 M_X9_servedFirst 0 0 18 Q [(2, (tb : Int) + 1), (2, (nb : Int) + 1), (0, (n : Int))] [] SHP h := by
    intro z
    refine S_X9_servedFirst_18 _ _ _ _ ?_; simp (disch := omega) only [B_X9_servedFirst_18, bi_0, x_ic, x_lc, x_ld, x_st, x_sl, x_inc, x_b32, x_b64, x_d32, x_d64, x_s64, x_un, x_lcmp, x_dup, x_pop, x_dup2, x_if, x_cmp, x_sw, swk, x_ald, x_ast, x_alen, x_getf, x_putf, x_inv, x_mm, x_copy, x_iret, x_lret, x_vret, ok1, pu, ct, rcv, rcs, ent0, List.getElem?_cons_zero, List.getElem?_cons_succ, List.getElem?_nil, List.set_cons_zero, List.set_cons_succ, List.take_succ_cons, List.take_zero, List.drop_succ_cons, List.drop_zero, List.reverse_cons, List.reverse_nil, List.nil_append, List.cons_append, List.length_cons, List.length_nil, true_and, and_true, and_self, ne_eq, not_true_eq_false, not_false_eq_true, reduceIte, true_or, or_true, false_or, or_false, Nat.reduceAdd, Nat.reduceSub, Nat.reduceMul, Nat.reduceLeDiff, Nat.reduceEqDiff, Nat.reduceLT, Nat.le_refl, Nat.zero_le, Int.reduceToNat, Int.reduceAdd, Int.reduceSub, Int.reduceMul, Int.reduceNeg, Int.reduceLT, Int.reduceLE, Int.reduceEq, Nat.zero_add, Nat.add_zero, Nat.reduceBEq, Nat.one_ne_zero, Nat.zero_ne_one, Nat.lt_irrefl, Nat.succ_ne_zero, w32_id, ixc, ixc2, Int.toNat_natCast]
    exact hQ _ _ _ (Rt_mk (by rw [iF_f z]))
  show V l (d + 3) 0 0 M_X9_servedFirst 0 0 0 Q [(2, (tb : Int) + 1), (2, (nb : Int) + 1), (0, (n : Int))] [] SHP h
  refine S_X9_servedFirst_0 _ _ _ _ ?_; simp (disch := omega) only [B_X9_servedFirst_0, bi_0, x_ic, x_lc, x_ld, x_st, x_sl, x_inc, x_b32, x_b64, x_d32, x_d64, x_s64, x_un, x_lcmp, x_dup, x_pop, x_dup2, x_if, x_cmp, x_sw, swk, x_ald, x_ast, x_alen, x_getf, x_putf, x_inv, x_mm, x_copy, x_iret, x_lret, x_vret, ok1, pu, ct, rcv, rcs, ent0, List.getElem?_cons_zero, List.getElem?_cons_succ, List.getElem?_nil, List.set_cons_zero, List.set_cons_succ, List.take_succ_cons, List.take_zero, List.drop_succ_cons, List.drop_zero, List.reverse_cons, List.reverse_nil, List.nil_append, List.cons_append, List.length_cons, List.length_nil, true_and, and_true, and_self, ne_eq, not_true_eq_false, not_false_eq_true, reduceIte, true_or, or_true, false_or, or_false, Nat.reduceAdd, Nat.reduceSub, Nat.reduceMul, Nat.reduceLeDiff, Nat.reduceEqDiff, Nat.reduceLT, Nat.le_refl, Nat.zero_le, Int.reduceToNat, Int.reduceAdd, Int.reduceSub, Int.reduceMul, Int.reduceNeg, Int.reduceLT, Int.reduceLE, Int.reduceEq, Nat.zero_add, Nat.add_zero, Nat.reduceBEq, Nat.one_ne_zero, Nat.zero_ne_one, Nat.lt_irrefl, Nat.succ_ne_zero, w32_id, ixc, ixc2, Int.toNat_natCast, o, tf3 L ht, tl16 ht, q1]
  refine ⟨by omega, fun z => ?_, fun z => ?_⟩
  · exact no (fun y => y.2.2 (List.length_eq_zero_iff.mp (by omega)))
  refine Cl.app cq ?_
  (try simp (disch := omega) only [bi_0, x_ic, x_lc, x_ld, x_st, x_sl, x_inc, x_b32, x_b64, x_d32, x_d64, x_s64, x_un, x_lcmp, x_dup, x_pop, x_dup2, x_if, x_cmp, x_sw, swk, x_ald, x_ast, x_alen, x_getf, x_putf, x_inv, x_mm, x_copy, x_iret, x_lret, x_vret, ok1, pu, ct, rcv, rcs, ent0, List.getElem?_cons_zero, List.getElem?_cons_succ, List.getElem?_nil, List.set_cons_zero, List.set_cons_succ, List.take_succ_cons, List.take_zero, List.drop_succ_cons, List.drop_zero, List.reverse_cons, List.reverse_nil, List.nil_append, List.cons_append, List.length_cons, List.length_nil, true_and, and_true, and_self, ne_eq, not_true_eq_false, not_false_eq_true, reduceIte, true_or, or_true, false_or, or_false, Nat.reduceAdd, Nat.reduceSub, Nat.reduceMul, Nat.reduceLeDiff, Nat.reduceEqDiff, Nat.reduceLT, Nat.le_refl, Nat.zero_le, Int.reduceToNat, Int.reduceAdd, Int.reduceSub, Int.reduceMul, Int.reduceNeg, Int.reduceLT, Int.reduceLE, Int.reduceEq, Nat.zero_add, Nat.add_zero, Nat.reduceBEq, Nat.one_ne_zero, Nat.zero_ne_one, Nat.lt_irrefl, Nat.succ_ne_zero, w32_id, ixc, ixc2, Int.toNat_natCast])
  refine ⟨fun y => ?_, fun y => no (fun x => by omega)⟩
  have e : ixs (h 220) (usT T) n ≠ [] := fun z2 => z (by rw [z2]; rfl)
  have hl0 : 0 < (ixs (h 220) (usT T) n).length := List.length_pos_iff.mpr e
  have hk2 : ∀ j, j < (ixs (h 220) (usT T) n).length → ((uA (usT T) ((ixs (h 220) (usT T) n).getD j 0)).1 : Int) < 4 ∧ (uA (usT T) ((ixs (h 220) (usT T) n).getD j 0)).2.2 < 64 := fun j hj => by
    have := Tw.2.2.1 _ (ixs_at (gD_mem 0 hj)).1
    have := this.1
    have := (Tw.2.2.1 _ (ixs_at (gD_mem 0 hj)).1).2.2
    omega
  obtain ⟨I, hI⟩ : ∃ I, I = ixs (h 220) (usT T) n := ⟨_, rfl⟩
  rw [← hI] at q q1 hl e hl0 hk2 hQ
  have gv : ∀ j, j < I.length → (I.map (fun k => enc (uA (usT T) k))).getD j 0 = enc (uA (usT T) (I.getD j 0)) := fun j hj => gD_map _ 0 _ hj
  have hv : ∀ j, j < (I.map (fun k => enc (uA (usT T) k))).length → 0 ≤ (I.map (fun k => enc (uA (usT T) k))).getD j 0 ∧ (I.map (fun k => enc (uA (usT T) k))).getD j 0 < 256 := fun j hj => by
    rw [List.length_map] at hj
    rw [gv j hj]
    have := hk2 j hj
    unfold enc; omega
  have cn := c_nextPlace (l := l) (d := d) L ht hn4 q (by rw [List.length_map]; exact hl) hv (kind := kd (h 220) n) kb (-1)
  have ep : pkP (kd (h 220) n) (fun j => (I.map (fun k => enc (uA (usT T) k))).getD j 0 / 64) (I.map (fun k => enc (uA (usT T) k))).length (-1) = pkP (kd (h 220) n) (fun j => ((uA (usT T) (I.getD j 0)).1 : Int)) I.length (-1) := by
    rw [List.length_map]
    exact pkP_c (fun j hj => by rw [gv j hj, (enc_d (hk2 j hj).2).1])
  have pb := pkP_b (kind := kd (h 220) n) (x := fun j => ((uA (usT T) (I.getD j 0)).1 : Int)) (t := -1) hl0 (fun j hj => ⟨by omega, (hk2 j hj).1⟩)
  rw [ep, Int.max_eq_right (by omega)] at cn
  obtain ⟨p, hp⟩ : ∃ p : Nat, pkP (kd (h 220) n) (fun j => ((uA (usT T) (I.getD j 0)).1 : Int)) I.length (-1) = (p : Int) := ⟨_, (Int.toNat_of_nonneg pb.1).symm⟩
  rw [hp] at cn pb
  have hp2 : p < I.length := by omega
  have qv : h (tb + 2 + n) p = enc (uA (usT T) (I.getD p 0)) := by rw [q.2 p (by rw [List.length_map]; exact hp2), gv p hp2]
  have eb : 0 ≤ enc (uA (usT T) (I.getD p 0)) ∧ enc (uA (usT T) (I.getD p 0)) < 256 := by have := hk2 p hp2; unfold enc; omega
  have d1 : dv32 (enc (uA (usT T) (I.getD p 0))) 64 = ((uA (usT T) (I.getD p 0)).1 : Int) := by rw [dv32_pos eb.1 (by omega) (by decide) (by decide)]; exact (enc_d (hk2 p hp2).2).1
  refine S_X9_servedFirst_20 _ _ _ _ ?_; simp (disch := omega) only [B_X9_servedFirst_20, bi_0, x_ic, x_lc, x_ld, x_st, x_sl, x_inc, x_b32, x_b64, x_d32, x_d64, x_s64, x_un, x_lcmp, x_dup, x_pop, x_dup2, x_if, x_cmp, x_sw, swk, x_ald, x_ast, x_alen, x_getf, x_putf, x_inv, x_mm, x_copy, x_iret, x_lret, x_vret, ok1, pu, ct, rcv, rcs, ent0, List.getElem?_cons_zero, List.getElem?_cons_succ, List.getElem?_nil, List.set_cons_zero, List.set_cons_succ, List.take_succ_cons, List.take_zero, List.drop_succ_cons, List.drop_zero, List.reverse_cons, List.reverse_nil, List.nil_append, List.cons_append, List.length_cons, List.length_nil, true_and, and_true, and_self, ne_eq, not_true_eq_false, not_false_eq_true, reduceIte, true_or, or_true, false_or, or_false, Nat.reduceAdd, Nat.reduceSub, Nat.reduceMul, Nat.reduceLeDiff, Nat.reduceEqDiff, Nat.reduceLT, Nat.le_refl, Nat.zero_le, Int.reduceToNat, Int.reduceAdd, Int.reduceSub, Int.reduceMul, Int.reduceNeg, Int.reduceLT, Int.reduceLE, Int.reduceEq, Nat.zero_add, Nat.add_zero, Nat.reduceBEq, Nat.one_ne_zero, Nat.zero_ne_one, Nat.lt_irrefl, Nat.succ_ne_zero, w32_id, ixc, ixc2, Int.toNat_natCast, o, tf0 L ht, tl1 ht, tf_q L ht hn4, s1, nf4 L hnb, nln5 hnb, x4]
  (repeat' (first | assumption | (with_reducible refine And.intro ?_ ?_) | (refine im (fun hq => ?_); (try (exfalso; omega; done))) | omega))
  refine Cl.app cn ?_
  (try simp (disch := omega) only [bi_0, x_ic, x_lc, x_ld, x_st, x_sl, x_inc, x_b32, x_b64, x_d32, x_d64, x_s64, x_un, x_lcmp, x_dup, x_pop, x_dup2, x_if, x_cmp, x_sw, swk, x_ald, x_ast, x_alen, x_getf, x_putf, x_inv, x_mm, x_copy, x_iret, x_lret, x_vret, ok1, pu, ct, rcv, rcs, ent0, List.getElem?_cons_zero, List.getElem?_cons_succ, List.getElem?_nil, List.set_cons_zero, List.set_cons_succ, List.take_succ_cons, List.take_zero, List.drop_succ_cons, List.drop_zero, List.reverse_cons, List.reverse_nil, List.nil_append, List.cons_append, List.length_cons, List.length_nil, true_and, and_true, and_self, ne_eq, not_true_eq_false, not_false_eq_true, reduceIte, true_or, or_true, false_or, or_false, Nat.reduceAdd, Nat.reduceSub, Nat.reduceMul, Nat.reduceLeDiff, Nat.reduceEqDiff, Nat.reduceLT, Nat.le_refl, Nat.zero_le, Int.reduceToNat, Int.reduceAdd, Int.reduceSub, Int.reduceMul, Int.reduceNeg, Int.reduceLT, Int.reduceLE, Int.reduceEq, Nat.zero_add, Nat.add_zero, Nat.reduceBEq, Nat.one_ne_zero, Nat.zero_ne_one, Nat.lt_irrefl, Nat.succ_ne_zero, w32_id, ixc, ixc2, Int.toNat_natCast, tlq ht hn4, qv, d1])
  refine ⟨by omega, hQ _ _ _ (Rt_mk ?_)⟩
  rw [iF_t ⟨hn0, by omega, e⟩]
  unfold nxT
  rw [hp, Int.toNat_natCast]
theorem c_draw (ht : Trf tb) {g m : Int} (hg : h tb 9 = g) (hgb : 0 ≤ g ∧ g < 2147483648) (hm : 1 ≤ m ∧ m ≤ 4) : Cl l (d + 1) M_X9_draw [(2, (tb : Int) + 1), (0, m)] SHP h (Rt (drw g / 65536 % m) SHP (up h tb 9 (drw g))) := by
  have o := tf_ob ht
  have db := drw_b g
  have e1 : w64 (g * 1103515245) = g * 1103515245 := w64_id (by omega) (by omega)
  have e2 : w64 (g * 1103515245 + 12345) = g * 1103515245 + 12345 := w64_id (by omega) (by omega)
  have e3 : rm64 (g * 1103515245 + 12345) 2147483648 = drw g := rm64_pos (by omega) (by omega) (by decide) (by decide)
  have e4 : dv64 (drw g) 65536 = drw g / 65536 := dv64_pos db.1 (by omega) (by decide) (by decide)
  have b4 := ediv_b (a := drw g) (b := 65536) db.1 (by decide)
  have e5 : rm64 (drw g / 65536) m = drw g / 65536 % m := rm64_pos (by omega) (by omega) (by omega) (by omega)
  have b5 := Int.emod_lt_of_pos (drw g / 65536) (show 0 < m by omega)
  have b6 := Int.emod_nonneg (drw g / 65536) (show m ≠ 0 by omega)
  have e6 : w32 (drw g / 65536 % m) = drw g / 65536 % m := w32_id (by omega) (by omega)
  have e7 : up h tb 9 (drw g) tb 9 = drw g := up_at
  show V l (d + 1) 0 0 M_X9_draw 0 0 0 _ [(2, (tb : Int) + 1), (0, m)] [] SHP h
  refine S_X9_draw_0 _ _ _ _ ?_; simp (disch := omega) only [B_X9_draw_0, bi_0, x_ic, x_lc, x_ld, x_st, x_sl, x_inc, x_b32, x_b64, x_d32, x_d64, x_s64, x_un, x_lcmp, x_dup, x_pop, x_dup2, x_if, x_cmp, x_sw, swk, x_ald, x_ast, x_alen, x_getf, x_putf, x_inv, x_mm, x_copy, x_iret, x_lret, x_vret, ok1, pu, ct, rcv, rcs, ent0, List.getElem?_cons_zero, List.getElem?_cons_succ, List.getElem?_nil, List.set_cons_zero, List.set_cons_succ, List.take_succ_cons, List.take_zero, List.drop_succ_cons, List.drop_zero, List.reverse_cons, List.reverse_nil, List.nil_append, List.cons_append, List.length_cons, List.length_nil, true_and, and_true, and_self, ne_eq, not_true_eq_false, not_false_eq_true, reduceIte, true_or, or_true, false_or, or_false, Nat.reduceAdd, Nat.reduceSub, Nat.reduceMul, Nat.reduceLeDiff, Nat.reduceEqDiff, Nat.reduceLT, Nat.le_refl, Nat.zero_le, Int.reduceToNat, Int.reduceAdd, Int.reduceSub, Int.reduceMul, Int.reduceNeg, Int.reduceLT, Int.reduceLE, Int.reduceEq, Nat.zero_add, Nat.add_zero, Nat.reduceBEq, Nat.one_ne_zero, Nat.zero_ne_one, Nat.lt_irrefl, Nat.succ_ne_zero, w32_id, ixc, ixc2, Int.toNat_natCast, o, hg, e1, e2, e3, e7, e4, e5, e6]
  refine ⟨fun z => absurd z (by omega), fun _ => ⟨by omega, ?_⟩⟩
  refine S_X9_draw_40 _ _ _ _ ?_; simp (disch := omega) only [B_X9_draw_40, bi_0, x_ic, x_lc, x_ld, x_st, x_sl, x_inc, x_b32, x_b64, x_d32, x_d64, x_s64, x_un, x_lcmp, x_dup, x_pop, x_dup2, x_if, x_cmp, x_sw, swk, x_ald, x_ast, x_alen, x_getf, x_putf, x_inv, x_mm, x_copy, x_iret, x_lret, x_vret, ok1, pu, ct, rcv, rcs, ent0, List.getElem?_cons_zero, List.getElem?_cons_succ, List.getElem?_nil, List.set_cons_zero, List.set_cons_succ, List.take_succ_cons, List.take_zero, List.drop_succ_cons, List.drop_zero, List.reverse_cons, List.reverse_nil, List.nil_append, List.cons_append, List.length_cons, List.length_nil, true_and, and_true, and_self, ne_eq, not_true_eq_false, not_false_eq_true, reduceIte, true_or, or_true, false_or, or_false, Nat.reduceAdd, Nat.reduceSub, Nat.reduceMul, Nat.reduceLeDiff, Nat.reduceEqDiff, Nat.reduceLT, Nat.le_refl, Nat.zero_le, Int.reduceToNat, Int.reduceAdd, Int.reduceSub, Int.reduceMul, Int.reduceNeg, Int.reduceLT, Int.reduceLE, Int.reduceEq, Nat.zero_add, Nat.add_zero, Nat.reduceBEq, Nat.one_ne_zero, Nat.zero_ne_one, Nat.lt_irrefl, Nat.succ_ne_zero, w32_id, ixc, ixc2, Int.toNat_natCast]
  exact Rt_mk rfl
end CN

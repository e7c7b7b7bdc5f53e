/-! the reference: which unit is next, and serving -/
theorem mem_gD {I : List Nat} {k : Nat} (h : k ∈ I) : ∃ j, j < I.length ∧ I.getD j 0 = k := by
  obtain ⟨j, hj, e⟩ := List.mem_iff_getElem.mp h
  exact ⟨j, hj, by rw [List.getD_eq_getElem?_getD, List.getElem?_eq_getElem hj]; exact e⟩
/-- those of a flow -/
def ofF (fl : Nat → Nat) (I : List Nat) (f : Int) : List Nat := I.filter (fun k => decide ((fl k : Int) = f))
theorem ofF_no {fl : Nat → Nat} {I : List Nat} {f : Int} (h : ofF fl I f = []) {k : Nat} (hk : k ∈ I) : (fl k : Int) ≠ f := fun e => by
  have : k ∈ ofF fl I f := List.mem_filter.mpr ⟨hk, by simp [e]⟩
  rw [h] at this; cases this
theorem hdI_fil {fl : Nat → Nat} {m : Int} : ∀ {I : List Nat} {i : Nat}, i < I.length → (∀ j, j < i → (fl (I.getD j 0) : Int) ≠ m) → (fl (I.getD i 0) : Int) = m → hdI (ofF fl I m) = (I.getD i 0 : Nat)
  | [], _, h, _, _ => absurd h (Nat.not_lt_zero _)
  | y :: I, 0, _, _, h2 => by
    unfold ofF
    rw [List.filter_cons, if_pos (by simpa using h2)]; rfl
  | y :: I, i + 1, h, h1, h2 => by
    have h0 := h1 0 (by omega)
    unfold ofF
    rw [List.filter_cons, if_neg (by simpa using h0)]
    exact hdI_fil (I := I) (i := i) (by simpa using h) (fun j hj => h1 (j + 1) (by omega)) h2
theorem fArF {fl : Nat → Nat} {I : List Nat} {t f : Int} (h4 : ∀ k, k ∈ I → (fl k : Int) < 4) (hf : ofF fl I f ≠ []) (ht : t < f) (hn : ∀ f', t < f' → f' < f → ofF fl I f' = []) : ∃ i : Nat, i < I.length ∧ (fAr (fun j => (fl (I.getD j 0) : Int)) t I.length).1 = (i : Int) ∧ hdI (ofF fl I f) = (I.getD i 0 : Nat) ∧ (fl (I.getD i 0) : Int) = f := by
  obtain ⟨k, hk⟩ := List.exists_mem_of_ne_nil _ hf
  obtain ⟨hk1, hk2⟩ := List.mem_filter.mp hk
  obtain ⟨j, hj, ej⟩ := mem_gD hk1
  have hk2 : (fl k : Int) = f := by simpa using hk2
  rcases fAr_sp (x := fun j => (fl (I.getD j 0) : Int)) (t := t) (m := I.length) (fun j hj => h4 _ (gD_mem 0 hj)) with ⟨a, c⟩ | ⟨i, a, b, c, e, g⟩
  · exact absurd (by dsimp only; rw [ej]; omega) (c j hj)
  · have h1 := e j hj (by dsimp only; rw [ej]; omega)
    dsimp only at h1 c g
    rw [ej, hk2] at h1
    have h2 : (fl (I.getD i 0) : Int) = f := by
      by_cases q : (fl (I.getD i 0) : Int) < f
      · exact absurd rfl (ofF_no (hn _ c q) (gD_mem 0 a))
      · omega
    exact ⟨i, a, b, hdI_fil a (fun j hj => by rw [← h2]; exact g j hj) h2, h2⟩
theorem fArN {fl : Nat → Nat} {I : List Nat} {t : Int} (h4 : ∀ k, k ∈ I → (fl k : Int) < 4) (hn : ∀ f', t < f' → f' < 4 → ofF fl I f' = []) : (fAr (fun j => (fl (I.getD j 0) : Int)) t I.length).1 = -1 := by
  rcases fAr_sp (x := fun j => (fl (I.getD j 0) : Int)) (t := t) (m := I.length) (fun j hj => h4 _ (gD_mem 0 hj)) with ⟨a, c⟩ | ⟨i, a, b, c, e, g⟩
  · exact a
  · exact absurd rfl (ofF_no (hn _ c (h4 _ (gD_mem 0 a))) (gD_mem 0 a))
def Ip (nt : Nat → Int) (us : List Un) (sv : Nat → Int) (n : Nat) : List Nat := pl (fun k => atU nt us n k && decide (sv k = 0)) us.length
theorem unP_any {nt : Nat → Int} {us : List Un} {sv : Nat → Int} {n : Nat} : pl (unP nt us sv n (-1)) us.length = Ip nt us sv n := pl_cong (fun k _ => by unfold unP; simp)
theorem unP_of {nt : Nat → Int} {us : List Un} {sv : Nat → Int} {n : Nat} {f : Int} (hf : 0 ≤ f) : pl (unP nt us sv n f) us.length = ofF (fun k => (uA us k).1) (Ip nt us sv n) f := by
  unfold ofF Ip
  rw [pl_fil]
  exact pl_cong (fun k _ => by unfold unP; rw [show decide (f < 0) = false from decide_eq_false (by omega)]; simp)
def nxT (kind : Int) (us : List Un) (I : List Nat) (t : Int) : Nat := I.getD (pkP kind (fun j => ((uA us (I.getD j 0)).1 : Int)) I.length t).toNat 0
def NF (h h' : Mem) : Prop := (∀ i, i ≠ 214 → h' i = h i) ∧ ∀ j, j ≠ 30 → h' 214 j = h 214 j
theorem NF.lay {h h' : Mem} (f : NF h h') (L : Lay h) : Lay h' := by
  refine Lay_fr L (fun q hq => ?_)
  have hn : LAYL.all (fun q => !(q.1 == 214 && q.2.1 == 30)) = true := by decide +kernel
  have h1 := List.all_eq_true.mp hn q hq
  simp only [Bool.not_eq_true', Bool.and_eq_false_iff, beq_eq_false_iff_ne] at h1
  by_cases e : q.1 = 214
  · rw [e]; exact f.2 _ (h1.resolve_left (fun z => z e))
  · rw [f.1 q.1 e]
section MX
variable {l : Launch} {d : Nat} {h : Mem} {b : Nat} {T : TS}
theorem r_nextUnit (L : Lay h) (W : WN (h 220)) (hb : b + 382 ≤ 1628) (R : RS (h 226) b T) (Tw : TX (h 220) T) {n : Nat} (hn : (n : Int) < h 220 1) {t : Int} (ht : -1 ≤ t ∧ t < h 220 2) (h30 : kd (h 220) n = 3 → h 214 30 = t) : Cl l (d + 4) M_X11_nextUnit [(2, 215), (0, (b : Int)), (0, (n : Int))] SHP h (fun r sh' h' => (r = if Ip (h 220) (usT T) (h 235) n = [] then -1 else (nxT (kd (h 220) n) (usT T) (Ip (h 220) (usT T) (h 235) n) t : Int)) ∧ sh' = SHP ∧ NF h h' ∧ (kd (h 220) n = 3 → Ip (h 220) (usT T) (h 235) n ≠ [] → h' 214 30 = ((uA (usT T) (nxT (kd (h 220) n) (usT T) (Ip (h 220) (usT T) (h 235) n) t)).1 : Int))) := by
  have nf := W.nf
  have nn := W.nn
  have kb := W.kdB n hn
  refine Cl_hide (fun Q hQ => ?_)
  obtain ⟨I, hI⟩ : ∃ I, I = Ip (h 220) (usT T) (h 235) n := ⟨_, rfl⟩
  rw [← hI] at hQ
  obtain ⟨fl, hfl⟩ : ∃ fl : Nat → Nat, fl = fun k => (uA (usT T) k).1 := ⟨_, rfl⟩
  have mI : ∀ k, k ∈ I → k < (usT T).length := fun k hk => by rw [hI] at hk; exact (pl_mem.mp hk).1
  have fb : ∀ k, k ∈ I → (fl k : Int) < h 220 2 := fun k hk => by rw [hfl]; exact (Tw.2.2.1 k (mI k hk)).1
  have f4 : ∀ k, k ∈ I → (fl k : Int) < 4 := fun k hk => by have := fb k hk; omega
  have c1 := r_kindOf (l := l) (d := d + 2) L (n := n) (by omega)
  show V l (d + 4) 0 0 M_X11_nextUnit 0 0 0 Q [(2, 215), (0, (b : Int)), (0, (n : Int)), (9, 0), (9, 0), (9, 0), (9, 0), (9, 0)] [] SHP h
  refine S_X11_nextUnit_0 _ _ _ _ ?_; simp (disch := omega) only [B_X11_nextUnit_0, bi_0, x_ic, x_lc, x_ld, x_st, x_sl, x_inc, x_b32, x_b64, x_d32, x_d64, x_s64, x_un, x_lcmp, x_dup, x_pop, x_dup2, x_if, x_cmp, x_sw, swk, x_ald, x_ast, x_alen, x_getf, x_putf, x_inv, x_mm, x_copy, x_iret, x_lret, x_vret, ok1, pu, ct, rcv, rcs, ent0, List.getElem?_cons_zero, List.getElem?_cons_succ, List.getElem?_nil, List.set_cons_zero, List.set_cons_succ, List.take_succ_cons, List.take_zero, List.drop_succ_cons, List.drop_zero, List.reverse_cons, List.reverse_nil, List.nil_append, List.cons_append, List.length_cons, List.length_nil, true_and, and_true, and_self, ne_eq, not_true_eq_false, not_false_eq_true, reduceIte, true_or, or_true, false_or, or_false, Nat.reduceAdd, Nat.reduceSub, Nat.reduceMul, Nat.reduceLeDiff, Nat.reduceEqDiff, Nat.reduceLT, Nat.le_refl, Nat.zero_le, Int.reduceToNat, Int.reduceAdd, Int.reduceSub, Int.reduceMul, Int.reduceNeg, Int.reduceLT, Int.reduceLE, Int.reduceEq, Nat.zero_add, Nat.add_zero, Nat.reduceBEq, Nat.one_ne_zero, Nat.zero_ne_one, Nat.lt_irrefl, Nat.succ_ne_zero, w32_id, ixc, ixc2, Int.toNat_natCast, ob_214]
  refine Cl.app c1 ?_
  (try simp (disch := omega) only [bi_0, x_ic, x_lc, x_ld, x_st, x_sl, x_inc, x_b32, x_b64, x_d32, x_d64, x_s64, x_un, x_lcmp, x_dup, x_pop, x_dup2, x_if, x_cmp, x_sw, swk, x_ald, x_ast, x_alen, x_getf, x_putf, x_inv, x_mm, x_copy, x_iret, x_lret, x_vret, ok1, pu, ct, rcv, rcs, ent0, List.getElem?_cons_zero, List.getElem?_cons_succ, List.getElem?_nil, List.set_cons_zero, List.set_cons_succ, List.take_succ_cons, List.take_zero, List.drop_succ_cons, List.drop_zero, List.reverse_cons, List.reverse_nil, List.nil_append, List.cons_append, List.length_cons, List.length_nil, true_and, and_true, and_self, ne_eq, not_true_eq_false, not_false_eq_true, reduceIte, true_or, or_true, false_or, or_false, Nat.reduceAdd, Nat.reduceSub, Nat.reduceMul, Nat.reduceLeDiff, Nat.reduceEqDiff, Nat.reduceLT, Nat.le_refl, Nat.zero_le, Int.reduceToNat, Int.reduceAdd, Int.reduceSub, Int.reduceMul, Int.reduceNeg, Int.reduceLT, Int.reduceLE, Int.reduceEq, Nat.zero_add, Nat.add_zero, Nat.reduceBEq, Nat.one_ne_zero, Nat.zero_ne_one, Nat.lt_irrefl, Nat.succ_ne_zero, w32_id, ixc, ixc2, Int.toNat_natCast])
  -- fifo and blind
  have k28 : ∀ la : Int, (la = 0 ∧ kd (h 220) n = 2) ∨ (la = 1 ∧ kd (h 220) n = 0) → V l (d + 4) 0 0 M_X11_nextUnit 0 0 28 Q [(2, 215), (0, (b : Int)), (0, (n : Int)), (0, kd (h 220) n), (9, 0), (9, 0), (9, 0), (9, 0)] [(0, la), (0, -1), (0, (n : Int)), (0, (b : Int)), (2, 215)] SHP h := by
    intro la hla
    have c2 := r_unitOf (l := l) (d := d) L W hb R Tw (la := la) (by omega) n (-1)
    rw [unP_any, ← hI] at c2
    refine S_X11_nextUnit_28 _ _ _ _ ?_; simp (disch := omega) only [B_X11_nextUnit_28, bi_0, x_ic, x_lc, x_ld, x_st, x_sl, x_inc, x_b32, x_b64, x_d32, x_d64, x_s64, x_un, x_lcmp, x_dup, x_pop, x_dup2, x_if, x_cmp, x_sw, swk, x_ald, x_ast, x_alen, x_getf, x_putf, x_inv, x_mm, x_copy, x_iret, x_lret, x_vret, ok1, pu, ct, rcv, rcs, ent0, List.getElem?_cons_zero, List.getElem?_cons_succ, List.getElem?_nil, List.set_cons_zero, List.set_cons_succ, List.take_succ_cons, List.take_zero, List.drop_succ_cons, List.drop_zero, List.reverse_cons, List.reverse_nil, List.nil_append, List.cons_append, List.length_cons, List.length_nil, true_and, and_true, and_self, ne_eq, not_true_eq_false, not_false_eq_true, reduceIte, true_or, or_true, false_or, or_false, Nat.reduceAdd, Nat.reduceSub, Nat.reduceMul, Nat.reduceLeDiff, Nat.reduceEqDiff, Nat.reduceLT, Nat.le_refl, Nat.zero_le, Int.reduceToNat, Int.reduceAdd, Int.reduceSub, Int.reduceMul, Int.reduceNeg, Int.reduceLT, Int.reduceLE, Int.reduceEq, Nat.zero_add, Nat.add_zero, Nat.reduceBEq, Nat.one_ne_zero, Nat.zero_ne_one, Nat.lt_irrefl, Nat.succ_ne_zero, w32_id, ixc, ixc2, Int.toNat_natCast, ob_214]
    refine Cl.app c2 ?_
    refine hQ _ _ _ ⟨?_, rfl, ⟨fun _ _ => rfl, fun _ _ => rfl⟩, fun q => by omega⟩
    by_cases e : I = []
    · rw [if_pos e, e]; split <;> rfl
    · rw [if_neg e]
      have hl : 0 < I.length := List.length_pos_iff.mpr e
      unfold nxT pkP
      rcases hla with ⟨a1, a2⟩ | ⟨a1, a2⟩
      · rw [if_pos a1, if_neg (by omega), if_neg (by omega), if_neg (by omega)]; exact hdI_g e
      · rw [if_neg (by omega), if_pos a2, laI_g e, show ((I.length : Int) - 1).toNat = I.length - 1 by omega]
  have k15 : kd (h 220) n = 2 ∨ kd (h 220) n = 0 → V l (d + 4) 0 0 M_X11_nextUnit 0 0 15 Q [(2, 215), (0, (b : Int)), (0, (n : Int)), (0, kd (h 220) n), (9, 0), (9, 0), (9, 0), (9, 0)] [] SHP h := by
    intro hk
    refine S_X11_nextUnit_15 _ _ _ _ ?_; simp (disch := omega) only [B_X11_nextUnit_15, bi_0, x_ic, x_lc, x_ld, x_st, x_sl, x_inc, x_b32, x_b64, x_d32, x_d64, x_s64, x_un, x_lcmp, x_dup, x_pop, x_dup2, x_if, x_cmp, x_sw, swk, x_ald, x_ast, x_alen, x_getf, x_putf, x_inv, x_mm, x_copy, x_iret, x_lret, x_vret, ok1, pu, ct, rcv, rcs, ent0, List.getElem?_cons_zero, List.getElem?_cons_succ, List.getElem?_nil, List.set_cons_zero, List.set_cons_succ, List.take_succ_cons, List.take_zero, List.drop_succ_cons, List.drop_zero, List.reverse_cons, List.reverse_nil, List.nil_append, List.cons_append, List.length_cons, List.length_nil, true_and, and_true, and_self, ne_eq, not_true_eq_false, not_false_eq_true, reduceIte, true_or, or_true, false_or, or_false, Nat.reduceAdd, Nat.reduceSub, Nat.reduceMul, Nat.reduceLeDiff, Nat.reduceEqDiff, Nat.reduceLT, Nat.le_refl, Nat.zero_le, Int.reduceToNat, Int.reduceAdd, Int.reduceSub, Int.reduceMul, Int.reduceNeg, Int.reduceLT, Int.reduceLE, Int.reduceEq, Nat.zero_add, Nat.add_zero, Nat.reduceBEq, Nat.one_ne_zero, Nat.zero_ne_one, Nat.lt_irrefl, Nat.succ_ne_zero, w32_id, ixc, ixc2, Int.toNat_natCast]
    refine ⟨fun y => k28 1 (Or.inr ⟨rfl, y⟩), fun y => ?_⟩
    refine S_X11_nextUnit_27 _ _ _ _ ?_; simp (disch := omega) only [B_X11_nextUnit_27, bi_0, x_ic, x_lc, x_ld, x_st, x_sl, x_inc, x_b32, x_b64, x_d32, x_d64, x_s64, x_un, x_lcmp, x_dup, x_pop, x_dup2, x_if, x_cmp, x_sw, swk, x_ald, x_ast, x_alen, x_getf, x_putf, x_inv, x_mm, x_copy, x_iret, x_lret, x_vret, ok1, pu, ct, rcv, rcs, ent0, List.getElem?_cons_zero, List.getElem?_cons_succ, List.getElem?_nil, List.set_cons_zero, List.set_cons_succ, List.take_succ_cons, List.take_zero, List.drop_succ_cons, List.drop_zero, List.reverse_cons, List.reverse_nil, List.nil_append, List.cons_append, List.length_cons, List.length_nil, true_and, and_true, and_self, ne_eq, not_true_eq_false, not_false_eq_true, reduceIte, true_or, or_true, false_or, or_false, Nat.reduceAdd, Nat.reduceSub, Nat.reduceMul, Nat.reduceLeDiff, Nat.reduceEqDiff, Nat.reduceLT, Nat.le_refl, Nat.zero_le, Int.reduceToNat, Int.reduceAdd, Int.reduceSub, Int.reduceMul, Int.reduceNeg, Int.reduceLT, Int.reduceLE, Int.reduceEq, Nat.zero_add, Nat.add_zero, Nat.reduceBEq, Nat.one_ne_zero, Nat.zero_ne_one, Nat.lt_irrefl, Nat.succ_ne_zero, w32_id, ixc, ixc2, Int.toNat_natCast]
    exact k28 0 (Or.inl ⟨rfl, by omega⟩)
  -- by flows, from one on
  have k47 : ∀ fr : Int, (0 ≤ fr ∧ fr ≤ h 220 2) → ((kd (h 220) n = 1 ∧ fr = 0) ∨ (kd (h 220) n = 3 ∧ fr = t + 1)) → V l (d + 4) 0 0 M_X11_nextUnit 0 0 47 Q [(2, 215), (0, (b : Int)), (0, (n : Int)), (0, kd (h 220) n), (9, 0), (9, 0), (9, 0), (9, 0)] [(0, fr)] SHP h := by
    intro fr hfr hk
    refine S_X11_nextUnit_47 _ _ _ _ ?_; simp (disch := omega) only [B_X11_nextUnit_47, bi_0, x_ic, x_lc, x_ld, x_st, x_sl, x_inc, x_b32, x_b64, x_d32, x_d64, x_s64, x_un, x_lcmp, x_dup, x_pop, x_dup2, x_if, x_cmp, x_sw, swk, x_ald, x_ast, x_alen, x_getf, x_putf, x_inv, x_mm, x_copy, x_iret, x_lret, x_vret, ok1, pu, ct, rcv, rcs, ent0, List.getElem?_cons_zero, List.getElem?_cons_succ, List.getElem?_nil, List.set_cons_zero, List.set_cons_succ, List.take_succ_cons, List.take_zero, List.drop_succ_cons, List.drop_zero, List.reverse_cons, List.reverse_nil, List.nil_append, List.cons_append, List.length_cons, List.length_nil, true_and, and_true, and_self, ne_eq, not_true_eq_false, not_false_eq_true, reduceIte, true_or, or_true, false_or, or_false, Nat.reduceAdd, Nat.reduceSub, Nat.reduceMul, Nat.reduceLeDiff, Nat.reduceEqDiff, Nat.reduceLT, Nat.le_refl, Nat.zero_le, Int.reduceToNat, Int.reduceAdd, Int.reduceSub, Int.reduceMul, Int.reduceNeg, Int.reduceLT, Int.reduceLE, Int.reduceEq, Nat.zero_add, Nat.add_zero, Nat.reduceBEq, Nat.one_ne_zero, Nat.zero_ne_one, Nat.lt_irrefl, Nat.succ_ne_zero, w32_id, ixc, ixc2, Int.toNat_natCast]
    have key : ∀ (j k : Nat), (k : Int) + j = h 220 2 → (∀ k' : Nat, k' < k → ofF fl I ((fr + (k' : Int)) % h 220 2) = []) → V l (d + 4) 0 0 M_X11_nextUnit 0 0 52 Q [(2, 215), (0, (b : Int)), (0, (n : Int)), (0, kd (h 220) n), (0, fr), (0, (k : Int)), (9, 0), (9, 0)] [] SHP h := by
      intro j
      induction j with
      | zero =>
        intro k hk2 hno
        have c3 := r_flows (l := l) (d := d + 2) L
        have eI : I = [] := by
          rcases List.eq_nil_or_concat I with e | ⟨I', k0, e⟩
          · exact e
          · have hm : k0 ∈ I := by rw [e]; simp
            have hb2 := fb k0 hm
            obtain ⟨k', hk', ek⟩ : ∃ k' : Nat, k' < k ∧ (fr + (k' : Int)) % h 220 2 = (fl k0 : Int) := by
              by_cases q : fr ≤ (fl k0 : Int)
              · refine ⟨((fl k0 : Int) - fr).toNat, by omega, ?_⟩
                rw [show fr + ((((fl k0 : Int) - fr).toNat : Nat) : Int) = (fl k0 : Int) by omega]
                exact Int.emod_eq_of_lt (by omega) (by omega)
              · refine ⟨((fl k0 : Int) + h 220 2 - fr).toNat, by omega, ?_⟩
                rw [show fr + ((((fl k0 : Int) + h 220 2 - fr).toNat : Nat) : Int) = (fl k0 : Int) + h 220 2 by omega, Int.add_emod_right]
                exact Int.emod_eq_of_lt (by omega) (by omega)
            exact absurd ek.symm (ofF_no (hno k' hk') hm)
        refine S_X11_nextUnit_52 _ _ _ _ ?_; simp (disch := omega) only [B_X11_nextUnit_52, bi_0, x_ic, x_lc, x_ld, x_st, x_sl, x_inc, x_b32, x_b64, x_d32, x_d64, x_s64, x_un, x_lcmp, x_dup, x_pop, x_dup2, x_if, x_cmp, x_sw, swk, x_ald, x_ast, x_alen, x_getf, x_putf, x_inv, x_mm, x_copy, x_iret, x_lret, x_vret, ok1, pu, ct, rcv, rcs, ent0, List.getElem?_cons_zero, List.getElem?_cons_succ, List.getElem?_nil, List.set_cons_zero, List.set_cons_succ, List.take_succ_cons, List.take_zero, List.drop_succ_cons, List.drop_zero, List.reverse_cons, List.reverse_nil, List.nil_append, List.cons_append, List.length_cons, List.length_nil, true_and, and_true, and_self, ne_eq, not_true_eq_false, not_false_eq_true, reduceIte, true_or, or_true, false_or, or_false, Nat.reduceAdd, Nat.reduceSub, Nat.reduceMul, Nat.reduceLeDiff, Nat.reduceEqDiff, Nat.reduceLT, Nat.le_refl, Nat.zero_le, Int.reduceToNat, Int.reduceAdd, Int.reduceSub, Int.reduceMul, Int.reduceNeg, Int.reduceLT, Int.reduceLE, Int.reduceEq, Nat.zero_add, Nat.add_zero, Nat.reduceBEq, Nat.one_ne_zero, Nat.zero_ne_one, Nat.lt_irrefl, Nat.succ_ne_zero, w32_id, ixc, ixc2, Int.toNat_natCast, ob_214]
        refine Cl.app c3 ?_
        (try simp (disch := omega) only [bi_0, x_ic, x_lc, x_ld, x_st, x_sl, x_inc, x_b32, x_b64, x_d32, x_d64, x_s64, x_un, x_lcmp, x_dup, x_pop, x_dup2, x_if, x_cmp, x_sw, swk, x_ald, x_ast, x_alen, x_getf, x_putf, x_inv, x_mm, x_copy, x_iret, x_lret, x_vret, ok1, pu, ct, rcv, rcs, ent0, List.getElem?_cons_zero, List.getElem?_cons_succ, List.getElem?_nil, List.set_cons_zero, List.set_cons_succ, List.take_succ_cons, List.take_zero, List.drop_succ_cons, List.drop_zero, List.reverse_cons, List.reverse_nil, List.nil_append, List.cons_append, List.length_cons, List.length_nil, true_and, and_true, and_self, ne_eq, not_true_eq_false, not_false_eq_true, reduceIte, true_or, or_true, false_or, or_false, Nat.reduceAdd, Nat.reduceSub, Nat.reduceMul, Nat.reduceLeDiff, Nat.reduceEqDiff, Nat.reduceLT, Nat.le_refl, Nat.zero_le, Int.reduceToNat, Int.reduceAdd, Int.reduceSub, Int.reduceMul, Int.reduceNeg, Int.reduceLT, Int.reduceLE, Int.reduceEq, Nat.zero_add, Nat.add_zero, Nat.reduceBEq, Nat.one_ne_zero, Nat.zero_ne_one, Nat.lt_irrefl, Nat.succ_ne_zero, w32_id, ixc, ixc2, Int.toNat_natCast])
        refine ⟨fun _ => ?_, fun z => absurd z (by omega)⟩
        refine S_X11_nextUnit_104 _ _ _ _ ?_; simp (disch := omega) only [B_X11_nextUnit_104, bi_0, x_ic, x_lc, x_ld, x_st, x_sl, x_inc, x_b32, x_b64, x_d32, x_d64, x_s64, x_un, x_lcmp, x_dup, x_pop, x_dup2, x_if, x_cmp, x_sw, swk, x_ald, x_ast, x_alen, x_getf, x_putf, x_inv, x_mm, x_copy, x_iret, x_lret, x_vret, ok1, pu, ct, rcv, rcs, ent0, List.getElem?_cons_zero, List.getElem?_cons_succ, List.getElem?_nil, List.set_cons_zero, List.set_cons_succ, List.take_succ_cons, List.take_zero, List.drop_succ_cons, List.drop_zero, List.reverse_cons, List.reverse_nil, List.nil_append, List.cons_append, List.length_cons, List.length_nil, true_and, and_true, and_self, ne_eq, not_true_eq_false, not_false_eq_true, reduceIte, true_or, or_true, false_or, or_false, Nat.reduceAdd, Nat.reduceSub, Nat.reduceMul, Nat.reduceLeDiff, Nat.reduceEqDiff, Nat.reduceLT, Nat.le_refl, Nat.zero_le, Int.reduceToNat, Int.reduceAdd, Int.reduceSub, Int.reduceMul, Int.reduceNeg, Int.reduceLT, Int.reduceLE, Int.reduceEq, Nat.zero_add, Nat.add_zero, Nat.reduceBEq, Nat.one_ne_zero, Nat.zero_ne_one, Nat.lt_irrefl, Nat.succ_ne_zero, w32_id, ixc, ixc2, Int.toNat_natCast]
        exact hQ _ _ _ ⟨by rw [if_pos eI], rfl, ⟨fun _ _ => rfl, fun _ _ => rfl⟩, fun _ q => absurd eI q⟩
      | succ j ih =>
        intro k hk2 hno
        have c3 := r_flows (l := l) (d := d + 2) L
        have em := rm32_pos (a := fr + (k : Int)) (b := h 220 2) (by omega) (by omega) (by omega) (by omega)
        have e1 := Int.emod_nonneg (fr + (k : Int)) (show h 220 2 ≠ 0 by omega)
        have e2 := Int.emod_lt_of_pos (fr + (k : Int)) (show 0 < h 220 2 by omega)
        obtain ⟨f, hf⟩ : ∃ f : Int, f = (fr + (k : Int)) % h 220 2 := ⟨_, rfl⟩
        rw [← hf] at em e1 e2
        have c4 := r_unitOf (l := l) (d := d) L W hb R Tw (la := 0) (by omega) n f
        rw [unP_of e1, ← hI, ← hfl, if_pos rfl] at c4
        refine S_X11_nextUnit_52 _ _ _ _ ?_; simp (disch := omega) only [B_X11_nextUnit_52, bi_0, x_ic, x_lc, x_ld, x_st, x_sl, x_inc, x_b32, x_b64, x_d32, x_d64, x_s64, x_un, x_lcmp, x_dup, x_pop, x_dup2, x_if, x_cmp, x_sw, swk, x_ald, x_ast, x_alen, x_getf, x_putf, x_inv, x_mm, x_copy, x_iret, x_lret, x_vret, ok1, pu, ct, rcv, rcs, ent0, List.getElem?_cons_zero, List.getElem?_cons_succ, List.getElem?_nil, List.set_cons_zero, List.set_cons_succ, List.take_succ_cons, List.take_zero, List.drop_succ_cons, List.drop_zero, List.reverse_cons, List.reverse_nil, List.nil_append, List.cons_append, List.length_cons, List.length_nil, true_and, and_true, and_self, ne_eq, not_true_eq_false, not_false_eq_true, reduceIte, true_or, or_true, false_or, or_false, Nat.reduceAdd, Nat.reduceSub, Nat.reduceMul, Nat.reduceLeDiff, Nat.reduceEqDiff, Nat.reduceLT, Nat.le_refl, Nat.zero_le, Int.reduceToNat, Int.reduceAdd, Int.reduceSub, Int.reduceMul, Int.reduceNeg, Int.reduceLT, Int.reduceLE, Int.reduceEq, Nat.zero_add, Nat.add_zero, Nat.reduceBEq, Nat.one_ne_zero, Nat.zero_ne_one, Nat.lt_irrefl, Nat.succ_ne_zero, w32_id, ixc, ixc2, Int.toNat_natCast, ob_214]
        refine Cl.app c3 ?_
        (try simp (disch := omega) only [bi_0, x_ic, x_lc, x_ld, x_st, x_sl, x_inc, x_b32, x_b64, x_d32, x_d64, x_s64, x_un, x_lcmp, x_dup, x_pop, x_dup2, x_if, x_cmp, x_sw, swk, x_ald, x_ast, x_alen, x_getf, x_putf, x_inv, x_mm, x_copy, x_iret, x_lret, x_vret, ok1, pu, ct, rcv, rcs, ent0, List.getElem?_cons_zero, List.getElem?_cons_succ, List.getElem?_nil, List.set_cons_zero, List.set_cons_succ, List.take_succ_cons, List.take_zero, List.drop_succ_cons, List.drop_zero, List.reverse_cons, List.reverse_nil, List.nil_append, List.cons_append, List.length_cons, List.length_nil, true_and, and_true, and_self, ne_eq, not_true_eq_false, not_false_eq_true, reduceIte, true_or, or_true, false_or, or_false, Nat.reduceAdd, Nat.reduceSub, Nat.reduceMul, Nat.reduceLeDiff, Nat.reduceEqDiff, Nat.reduceLT, Nat.le_refl, Nat.zero_le, Int.reduceToNat, Int.reduceAdd, Int.reduceSub, Int.reduceMul, Int.reduceNeg, Int.reduceLT, Int.reduceLE, Int.reduceEq, Nat.zero_add, Nat.add_zero, Nat.reduceBEq, Nat.one_ne_zero, Nat.zero_ne_one, Nat.lt_irrefl, Nat.succ_ne_zero, w32_id, ixc, ixc2, Int.toNat_natCast, ob_214])
        refine ⟨fun z => absurd z (by omega), fun _ => ?_⟩
        refine Cl.app c3 ?_
        (try simp (disch := omega) only [bi_0, x_ic, x_lc, x_ld, x_st, x_sl, x_inc, x_b32, x_b64, x_d32, x_d64, x_s64, x_un, x_lcmp, x_dup, x_pop, x_dup2, x_if, x_cmp, x_sw, swk, x_ald, x_ast, x_alen, x_getf, x_putf, x_inv, x_mm, x_copy, x_iret, x_lret, x_vret, ok1, pu, ct, rcv, rcs, ent0, List.getElem?_cons_zero, List.getElem?_cons_succ, List.getElem?_nil, List.set_cons_zero, List.set_cons_succ, List.take_succ_cons, List.take_zero, List.drop_succ_cons, List.drop_zero, List.reverse_cons, List.reverse_nil, List.nil_append, List.cons_append, List.length_cons, List.length_nil, true_and, and_true, and_self, ne_eq, not_true_eq_false, not_false_eq_true, reduceIte, true_or, or_true, false_or, or_false, Nat.reduceAdd, Nat.reduceSub, Nat.reduceMul, Nat.reduceLeDiff, Nat.reduceEqDiff, Nat.reduceLT, Nat.le_refl, Nat.zero_le, Int.reduceToNat, Int.reduceAdd, Int.reduceSub, Int.reduceMul, Int.reduceNeg, Int.reduceLT, Int.reduceLE, Int.reduceEq, Nat.zero_add, Nat.add_zero, Nat.reduceBEq, Nat.one_ne_zero, Nat.zero_ne_one, Nat.lt_irrefl, Nat.succ_ne_zero, w32_id, ixc, ixc2, Int.toNat_natCast, ob_214, em])
        refine ⟨by omega, ?_⟩
        refine Cl.app c4 ?_
        (try simp (disch := omega) only [bi_0, x_ic, x_lc, x_ld, x_st, x_sl, x_inc, x_b32, x_b64, x_d32, x_d64, x_s64, x_un, x_lcmp, x_dup, x_pop, x_dup2, x_if, x_cmp, x_sw, swk, x_ald, x_ast, x_alen, x_getf, x_putf, x_inv, x_mm, x_copy, x_iret, x_lret, x_vret, ok1, pu, ct, rcv, rcs, ent0, List.getElem?_cons_zero, List.getElem?_cons_succ, List.getElem?_nil, List.set_cons_zero, List.set_cons_succ, List.take_succ_cons, List.take_zero, List.drop_succ_cons, List.drop_zero, List.reverse_cons, List.reverse_nil, List.nil_append, List.cons_append, List.length_cons, List.length_nil, true_and, and_true, and_self, ne_eq, not_true_eq_false, not_false_eq_true, reduceIte, true_or, or_true, false_or, or_false, Nat.reduceAdd, Nat.reduceSub, Nat.reduceMul, Nat.reduceLeDiff, Nat.reduceEqDiff, Nat.reduceLT, Nat.le_refl, Nat.zero_le, Int.reduceToNat, Int.reduceAdd, Int.reduceSub, Int.reduceMul, Int.reduceNeg, Int.reduceLT, Int.reduceLE, Int.reduceEq, Nat.zero_add, Nat.add_zero, Nat.reduceBEq, Nat.one_ne_zero, Nat.zero_ne_one, Nat.lt_irrefl, Nat.succ_ne_zero, w32_id, ixc, ixc2, Int.toNat_natCast, ob_214])
        refine ⟨fun z => ?_, fun z => ?_⟩
        · have z := hdI_neg.mp z
          refine S_X11_nextUnit_98 _ _ _ _ ?_; simp (disch := omega) only [B_X11_nextUnit_98, bi_0, x_ic, x_lc, x_ld, x_st, x_sl, x_inc, x_b32, x_b64, x_d32, x_d64, x_s64, x_un, x_lcmp, x_dup, x_pop, x_dup2, x_if, x_cmp, x_sw, swk, x_ald, x_ast, x_alen, x_getf, x_putf, x_inv, x_mm, x_copy, x_iret, x_lret, x_vret, ok1, pu, ct, rcv, rcs, ent0, List.getElem?_cons_zero, List.getElem?_cons_succ, List.getElem?_nil, List.set_cons_zero, List.set_cons_succ, List.take_succ_cons, List.take_zero, List.drop_succ_cons, List.drop_zero, List.reverse_cons, List.reverse_nil, List.nil_append, List.cons_append, List.length_cons, List.length_nil, true_and, and_true, and_self, ne_eq, not_true_eq_false, not_false_eq_true, reduceIte, true_or, or_true, false_or, or_false, Nat.reduceAdd, Nat.reduceSub, Nat.reduceMul, Nat.reduceLeDiff, Nat.reduceEqDiff, Nat.reduceLT, Nat.le_refl, Nat.zero_le, Int.reduceToNat, Int.reduceAdd, Int.reduceSub, Int.reduceMul, Int.reduceNeg, Int.reduceLT, Int.reduceLE, Int.reduceEq, Nat.zero_add, Nat.add_zero, Nat.reduceBEq, Nat.one_ne_zero, Nat.zero_ne_one, Nat.lt_irrefl, Nat.succ_ne_zero, w32_id, ixc, ixc2, Int.toNat_natCast]
          refine V_fg [6, 7] ?_
          refine ih (k + 1) (by omega) (fun k' hk' => ?_)
          by_cases e : k' = k
          · subst e; rw [← hf]; exact z
          · exact hno k' (by omega)
        · have hne : ofF fl I f ≠ [] := fun q => z (hdI_neg.mpr q)
          have hIn : I ≠ [] := fun q => hne (by rw [q]; rfl)
          -- what was asked ahead is not there
          have hno2 : ∀ f' : Int, (0 ≤ f' ∧ f' < h 220 2) → ((fr ≤ f' ∧ f' < fr + k) ∨ f' + h 220 2 < fr + k) → ofF fl I f' = [] := fun f' hb2 hc => by
            rcases hc with hc | hc
            · have := hno (f' - fr).toNat (by omega)
              rw [show fr + (((f' - fr).toNat : Nat) : Int) = f' by omega, Int.emod_eq_of_lt hb2.1 hb2.2] at this
              exact this
            · have := hno (f' + h 220 2 - fr).toNat (by omega)
              rw [show fr + (((f' + h 220 2 - fr).toNat : Nat) : Int) = f' + h 220 2 by omega, Int.add_emod_right, Int.emod_eq_of_lt hb2.1 hb2.2] at this
              exact this
          have big : ∀ f' : Int, h 220 2 ≤ f' → ofF fl I f' = [] := fun f' hf' => by
            rcases List.eq_nil_or_concat (ofF fl I f') with e | ⟨I', k0, e⟩
            · exact e
            · have hm : k0 ∈ ofF fl I f' := by rw [e]; simp
              obtain ⟨m1, m2⟩ := List.mem_filter.mp hm
              have := fb k0 m1
              have m2 : (fl k0 : Int) = f' := by simpa using m2
              omega
          have res : hdI (ofF fl I f) = (nxT (kd (h 220) n) (usT T) I t : Int) ∧ ((uA (usT T) (nxT (kd (h 220) n) (usT T) I t)).1 : Int) = f := by
            have ex : (fun j => ((uA (usT T) (I.getD j 0)).1 : Int)) = fun j => (fl (I.getD j 0) : Int) := by rw [hfl]
            unfold nxT pkP
            rw [ex]
            rcases hk with ⟨k1, k2⟩ | ⟨k1, k2⟩
            · have ef : f = (k : Int) := by rw [hf, k2, Int.zero_add]; exact Int.emod_eq_of_lt (by omega) (by omega)
              obtain ⟨i, i1, i2, i3, i4⟩ := fArF f4 hne (show (-1 : Int) < f by omega) (fun f' q1 q2 => hno2 f' (by omega) (Or.inl (by omega)))
              rw [if_neg (by omega), if_pos k1, i2, Int.toNat_natCast]
              exact ⟨i3, by rw [← i4, hfl]⟩
            · by_cases q : fr + (k : Int) < h 220 2
              · have ef : f = fr + (k : Int) := by rw [hf]; exact Int.emod_eq_of_lt (by omega) (by omega)
                obtain ⟨i, i1, i2, i3, i4⟩ := fArF f4 hne (show t < f by omega) (fun f' q1 q2 => hno2 f' (by omega) (Or.inl (by omega)))
                rw [if_neg (by omega), if_neg (by omega), if_pos k1, if_neg (by omega), i2, Int.toNat_natCast]
                exact ⟨i3, by rw [← i4, hfl]⟩
              · have ef : f = fr + (k : Int) - h 220 2 := by
                  rw [hf, show fr + (k : Int) = (fr + (k : Int) - h 220 2) + h 220 2 by omega, Int.add_emod_right]
                  rw [Int.emod_eq_of_lt (by omega) (by omega)]; omega
                have i0 := fArN (t := t) f4 (fun f' q1 q2 => by
                  by_cases q3 : f' < h 220 2
                  · exact hno2 f' (by omega) (Or.inl (by omega))
                  · exact big f' (by omega))
                obtain ⟨i, i1, i2, i3, i4⟩ := fArF f4 hne (show (-1 : Int) < f by omega) (fun f' q1 q2 => hno2 f' (by omega) (Or.inr (by omega)))
                rw [if_neg (by omega), if_neg (by omega), if_pos k1, if_pos i0, i2, Int.toNat_natCast]
                exact ⟨i3, by rw [← i4, hfl]⟩
          (try simp (disch := omega) only [bi_0, x_ic, x_lc, x_ld, x_st, x_sl, x_inc, x_b32, x_b64, x_d32, x_d64, x_s64, x_un, x_lcmp, x_dup, x_pop, x_dup2, x_if, x_cmp, x_sw, swk, x_ald, x_ast, x_alen, x_getf, x_putf, x_inv, x_mm, x_copy, x_iret, x_lret, x_vret, ok1, pu, ct, rcv, rcs, ent0, List.getElem?_cons_zero, List.getElem?_cons_succ, List.getElem?_nil, List.set_cons_zero, List.set_cons_succ, List.take_succ_cons, List.take_zero, List.drop_succ_cons, List.drop_zero, List.reverse_cons, List.reverse_nil, List.nil_append, List.cons_append, List.length_cons, List.length_nil, true_and, and_true, and_self, ne_eq, not_true_eq_false, not_false_eq_true, reduceIte, true_or, or_true, false_or, or_false, Nat.reduceAdd, Nat.reduceSub, Nat.reduceMul, Nat.reduceLeDiff, Nat.reduceEqDiff, Nat.reduceLT, Nat.le_refl, Nat.zero_le, Int.reduceToNat, Int.reduceAdd, Int.reduceSub, Int.reduceMul, Int.reduceNeg, Int.reduceLT, Int.reduceLE, Int.reduceEq, Nat.zero_add, Nat.add_zero, Nat.reduceBEq, Nat.one_ne_zero, Nat.zero_ne_one, Nat.lt_irrefl, Nat.succ_ne_zero, w32_id, ixc, ixc2, Int.toNat_natCast, ob_214])
          refine hQ _ _ _ ⟨by rw [if_neg hIn]; exact res.1, rfl, ⟨fun i hi => up_ne hi, fun j hj => up_nj hj⟩, fun _ _ => by rw [up_at]; exact res.2.symm⟩
    exact key (h 220 2).toNat 0 (by omega) (fun k' hk' => absurd hk' (by omega))
  refine ⟨fun z => k15 (Or.inl z), fun z => ⟨fun z2 => k15 (Or.inr z2), fun z2 => ?_⟩⟩
  refine S_X11_nextUnit_32 _ _ _ _ ?_; simp (disch := omega) only [B_X11_nextUnit_32, bi_0, x_ic, x_lc, x_ld, x_st, x_sl, x_inc, x_b32, x_b64, x_d32, x_d64, x_s64, x_un, x_lcmp, x_dup, x_pop, x_dup2, x_if, x_cmp, x_sw, swk, x_ald, x_ast, x_alen, x_getf, x_putf, x_inv, x_mm, x_copy, x_iret, x_lret, x_vret, ok1, pu, ct, rcv, rcs, ent0, List.getElem?_cons_zero, List.getElem?_cons_succ, List.getElem?_nil, List.set_cons_zero, List.set_cons_succ, List.take_succ_cons, List.take_zero, List.drop_succ_cons, List.drop_zero, List.reverse_cons, List.reverse_nil, List.nil_append, List.cons_append, List.length_cons, List.length_nil, true_and, and_true, and_self, ne_eq, not_true_eq_false, not_false_eq_true, reduceIte, true_or, or_true, false_or, or_false, Nat.reduceAdd, Nat.reduceSub, Nat.reduceMul, Nat.reduceLeDiff, Nat.reduceEqDiff, Nat.reduceLT, Nat.le_refl, Nat.zero_le, Int.reduceToNat, Int.reduceAdd, Int.reduceSub, Int.reduceMul, Int.reduceNeg, Int.reduceLT, Int.reduceLE, Int.reduceEq, Nat.zero_add, Nat.add_zero, Nat.reduceBEq, Nat.one_ne_zero, Nat.zero_ne_one, Nat.lt_irrefl, Nat.succ_ne_zero, w32_id, ixc, ixc2, Int.toNat_natCast, ob_214]
  refine ⟨fun z3 => ?_, fun z3 => ?_⟩
  · rw [h30 z3]
    (try simp (disch := omega) only [bi_0, x_ic, x_lc, x_ld, x_st, x_sl, x_inc, x_b32, x_b64, x_d32, x_d64, x_s64, x_un, x_lcmp, x_dup, x_pop, x_dup2, x_if, x_cmp, x_sw, swk, x_ald, x_ast, x_alen, x_getf, x_putf, x_inv, x_mm, x_copy, x_iret, x_lret, x_vret, ok1, pu, ct, rcv, rcs, ent0, List.getElem?_cons_zero, List.getElem?_cons_succ, List.getElem?_nil, List.set_cons_zero, List.set_cons_succ, List.take_succ_cons, List.take_zero, List.drop_succ_cons, List.drop_zero, List.reverse_cons, List.reverse_nil, List.nil_append, List.cons_append, List.length_cons, List.length_nil, true_and, and_true, and_self, ne_eq, not_true_eq_false, not_false_eq_true, reduceIte, true_or, or_true, false_or, or_false, Nat.reduceAdd, Nat.reduceSub, Nat.reduceMul, Nat.reduceLeDiff, Nat.reduceEqDiff, Nat.reduceLT, Nat.le_refl, Nat.zero_le, Int.reduceToNat, Int.reduceAdd, Int.reduceSub, Int.reduceMul, Int.reduceNeg, Int.reduceLT, Int.reduceLE, Int.reduceEq, Nat.zero_add, Nat.add_zero, Nat.reduceBEq, Nat.one_ne_zero, Nat.zero_ne_one, Nat.lt_irrefl, Nat.succ_ne_zero, w32_id, ixc, ixc2, Int.toNat_natCast])
    exact k47 (t + 1) (by omega) (Or.inr ⟨z3, rfl⟩)
  · refine S_X11_nextUnit_46 _ _ _ _ ?_; simp (disch := omega) only [B_X11_nextUnit_46, bi_0, x_ic, x_lc, x_ld, x_st, x_sl, x_inc, x_b32, x_b64, x_d32, x_d64, x_s64, x_un, x_lcmp, x_dup, x_pop, x_dup2, x_if, x_cmp, x_sw, swk, x_ald, x_ast, x_alen, x_getf, x_putf, x_inv, x_mm, x_copy, x_iret, x_lret, x_vret, ok1, pu, ct, rcv, rcs, ent0, List.getElem?_cons_zero, List.getElem?_cons_succ, List.getElem?_nil, List.set_cons_zero, List.set_cons_succ, List.take_succ_cons, List.take_zero, List.drop_succ_cons, List.drop_zero, List.reverse_cons, List.reverse_nil, List.nil_append, List.cons_append, List.length_cons, List.length_nil, true_and, and_true, and_self, ne_eq, not_true_eq_false, not_false_eq_true, reduceIte, true_or, or_true, false_or, or_false, Nat.reduceAdd, Nat.reduceSub, Nat.reduceMul, Nat.reduceLeDiff, Nat.reduceEqDiff, Nat.reduceLT, Nat.le_refl, Nat.zero_le, Int.reduceToNat, Int.reduceAdd, Int.reduceSub, Int.reduceMul, Int.reduceNeg, Int.reduceLT, Int.reduceLE, Int.reduceEq, Nat.zero_add, Nat.add_zero, Nat.reduceBEq, Nat.one_ne_zero, Nat.zero_ne_one, Nat.lt_irrefl, Nat.succ_ne_zero, w32_id, ixc, ixc2, Int.toNat_natCast]
    exact k47 0 (by omega) (Or.inl ⟨by omega, rfl⟩)
end MX

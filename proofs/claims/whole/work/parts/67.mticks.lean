/-! the reference: a tick, whole -/
theorem mvR_len {nt : Nat → Int} {T : TS} {S : List Nat} : ∀ {i : Nat}, (mvR nt T S i).1.length ≤ (lft0 (usT T) S).length + i
  | 0 => Nat.le_refl _
  | i + 1 => by
    have ih := mvR_len (nt := nt) (T := T) (S := S) (i := i)
    rw [mvR, mvS]
    split
    · rw [List.length_append]; simp; omega
    · dsimp only; omega
theorem lft0_len {nt : Nat → Int} {T : TS} (h4 : ∀ k, k < (usT T).length → ((uA (usT T) k).1 : Int) < 4) (n : Nat) : (lft0 (usT T) (slS nt (usT T) (bzT T) n)).length + (slS nt (usT T) (bzT T) n).length = (usT T).length := by
  unfold lft0
  rw [List.length_map]
  exact slS_len h4 n
theorem quo_b {nt : Nat → Int} (W : WN nt) {bz : Nat → Int} {n : Nat} (hn : (n : Int) < nt 1) (hb : 0 ≤ bz n ∧ bz n ≤ 60) : -10000 ≤ quo nt bz n ∧ quo nt bz n ≤ 10000 := by
  have cb := W.cuB n hn
  have v1 := vOf_b (W.wc.2 _ cb.1 cb.2) (t := bz n + 1) (by omega) (by omega)
  have v2 := vOf_b (W.wc.2 _ cb.1 cb.2) (t := bz n) (by omega) (by omega)
  unfold quo; omega
/-- a curve never falls, as it was told -/
def Mono (nt : Nat → Int) : Prop := ∀ c t : Int, 0 ≤ c → c < nt 0 → 0 ≤ t → t ≤ 100 → vOf nt c t ≤ vOf nt c (t + 1)
section MT
variable {l : Launch} {d : Nat} {h : Mem} {b : Nat} {T : TS}
theorem r_ticks (L : Lay h) (W : WN (h 220)) (M : Mono (h 220)) (hb : b + 382 ≤ 1628) (R : RS (h 226) b T) (Tw : TW (h 220) T) : Cl l (d + 6) M_X11_ticks [(2, 215), (0, (b : Int))] SHP h (fun r sh' h' => r = tkG (h 220) T ∧ sh' = SHP ∧ Fw b h h' ∧ RS (h' 226) b (tkT (h 220) T)) := by
  have nf := W.nf
  have nn := W.nn
  obtain ⟨t1, t2, t3, t4, t5⟩ := id Tw
  refine Cl_hide (fun Q hQ => ?_)
  obtain ⟨nt, ent⟩ : ∃ nt, nt = h 220 := ⟨_, rfl⟩
  obtain ⟨us, eus⟩ : ∃ us, us = usT T := ⟨_, rfl⟩
  obtain ⟨bz, ebz⟩ : ∃ bz, bz = bzT T := ⟨_, rfl⟩
  obtain ⟨tm, etm⟩ : ∃ tm, tm = tmT T := ⟨_, rfl⟩
  rw [← ent] at hQ W M t3 t5 nf nn
  rw [← eus] at t2 t3 t5
  rw [← ebz] at t4 t5
  rw [← etm] at t1 t3 t4
  have h4 : ∀ k, k < us.length → ((uA us k).1 : Int) < 4 := fun k hk => by have := (t3 k hk).1; omega
  have ix1 : ((b : Int) + 1).toNat = b + 1 := by omega
  have a17 := ly_214_17 L
  have r2 : h 226 (b + 1) = (us.length : Int) := by rw [eus]; exact R.1.2
  obtain ⟨bzP, hbzP⟩ : ∃ bzP : Nat → Nat → Int, bzP = fun n n' => if n' < n then bzN nt T n' else bz n' := ⟨_, rfl⟩
  obtain ⟨SN, hSN⟩ : ∃ SN : List Nat, SN = slS nt us bz (nt 1).toNat := ⟨_, rfl⟩
  have hSl : ∀ k, k ∈ SN → k < us.length := fun k hk => by rw [hSN] at hk; exact slS_lt h4 hk
  have hlen : (pl (fun k => !(SN.contains k)) us.length).length + SN.length = us.length := by rw [hSN]; exact slS_len h4 _
  -- what is known of a memory on the way
  have kn : ∀ {m}, Fw b h m → Lay m ∧ m 220 = nt ∧ m 214 17 = 227 ∧ m 214 29 = 236 ∧ m 214 27 = 235 ∧ m 214 31 = 237 := fun {m} F => by
    have Lm := F.lay L
    exact ⟨Lm, by rw [ent]; exact F.n220, ly_214_17 Lm, ly_214_29 Lm, ly_214_27 Lm, ly_214_31 Lm⟩
  -- last: the served ones go on
  have p4 : ∀ (g i : Nat), i + g = SN.length → ∀ m, Fw b h m → FlS m SN → (∀ k, k < us.length → m 236 (3 * k) = ((uA us k).1 : Int) ∧ m 236 (3 * k + 1) = ((uA us k).2.1 : Int) ∧ m 236 (3 * k + 2) = ((uA us k).2.2 : Int)) → RS (m 226) b (tm, (mvR nt T SN i).1, bzN nt T, (mvR nt T SN i).2.1, lsT T, (mvR nt T SN i).2.2.1, ptT T) → (0 ≤ (mvR nt T SN i).2.2.2 ∧ (mvR nt T SN i).2.2.2 ≤ i) → V l (d + 6) 0 0 M_X11_ticks 0 0 211 Q [(2, 215), (0, (b : Int)), (0, (us.length : Int)), (0, (mvR nt T SN i).2.2.2), (0, (i : Int)), (9, 0)] [] SHP m := by
    intro g
    induction g with
    | zero =>
      intro i hi m F hS hw Rm hg
      obtain ⟨Lm, e220, b17, b29, b27, b31⟩ := kn F
      have v28 := hS.2.1
      have ix0 : ((b : Int) + 0).toNat = b := by omega
      have tv : m 226 b = (tm : Int) := Rm.1.1
      have hml := mvR_len (nt := nt) (T := T) (S := SN) (i := i)
      have hl0 : (lft0 (usT T) SN).length = (pl (fun k => !(SN.contains k)) us.length).length := by unfold lft0; rw [List.length_map, ← eus]
      have ml : (mvR nt T SN i).1.length ≤ 40 := by omega
      refine S_X11_ticks_211 _ _ _ _ ?_; simp (disch := omega) only [B_X11_ticks_211, bi_0, x_ic, x_lc, x_ld, x_st, x_sl, x_inc, x_b32, x_b64, x_d32, x_d64, x_s64, x_un, x_lcmp, x_dup, x_pop, x_dup2, x_if, x_cmp, x_sw, swk, x_ald, x_ast, x_alen, x_getf, x_putf, x_inv, x_mm, x_copy, x_iret, x_lret, x_vret, ok1, pu, ct, rcv, rcs, ent0, List.getElem?_cons_zero, List.getElem?_cons_succ, List.getElem?_nil, List.set_cons_zero, List.set_cons_succ, List.take_succ_cons, List.take_zero, List.drop_succ_cons, List.drop_zero, List.reverse_cons, List.reverse_nil, List.nil_append, List.cons_append, List.length_cons, List.length_nil, true_and, and_true, and_self, ne_eq, not_true_eq_false, not_false_eq_true, reduceIte, true_or, or_true, false_or, or_false, Nat.reduceAdd, Nat.reduceSub, Nat.reduceMul, Nat.reduceLeDiff, Nat.reduceEqDiff, Nat.reduceLT, Nat.le_refl, Nat.zero_le, Int.reduceToNat, Int.reduceAdd, Int.reduceSub, Int.reduceMul, Int.reduceNeg, Int.reduceLT, Int.reduceLE, Int.reduceEq, Nat.zero_add, Nat.add_zero, Nat.reduceBEq, Nat.one_ne_zero, Nat.zero_ne_one, Nat.lt_irrefl, Nat.succ_ne_zero, w32_id, ixc, ixc2, Int.toNat_natCast, ob_214, v28]
      refine ⟨fun _ => ?_, fun z => absurd z (by omega)⟩
      refine S_X11_ticks_332 _ _ _ _ ?_; simp (disch := omega) only [B_X11_ticks_332, bi_0, x_ic, x_lc, x_ld, x_st, x_sl, x_inc, x_b32, x_b64, x_d32, x_d64, x_s64, x_un, x_lcmp, x_dup, x_pop, x_dup2, x_if, x_cmp, x_sw, swk, x_ald, x_ast, x_alen, x_getf, x_putf, x_inv, x_mm, x_copy, x_iret, x_lret, x_vret, ok1, pu, ct, rcv, rcs, ent0, List.getElem?_cons_zero, List.getElem?_cons_succ, List.getElem?_nil, List.set_cons_zero, List.set_cons_succ, List.take_succ_cons, List.take_zero, List.drop_succ_cons, List.drop_zero, List.reverse_cons, List.reverse_nil, List.nil_append, List.cons_append, List.length_cons, List.length_nil, true_and, and_true, and_self, ne_eq, not_true_eq_false, not_false_eq_true, reduceIte, true_or, or_true, false_or, or_false, Nat.reduceAdd, Nat.reduceSub, Nat.reduceMul, Nat.reduceLeDiff, Nat.reduceEqDiff, Nat.reduceLT, Nat.le_refl, Nat.zero_le, Int.reduceToNat, Int.reduceAdd, Int.reduceSub, Int.reduceMul, Int.reduceNeg, Int.reduceLT, Int.reduceLE, Int.reduceEq, Nat.zero_add, Nat.add_zero, Nat.reduceBEq, Nat.one_ne_zero, Nat.zero_ne_one, Nat.lt_irrefl, Nat.succ_ne_zero, w32_id, ixc, ixc2, Int.toNat_natCast, ob_214, b17, ln_226, ix0, tv]
      refine ⟨by omega, by omega, ?_⟩
      have es : SN = slA nt T := by rw [hSN]; unfold slA; rw [← eus, ← ebz]
      have ei : i = (slA nt T).length := by rw [← es]; omega
      have em : mvR nt T SN i = mvd nt T := by unfold mvd; rw [← es, show i = SN.length by omega]
      have Rf := Rm.tm ml (tm + 1)
      refine hQ _ _ _ ⟨?_, rfl, F.trans (Fw.up (by omega)), ?_⟩
      · unfold tkG; rw [em]
      · rw [show (tm : Int) + 1 = ((tm + 1 : Nat) : Int) by omega]
        rw [em] at Rf
        unfold tkT
        rw [← etm]
        exact Rf
    | succ g ih =>
      intro i hi m F hS hw Rm hg
      obtain ⟨Lm, e220, b17, b29, b27, b31⟩ := kn F
      have Wm : WN (m 220) := by rw [e220]; exact W
      have v28 := hS.2.1
      have tv : m 226 b = (tm : Int) := Rm.1.1
      obtain ⟨k, hk⟩ : ∃ k, k = SN.getD i 0 := ⟨_, rfl⟩
      have v234 : m 234 i = (k : Int) := by rw [hk]; exact hS.2.2 i (by omega)
      have hkl : k < us.length := by rw [hk]; exact hSl _ (gD_mem 0 (by omega))
      obtain ⟨w1, w2, w3⟩ := hw k hkl
      obtain ⟨u1, u2, u3⟩ := t3 k hkl
      have hh := W.hpB _ u1
      obtain ⟨f, hf⟩ : ∃ f, f = (uA us k).1 := ⟨_, rfl⟩
      obtain ⟨ho, hho⟩ : ∃ ho, ho = (uA us k).2.1 := ⟨_, rfl⟩
      obtain ⟨bo, hbo⟩ : ∃ bo, bo = (uA us k).2.2 := ⟨_, rfl⟩
      rw [← hf] at w1 u1 u2 hh
      rw [← hho] at w2 u2
      rw [← hbo] at w3 u3
      have i3 : (3 * (k : Int)).toNat = 3 * k := by omega
      have i31 : (3 * (k : Int) + 1).toNat = 3 * k + 1 := by omega
      have i32 : (3 * (k : Int) + 2).toNat = 3 * k + 2 := by omega
      have ix0 : ((b : Int) + 0).toNat = b := by omega
      have hml := mvR_len (nt := nt) (T := T) (S := SN) (i := i)
      have hl0 : (lft0 (usT T) SN).length = (pl (fun k => !(SN.contains k)) us.length).length := by unfold lft0; rw [List.length_map, ← eus]
      have ml : (mvR nt T SN i).1.length < 40 := by omega
      have ch := r_hopsOf (l := l) (d := d + 4) Lm (f := f) (by omega)
      rw [e220] at ch
      obtain ⟨X, hX⟩ : ∃ X, X = mvR nt T SN i := ⟨_, rfl⟩
      have eX : mvR nt T SN (i + 1) = mvS nt tm X (f, ho, bo) := by rw [mvR, ← hX, ← hk, ← etm, ← eus, hf, hho, hbo]
      rw [← hX] at Rm hg ml ⊢
      have hwk : ∀ {m' : Mem}, m' 236 = m 236 → (∀ k, k < us.length → m' 236 (3 * k) = ((uA us k).1 : Int) ∧ m' 236 (3 * k + 1) = ((uA us k).2.1 : Int) ∧ m' 236 (3 * k + 2) = ((uA us k).2.2 : Int)) := fun {m'} e => by rw [e]; exact hw
      refine S_X11_ticks_211 _ _ _ _ ?_; simp (disch := omega) only [B_X11_ticks_211, bi_0, x_ic, x_lc, x_ld, x_st, x_sl, x_inc, x_b32, x_b64, x_d32, x_d64, x_s64, x_un, x_lcmp, x_dup, x_pop, x_dup2, x_if, x_cmp, x_sw, swk, x_ald, x_ast, x_alen, x_getf, x_putf, x_inv, x_mm, x_copy, x_iret, x_lret, x_vret, ok1, pu, ct, rcv, rcs, ent0, List.getElem?_cons_zero, List.getElem?_cons_succ, List.getElem?_nil, List.set_cons_zero, List.set_cons_succ, List.take_succ_cons, List.take_zero, List.drop_succ_cons, List.drop_zero, List.reverse_cons, List.reverse_nil, List.nil_append, List.cons_append, List.length_cons, List.length_nil, true_and, and_true, and_self, ne_eq, not_true_eq_false, not_false_eq_true, reduceIte, true_or, or_true, false_or, or_false, Nat.reduceAdd, Nat.reduceSub, Nat.reduceMul, Nat.reduceLeDiff, Nat.reduceEqDiff, Nat.reduceLT, Nat.le_refl, Nat.zero_le, Int.reduceToNat, Int.reduceAdd, Int.reduceSub, Int.reduceMul, Int.reduceNeg, Int.reduceLT, Int.reduceLE, Int.reduceEq, Nat.zero_add, Nat.add_zero, Nat.reduceBEq, Nat.one_ne_zero, Nat.zero_ne_one, Nat.lt_irrefl, Nat.succ_ne_zero, w32_id, ixc, ixc2, Int.toNat_natCast, ob_214, v28, b27, ln_234, v234, b31, ln_236, i3, i31, w1, w2]
      refine ⟨fun z => absurd z (by omega), fun _ => ⟨by omega, by omega, by omega, ?_⟩⟩
      refine Cl.app ch ?_
      (try simp (disch := omega) only [bi_0, x_ic, x_lc, x_ld, x_st, x_sl, x_inc, x_b32, x_b64, x_d32, x_d64, x_s64, x_un, x_lcmp, x_dup, x_pop, x_dup2, x_if, x_cmp, x_sw, swk, x_ald, x_ast, x_alen, x_getf, x_putf, x_inv, x_mm, x_copy, x_iret, x_lret, x_vret, ok1, pu, ct, rcv, rcs, ent0, List.getElem?_cons_zero, List.getElem?_cons_succ, List.getElem?_nil, List.set_cons_zero, List.set_cons_succ, List.take_succ_cons, List.take_zero, List.drop_succ_cons, List.drop_zero, List.reverse_cons, List.reverse_nil, List.nil_append, List.cons_append, List.length_cons, List.length_nil, true_and, and_true, and_self, ne_eq, not_true_eq_false, not_false_eq_true, reduceIte, true_or, or_true, false_or, or_false, Nat.reduceAdd, Nat.reduceSub, Nat.reduceMul, Nat.reduceLeDiff, Nat.reduceEqDiff, Nat.reduceLT, Nat.le_refl, Nat.zero_le, Int.reduceToNat, Int.reduceAdd, Int.reduceSub, Int.reduceMul, Int.reduceNeg, Int.reduceLT, Int.reduceLE, Int.reduceEq, Nat.zero_add, Nat.add_zero, Nat.reduceBEq, Nat.one_ne_zero, Nat.zero_ne_one, Nat.lt_irrefl, Nat.succ_ne_zero, w32_id, ixc, ixc2, Int.toNat_natCast, ob_214, b31, ln_236, i3, i31, i32, w1, w2, w3])
      refine ⟨fun z => ?_, fun z => ⟨by omega, by omega, by omega, ?_⟩⟩
      · -- gone
        have eS : mvS nt tm X (f, ho, bo) = (X.1, (fun i => if i = f then w32 (X.2.1 i + 1) else X.2.1 i), (fun i => if i = f then max (X.2.2.1 i) ((tm : Int) + 1 - (bo : Int)) else X.2.2.1 i), X.2.2.2 + 1) := by unfold mvS; rw [if_neg (by show ¬ ((ho : Int) + 1 < hp nt f); omega)]
        have gv : m 226 (b + 126 + f) = X.2.1 f := (Rm.2.2.2.1 f (by omega)).1
        have lv : m 226 (b + 134 + f) = X.2.2.1 f := (Rm.2.2.2.1 f (by omega)).2.2
        have Rg := Rm.go (Nat.le_of_lt ml) (f := f) (by omega) (w32 (X.2.1 f + 1)) (max (X.2.2.1 f) ((tm : Int) + 1 - (bo : Int)))
        have cg := r_goes (l := l) (d := d + 4) Lm hb (f := f) (by omega) ((tm : Int) + 1 - (bo : Int))
        rw [gv, lv] at cg
        refine S_X11_ticks_291 _ _ _ _ ?_; simp (disch := omega) only [B_X11_ticks_291, bi_0, x_ic, x_lc, x_ld, x_st, x_sl, x_inc, x_b32, x_b64, x_d32, x_d64, x_s64, x_un, x_lcmp, x_dup, x_pop, x_dup2, x_if, x_cmp, x_sw, swk, x_ald, x_ast, x_alen, x_getf, x_putf, x_inv, x_mm, x_copy, x_iret, x_lret, x_vret, ok1, pu, ct, rcv, rcs, ent0, List.getElem?_cons_zero, List.getElem?_cons_succ, List.getElem?_nil, List.set_cons_zero, List.set_cons_succ, List.take_succ_cons, List.take_zero, List.drop_succ_cons, List.drop_zero, List.reverse_cons, List.reverse_nil, List.nil_append, List.cons_append, List.length_cons, List.length_nil, true_and, and_true, and_self, ne_eq, not_true_eq_false, not_false_eq_true, reduceIte, true_or, or_true, false_or, or_false, Nat.reduceAdd, Nat.reduceSub, Nat.reduceMul, Nat.reduceLeDiff, Nat.reduceEqDiff, Nat.reduceLT, Nat.le_refl, Nat.zero_le, Int.reduceToNat, Int.reduceAdd, Int.reduceSub, Int.reduceMul, Int.reduceNeg, Int.reduceLT, Int.reduceLE, Int.reduceEq, Nat.zero_add, Nat.add_zero, Nat.reduceBEq, Nat.one_ne_zero, Nat.zero_ne_one, Nat.lt_irrefl, Nat.succ_ne_zero, w32_id, ixc, ixc2, Int.toNat_natCast, ob_214, b31, ln_236, i3, w1, b17, ln_226, ix0, tv, i32, w3]
        refine ⟨by omega, by omega, by omega, ?_⟩
        refine Cl.app cg ?_
        (try simp (disch := omega) only [bi_0, x_ic, x_lc, x_ld, x_st, x_sl, x_inc, x_b32, x_b64, x_d32, x_d64, x_s64, x_un, x_lcmp, x_dup, x_pop, x_dup2, x_if, x_cmp, x_sw, swk, x_ald, x_ast, x_alen, x_getf, x_putf, x_inv, x_mm, x_copy, x_iret, x_lret, x_vret, ok1, pu, ct, rcv, rcs, ent0, List.getElem?_cons_zero, List.getElem?_cons_succ, List.getElem?_nil, List.set_cons_zero, List.set_cons_succ, List.take_succ_cons, List.take_zero, List.drop_succ_cons, List.drop_zero, List.reverse_cons, List.reverse_nil, List.nil_append, List.cons_append, List.length_cons, List.length_nil, true_and, and_true, and_self, ne_eq, not_true_eq_false, not_false_eq_true, reduceIte, true_or, or_true, false_or, or_false, Nat.reduceAdd, Nat.reduceSub, Nat.reduceMul, Nat.reduceLeDiff, Nat.reduceEqDiff, Nat.reduceLT, Nat.le_refl, Nat.zero_le, Int.reduceToNat, Int.reduceAdd, Int.reduceSub, Int.reduceMul, Int.reduceNeg, Int.reduceLT, Int.reduceLE, Int.reduceEq, Nat.zero_add, Nat.add_zero, Nat.reduceBEq, Nat.one_ne_zero, Nat.zero_ne_one, Nat.lt_irrefl, Nat.succ_ne_zero, w32_id, ixc, ixc2, Int.toNat_natCast])
        refine S_X11_ticks_326 _ _ _ _ ?_; simp (disch := omega) only [B_X11_ticks_326, bi_0, x_ic, x_lc, x_ld, x_st, x_sl, x_inc, x_b32, x_b64, x_d32, x_d64, x_s64, x_un, x_lcmp, x_dup, x_pop, x_dup2, x_if, x_cmp, x_sw, swk, x_ald, x_ast, x_alen, x_getf, x_putf, x_inv, x_mm, x_copy, x_iret, x_lret, x_vret, ok1, pu, ct, rcv, rcs, ent0, List.getElem?_cons_zero, List.getElem?_cons_succ, List.getElem?_nil, List.set_cons_zero, List.set_cons_succ, List.take_succ_cons, List.take_zero, List.drop_succ_cons, List.drop_zero, List.reverse_cons, List.reverse_nil, List.nil_append, List.cons_append, List.length_cons, List.length_nil, true_and, and_true, and_self, ne_eq, not_true_eq_false, not_false_eq_true, reduceIte, true_or, or_true, false_or, or_false, Nat.reduceAdd, Nat.reduceSub, Nat.reduceMul, Nat.reduceLeDiff, Nat.reduceEqDiff, Nat.reduceLT, Nat.le_refl, Nat.zero_le, Int.reduceToNat, Int.reduceAdd, Int.reduceSub, Int.reduceMul, Int.reduceNeg, Int.reduceLT, Int.reduceLE, Int.reduceEq, Nat.zero_add, Nat.add_zero, Nat.reduceBEq, Nat.one_ne_zero, Nat.zero_ne_one, Nat.lt_irrefl, Nat.succ_ne_zero, w32_id, ixc, ixc2, Int.toNat_natCast]
        refine V_fg [5] ?_
        have ih := ih (i + 1) (by omega) (up (up m 226 (b + 126 + f) (w32 (X.2.1 f + 1))) 226 (b + 134 + f) (max (X.2.2.1 f) ((tm : Int) + 1 - (bo : Int)))) ((F.trans (Fw.up (by omega))).trans (Fw.up (by omega))) ⟨fun k hk => by rw [up_ne (by decide), up_ne (by decide)]; exact hS.1 k hk, by rw [up_ne (by decide), up_ne (by decide)]; exact hS.2.1, fun j hj => by rw [up_ne (by decide), up_ne (by decide)]; exact hS.2.2 j hj⟩ (hwk (by rw [up_ne (by decide), up_ne (by decide)])) (by
          rw [eX, eS]
          refine RS.cong (s := up (up m 226 (b + 126 + f) (w32 (X.2.1 f + 1))) 226 (b + 134 + f) (max (X.2.2.1 f) ((tm : Int) + 1 - (bo : Int))) 226) ?_ (Nat.le_of_lt ml) (fun _ _ _ => rfl)
          have e1 : (fun i => if i = f then w32 (X.2.1 f + 1) else gnT (tm, X.1, bzN nt T, X.2.1, lsT T, X.2.2.1, ptT T) i) = fun i => if i = f then w32 (X.2.1 i + 1) else X.2.1 i := funext fun i => by
            by_cases e : i = f
            · rw [if_pos e, if_pos e, e]
            · rw [if_neg e, if_neg e]; rfl
          have e2 : (fun i => if i = f then max (X.2.2.1 f) ((tm : Int) + 1 - (bo : Int)) else ltT (tm, X.1, bzN nt T, X.2.1, lsT T, X.2.2.1, ptT T) i) = fun i => if i = f then max (X.2.2.1 i) ((tm : Int) + 1 - (bo : Int)) else X.2.2.1 i := funext fun i => by
            by_cases e : i = f
            · rw [if_pos e, if_pos e, e]
            · rw [if_neg e, if_neg e]; rfl
          rw [e1, e2] at Rg
          exact Rg) (by rw [eX, eS]; dsimp only; omega)
        rw [eX, eS] at ih
        exact ih
      · -- on
        have eS : mvS nt tm X (f, ho, bo) = (X.1 ++ [(f, ho + 1, bo)], X.2) := by unfold mvS; rw [if_pos (by show (ho : Int) + 1 < hp nt f; omega)]
        have ce := r_enters (l := l) (d := d + 3) Lm hb ml (show m 226 (b + 1) = (X.1.length : Int) from Rm.1.2) (f : Int) ((ho : Int) + 1) (bo : Int)
        have Re := Rm.ent ml (f, ho + 1, bo)
        refine Cl.app ce ?_
        (try simp (disch := omega) only [bi_0, x_ic, x_lc, x_ld, x_st, x_sl, x_inc, x_b32, x_b64, x_d32, x_d64, x_s64, x_un, x_lcmp, x_dup, x_pop, x_dup2, x_if, x_cmp, x_sw, swk, x_ald, x_ast, x_alen, x_getf, x_putf, x_inv, x_mm, x_copy, x_iret, x_lret, x_vret, ok1, pu, ct, rcv, rcs, ent0, List.getElem?_cons_zero, List.getElem?_cons_succ, List.getElem?_nil, List.set_cons_zero, List.set_cons_succ, List.take_succ_cons, List.take_zero, List.drop_succ_cons, List.drop_zero, List.reverse_cons, List.reverse_nil, List.nil_append, List.cons_append, List.length_cons, List.length_nil, true_and, and_true, and_self, ne_eq, not_true_eq_false, not_false_eq_true, reduceIte, true_or, or_true, false_or, or_false, Nat.reduceAdd, Nat.reduceSub, Nat.reduceMul, Nat.reduceLeDiff, Nat.reduceEqDiff, Nat.reduceLT, Nat.le_refl, Nat.zero_le, Int.reduceToNat, Int.reduceAdd, Int.reduceSub, Int.reduceMul, Int.reduceNeg, Int.reduceLT, Int.reduceLE, Int.reduceEq, Nat.zero_add, Nat.add_zero, Nat.reduceBEq, Nat.one_ne_zero, Nat.zero_ne_one, Nat.lt_irrefl, Nat.succ_ne_zero, w32_id, ixc, ixc2, Int.toNat_natCast])
        refine S_X11_ticks_326 _ _ _ _ ?_; simp (disch := omega) only [B_X11_ticks_326, bi_0, x_ic, x_lc, x_ld, x_st, x_sl, x_inc, x_b32, x_b64, x_d32, x_d64, x_s64, x_un, x_lcmp, x_dup, x_pop, x_dup2, x_if, x_cmp, x_sw, swk, x_ald, x_ast, x_alen, x_getf, x_putf, x_inv, x_mm, x_copy, x_iret, x_lret, x_vret, ok1, pu, ct, rcv, rcs, ent0, List.getElem?_cons_zero, List.getElem?_cons_succ, List.getElem?_nil, List.set_cons_zero, List.set_cons_succ, List.take_succ_cons, List.take_zero, List.drop_succ_cons, List.drop_zero, List.reverse_cons, List.reverse_nil, List.nil_append, List.cons_append, List.length_cons, List.length_nil, true_and, and_true, and_self, ne_eq, not_true_eq_false, not_false_eq_true, reduceIte, true_or, or_true, false_or, or_false, Nat.reduceAdd, Nat.reduceSub, Nat.reduceMul, Nat.reduceLeDiff, Nat.reduceEqDiff, Nat.reduceLT, Nat.le_refl, Nat.zero_le, Int.reduceToNat, Int.reduceAdd, Int.reduceSub, Int.reduceMul, Int.reduceNeg, Int.reduceLT, Int.reduceLE, Int.reduceEq, Nat.zero_add, Nat.add_zero, Nat.reduceBEq, Nat.one_ne_zero, Nat.zero_ne_one, Nat.lt_irrefl, Nat.succ_ne_zero, w32_id, ixc, ixc2, Int.toNat_natCast]
        refine V_fg [5] ?_
        obtain ⟨m2, hm2⟩ : ∃ m2, m2 = up (up (up (up m 226 (b + 2 + 3 * X.1.length) (f : Int)) 226 (b + 3 + 3 * X.1.length) ((ho : Int) + 1)) 226 (b + 4 + 3 * X.1.length) (bo : Int)) 226 (b + 1) ((X.1.length + 1 : Nat) : Int) := ⟨_, rfl⟩
        rw [← hm2]
        have c2 : ∀ i, i ≠ 226 → m2 i = m i := fun i hi => by rw [hm2, up_ne hi, up_ne hi, up_ne hi, up_ne hi]
        have F2 : Fw b h m2 := by rw [hm2]; exact (((F.trans (Fw.up (by omega))).trans (Fw.up (by omega))).trans (Fw.up (by omega))).trans (Fw.up (by omega))
        have ih := ih (i + 1) (by omega) m2 F2 ⟨fun k hk => by rw [c2 235 (by decide)]; exact hS.1 k hk, by rw [c2 214 (by decide)]; exact hS.2.1, fun j hj => by rw [c2 234 (by decide)]; exact hS.2.2 j hj⟩ (hwk (c2 236 (by decide))) (by
          rw [eX, eS, hm2, show (ho : Int) + 1 = ((ho + 1 : Nat) : Int) by omega]
          exact Re) (by rw [eX, eS]; dsimp only; omega)
        rw [eX, eS] at ih
        exact ih
  -- the others are laid anew
  have p3 : ∀ (g k : Nat), k + g = us.length → ∀ m, Fw b h m → FlS m SN → (∀ k, k < us.length → m 236 (3 * k) = ((uA us k).1 : Int) ∧ m 236 (3 * k + 1) = ((uA us k).2.1 : Int) ∧ m 236 (3 * k + 2) = ((uA us k).2.2 : Int)) → RS (m 226) b (tm, (pl (fun k => !(SN.contains k)) k).map (uA us), bzN nt T, gnT T, lsT T, ltT T, ptT T) → V l (d + 6) 0 0 M_X11_ticks 0 0 153 Q [(2, 215), (0, (b : Int)), (0, (us.length : Int)), (0, (k : Int)), (9, 0), (9, 0)] [] SHP m := by
    intro g
    induction g with
    | zero =>
      intro k hk m F hS hw Rm
      refine S_X11_ticks_153 _ _ _ _ ?_; simp (disch := omega) only [B_X11_ticks_153, bi_0, x_ic, x_lc, x_ld, x_st, x_sl, x_inc, x_b32, x_b64, x_d32, x_d64, x_s64, x_un, x_lcmp, x_dup, x_pop, x_dup2, x_if, x_cmp, x_sw, swk, x_ald, x_ast, x_alen, x_getf, x_putf, x_inv, x_mm, x_copy, x_iret, x_lret, x_vret, ok1, pu, ct, rcv, rcs, ent0, List.getElem?_cons_zero, List.getElem?_cons_succ, List.getElem?_nil, List.set_cons_zero, List.set_cons_succ, List.take_succ_cons, List.take_zero, List.drop_succ_cons, List.drop_zero, List.reverse_cons, List.reverse_nil, List.nil_append, List.cons_append, List.length_cons, List.length_nil, true_and, and_true, and_self, ne_eq, not_true_eq_false, not_false_eq_true, reduceIte, true_or, or_true, false_or, or_false, Nat.reduceAdd, Nat.reduceSub, Nat.reduceMul, Nat.reduceLeDiff, Nat.reduceEqDiff, Nat.reduceLT, Nat.le_refl, Nat.zero_le, Int.reduceToNat, Int.reduceAdd, Int.reduceSub, Int.reduceMul, Int.reduceNeg, Int.reduceLT, Int.reduceLE, Int.reduceEq, Nat.zero_add, Nat.add_zero, Nat.reduceBEq, Nat.one_ne_zero, Nat.zero_ne_one, Nat.lt_irrefl, Nat.succ_ne_zero, w32_id, ixc, ixc2, Int.toNat_natCast]
      refine ⟨fun _ => ?_, fun z => absurd z (by omega)⟩
      refine S_X11_ticks_206 _ _ _ _ ?_; simp (disch := omega) only [B_X11_ticks_206, bi_0, x_ic, x_lc, x_ld, x_st, x_sl, x_inc, x_b32, x_b64, x_d32, x_d64, x_s64, x_un, x_lcmp, x_dup, x_pop, x_dup2, x_if, x_cmp, x_sw, swk, x_ald, x_ast, x_alen, x_getf, x_putf, x_inv, x_mm, x_copy, x_iret, x_lret, x_vret, ok1, pu, ct, rcv, rcs, ent0, List.getElem?_cons_zero, List.getElem?_cons_succ, List.getElem?_nil, List.set_cons_zero, List.set_cons_succ, List.take_succ_cons, List.take_zero, List.drop_succ_cons, List.drop_zero, List.reverse_cons, List.reverse_nil, List.nil_append, List.cons_append, List.length_cons, List.length_nil, true_and, and_true, and_self, ne_eq, not_true_eq_false, not_false_eq_true, reduceIte, true_or, or_true, false_or, or_false, Nat.reduceAdd, Nat.reduceSub, Nat.reduceMul, Nat.reduceLeDiff, Nat.reduceEqDiff, Nat.reduceLT, Nat.le_refl, Nat.zero_le, Int.reduceToNat, Int.reduceAdd, Int.reduceSub, Int.reduceMul, Int.reduceNeg, Int.reduceLT, Int.reduceLE, Int.reduceEq, Nat.zero_add, Nat.add_zero, Nat.reduceBEq, Nat.one_ne_zero, Nat.zero_ne_one, Nat.lt_irrefl, Nat.succ_ne_zero, w32_id, ixc, ixc2, Int.toNat_natCast]
      refine p4 SN.length 0 (by omega) m F hS hw ?_ ⟨Int.le_refl 0, Int.le_refl 0⟩
      rw [mvR]
      unfold lft0
      rw [← eus]
      rw [show k = us.length by omega] at Rm
      exact Rm
    | succ g ih =>
      intro k hk m F hS hw Rm
      obtain ⟨Lm, e220, b17, b29, b27, b31⟩ := kn F
      have v235 := hS.1 k (by omega)
      obtain ⟨w1, w2, w3⟩ := hw k (by omega)
      have i3 : (3 * (k : Int)).toNat = 3 * k := by omega
      have i31 : (3 * (k : Int) + 1).toNat = 3 * k + 1 := by omega
      have i32 : (3 * (k : Int) + 2).toNat = 3 * k + 2 := by omega
      have pls := pl_s (fun k => !(SN.contains k)) k
      have pll := pl_len (p := fun k => !(SN.contains k)) (m := k)
      obtain ⟨U, hU⟩ : ∃ U, U = (pl (fun k => !(SN.contains k)) k).map (uA us) := ⟨_, rfl⟩
      have hUl : U.length ≤ k := by rw [hU, List.length_map]; exact pll
      refine S_X11_ticks_153 _ _ _ _ ?_; simp (disch := omega) only [B_X11_ticks_153, bi_0, x_ic, x_lc, x_ld, x_st, x_sl, x_inc, x_b32, x_b64, x_d32, x_d64, x_s64, x_un, x_lcmp, x_dup, x_pop, x_dup2, x_if, x_cmp, x_sw, swk, x_ald, x_ast, x_alen, x_getf, x_putf, x_inv, x_mm, x_copy, x_iret, x_lret, x_vret, ok1, pu, ct, rcv, rcs, ent0, List.getElem?_cons_zero, List.getElem?_cons_succ, List.getElem?_nil, List.set_cons_zero, List.set_cons_succ, List.take_succ_cons, List.take_zero, List.drop_succ_cons, List.drop_zero, List.reverse_cons, List.reverse_nil, List.nil_append, List.cons_append, List.length_cons, List.length_nil, true_and, and_true, and_self, ne_eq, not_true_eq_false, not_false_eq_true, reduceIte, true_or, or_true, false_or, or_false, Nat.reduceAdd, Nat.reduceSub, Nat.reduceMul, Nat.reduceLeDiff, Nat.reduceEqDiff, Nat.reduceLT, Nat.le_refl, Nat.zero_le, Int.reduceToNat, Int.reduceAdd, Int.reduceSub, Int.reduceMul, Int.reduceNeg, Int.reduceLT, Int.reduceLE, Int.reduceEq, Nat.zero_add, Nat.add_zero, Nat.reduceBEq, Nat.one_ne_zero, Nat.zero_ne_one, Nat.lt_irrefl, Nat.succ_ne_zero, w32_id, ixc, ixc2, Int.toNat_natCast, ob_214, b29, ln_235, v235, b31, ln_236, i3, i31, i32, w1, w2, w3]
      refine ⟨fun z => absurd z (by omega), fun _ => ⟨by omega, fun z => ⟨by omega, by omega, by omega, ?_⟩, fun z => ?_⟩⟩
      · have hc : SN.contains k = false := by
          cases e : SN.contains k
          · rfl
          · rw [e] at z; exact absurd z (by decide)
        rw [if_pos (by simp only [hc]; rfl)] at pls
        rw [← hU] at Rm
        have ce := r_enters (l := l) (d := d + 3) Lm hb (k := U.length) (by omega) (show m 226 (b + 1) = (U.length : Int) from Rm.1.2) ((uA us k).1 : Int) ((uA us k).2.1 : Int) ((uA us k).2.2 : Int)
        have Re := Rm.ent (show U.length < 40 by omega) (uA us k)
        refine Cl.app ce ?_
        refine S_X11_ticks_200 _ _ _ _ ?_; simp (disch := omega) only [B_X11_ticks_200, bi_0, x_ic, x_lc, x_ld, x_st, x_sl, x_inc, x_b32, x_b64, x_d32, x_d64, x_s64, x_un, x_lcmp, x_dup, x_pop, x_dup2, x_if, x_cmp, x_sw, swk, x_ald, x_ast, x_alen, x_getf, x_putf, x_inv, x_mm, x_copy, x_iret, x_lret, x_vret, ok1, pu, ct, rcv, rcs, ent0, List.getElem?_cons_zero, List.getElem?_cons_succ, List.getElem?_nil, List.set_cons_zero, List.set_cons_succ, List.take_succ_cons, List.take_zero, List.drop_succ_cons, List.drop_zero, List.reverse_cons, List.reverse_nil, List.nil_append, List.cons_append, List.length_cons, List.length_nil, true_and, and_true, and_self, ne_eq, not_true_eq_false, not_false_eq_true, reduceIte, true_or, or_true, false_or, or_false, Nat.reduceAdd, Nat.reduceSub, Nat.reduceMul, Nat.reduceLeDiff, Nat.reduceEqDiff, Nat.reduceLT, Nat.le_refl, Nat.zero_le, Int.reduceToNat, Int.reduceAdd, Int.reduceSub, Int.reduceMul, Int.reduceNeg, Int.reduceLT, Int.reduceLE, Int.reduceEq, Nat.zero_add, Nat.add_zero, Nat.reduceBEq, Nat.one_ne_zero, Nat.zero_ne_one, Nat.lt_irrefl, Nat.succ_ne_zero, w32_id, ixc, ixc2, Int.toNat_natCast]
        obtain ⟨m2, hm2⟩ : ∃ m2, m2 = up (up (up (up m 226 (b + 2 + 3 * U.length) ((uA us k).1 : Int)) 226 (b + 3 + 3 * U.length) ((uA us k).2.1 : Int)) 226 (b + 4 + 3 * U.length) ((uA us k).2.2 : Int)) 226 (b + 1) ((U.length + 1 : Nat) : Int) := ⟨_, rfl⟩
        rw [← hm2]
        have c2 : ∀ i, i ≠ 226 → m2 i = m i := fun i hi => by rw [hm2, up_ne hi, up_ne hi, up_ne hi, up_ne hi]
        have F2 : Fw b h m2 := by rw [hm2]; exact (((F.trans (Fw.up (by omega))).trans (Fw.up (by omega))).trans (Fw.up (by omega))).trans (Fw.up (by omega))
        refine ih (k + 1) (by omega) m2 F2 ⟨fun k hk => by rw [c2 235 (by decide)]; exact hS.1 k hk, by rw [c2 214 (by decide)]; exact hS.2.1, fun j hj => by rw [c2 234 (by decide)]; exact hS.2.2 j hj⟩ (by rw [c2 236 (by decide)]; exact hw) ?_
        rw [pls, List.map_append, ← hU, hm2]
        exact Re
      · have hc : SN.contains k = true := by
          cases e : SN.contains k
          · rw [e] at z; exact absurd rfl z
          · rfl
        rw [if_neg (by simp only [hc]; decide), List.append_nil] at pls
        refine S_X11_ticks_200 _ _ _ _ ?_; simp (disch := omega) only [B_X11_ticks_200, bi_0, x_ic, x_lc, x_ld, x_st, x_sl, x_inc, x_b32, x_b64, x_d32, x_d64, x_s64, x_un, x_lcmp, x_dup, x_pop, x_dup2, x_if, x_cmp, x_sw, swk, x_ald, x_ast, x_alen, x_getf, x_putf, x_inv, x_mm, x_copy, x_iret, x_lret, x_vret, ok1, pu, ct, rcv, rcs, ent0, List.getElem?_cons_zero, List.getElem?_cons_succ, List.getElem?_nil, List.set_cons_zero, List.set_cons_succ, List.take_succ_cons, List.take_zero, List.drop_succ_cons, List.drop_zero, List.reverse_cons, List.reverse_nil, List.nil_append, List.cons_append, List.length_cons, List.length_nil, true_and, and_true, and_self, ne_eq, not_true_eq_false, not_false_eq_true, reduceIte, true_or, or_true, false_or, or_false, Nat.reduceAdd, Nat.reduceSub, Nat.reduceMul, Nat.reduceLeDiff, Nat.reduceEqDiff, Nat.reduceLT, Nat.le_refl, Nat.zero_le, Int.reduceToNat, Int.reduceAdd, Int.reduceSub, Int.reduceMul, Int.reduceNeg, Int.reduceLT, Int.reduceLE, Int.reduceEq, Nat.zero_add, Nat.add_zero, Nat.reduceBEq, Nat.one_ne_zero, Nat.zero_ne_one, Nat.lt_irrefl, Nat.succ_ne_zero, w32_id, ixc, ixc2, Int.toNat_natCast]
        refine ih (k + 1) (by omega) m F hS hw ?_
        rw [pls]; exact Rm
  -- nodes serve
  have p1 : ∀ (g n : Nat), (n : Int) + g = nt 1 → ∀ m, Fw b h m → FlS m (slS nt us bz n) → RS (m 226) b (tm, us, bzP n, gnT T, lsT T, ltT T, ptT T) → V l (d + 6) 0 0 M_X11_ticks 0 0 37 Q [(2, 215), (0, (b : Int)), (0, (us.length : Int)), (0, (n : Int)), (9, 0), (9, 0)] [] SHP m := by
    intro g
    induction g with
    | zero =>
      intro n hn m F hS Rm
      obtain ⟨Lm, e220, b17, b29, b27, b31⟩ := kn F
      have c1 := r_nodes (l := l) (d := d + 4) Lm
      rw [e220] at c1
      refine S_X11_ticks_37 _ _ _ _ ?_; simp (disch := omega) only [B_X11_ticks_37, bi_0, x_ic, x_lc, x_ld, x_st, x_sl, x_inc, x_b32, x_b64, x_d32, x_d64, x_s64, x_un, x_lcmp, x_dup, x_pop, x_dup2, x_if, x_cmp, x_sw, swk, x_ald, x_ast, x_alen, x_getf, x_putf, x_inv, x_mm, x_copy, x_iret, x_lret, x_vret, ok1, pu, ct, rcv, rcs, ent0, List.getElem?_cons_zero, List.getElem?_cons_succ, List.getElem?_nil, List.set_cons_zero, List.set_cons_succ, List.take_succ_cons, List.take_zero, List.drop_succ_cons, List.drop_zero, List.reverse_cons, List.reverse_nil, List.nil_append, List.cons_append, List.length_cons, List.length_nil, true_and, and_true, and_self, ne_eq, not_true_eq_false, not_false_eq_true, reduceIte, true_or, or_true, false_or, or_false, Nat.reduceAdd, Nat.reduceSub, Nat.reduceMul, Nat.reduceLeDiff, Nat.reduceEqDiff, Nat.reduceLT, Nat.le_refl, Nat.zero_le, Int.reduceToNat, Int.reduceAdd, Int.reduceSub, Int.reduceMul, Int.reduceNeg, Int.reduceLT, Int.reduceLE, Int.reduceEq, Nat.zero_add, Nat.add_zero, Nat.reduceBEq, Nat.one_ne_zero, Nat.zero_ne_one, Nat.lt_irrefl, Nat.succ_ne_zero, w32_id, ixc, ixc2, Int.toNat_natCast, ob_214]
      refine Cl.app c1 ?_
      (try simp (disch := omega) only [bi_0, x_ic, x_lc, x_ld, x_st, x_sl, x_inc, x_b32, x_b64, x_d32, x_d64, x_s64, x_un, x_lcmp, x_dup, x_pop, x_dup2, x_if, x_cmp, x_sw, swk, x_ald, x_ast, x_alen, x_getf, x_putf, x_inv, x_mm, x_copy, x_iret, x_lret, x_vret, ok1, pu, ct, rcv, rcs, ent0, List.getElem?_cons_zero, List.getElem?_cons_succ, List.getElem?_nil, List.set_cons_zero, List.set_cons_succ, List.take_succ_cons, List.take_zero, List.drop_succ_cons, List.drop_zero, List.reverse_cons, List.reverse_nil, List.nil_append, List.cons_append, List.length_cons, List.length_nil, true_and, and_true, and_self, ne_eq, not_true_eq_false, not_false_eq_true, reduceIte, true_or, or_true, false_or, or_false, Nat.reduceAdd, Nat.reduceSub, Nat.reduceMul, Nat.reduceLeDiff, Nat.reduceEqDiff, Nat.reduceLT, Nat.le_refl, Nat.zero_le, Int.reduceToNat, Int.reduceAdd, Int.reduceSub, Int.reduceMul, Int.reduceNeg, Int.reduceLT, Int.reduceLE, Int.reduceEq, Nat.zero_add, Nat.add_zero, Nat.reduceBEq, Nat.one_ne_zero, Nat.zero_ne_one, Nat.lt_irrefl, Nat.succ_ne_zero, w32_id, ixc, ixc2, Int.toNat_natCast])
      refine ⟨fun _ => ?_, fun z => absurd z (by omega)⟩
      have eS : slS nt us bz n = SN := by rw [hSN, show n = (nt 1).toNat by omega]
      rw [eS] at hS
      have eB : bzP n = bzN nt T := by
        rw [hbzP]
        funext n'
        dsimp only
        by_cases e : n' < n
        · rw [if_pos e]
        · rw [if_neg e]; unfold bzN; rw [if_neg (by omega), ebz]
      rw [eB] at Rm
      refine S_X11_ticks_111 _ _ _ _ ?_; simp (disch := omega) only [B_X11_ticks_111, bi_0, x_ic, x_lc, x_ld, x_st, x_sl, x_inc, x_b32, x_b64, x_d32, x_d64, x_s64, x_un, x_lcmp, x_dup, x_pop, x_dup2, x_if, x_cmp, x_sw, swk, x_ald, x_ast, x_alen, x_getf, x_putf, x_inv, x_mm, x_copy, x_iret, x_lret, x_vret, ok1, pu, ct, rcv, rcs, ent0, List.getElem?_cons_zero, List.getElem?_cons_succ, List.getElem?_nil, List.set_cons_zero, List.set_cons_succ, List.take_succ_cons, List.take_zero, List.drop_succ_cons, List.drop_zero, List.reverse_cons, List.reverse_nil, List.nil_append, List.cons_append, List.length_cons, List.length_nil, true_and, and_true, and_self, ne_eq, not_true_eq_false, not_false_eq_true, reduceIte, true_or, or_true, false_or, or_false, Nat.reduceAdd, Nat.reduceSub, Nat.reduceMul, Nat.reduceLeDiff, Nat.reduceEqDiff, Nat.reduceLT, Nat.le_refl, Nat.zero_le, Int.reduceToNat, Int.reduceAdd, Int.reduceSub, Int.reduceMul, Int.reduceNeg, Int.reduceLT, Int.reduceLE, Int.reduceEq, Nat.zero_add, Nat.add_zero, Nat.reduceBEq, Nat.one_ne_zero, Nat.zero_ne_one, Nat.lt_irrefl, Nat.succ_ne_zero, w32_id, ixc, ixc2, Int.toNat_natCast]
      refine V_jx (pc := 113) (fun j => [(2, 215), (0, (b : Int)), (0, (us.length : Int)), (0, (j : Int)), (9, 0), (9, 0)]) (fun j m => Fw b h m ∧ FlS m SN ∧ RS (m 226) b (tm, us, bzN nt T, gnT T, lsT T, ltT T, ptT T) ∧ ∀ i, i < j → m 236 i = m 226 (b + 2 + i)) (3 * us.length) (fun j m hj J ih => ?_) (fun m J => ?_) m ⟨F, hS, Rm, fun i hi => absurd hi (by omega)⟩
      · obtain ⟨F, hS, Rm, hw⟩ := J
        obtain ⟨Lm, e220, b17, b29, b27, b31⟩ := kn F
        have ij : ((b : Int) + 2 + (j : Int)).toNat = b + 2 + j := by omega
        refine S_X11_ticks_113 _ _ _ _ ?_; simp (disch := omega) only [B_X11_ticks_113, bi_0, x_ic, x_lc, x_ld, x_st, x_sl, x_inc, x_b32, x_b64, x_d32, x_d64, x_s64, x_un, x_lcmp, x_dup, x_pop, x_dup2, x_if, x_cmp, x_sw, swk, x_ald, x_ast, x_alen, x_getf, x_putf, x_inv, x_mm, x_copy, x_iret, x_lret, x_vret, ok1, pu, ct, rcv, rcs, ent0, List.getElem?_cons_zero, List.getElem?_cons_succ, List.getElem?_nil, List.set_cons_zero, List.set_cons_succ, List.take_succ_cons, List.take_zero, List.drop_succ_cons, List.drop_zero, List.reverse_cons, List.reverse_nil, List.nil_append, List.cons_append, List.length_cons, List.length_nil, true_and, and_true, and_self, ne_eq, not_true_eq_false, not_false_eq_true, reduceIte, true_or, or_true, false_or, or_false, Nat.reduceAdd, Nat.reduceSub, Nat.reduceMul, Nat.reduceLeDiff, Nat.reduceEqDiff, Nat.reduceLT, Nat.le_refl, Nat.zero_le, Int.reduceToNat, Int.reduceAdd, Int.reduceSub, Int.reduceMul, Int.reduceNeg, Int.reduceLT, Int.reduceLE, Int.reduceEq, Nat.zero_add, Nat.add_zero, Nat.reduceBEq, Nat.one_ne_zero, Nat.zero_ne_one, Nat.lt_irrefl, Nat.succ_ne_zero, w32_id, ixc, ixc2, Int.toNat_natCast, ob_214, b31, b17, ln_226, ij, ln_236]
        refine ⟨fun z => absurd z (by omega), fun _ => ⟨by omega, by omega, ?_⟩⟩
        refine ih _ ?_
        refine ⟨F.trans (up_fw (by decide)), ⟨fun k hk => by rw [up_ne (by decide)]; exact hS.1 k hk, by rw [up_ne (by decide)]; exact hS.2.1, fun i hi => by rw [up_ne (by decide)]; exact hS.2.2 i hi⟩, by rw [up_ne (by decide)]; exact Rm, fun i hi => ?_⟩
        rw [up_ne (show 226 ≠ 236 by decide)]
        by_cases e : i = j
        · subst e; rw [up_at]
        · rw [up_nj e]; exact hw i (by omega)
      · obtain ⟨F, hS, Rm, hw⟩ := J
        obtain ⟨Lm, e220, b17, b29, b27, b31⟩ := kn F
        refine S_X11_ticks_113 _ _ _ _ ?_; simp (disch := omega) only [B_X11_ticks_113, bi_0, x_ic, x_lc, x_ld, x_st, x_sl, x_inc, x_b32, x_b64, x_d32, x_d64, x_s64, x_un, x_lcmp, x_dup, x_pop, x_dup2, x_if, x_cmp, x_sw, swk, x_ald, x_ast, x_alen, x_getf, x_putf, x_inv, x_mm, x_copy, x_iret, x_lret, x_vret, ok1, pu, ct, rcv, rcs, ent0, List.getElem?_cons_zero, List.getElem?_cons_succ, List.getElem?_nil, List.set_cons_zero, List.set_cons_succ, List.take_succ_cons, List.take_zero, List.drop_succ_cons, List.drop_zero, List.reverse_cons, List.reverse_nil, List.nil_append, List.cons_append, List.length_cons, List.length_nil, true_and, and_true, and_self, ne_eq, not_true_eq_false, not_false_eq_true, reduceIte, true_or, or_true, false_or, or_false, Nat.reduceAdd, Nat.reduceSub, Nat.reduceMul, Nat.reduceLeDiff, Nat.reduceEqDiff, Nat.reduceLT, Nat.le_refl, Nat.zero_le, Int.reduceToNat, Int.reduceAdd, Int.reduceSub, Int.reduceMul, Int.reduceNeg, Int.reduceLT, Int.reduceLE, Int.reduceEq, Nat.zero_add, Nat.add_zero, Nat.reduceBEq, Nat.one_ne_zero, Nat.zero_ne_one, Nat.lt_irrefl, Nat.succ_ne_zero, w32_id, ixc, ixc2, Int.toNat_natCast]
        refine ⟨fun _ => ?_, fun z => absurd z (by omega)⟩
        refine S_X11_ticks_142 _ _ _ _ ?_; simp (disch := omega) only [B_X11_ticks_142, bi_0, x_ic, x_lc, x_ld, x_st, x_sl, x_inc, x_b32, x_b64, x_d32, x_d64, x_s64, x_un, x_lcmp, x_dup, x_pop, x_dup2, x_if, x_cmp, x_sw, swk, x_ald, x_ast, x_alen, x_getf, x_putf, x_inv, x_mm, x_copy, x_iret, x_lret, x_vret, ok1, pu, ct, rcv, rcs, ent0, List.getElem?_cons_zero, List.getElem?_cons_succ, List.getElem?_nil, List.set_cons_zero, List.set_cons_succ, List.take_succ_cons, List.take_zero, List.drop_succ_cons, List.drop_zero, List.reverse_cons, List.reverse_nil, List.nil_append, List.cons_append, List.length_cons, List.length_nil, true_and, and_true, and_self, ne_eq, not_true_eq_false, not_false_eq_true, reduceIte, true_or, or_true, false_or, or_false, Nat.reduceAdd, Nat.reduceSub, Nat.reduceMul, Nat.reduceLeDiff, Nat.reduceEqDiff, Nat.reduceLT, Nat.le_refl, Nat.zero_le, Int.reduceToNat, Int.reduceAdd, Int.reduceSub, Int.reduceMul, Int.reduceNeg, Int.reduceLT, Int.reduceLE, Int.reduceEq, Nat.zero_add, Nat.add_zero, Nat.reduceBEq, Nat.one_ne_zero, Nat.zero_ne_one, Nat.lt_irrefl, Nat.succ_ne_zero, w32_id, ixc, ixc2, Int.toNat_natCast, ob_214, b17, ln_226, ix1]
        refine ⟨by omega, ?_⟩
        refine p3 us.length 0 (by omega) _ (F.trans (Fw.up (by omega))) ⟨fun k hk => by rw [up_ne (by decide)]; exact hS.1 k hk, by rw [up_ne (by decide)]; exact hS.2.1, fun i hi => by rw [up_ne (by decide)]; exact hS.2.2 i hi⟩ (fun k hk => ?_) ?_
        · rw [up_ne (show 236 ≠ 226 by decide)]
          have := Rm.2.1 k hk
          rw [hw (3 * k) (by omega), hw (3 * k + 1) (by omega), hw (3 * k + 2) (by omega), show b + 2 + (3 * k + 1) = b + 3 + 3 * k by omega, show b + 2 + (3 * k + 2) = b + 4 + 3 * k by omega]
          exact this
        · exact Rm.us0
    | succ g ih =>
      intro n hn m F hS Rm
      obtain ⟨Lm, e220, b17, b29, b27, b31⟩ := kn F
      have Wm : WN (m 220) := by rw [e220]; exact W
      have hni : (n : Int) < nt 1 := by omega
      have Txm : TX (m 220) (tm, us, bzP n, gnT T, lsT T, ltT T, ptT T) := by rw [e220]; exact ⟨t1, t2, t3, trivial⟩
      have c1 := r_nodes (l := l) (d := d + 4) Lm
      have c2 := r_unitsAt (l := l) (d := d + 2) Lm Wm hb Rm Txm n
      rw [e220] at c1 c2
      have eI : Ip nt us (m 235) n = ixs nt us n := by
        rw [Ip_fl hS t2]
        exact pl_cong (fun k hk => by
          by_cases e : atU nt us n k = true
          · rw [e]
            have hno : ¬ k ∈ slS nt us bz n := slS_no h4 (pl_mem.mpr ⟨hk, e⟩)
            simp [hno]
          · simp at e; simp [e])
      have bn : bzP n n = bz n := by rw [hbzP]; dsimp only; rw [if_neg (by omega)]
      have bzb := t4 n (by omega)
      have sS : slS nt us bz (n + 1) = slS nt us bz n ++ (slN nt us bz n).1 := rfl
      have eN : bzN nt T n = if (slN nt us bz n).2 = [] then 0 else bz n + 1 := by unfold bzN; rw [if_pos hni, ← eus, ← ebz]
      have bstep : ∀ v, v = bzN nt T n → (fun i => if i = n then v else bzP n i) = bzP (n + 1) := fun v hv => by
        rw [hbzP]; funext i; dsimp only
        by_cases e : i = n
        · subst e; rw [if_pos rfl, if_pos (by omega), hv]
        · rw [if_neg e]
          by_cases e2 : i < n
          · rw [if_pos e2, if_pos (by omega)]
          · rw [if_neg e2, if_neg (by omega)]
      refine S_X11_ticks_37 _ _ _ _ ?_; simp (disch := omega) only [B_X11_ticks_37, bi_0, x_ic, x_lc, x_ld, x_st, x_sl, x_inc, x_b32, x_b64, x_d32, x_d64, x_s64, x_un, x_lcmp, x_dup, x_pop, x_dup2, x_if, x_cmp, x_sw, swk, x_ald, x_ast, x_alen, x_getf, x_putf, x_inv, x_mm, x_copy, x_iret, x_lret, x_vret, ok1, pu, ct, rcv, rcs, ent0, List.getElem?_cons_zero, List.getElem?_cons_succ, List.getElem?_nil, List.set_cons_zero, List.set_cons_succ, List.take_succ_cons, List.take_zero, List.drop_succ_cons, List.drop_zero, List.reverse_cons, List.reverse_nil, List.nil_append, List.cons_append, List.length_cons, List.length_nil, true_and, and_true, and_self, ne_eq, not_true_eq_false, not_false_eq_true, reduceIte, true_or, or_true, false_or, or_false, Nat.reduceAdd, Nat.reduceSub, Nat.reduceMul, Nat.reduceLeDiff, Nat.reduceEqDiff, Nat.reduceLT, Nat.le_refl, Nat.zero_le, Int.reduceToNat, Int.reduceAdd, Int.reduceSub, Int.reduceMul, Int.reduceNeg, Int.reduceLT, Int.reduceLE, Int.reduceEq, Nat.zero_add, Nat.add_zero, Nat.reduceBEq, Nat.one_ne_zero, Nat.zero_ne_one, Nat.lt_irrefl, Nat.succ_ne_zero, w32_id, ixc, ixc2, Int.toNat_natCast, ob_214]
      refine Cl.app c1 ?_
      (try simp (disch := omega) only [bi_0, x_ic, x_lc, x_ld, x_st, x_sl, x_inc, x_b32, x_b64, x_d32, x_d64, x_s64, x_un, x_lcmp, x_dup, x_pop, x_dup2, x_if, x_cmp, x_sw, swk, x_ald, x_ast, x_alen, x_getf, x_putf, x_inv, x_mm, x_copy, x_iret, x_lret, x_vret, ok1, pu, ct, rcv, rcs, ent0, List.getElem?_cons_zero, List.getElem?_cons_succ, List.getElem?_nil, List.set_cons_zero, List.set_cons_succ, List.take_succ_cons, List.take_zero, List.drop_succ_cons, List.drop_zero, List.reverse_cons, List.reverse_nil, List.nil_append, List.cons_append, List.length_cons, List.length_nil, true_and, and_true, and_self, ne_eq, not_true_eq_false, not_false_eq_true, reduceIte, true_or, or_true, false_or, or_false, Nat.reduceAdd, Nat.reduceSub, Nat.reduceMul, Nat.reduceLeDiff, Nat.reduceEqDiff, Nat.reduceLT, Nat.le_refl, Nat.zero_le, Int.reduceToNat, Int.reduceAdd, Int.reduceSub, Int.reduceMul, Int.reduceNeg, Int.reduceLT, Int.reduceLE, Int.reduceEq, Nat.zero_add, Nat.add_zero, Nat.reduceBEq, Nat.one_ne_zero, Nat.zero_ne_one, Nat.lt_irrefl, Nat.succ_ne_zero, w32_id, ixc, ixc2, Int.toNat_natCast, ob_214])
      refine ⟨fun z => absurd z (by omega), fun _ => ?_⟩
      refine Cl.app c2 ?_
      (try simp (disch := omega) only [bi_0, x_ic, x_lc, x_ld, x_st, x_sl, x_inc, x_b32, x_b64, x_d32, x_d64, x_s64, x_un, x_lcmp, x_dup, x_pop, x_dup2, x_if, x_cmp, x_sw, swk, x_ald, x_ast, x_alen, x_getf, x_putf, x_inv, x_mm, x_copy, x_iret, x_lret, x_vret, ok1, pu, ct, rcv, rcs, ent0, List.getElem?_cons_zero, List.getElem?_cons_succ, List.getElem?_nil, List.set_cons_zero, List.set_cons_succ, List.take_succ_cons, List.take_zero, List.drop_succ_cons, List.drop_zero, List.reverse_cons, List.reverse_nil, List.nil_append, List.cons_append, List.length_cons, List.length_nil, true_and, and_true, and_self, ne_eq, not_true_eq_false, not_false_eq_true, reduceIte, true_or, or_true, false_or, or_false, Nat.reduceAdd, Nat.reduceSub, Nat.reduceMul, Nat.reduceLeDiff, Nat.reduceEqDiff, Nat.reduceLT, Nat.le_refl, Nat.zero_le, Int.reduceToNat, Int.reduceAdd, Int.reduceSub, Int.reduceMul, Int.reduceNeg, Int.reduceLT, Int.reduceLE, Int.reduceEq, Nat.zero_add, Nat.add_zero, Nat.reduceBEq, Nat.one_ne_zero, Nat.zero_ne_one, Nat.lt_irrefl, Nat.succ_ne_zero, w32_id, ixc, ixc2, Int.toNat_natCast, ob_214])
      refine ⟨fun z => ?_, fun z => ?_⟩
      · -- none there
        have e0 : ixs nt us n = [] := List.length_eq_zero_iff.mp (by have z : ((ixs nt us n).length : Int) ≤ 0 := z; omega)
        have s0 : slN nt us bz n = ([], []) := by unfold slN; rw [e0, sel_n]
        have hS' : FlS m (slS nt us bz (n + 1)) := by rw [sS, s0, List.append_nil]; exact hS
        have eb : bzP (n + 1) = bzP n := by
          rw [← bstep (bzP n n) (by rw [bn, eN, s0, if_pos rfl]; exact t5 n (by omega) e0)]
          funext i
          by_cases e : i = n
          · rw [if_pos e, e]
          · rw [if_neg e]
        refine S_X11_ticks_105 _ _ _ _ ?_; simp (disch := omega) only [B_X11_ticks_105, bi_0, x_ic, x_lc, x_ld, x_st, x_sl, x_inc, x_b32, x_b64, x_d32, x_d64, x_s64, x_un, x_lcmp, x_dup, x_pop, x_dup2, x_if, x_cmp, x_sw, swk, x_ald, x_ast, x_alen, x_getf, x_putf, x_inv, x_mm, x_copy, x_iret, x_lret, x_vret, ok1, pu, ct, rcv, rcs, ent0, List.getElem?_cons_zero, List.getElem?_cons_succ, List.getElem?_nil, List.set_cons_zero, List.set_cons_succ, List.take_succ_cons, List.take_zero, List.drop_succ_cons, List.drop_zero, List.reverse_cons, List.reverse_nil, List.nil_append, List.cons_append, List.length_cons, List.length_nil, true_and, and_true, and_self, ne_eq, not_true_eq_false, not_false_eq_true, reduceIte, true_or, or_true, false_or, or_false, Nat.reduceAdd, Nat.reduceSub, Nat.reduceMul, Nat.reduceLeDiff, Nat.reduceEqDiff, Nat.reduceLT, Nat.le_refl, Nat.zero_le, Int.reduceToNat, Int.reduceAdd, Int.reduceSub, Int.reduceMul, Int.reduceNeg, Int.reduceLT, Int.reduceLE, Int.reduceEq, Nat.zero_add, Nat.add_zero, Nat.reduceBEq, Nat.one_ne_zero, Nat.zero_ne_one, Nat.lt_irrefl, Nat.succ_ne_zero, w32_id, ixc, ixc2, Int.toNat_natCast]
        refine ih (n + 1) (by omega) m F hS' ?_
        rw [eb]; exact Rm
      · have cr := r_rateNow (l := l) (d := d + 3) Lm Wm hb (bz := bz) (n := n) (by rw [e220]; exact hni) (by rw [← bn]; exact Rm.2.2.1 n (by omega)) (by omega)
        rw [e220] at cr
        have qb := quo_b W hni (bz := bz) (by omega)
        have q0 : 0 ≤ quo nt bz n := by
          have cb := W.cuB n hni
          have := M (cu nt n) (bz n) cb.1 cb.2 (by omega) (by omega)
          unfold quo; omega
        have cs := r_servesOf (l := l) (d := d) Lm Wm hb Rm Txm (n := n) (by rw [e220]; exact hni) hS (q := quo nt bz n) (by omega) (by rw [e220]; show _ + (Ip nt us (m 235) n).length ≤ 40; rw [eI]; have := slS_room h4 (nt := nt) (bz := bz) n; omega)
        rw [e220] at cs
        refine Cl.app cr ?_
        (try simp (disch := omega) only [bi_0, x_ic, x_lc, x_ld, x_st, x_sl, x_inc, x_b32, x_b64, x_d32, x_d64, x_s64, x_un, x_lcmp, x_dup, x_pop, x_dup2, x_if, x_cmp, x_sw, swk, x_ald, x_ast, x_alen, x_getf, x_putf, x_inv, x_mm, x_copy, x_iret, x_lret, x_vret, ok1, pu, ct, rcv, rcs, ent0, List.getElem?_cons_zero, List.getElem?_cons_succ, List.getElem?_nil, List.set_cons_zero, List.set_cons_succ, List.take_succ_cons, List.take_zero, List.drop_succ_cons, List.drop_zero, List.reverse_cons, List.reverse_nil, List.nil_append, List.cons_append, List.length_cons, List.length_nil, true_and, and_true, and_self, ne_eq, not_true_eq_false, not_false_eq_true, reduceIte, true_or, or_true, false_or, or_false, Nat.reduceAdd, Nat.reduceSub, Nat.reduceMul, Nat.reduceLeDiff, Nat.reduceEqDiff, Nat.reduceLT, Nat.le_refl, Nat.zero_le, Int.reduceToNat, Int.reduceAdd, Int.reduceSub, Int.reduceMul, Int.reduceNeg, Int.reduceLT, Int.reduceLE, Int.reduceEq, Nat.zero_add, Nat.add_zero, Nat.reduceBEq, Nat.one_ne_zero, Nat.zero_ne_one, Nat.lt_irrefl, Nat.succ_ne_zero, w32_id, ixc, ixc2, Int.toNat_natCast, ob_214])
        refine Cl.imp cs (fun r sh' h' qq => ?_)
        obtain ⟨rfl, rfl, f1, f2, f3⟩ := qq
        rw [show usT (tm, us, bzP n, gnT T, lsT T, ltT T, ptT T) = us from rfl, eI] at f2 f3
        have f2 : FlS h' (slS nt us bz (n + 1)) := f2
        have f3 : Ip nt us (h' 235) n = (slN nt us bz n).2 := f3
        have F2 := F.trans f1.fw
        obtain ⟨L2, g220, d17, d29, d27, d31⟩ := kn F2
        have W2 : WN (h' 220) := by rw [g220]; exact W
        have R2 : RS (h' 226) b (tm, us, bzP n, gnT T, lsT T, ltT T, ptT T) := by rw [f1.1 226 (by decide)]; exact Rm
        have Tx2 : TX (h' 220) (tm, us, bzP n, gnT T, lsT T, ltT T, ptT T) := by rw [g220]; exact ⟨t1, t2, t3, trivial⟩
        have cu := r_unitOf (l := l) (d := d + 2) L2 W2 hb R2 Tx2 (la := 0) (Or.inl rfl) n (-1)
        rw [g220, if_pos rfl, show usT (tm, us, bzP n, gnT T, lsT T, ltT T, ptT T) = us from rfl, unP_any, f3] at cu
        have i122 : ((b : Int) + 122 + (n : Int)).toNat = b + 122 + n := by omega
        have vb : h' 226 (b + 122 + n) = bz n := by rw [← bn]; exact R2.2.2.1 n (by omega)
        have k104 : ∀ v, v = bzN nt T n → V l (d + 6) 0 0 M_X11_ticks 0 0 104 Q [(2, 215), (0, (b : Int)), (0, (us.length : Int)), (0, (n : Int)), (9, 0), (9, 0)] [(0, v), (0, (b : Int) + 122 + (n : Int)), (2, 227)] SHP h' := by
          intro v hv
          refine S_X11_ticks_104 _ _ _ _ ?_; simp (disch := omega) only [B_X11_ticks_104, bi_0, x_ic, x_lc, x_ld, x_st, x_sl, x_inc, x_b32, x_b64, x_d32, x_d64, x_s64, x_un, x_lcmp, x_dup, x_pop, x_dup2, x_if, x_cmp, x_sw, swk, x_ald, x_ast, x_alen, x_getf, x_putf, x_inv, x_mm, x_copy, x_iret, x_lret, x_vret, ok1, pu, ct, rcv, rcs, ent0, List.getElem?_cons_zero, List.getElem?_cons_succ, List.getElem?_nil, List.set_cons_zero, List.set_cons_succ, List.take_succ_cons, List.take_zero, List.drop_succ_cons, List.drop_zero, List.reverse_cons, List.reverse_nil, List.nil_append, List.cons_append, List.length_cons, List.length_nil, true_and, and_true, and_self, ne_eq, not_true_eq_false, not_false_eq_true, reduceIte, true_or, or_true, false_or, or_false, Nat.reduceAdd, Nat.reduceSub, Nat.reduceMul, Nat.reduceLeDiff, Nat.reduceEqDiff, Nat.reduceLT, Nat.le_refl, Nat.zero_le, Int.reduceToNat, Int.reduceAdd, Int.reduceSub, Int.reduceMul, Int.reduceNeg, Int.reduceLT, Int.reduceLE, Int.reduceEq, Nat.zero_add, Nat.add_zero, Nat.reduceBEq, Nat.one_ne_zero, Nat.zero_ne_one, Nat.lt_irrefl, Nat.succ_ne_zero, w32_id, ixc, ixc2, Int.toNat_natCast, ln_226, i122]
          refine ⟨by omega, ?_⟩
          refine S_X11_ticks_105 _ _ _ _ ?_; simp (disch := omega) only [B_X11_ticks_105, bi_0, x_ic, x_lc, x_ld, x_st, x_sl, x_inc, x_b32, x_b64, x_d32, x_d64, x_s64, x_un, x_lcmp, x_dup, x_pop, x_dup2, x_if, x_cmp, x_sw, swk, x_ald, x_ast, x_alen, x_getf, x_putf, x_inv, x_mm, x_copy, x_iret, x_lret, x_vret, ok1, pu, ct, rcv, rcs, ent0, List.getElem?_cons_zero, List.getElem?_cons_succ, List.getElem?_nil, List.set_cons_zero, List.set_cons_succ, List.take_succ_cons, List.take_zero, List.drop_succ_cons, List.drop_zero, List.reverse_cons, List.reverse_nil, List.nil_append, List.cons_append, List.length_cons, List.length_nil, true_and, and_true, and_self, ne_eq, not_true_eq_false, not_false_eq_true, reduceIte, true_or, or_true, false_or, or_false, Nat.reduceAdd, Nat.reduceSub, Nat.reduceMul, Nat.reduceLeDiff, Nat.reduceEqDiff, Nat.reduceLT, Nat.le_refl, Nat.zero_le, Int.reduceToNat, Int.reduceAdd, Int.reduceSub, Int.reduceMul, Int.reduceNeg, Int.reduceLT, Int.reduceLE, Int.reduceEq, Nat.zero_add, Nat.add_zero, Nat.reduceBEq, Nat.one_ne_zero, Nat.zero_ne_one, Nat.lt_irrefl, Nat.succ_ne_zero, w32_id, ixc, ixc2, Int.toNat_natCast]
          refine ih (n + 1) (by omega) _ (F2.trans (Fw.up (by omega))) ⟨fun k hk => by rw [up_ne (by decide)]; exact f2.1 k hk, by rw [up_ne (by decide)]; exact f2.2.1, fun i hi => by rw [up_ne (by decide)]; exact f2.2.2 i hi⟩ ?_
          have := R2.bz t2 (n := n) (by omega) v
          rw [show bzT (tm, us, bzP n, gnT T, lsT T, ltT T, ptT T) = bzP n from rfl, bstep v hv] at this
          exact this
        (try simp (disch := omega) only [bi_0, x_ic, x_lc, x_ld, x_st, x_sl, x_inc, x_b32, x_b64, x_d32, x_d64, x_s64, x_un, x_lcmp, x_dup, x_pop, x_dup2, x_if, x_cmp, x_sw, swk, x_ald, x_ast, x_alen, x_getf, x_putf, x_inv, x_mm, x_copy, x_iret, x_lret, x_vret, ok1, pu, ct, rcv, rcs, ent0, List.getElem?_cons_zero, List.getElem?_cons_succ, List.getElem?_nil, List.set_cons_zero, List.set_cons_succ, List.take_succ_cons, List.take_zero, List.drop_succ_cons, List.drop_zero, List.reverse_cons, List.reverse_nil, List.nil_append, List.cons_append, List.length_cons, List.length_nil, true_and, and_true, and_self, ne_eq, not_true_eq_false, not_false_eq_true, reduceIte, true_or, or_true, false_or, or_false, Nat.reduceAdd, Nat.reduceSub, Nat.reduceMul, Nat.reduceLeDiff, Nat.reduceEqDiff, Nat.reduceLT, Nat.le_refl, Nat.zero_le, Int.reduceToNat, Int.reduceAdd, Int.reduceSub, Int.reduceMul, Int.reduceNeg, Int.reduceLT, Int.reduceLE, Int.reduceEq, Nat.zero_add, Nat.add_zero, Nat.reduceBEq, Nat.one_ne_zero, Nat.zero_ne_one, Nat.lt_irrefl, Nat.succ_ne_zero, w32_id, ixc, ixc2, Int.toNat_natCast, ob_214, d17])
        refine Cl.app cu ?_
        (try simp (disch := omega) only [bi_0, x_ic, x_lc, x_ld, x_st, x_sl, x_inc, x_b32, x_b64, x_d32, x_d64, x_s64, x_un, x_lcmp, x_dup, x_pop, x_dup2, x_if, x_cmp, x_sw, swk, x_ald, x_ast, x_alen, x_getf, x_putf, x_inv, x_mm, x_copy, x_iret, x_lret, x_vret, ok1, pu, ct, rcv, rcs, ent0, List.getElem?_cons_zero, List.getElem?_cons_succ, List.getElem?_nil, List.set_cons_zero, List.set_cons_succ, List.take_succ_cons, List.take_zero, List.drop_succ_cons, List.drop_zero, List.reverse_cons, List.reverse_nil, List.nil_append, List.cons_append, List.length_cons, List.length_nil, true_and, and_true, and_self, ne_eq, not_true_eq_false, not_false_eq_true, reduceIte, true_or, or_true, false_or, or_false, Nat.reduceAdd, Nat.reduceSub, Nat.reduceMul, Nat.reduceLeDiff, Nat.reduceEqDiff, Nat.reduceLT, Nat.le_refl, Nat.zero_le, Int.reduceToNat, Int.reduceAdd, Int.reduceSub, Int.reduceMul, Int.reduceNeg, Int.reduceLT, Int.reduceLE, Int.reduceEq, Nat.zero_add, Nat.add_zero, Nat.reduceBEq, Nat.one_ne_zero, Nat.zero_ne_one, Nat.lt_irrefl, Nat.succ_ne_zero, w32_id, ixc, ixc2, Int.toNat_natCast])
        refine ⟨fun y => ?_, fun y => ?_⟩
        · have hne : (slN nt us bz n).2 ≠ [] := fun e => by rw [e] at y; exact absurd y (by decide)
          refine S_X11_ticks_91 _ _ _ _ ?_; simp (disch := omega) only [B_X11_ticks_91, bi_0, x_ic, x_lc, x_ld, x_st, x_sl, x_inc, x_b32, x_b64, x_d32, x_d64, x_s64, x_un, x_lcmp, x_dup, x_pop, x_dup2, x_if, x_cmp, x_sw, swk, x_ald, x_ast, x_alen, x_getf, x_putf, x_inv, x_mm, x_copy, x_iret, x_lret, x_vret, ok1, pu, ct, rcv, rcs, ent0, List.getElem?_cons_zero, List.getElem?_cons_succ, List.getElem?_nil, List.set_cons_zero, List.set_cons_succ, List.take_succ_cons, List.take_zero, List.drop_succ_cons, List.drop_zero, List.reverse_cons, List.reverse_nil, List.nil_append, List.cons_append, List.length_cons, List.length_nil, true_and, and_true, and_self, ne_eq, not_true_eq_false, not_false_eq_true, reduceIte, true_or, or_true, false_or, or_false, Nat.reduceAdd, Nat.reduceSub, Nat.reduceMul, Nat.reduceLeDiff, Nat.reduceEqDiff, Nat.reduceLT, Nat.le_refl, Nat.zero_le, Int.reduceToNat, Int.reduceAdd, Int.reduceSub, Int.reduceMul, Int.reduceNeg, Int.reduceLT, Int.reduceLE, Int.reduceEq, Nat.zero_add, Nat.add_zero, Nat.reduceBEq, Nat.one_ne_zero, Nat.zero_ne_one, Nat.lt_irrefl, Nat.succ_ne_zero, w32_id, ixc, ixc2, Int.toNat_natCast, ob_214, d17, ln_226, i122, vb]
          exact ⟨by omega, k104 _ (by rw [eN, if_neg hne])⟩
        · have he : (slN nt us bz n).2 = [] := hdI_neg.mp (by omega)
          (try simp (disch := omega) only [bi_0, x_ic, x_lc, x_ld, x_st, x_sl, x_inc, x_b32, x_b64, x_d32, x_d64, x_s64, x_un, x_lcmp, x_dup, x_pop, x_dup2, x_if, x_cmp, x_sw, swk, x_ald, x_ast, x_alen, x_getf, x_putf, x_inv, x_mm, x_copy, x_iret, x_lret, x_vret, ok1, pu, ct, rcv, rcs, ent0, List.getElem?_cons_zero, List.getElem?_cons_succ, List.getElem?_nil, List.set_cons_zero, List.set_cons_succ, List.take_succ_cons, List.take_zero, List.drop_succ_cons, List.drop_zero, List.reverse_cons, List.reverse_nil, List.nil_append, List.cons_append, List.length_cons, List.length_nil, true_and, and_true, and_self, ne_eq, not_true_eq_false, not_false_eq_true, reduceIte, true_or, or_true, false_or, or_false, Nat.reduceAdd, Nat.reduceSub, Nat.reduceMul, Nat.reduceLeDiff, Nat.reduceEqDiff, Nat.reduceLT, Nat.le_refl, Nat.zero_le, Int.reduceToNat, Int.reduceAdd, Int.reduceSub, Int.reduceMul, Int.reduceNeg, Int.reduceLT, Int.reduceLE, Int.reduceEq, Nat.zero_add, Nat.add_zero, Nat.reduceBEq, Nat.one_ne_zero, Nat.zero_ne_one, Nat.lt_irrefl, Nat.succ_ne_zero, w32_id, ixc, ixc2, Int.toNat_natCast])
          exact k104 0 (by rw [eN, if_pos he])
  show V l (d + 6) 0 0 M_X11_ticks 0 0 0 Q [(2, 215), (0, (b : Int)), (9, 0), (9, 0), (9, 0), (9, 0)] [] SHP h
  refine S_X11_ticks_0 _ _ _ _ ?_; simp (disch := omega) only [B_X11_ticks_0, bi_0, x_ic, x_lc, x_ld, x_st, x_sl, x_inc, x_b32, x_b64, x_d32, x_d64, x_s64, x_un, x_lcmp, x_dup, x_pop, x_dup2, x_if, x_cmp, x_sw, swk, x_ald, x_ast, x_alen, x_getf, x_putf, x_inv, x_mm, x_copy, x_iret, x_lret, x_vret, ok1, pu, ct, rcv, rcs, ent0, List.getElem?_cons_zero, List.getElem?_cons_succ, List.getElem?_nil, List.set_cons_zero, List.set_cons_succ, List.take_succ_cons, List.take_zero, List.drop_succ_cons, List.drop_zero, List.reverse_cons, List.reverse_nil, List.nil_append, List.cons_append, List.length_cons, List.length_nil, true_and, and_true, and_self, ne_eq, not_true_eq_false, not_false_eq_true, reduceIte, true_or, or_true, false_or, or_false, Nat.reduceAdd, Nat.reduceSub, Nat.reduceMul, Nat.reduceLeDiff, Nat.reduceEqDiff, Nat.reduceLT, Nat.le_refl, Nat.zero_le, Int.reduceToNat, Int.reduceAdd, Int.reduceSub, Int.reduceMul, Int.reduceNeg, Int.reduceLT, Int.reduceLE, Int.reduceEq, Nat.zero_add, Nat.add_zero, Nat.reduceBEq, Nat.one_ne_zero, Nat.zero_ne_one, Nat.lt_irrefl, Nat.succ_ne_zero, w32_id, ixc, ixc2, Int.toNat_natCast, ob_214, a17, ln_226, ix1, r2]
  refine ⟨by omega, ?_⟩
  refine V_jx (pc := 16) (fun j => [(2, 215), (0, (b : Int)), (0, (us.length : Int)), (0, (j : Int)), (9, 0), (9, 0)]) (fun j m => Fw b h m ∧ m 226 = h 226 ∧ m 214 28 = 0 ∧ ∀ i, i < j → m 235 i = 0) 40 (fun j m hj J ih => ?_) (fun m J => ?_) _ ⟨fld_fw (by decide), up_ne (by decide), up_at, fun i hi => absurd hi (by omega)⟩
  · obtain ⟨F, e226, e28, hz⟩ := J
    obtain ⟨Lm, e220, b17, b29, b27, b31⟩ := kn F
    refine S_X11_ticks_16 _ _ _ _ ?_; simp (disch := omega) only [B_X11_ticks_16, bi_0, x_ic, x_lc, x_ld, x_st, x_sl, x_inc, x_b32, x_b64, x_d32, x_d64, x_s64, x_un, x_lcmp, x_dup, x_pop, x_dup2, x_if, x_cmp, x_sw, swk, x_ald, x_ast, x_alen, x_getf, x_putf, x_inv, x_mm, x_copy, x_iret, x_lret, x_vret, ok1, pu, ct, rcv, rcs, ent0, List.getElem?_cons_zero, List.getElem?_cons_succ, List.getElem?_nil, List.set_cons_zero, List.set_cons_succ, List.take_succ_cons, List.take_zero, List.drop_succ_cons, List.drop_zero, List.reverse_cons, List.reverse_nil, List.nil_append, List.cons_append, List.length_cons, List.length_nil, true_and, and_true, and_self, ne_eq, not_true_eq_false, not_false_eq_true, reduceIte, true_or, or_true, false_or, or_false, Nat.reduceAdd, Nat.reduceSub, Nat.reduceMul, Nat.reduceLeDiff, Nat.reduceEqDiff, Nat.reduceLT, Nat.le_refl, Nat.zero_le, Int.reduceToNat, Int.reduceAdd, Int.reduceSub, Int.reduceMul, Int.reduceNeg, Int.reduceLT, Int.reduceLE, Int.reduceEq, Nat.zero_add, Nat.add_zero, Nat.reduceBEq, Nat.one_ne_zero, Nat.zero_ne_one, Nat.lt_irrefl, Nat.succ_ne_zero, w32_id, ixc, ixc2, Int.toNat_natCast, ob_214, b29, ln_235]
    refine ⟨fun z => absurd z (by omega), fun _ => ⟨by omega, ?_⟩⟩
    refine ih _ ?_
    refine ⟨F.trans (up_fw (by decide)), by rw [up_ne (by decide)]; exact e226, by rw [up_ne (by decide)]; exact e28, fun i hi => ?_⟩
    by_cases e : i = j
    · subst e; rw [up_at, nz0]
    · rw [up_nj e]; exact hz i (by omega)
  · obtain ⟨F, e226, e28, hz⟩ := J
    refine S_X11_ticks_16 _ _ _ _ ?_; simp (disch := omega) only [B_X11_ticks_16, bi_0, x_ic, x_lc, x_ld, x_st, x_sl, x_inc, x_b32, x_b64, x_d32, x_d64, x_s64, x_un, x_lcmp, x_dup, x_pop, x_dup2, x_if, x_cmp, x_sw, swk, x_ald, x_ast, x_alen, x_getf, x_putf, x_inv, x_mm, x_copy, x_iret, x_lret, x_vret, ok1, pu, ct, rcv, rcs, ent0, List.getElem?_cons_zero, List.getElem?_cons_succ, List.getElem?_nil, List.set_cons_zero, List.set_cons_succ, List.take_succ_cons, List.take_zero, List.drop_succ_cons, List.drop_zero, List.reverse_cons, List.reverse_nil, List.nil_append, List.cons_append, List.length_cons, List.length_nil, true_and, and_true, and_self, ne_eq, not_true_eq_false, not_false_eq_true, reduceIte, true_or, or_true, false_or, or_false, Nat.reduceAdd, Nat.reduceSub, Nat.reduceMul, Nat.reduceLeDiff, Nat.reduceEqDiff, Nat.reduceLT, Nat.le_refl, Nat.zero_le, Int.reduceToNat, Int.reduceAdd, Int.reduceSub, Int.reduceMul, Int.reduceNeg, Int.reduceLT, Int.reduceLE, Int.reduceEq, Nat.zero_add, Nat.add_zero, Nat.reduceBEq, Nat.one_ne_zero, Nat.zero_ne_one, Nat.lt_irrefl, Nat.succ_ne_zero, w32_id, ixc, ixc2, Int.toNat_natCast]
    refine ⟨fun _ => ?_, fun z => absurd z (by omega)⟩
    refine S_X11_ticks_35 _ _ _ _ ?_; simp (disch := omega) only [B_X11_ticks_35, bi_0, x_ic, x_lc, x_ld, x_st, x_sl, x_inc, x_b32, x_b64, x_d32, x_d64, x_s64, x_un, x_lcmp, x_dup, x_pop, x_dup2, x_if, x_cmp, x_sw, swk, x_ald, x_ast, x_alen, x_getf, x_putf, x_inv, x_mm, x_copy, x_iret, x_lret, x_vret, ok1, pu, ct, rcv, rcs, ent0, List.getElem?_cons_zero, List.getElem?_cons_succ, List.getElem?_nil, List.set_cons_zero, List.set_cons_succ, List.take_succ_cons, List.take_zero, List.drop_succ_cons, List.drop_zero, List.reverse_cons, List.reverse_nil, List.nil_append, List.cons_append, List.length_cons, List.length_nil, true_and, and_true, and_self, ne_eq, not_true_eq_false, not_false_eq_true, reduceIte, true_or, or_true, false_or, or_false, Nat.reduceAdd, Nat.reduceSub, Nat.reduceMul, Nat.reduceLeDiff, Nat.reduceEqDiff, Nat.reduceLT, Nat.le_refl, Nat.zero_le, Int.reduceToNat, Int.reduceAdd, Int.reduceSub, Int.reduceMul, Int.reduceNeg, Int.reduceLT, Int.reduceLE, Int.reduceEq, Nat.zero_add, Nat.add_zero, Nat.reduceBEq, Nat.one_ne_zero, Nat.zero_ne_one, Nat.lt_irrefl, Nat.succ_ne_zero, w32_id, ixc, ixc2, Int.toNat_natCast]
    refine p1 (nt 1).toNat 0 (by omega) m F ⟨fun k hk => by rw [hz k hk]; rfl, e28, fun i hi => absurd hi (Nat.not_lt_zero i)⟩ ?_
    rw [e226]
    have : bzP 0 = bzT T := by rw [hbzP]; funext n'; dsimp only; rw [if_neg (by omega), ebz]
    rw [this, etm, eus]
    exact R
end MT

/-! what may be stays so: ticks and puts; the reference puts -/
theorem memU {us : List Un} {u : Un} (h : u ∈ us) : ∃ k, k < us.length ∧ uA us k = u := by
  obtain ⟨j, hj, e⟩ := List.mem_iff_getElem.mp h
  exact ⟨j, hj, by unfold uA; rw [List.getD_eq_getElem?_getD, List.getElem?_eq_getElem hj]; exact e⟩
theorem uA_mem {us : List Un} {k : Nat} (h : k < us.length) : uA us k ∈ us := gD_mem _ h
theorem mvR_pre {nt : Nat → Int} {T : TS} {S : List Nat} {u : Un} (h : u ∈ lft0 (usT T) S) : ∀ i, u ∈ (mvR nt T S i).1
  | 0 => h
  | i + 1 => by
    have ih := mvR_pre (nt := nt) h i
    rw [mvR, mvS]
    split
    · exact List.mem_append_left _ ih
    · exact ih
theorem mvR_uw {nt : Nat → Int} {T : TS} {S : List Nat} (hu : ∀ k, k < (usT T).length → UW nt (tmT T) (uA (usT T) k)) (hS : ∀ k, k ∈ S → k < (usT T).length) : ∀ i, i ≤ S.length → ∀ u, u ∈ (mvR nt T S i).1 → UW nt (tmT T + 1) u
  | 0, _, u, h => by
    unfold mvR lft0 at h
    obtain ⟨k, hk, e⟩ := List.mem_map.mp h
    have := hu k (pl_mem.mp hk).1
    rw [← e]
    exact ⟨this.1, this.2.1, by have := this.2.2; omega⟩
  | i + 1, hi, u, h => by
    have ih := mvR_uw hu hS i (by omega)
    have hk := hS _ (gD_mem 0 (show i < S.length by omega))
    have hw := hu _ hk
    rw [mvR, mvS] at h
    split at h
    · rename_i hc
      rcases List.mem_append.mp h with q | q
      · exact ih u q
      · rw [List.mem_singleton.mp q]
        exact ⟨hw.1, by show ((((uA (usT T) (S.getD i 0)).2.1 + 1 : Nat)) : Int) < hp nt (uA (usT T) (S.getD i 0)).1; omega, by have := hw.2.2; show (uA (usT T) (S.getD i 0)).2.2 ≤ tmT T + 1; omega⟩
    · exact ih u h
theorem ixs_nil {nt : Nat → Int} {us : List Un} {n : Nat} : ixs nt us n = [] ↔ ∀ u, u ∈ us → nd nt u.1 u.2.1 ≠ (n : Int) := by
  constructor
  · intro h u hu e
    obtain ⟨k, hk, ek⟩ := memU hu
    have : k ∈ ixs nt us n := pl_mem.mpr ⟨hk, by unfold atU; rw [ek]; simp [e]⟩
    rw [h] at this; cases this
  · intro h
    rcases List.eq_nil_or_concat (ixs nt us n) with e | ⟨I', k0, e⟩
    · exact e
    · have hm : k0 ∈ ixs nt us n := by rw [e]; simp
      have := ixs_at hm
      exact absurd this.2 (h _ (uA_mem this.1))
theorem TW.tick {nt : Nat → Int} {T : TS} (W : WN nt) (h : TW nt T) (ht : tmT T < 60) : TW nt (tkT nt T) := by
  obtain ⟨t1, t2, t3, t4, t5⟩ := h
  have nf := W.nf
  have nn := W.nn
  have h4 : ∀ k, k < (usT T).length → ((uA (usT T) k).1 : Int) < 4 := fun k hk => by have := (t3 k hk).1; omega
  have hS : ∀ k, k ∈ slA nt T → k < (usT T).length := fun k hk => slS_lt h4 hk
  have hl := lft0_len (nt := nt) (T := T) h4 (nt 1).toNat
  have hm := mvR_len (nt := nt) (T := T) (S := slA nt T) (i := (slA nt T).length)
  have hu := mvR_uw (nt := nt) (T := T) (S := slA nt T) t3 hS _ (Nat.le_refl _)
  refine ⟨?_, ?_, ?_, ?_, ?_⟩
  · show tmT T + 1 ≤ 60; omega
  · show (mvd nt T).1.length ≤ 40
    unfold mvd; unfold slA at hm ⊢; omega
  · intro k hk
    exact hu _ (uA_mem hk)
  · intro n hn
    show 0 ≤ bzN nt T n ∧ bzN nt T n ≤ ((tmT T + 1 : Nat) : Int)
    have := t4 n hn
    unfold bzN
    (repeat' split) <;> omega
  · intro n hn he
    show bzN nt T n = 0
    have he : ∀ u, u ∈ (mvd nt T).1 → nd nt u.1 u.2.1 ≠ (n : Int) := ixs_nil.mp he
    unfold bzN
    by_cases e : (n : Int) < nt 1
    · rw [if_pos e]
      by_cases e2 : (slN nt (usT T) (bzT T) n).2 = []
      · rw [if_pos e2]
      · exfalso
        obtain ⟨k, hk⟩ := List.exists_mem_of_ne_nil _ e2
        have hk1 : k ∈ ixs nt (usT T) n := (slN_mem h4 n k).mp (Or.inr hk)
        have hk2 := ixs_at hk1
        have hno : ¬ k ∈ slA nt T := fun z => by
          obtain ⟨n', a, b, c⟩ := slS_at h4 z
          have h3 := (ixs_at b).2
          have : n' = n := by have := hk2.2; omega
          rw [this] at c
          exact (slN_nd h4 n).2.2 k c hk
        have hin : uA (usT T) k ∈ lft0 (usT T) (slA nt T) := List.mem_map.mpr ⟨k, pl_mem.mpr ⟨hk2.1, by simp [hno]⟩, rfl⟩
        exact he _ (mvR_pre (nt := nt) hin _) hk2.2
    · rw [if_neg e]
      refine t5 n hn (ixs_nil.mpr (fun u hu e2 => ?_))
      obtain ⟨k, hk, ek⟩ := memU hu
      have := t3 k hk
      rw [ek] at this
      have := W.ndB u.1 u.2.1 this.1 this.2.1
      omega
theorem TW.put1 {nt : Nat → Int} {P : Nat → Wd} {n f : Nat} {X : TS × Int} (W : WN nt) (h : TW nt X.1) (hf : (f : Int) < nt 2) (hl : (usT X.1).length < 40) : TW nt (pu1 nt P n f X).1 ∧ tmT (pu1 nt P n f X).1 = tmT X.1 ∧ (usT (pu1 nt P n f X).1).length ≤ (usT X.1).length + 1 := by
  obtain ⟨t1, t2, t3, t4, t5⟩ := h
  have hh := W.hpB f hf
  unfold pu1
  split
  · refine ⟨⟨t1, ?_, ?_, t4, ?_⟩, rfl, ?_⟩
    · show (usT X.1 ++ [(f, 0, tmT X.1)]).length ≤ 40
      rw [List.length_append]; simp; omega
    · intro k hk
      show UW nt (tmT X.1) (uA (usT X.1 ++ [(f, 0, tmT X.1)]) k)
      have hk : k < (usT X.1 ++ [(f, 0, tmT X.1)]).length := hk
      rw [List.length_append] at hk
      by_cases e : k = (usT X.1).length
      · subst e; rw [uA_app_1]; exact ⟨hf, by show ((0 : Nat) : Int) < hp nt f; omega, Nat.le_refl _⟩
      · have hk' : k < (usT X.1).length := by simp at hk; omega
        rw [uA_app_l hk']; exact t3 k hk'
    · intro n' hn' he
      refine t5 n' hn' (ixs_nil.mpr (fun u hu => ixs_nil.mp he u (List.mem_append_left _ hu)))
    · show (usT X.1 ++ [(f, 0, tmT X.1)]).length ≤ _
      rw [List.length_append]; simp
  · exact ⟨⟨t1, t2, t3, t4, t5⟩, rfl, Nat.le_succ _⟩
theorem TW.putN {nt : Nat → Int} {P : Nat → Wd} {n f : Nat} {T : TS} (W : WN nt) (h : TW nt T) (hf : (f : Int) < nt 2) : ∀ {k : Nat}, (usT T).length + k ≤ 40 → TW nt (puN nt P n f T k).1 ∧ tmT (puN nt P n f T k).1 = tmT T ∧ (usT (puN nt P n f T k).1).length ≤ (usT T).length + k
  | 0, _ => ⟨h, rfl, Nat.le_refl _⟩
  | k + 1, hk => by
    obtain ⟨a, b, c⟩ := TW.putN W h hf (k := k) (by omega) (P := P) (n := n)
    obtain ⟨d, e, g⟩ := TW.put1 (P := P) (n := n) W a hf (by omega)
    exact ⟨d, e.trans b, Nat.le_trans g (by omega)⟩
theorem puN_b {nt : Nat → Int} {P : Nat → Wd} {n f : Nat} {T : TS} : ∀ {k : Nat}, 0 ≤ (puN nt P n f T k).2 ∧ (puN nt P n f T k).2 ≤ k
  | 0 => ⟨Int.le_refl 0, Int.le_refl 0⟩
  | k + 1 => by
    have ih := puN_b (nt := nt) (P := P) (n := n) (f := f) (T := T) (k := k)
    rw [puN]
    unfold pu1
    split
    · dsimp only; omega
    · dsimp only; omega
theorem exS_c {fx fx' : Nat → Int} {P : Nat → Wd} {n : Nat} (W : PW P n) (h : ∀ j, j < 4 → fx j = fx' j) : ∀ i, i ≤ n → exS fx P i = exS fx' P i
  | 0, _ => rfl
  | i + 1, hi => by
    have ih := exS_c W h i (by omega)
    have w := (W.1 i (by omega)).2.2.1
    funext j
    rw [exS, exS, ih]
    dsimp only
    by_cases e : (P i).1 = 2
    · rw [h _ (w e)]
    · rw [if_neg e, if_neg e]
section MP
variable {l : Launch} {d : Nat} {h : Mem} {b : Nat} {T : TS}
theorem r_puts (L : Lay h) (W : WN (h 220)) (hb : b + 382 ≤ 1628) (R : RS (h 226) b T) (Tw : TW (h 220) T) {P : Nat → Wd} {n : Nat} (Lw : LwR h P n) {f k : Nat} (hf : (f : Int) < h 220 2) (hk : k ≤ 9) (ht : tmT T < 60) (hl : (usT T).length + k ≤ 40) : Cl l (d + 4) M_X11_puts [(2, 215), (0, (b : Int)), (0, (f : Int)), (0, (k : Int))] SHP h (fun r sh' h' => r = (puN (h 220) P n f T k).2 ∧ sh' = SHP ∧ Fw b h h' ∧ RS (h' 226) b (ptP (puN (h 220) P n f T k).1 f k)) := by
  have nf := W.nf
  have nn := W.nn
  have hh := W.hpB f hf
  have hnd := W.ndB f 0 hf (by omega)
  obtain ⟨n0, en0⟩ : ∃ n0 : Nat, nd (h 220) f 0 = (n0 : Int) := ⟨(nd (h 220) f 0).toNat, by omega⟩
  refine Cl_hide (fun Q hQ => ?_)
  obtain ⟨nt, ent⟩ : ∃ nt, nt = h 220 := ⟨_, rfl⟩
  rw [← ent] at hQ W Tw hf nf nn hh hnd en0
  have kn : ∀ {m}, Fw b h m → Lay m ∧ m 220 = nt ∧ m 221 = h 221 ∧ m 214 17 = 227 ∧ m 214 15 = 225 ∧ m 214 10 = 221 := fun {m} F => by
    have Lm := F.lay L
    exact ⟨Lm, by rw [ent]; exact F.n220, F.1 221 (by decide), ly_214_17 Lm, ly_214_15 Lm, ly_214_10 Lm⟩
  have ix0 : ((b : Int) + 0).toNat = b := by omega
  have ix1 : ((b : Int) + 1).toNat = b + 1 := by omega
  show V l (d + 4) 0 0 M_X11_puts 0 0 0 Q [(2, 215), (0, (b : Int)), (0, (f : Int)), (0, (k : Int)), (9, 0), (9, 0)] [] SHP h
  refine S_X11_puts_0 _ _ _ _ ?_; simp (disch := omega) only [B_X11_puts_0, bi_0, x_ic, x_lc, x_ld, x_st, x_sl, x_inc, x_b32, x_b64, x_d32, x_d64, x_s64, x_un, x_lcmp, x_dup, x_pop, x_dup2, x_if, x_cmp, x_sw, swk, x_ald, x_ast, x_alen, x_getf, x_putf, x_inv, x_mm, x_copy, x_iret, x_lret, x_vret, ok1, pu, ct, rcv, rcs, ent0, List.getElem?_cons_zero, List.getElem?_cons_succ, List.getElem?_nil, List.set_cons_zero, List.set_cons_succ, List.take_succ_cons, List.take_zero, List.drop_succ_cons, List.drop_zero, List.reverse_cons, List.reverse_nil, List.nil_append, List.cons_append, List.length_cons, List.length_nil, true_and, and_true, and_self, ne_eq, not_true_eq_false, not_false_eq_true, reduceIte, true_or, or_true, false_or, or_false, Nat.reduceAdd, Nat.reduceSub, Nat.reduceMul, Nat.reduceLeDiff, Nat.reduceEqDiff, Nat.reduceLT, Nat.le_refl, Nat.zero_le, Int.reduceToNat, Int.reduceAdd, Int.reduceSub, Int.reduceMul, Int.reduceNeg, Int.reduceLT, Int.reduceLE, Int.reduceEq, Nat.zero_add, Nat.add_zero, Nat.reduceBEq, Nat.one_ne_zero, Nat.zero_ne_one, Nat.lt_irrefl, Nat.succ_ne_zero, w32_id, ixc, ixc2, Int.toNat_natCast]
  refine V_jx (pc := 6) (fun j => [(2, 215), (0, (b : Int)), (0, (f : Int)), (0, (k : Int)), (0, (puN nt P n f T j).2), (0, (j : Int))]) (fun j m => Fw b h m ∧ RS (m 226) b (puN nt P n f T j).1) k (fun j m hj J ih => ?_) (fun m J => ?_) h ⟨Fw.rfl, R⟩
  · obtain ⟨F, Rm⟩ := J
    obtain ⟨Lm, e220, e221, b17, b15, b10⟩ := kn F
    have Wm : WN (m 220) := by rw [e220]; exact W
    obtain ⟨Tj, tj, lj⟩ := TW.putN (P := P) (n := n) W Tw hf (k := j) (by omega)
    have pb := puN_b (nt := nt) (P := P) (n := n) (f := f) (T := T) (k := j)
    obtain ⟨X, hX⟩ : ∃ X, X = puN nt P n f T j := ⟨_, rfl⟩
    have eX : puN nt P n f T (j + 1) = pu1 nt P n f X := by rw [puN, ← hX]
    rw [← hX] at Rm Tj tj lj pb ⊢
    rw [eX] at ih
    have TXm : TX (m 220) X.1 := by rw [e220]; exact Tj.tx
    have c1 := r_nodeOf (l := l) (d := d + 2) Lm (f := f) (k := 0) (by omega) (by omega)
    rw [e220, en0] at c1
    have c2 := r_unitsAt (l := l) (d := d) Lm Wm hb Rm TXm n0
    rw [e220] at c2
    obtain ⟨qv, hqv⟩ : ∃ qv : Int, qv = ((ixs nt (usT X.1) n0).length : Int) := ⟨_, rfl⟩
    rw [← hqv] at c2
    have r1 : m 226 b = (tmT X.1 : Int) := Rm.1.1
    have r2 : m 226 (b + 1) = ((usT X.1).length : Int) := Rm.1.2
    -- the facts
    obtain ⟨m4, hm4⟩ : ∃ m4, m4 = up (up (up (up m 224 0 qv) 224 1 ((usT X.1).length : Int)) 224 2 (f : Int)) 224 3 (tmT X.1 : Int) := ⟨_, rfl⟩
    have F4 : Fw b h m4 := by rw [hm4]; exact (((F.trans (up_fw (by decide))).trans (up_fw (by decide))).trans (up_fw (by decide))).trans (up_fw (by decide))
    have c4 : ∀ i, i ≠ 224 → m4 i = m i := fun i hi => by rw [hm4, up_ne hi, up_ne hi, up_ne hi, up_ne hi]
    obtain ⟨L4, g220, g221, d17, d15, d10⟩ := kn F4
    have g224 : ∀ j, j < 4 → m4 224 j = fx4 qv ((usT X.1).length : Int) (f : Int) (tmT X.1 : Int) j := fun j hj => by
      rw [hm4]
      rcases (show j = 0 ∨ j = 1 ∨ j = 2 ∨ j = 3 by omega) with e | e | e | e <;> subst e <;> rfl
    have u1 : up m 224 0 qv 214 = m 214 := up_ne (by decide)
    have u2 : up (up m 224 0 qv) 224 1 ((usT X.1).length : Int) 214 = m 214 := by rw [up_ne (by decide), up_ne (by decide)]
    have u3 : up (up (up m 224 0 qv) 224 1 ((usT X.1).length : Int)) 224 2 (f : Int) 214 = m 214 := by rw [up_ne (by decide), up_ne (by decide), up_ne (by decide)]
    have v1 : up m 224 0 qv 226 = m 226 := up_ne (by decide)
    have v3 : up (up (up m 224 0 qv) 224 1 ((usT X.1).length : Int)) 224 2 (f : Int) 226 = m 226 := by rw [up_ne (by decide), up_ne (by decide), up_ne (by decide)]
    have R4 : RS (m4 226) b X.1 := by rw [c4 226 (by decide)]; exact Rm
    have ep : pu1 nt P n f X = if lvF P n qv ((usT X.1).length : Int) (f : Int) (tmT X.1 : Int) = 0 then ((tmT X.1, usT X.1 ++ [(f, 0, tmT X.1)], bzT X.1, gnT X.1, lsT X.1, ltT X.1, ptT X.1), X.2 + 1) else ((tmT X.1, usT X.1, bzT X.1, gnT X.1, (fun i => if i = f then w32 (lsT X.1 i + 1) else lsT X.1 i), ltT X.1, ptT X.1), X.2) := by
      unfold pu1; rw [en0, Int.toNat_natCast, hqv]
    rw [ep] at ih
    have ul : (usT X.1).length < 40 := by omega
    -- it is kept
    have k105 : ∀ m5, Fw b h m5 → RS (m5 226) b X.1 → lvF P n qv ((usT X.1).length : Int) (f : Int) (tmT X.1 : Int) = 0 → V l (d + 4) 0 0 M_X11_puts 0 0 105 Q [(2, 215), (0, (b : Int)), (0, (f : Int)), (0, (k : Int)), (0, X.2), (0, (j : Int))] [] SHP m5 := by
      intro m5 F5 R5 hlv
      obtain ⟨L5, x220, x221, x17, x15, x10⟩ := kn F5
      have tv : m5 226 b = (tmT X.1 : Int) := R5.1.1
      have ce := r_enters (l := l) (d := d + 1) L5 hb ul (show m5 226 (b + 1) = ((usT X.1).length : Int) from R5.1.2) (f : Int) 0 (tmT X.1 : Int)
      refine S_X11_puts_105 _ _ _ _ ?_; simp (disch := omega) only [B_X11_puts_105, bi_0, x_ic, x_lc, x_ld, x_st, x_sl, x_inc, x_b32, x_b64, x_d32, x_d64, x_s64, x_un, x_lcmp, x_dup, x_pop, x_dup2, x_if, x_cmp, x_sw, swk, x_ald, x_ast, x_alen, x_getf, x_putf, x_inv, x_mm, x_copy, x_iret, x_lret, x_vret, ok1, pu, ct, rcv, rcs, ent0, List.getElem?_cons_zero, List.getElem?_cons_succ, List.getElem?_nil, List.set_cons_zero, List.set_cons_succ, List.take_succ_cons, List.take_zero, List.drop_succ_cons, List.drop_zero, List.reverse_cons, List.reverse_nil, List.nil_append, List.cons_append, List.length_cons, List.length_nil, true_and, and_true, and_self, ne_eq, not_true_eq_false, not_false_eq_true, reduceIte, true_or, or_true, false_or, or_false, Nat.reduceAdd, Nat.reduceSub, Nat.reduceMul, Nat.reduceLeDiff, Nat.reduceEqDiff, Nat.reduceLT, Nat.le_refl, Nat.zero_le, Int.reduceToNat, Int.reduceAdd, Int.reduceSub, Int.reduceMul, Int.reduceNeg, Int.reduceLT, Int.reduceLE, Int.reduceEq, Nat.zero_add, Nat.add_zero, Nat.reduceBEq, Nat.one_ne_zero, Nat.zero_ne_one, Nat.lt_irrefl, Nat.succ_ne_zero, w32_id, ixc, ixc2, Int.toNat_natCast, ob_214, x17, ln_226, ix0, tv]
      refine ⟨by omega, ?_⟩
      refine Cl.app ce ?_
      (try simp (disch := omega) only [bi_0, x_ic, x_lc, x_ld, x_st, x_sl, x_inc, x_b32, x_b64, x_d32, x_d64, x_s64, x_un, x_lcmp, x_dup, x_pop, x_dup2, x_if, x_cmp, x_sw, swk, x_ald, x_ast, x_alen, x_getf, x_putf, x_inv, x_mm, x_copy, x_iret, x_lret, x_vret, ok1, pu, ct, rcv, rcs, ent0, List.getElem?_cons_zero, List.getElem?_cons_succ, List.getElem?_nil, List.set_cons_zero, List.set_cons_succ, List.take_succ_cons, List.take_zero, List.drop_succ_cons, List.drop_zero, List.reverse_cons, List.reverse_nil, List.nil_append, List.cons_append, List.length_cons, List.length_nil, true_and, and_true, and_self, ne_eq, not_true_eq_false, not_false_eq_true, reduceIte, true_or, or_true, false_or, or_false, Nat.reduceAdd, Nat.reduceSub, Nat.reduceMul, Nat.reduceLeDiff, Nat.reduceEqDiff, Nat.reduceLT, Nat.le_refl, Nat.zero_le, Int.reduceToNat, Int.reduceAdd, Int.reduceSub, Int.reduceMul, Int.reduceNeg, Int.reduceLT, Int.reduceLE, Int.reduceEq, Nat.zero_add, Nat.add_zero, Nat.reduceBEq, Nat.one_ne_zero, Nat.zero_ne_one, Nat.lt_irrefl, Nat.succ_ne_zero, w32_id, ixc, ixc2, Int.toNat_natCast])
      refine S_X11_puts_123 _ _ _ _ ?_; simp (disch := omega) only [B_X11_puts_123, bi_0, x_ic, x_lc, x_ld, x_st, x_sl, x_inc, x_b32, x_b64, x_d32, x_d64, x_s64, x_un, x_lcmp, x_dup, x_pop, x_dup2, x_if, x_cmp, x_sw, swk, x_ald, x_ast, x_alen, x_getf, x_putf, x_inv, x_mm, x_copy, x_iret, x_lret, x_vret, ok1, pu, ct, rcv, rcs, ent0, List.getElem?_cons_zero, List.getElem?_cons_succ, List.getElem?_nil, List.set_cons_zero, List.set_cons_succ, List.take_succ_cons, List.take_zero, List.drop_succ_cons, List.drop_zero, List.reverse_cons, List.reverse_nil, List.nil_append, List.cons_append, List.length_cons, List.length_nil, true_and, and_true, and_self, ne_eq, not_true_eq_false, not_false_eq_true, reduceIte, true_or, or_true, false_or, or_false, Nat.reduceAdd, Nat.reduceSub, Nat.reduceMul, Nat.reduceLeDiff, Nat.reduceEqDiff, Nat.reduceLT, Nat.le_refl, Nat.zero_le, Int.reduceToNat, Int.reduceAdd, Int.reduceSub, Int.reduceMul, Int.reduceNeg, Int.reduceLT, Int.reduceLE, Int.reduceEq, Nat.zero_add, Nat.add_zero, Nat.reduceBEq, Nat.one_ne_zero, Nat.zero_ne_one, Nat.lt_irrefl, Nat.succ_ne_zero, w32_id, ixc, ixc2, Int.toNat_natCast]
      rw [if_pos hlv] at ih
      refine ih _ ?_
      exact ⟨(((F5.trans (Fw.up (by omega))).trans (Fw.up (by omega))).trans (Fw.up (by omega))).trans (Fw.up (by omega)), R5.ent ul (f, 0, tmT X.1)⟩
    refine S_X11_puts_6 _ _ _ _ ?_; simp (disch := omega) only [B_X11_puts_6, bi_0, x_ic, x_lc, x_ld, x_st, x_sl, x_inc, x_b32, x_b64, x_d32, x_d64, x_s64, x_un, x_lcmp, x_dup, x_pop, x_dup2, x_if, x_cmp, x_sw, swk, x_ald, x_ast, x_alen, x_getf, x_putf, x_inv, x_mm, x_copy, x_iret, x_lret, x_vret, ok1, pu, ct, rcv, rcs, ent0, List.getElem?_cons_zero, List.getElem?_cons_succ, List.getElem?_nil, List.set_cons_zero, List.set_cons_succ, List.take_succ_cons, List.take_zero, List.drop_succ_cons, List.drop_zero, List.reverse_cons, List.reverse_nil, List.nil_append, List.cons_append, List.length_cons, List.length_nil, true_and, and_true, and_self, ne_eq, not_true_eq_false, not_false_eq_true, reduceIte, true_or, or_true, false_or, or_false, Nat.reduceAdd, Nat.reduceSub, Nat.reduceMul, Nat.reduceLeDiff, Nat.reduceEqDiff, Nat.reduceLT, Nat.le_refl, Nat.zero_le, Int.reduceToNat, Int.reduceAdd, Int.reduceSub, Int.reduceMul, Int.reduceNeg, Int.reduceLT, Int.reduceLE, Int.reduceEq, Nat.zero_add, Nat.add_zero, Nat.reduceBEq, Nat.one_ne_zero, Nat.zero_ne_one, Nat.lt_irrefl, Nat.succ_ne_zero, w32_id, ixc, ixc2, Int.toNat_natCast, ob_214, b15]
    refine ⟨fun z => absurd z (by omega), fun _ => ?_⟩
    refine Cl.app c1 ?_
    (try simp (disch := omega) only [bi_0, x_ic, x_lc, x_ld, x_st, x_sl, x_inc, x_b32, x_b64, x_d32, x_d64, x_s64, x_un, x_lcmp, x_dup, x_pop, x_dup2, x_if, x_cmp, x_sw, swk, x_ald, x_ast, x_alen, x_getf, x_putf, x_inv, x_mm, x_copy, x_iret, x_lret, x_vret, ok1, pu, ct, rcv, rcs, ent0, List.getElem?_cons_zero, List.getElem?_cons_succ, List.getElem?_nil, List.set_cons_zero, List.set_cons_succ, List.take_succ_cons, List.take_zero, List.drop_succ_cons, List.drop_zero, List.reverse_cons, List.reverse_nil, List.nil_append, List.cons_append, List.length_cons, List.length_nil, true_and, and_true, and_self, ne_eq, not_true_eq_false, not_false_eq_true, reduceIte, true_or, or_true, false_or, or_false, Nat.reduceAdd, Nat.reduceSub, Nat.reduceMul, Nat.reduceLeDiff, Nat.reduceEqDiff, Nat.reduceLT, Nat.le_refl, Nat.zero_le, Int.reduceToNat, Int.reduceAdd, Int.reduceSub, Int.reduceMul, Int.reduceNeg, Int.reduceLT, Int.reduceLE, Int.reduceEq, Nat.zero_add, Nat.add_zero, Nat.reduceBEq, Nat.one_ne_zero, Nat.zero_ne_one, Nat.lt_irrefl, Nat.succ_ne_zero, w32_id, ixc, ixc2, Int.toNat_natCast, ob_214])
    refine Cl.app c2 ?_
    (try simp (disch := omega) only [bi_0, x_ic, x_lc, x_ld, x_st, x_sl, x_inc, x_b32, x_b64, x_d32, x_d64, x_s64, x_un, x_lcmp, x_dup, x_pop, x_dup2, x_if, x_cmp, x_sw, swk, x_ald, x_ast, x_alen, x_getf, x_putf, x_inv, x_mm, x_copy, x_iret, x_lret, x_vret, ok1, pu, ct, rcv, rcs, ent0, List.getElem?_cons_zero, List.getElem?_cons_succ, List.getElem?_nil, List.set_cons_zero, List.set_cons_succ, List.take_succ_cons, List.take_zero, List.drop_succ_cons, List.drop_zero, List.reverse_cons, List.reverse_nil, List.nil_append, List.cons_append, List.length_cons, List.length_nil, true_and, and_true, and_self, ne_eq, not_true_eq_false, not_false_eq_true, reduceIte, true_or, or_true, false_or, or_false, Nat.reduceAdd, Nat.reduceSub, Nat.reduceMul, Nat.reduceLeDiff, Nat.reduceEqDiff, Nat.reduceLT, Nat.le_refl, Nat.zero_le, Int.reduceToNat, Int.reduceAdd, Int.reduceSub, Int.reduceMul, Int.reduceNeg, Int.reduceLT, Int.reduceLE, Int.reduceEq, Nat.zero_add, Nat.add_zero, Nat.reduceBEq, Nat.one_ne_zero, Nat.zero_ne_one, Nat.lt_irrefl, Nat.succ_ne_zero, w32_id, ixc, ixc2, Int.toNat_natCast, ob_214, ln_224, u1, u2, u3, v1, v3, b15, b17, ix1, ix0, ln_226, r2, r1])
    rw [← hm4]
    refine ⟨by omega, by omega, ?_⟩
    rw [d10]
    (try simp (disch := omega) only [bi_0, x_ic, x_lc, x_ld, x_st, x_sl, x_inc, x_b32, x_b64, x_d32, x_d64, x_s64, x_un, x_lcmp, x_dup, x_pop, x_dup2, x_if, x_cmp, x_sw, swk, x_ald, x_ast, x_alen, x_getf, x_putf, x_inv, x_mm, x_copy, x_iret, x_lret, x_vret, ok1, pu, ct, rcv, rcs, ent0, List.getElem?_cons_zero, List.getElem?_cons_succ, List.getElem?_nil, List.set_cons_zero, List.set_cons_succ, List.take_succ_cons, List.take_zero, List.drop_succ_cons, List.drop_zero, List.reverse_cons, List.reverse_nil, List.nil_append, List.cons_append, List.length_cons, List.length_nil, true_and, and_true, and_self, ne_eq, not_true_eq_false, not_false_eq_true, reduceIte, true_or, or_true, false_or, or_false, Nat.reduceAdd, Nat.reduceSub, Nat.reduceMul, Nat.reduceLeDiff, Nat.reduceEqDiff, Nat.reduceLT, Nat.le_refl, Nat.zero_le, Int.reduceToNat, Int.reduceAdd, Int.reduceSub, Int.reduceMul, Int.reduceNeg, Int.reduceLT, Int.reduceLE, Int.reduceEq, Nat.zero_add, Nat.add_zero, Nat.reduceBEq, Nat.one_ne_zero, Nat.zero_ne_one, Nat.lt_irrefl, Nat.succ_ne_zero, w32_id, ixc, ixc2, Int.toNat_natCast, ob_214, ln_220])
    rw [g220]
    rcases Lw with ⟨n1, n2⟩ | ⟨n1, n2, n3, n4, n5, n6⟩
    · rw [← ent] at n2
      rw [n2]
      refine ⟨fun _ => k105 m4 F4 R4 (by unfold lvF; rw [if_pos n1]), fun z => absurd (by decide) z⟩
    · rw [← ent] at n3
      rw [n3]
      refine ⟨fun z => absurd z (by decide), fun _ => ?_⟩
      have cw := r_worthAt (l := l) (d := d + 1) L4 n2 (fun i hi => by rw [g221]; exact n4 i hi) (by rw [g221]; exact n5) n6
      have elv : exS (fun j => m4 224 j) P n 0 = lvF P n qv ((usT X.1).length : Int) (f : Int) (tmT X.1 : Int) := by
        unfold lvF; rw [if_neg (by omega), exS_c n6 (fun j hj => g224 j hj) n (Nat.le_refl n)]
      rw [elv] at cw
      refine Cl.imp cw (fun r sh' m5 qq => ?_)
      obtain ⟨rfl, rfl, f5⟩ := qq
      have F5 : Fw b h m5 := F4.trans (Fw.ofFm (Fm.ofFr f5 (by decide)) (by rw [f5 214 (by decide)]))
      have R5 : RS (m5 226) b X.1 := by rw [f5 226 (by decide)]; exact R4
      obtain ⟨L5, x220, x221, x17, x15, x10⟩ := kn F5
      have i130 : ((b : Int) + 130 + (f : Int)).toNat = b + 130 + f := by omega
      have lv : m5 226 (b + 130 + f) = lsT X.1 f := (R5.2.2.2.1 f (by omega)).2.1
      (try simp (disch := omega) only [bi_0, x_ic, x_lc, x_ld, x_st, x_sl, x_inc, x_b32, x_b64, x_d32, x_d64, x_s64, x_un, x_lcmp, x_dup, x_pop, x_dup2, x_if, x_cmp, x_sw, swk, x_ald, x_ast, x_alen, x_getf, x_putf, x_inv, x_mm, x_copy, x_iret, x_lret, x_vret, ok1, pu, ct, rcv, rcs, ent0, List.getElem?_cons_zero, List.getElem?_cons_succ, List.getElem?_nil, List.set_cons_zero, List.set_cons_succ, List.take_succ_cons, List.take_zero, List.drop_succ_cons, List.drop_zero, List.reverse_cons, List.reverse_nil, List.nil_append, List.cons_append, List.length_cons, List.length_nil, true_and, and_true, and_self, ne_eq, not_true_eq_false, not_false_eq_true, reduceIte, true_or, or_true, false_or, or_false, Nat.reduceAdd, Nat.reduceSub, Nat.reduceMul, Nat.reduceLeDiff, Nat.reduceEqDiff, Nat.reduceLT, Nat.le_refl, Nat.zero_le, Int.reduceToNat, Int.reduceAdd, Int.reduceSub, Int.reduceMul, Int.reduceNeg, Int.reduceLT, Int.reduceLE, Int.reduceEq, Nat.zero_add, Nat.add_zero, Nat.reduceBEq, Nat.one_ne_zero, Nat.zero_ne_one, Nat.lt_irrefl, Nat.succ_ne_zero, w32_id, ixc, ixc2, Int.toNat_natCast, ob_214, x17, ln_226, i130, lv])
      refine ⟨fun z => k105 m5 F5 R5 z, fun z => ⟨by omega, by omega, ?_⟩⟩
      rw [if_neg z] at ih
      refine S_X11_puts_123 _ _ _ _ ?_; simp (disch := omega) only [B_X11_puts_123, bi_0, x_ic, x_lc, x_ld, x_st, x_sl, x_inc, x_b32, x_b64, x_d32, x_d64, x_s64, x_un, x_lcmp, x_dup, x_pop, x_dup2, x_if, x_cmp, x_sw, swk, x_ald, x_ast, x_alen, x_getf, x_putf, x_inv, x_mm, x_copy, x_iret, x_lret, x_vret, ok1, pu, ct, rcv, rcs, ent0, List.getElem?_cons_zero, List.getElem?_cons_succ, List.getElem?_nil, List.set_cons_zero, List.set_cons_succ, List.take_succ_cons, List.take_zero, List.drop_succ_cons, List.drop_zero, List.reverse_cons, List.reverse_nil, List.nil_append, List.cons_append, List.length_cons, List.length_nil, true_and, and_true, and_self, ne_eq, not_true_eq_false, not_false_eq_true, reduceIte, true_or, or_true, false_or, or_false, Nat.reduceAdd, Nat.reduceSub, Nat.reduceMul, Nat.reduceLeDiff, Nat.reduceEqDiff, Nat.reduceLT, Nat.le_refl, Nat.zero_le, Int.reduceToNat, Int.reduceAdd, Int.reduceSub, Int.reduceMul, Int.reduceNeg, Int.reduceLT, Int.reduceLE, Int.reduceEq, Nat.zero_add, Nat.add_zero, Nat.reduceBEq, Nat.one_ne_zero, Nat.zero_ne_one, Nat.lt_irrefl, Nat.succ_ne_zero, w32_id, ixc, ixc2, Int.toNat_natCast]
      refine ih _ ?_
      refine ⟨F5.trans (Fw.up (by omega)), ?_⟩
      have := R5.ls (Nat.le_of_lt ul) (f := f) (by omega) (w32 (lsT X.1 f + 1))
      have e1 : (fun i => if i = f then w32 (lsT X.1 f + 1) else lsT X.1 i) = fun i => if i = f then w32 (lsT X.1 i + 1) else lsT X.1 i := funext fun i => by
        by_cases e : i = f
        · rw [if_pos e, if_pos e, e]
        · rw [if_neg e, if_neg e]
      rw [e1] at this
      exact this
  · obtain ⟨F, Rm⟩ := J
    obtain ⟨Lm, e220, e221, b17, b15, b10⟩ := kn F
    obtain ⟨Tj, tj, lj⟩ := TW.putN (P := P) (n := n) W Tw hf (k := k) hl
    obtain ⟨X, hX⟩ : ∃ X, X = puN nt P n f T k := ⟨_, rfl⟩
    rw [← hX] at Rm Tj tj lj hQ ⊢
    have tv : m 226 b = (tmT X.1 : Int) := Rm.1.1
    have ip : ((b : Int) + 138 + 61 * (f : Int) + (tmT X.1 : Int)).toNat = b + 138 + 61 * f + tmT X.1 := by omega
    have pv : m 226 (b + 138 + 61 * f + tmT X.1) = ptT X.1 f (tmT X.1) := Rm.2.2.2.2 f (tmT X.1) (by omega) (by omega)
    refine S_X11_puts_6 _ _ _ _ ?_; simp (disch := omega) only [B_X11_puts_6, bi_0, x_ic, x_lc, x_ld, x_st, x_sl, x_inc, x_b32, x_b64, x_d32, x_d64, x_s64, x_un, x_lcmp, x_dup, x_pop, x_dup2, x_if, x_cmp, x_sw, swk, x_ald, x_ast, x_alen, x_getf, x_putf, x_inv, x_mm, x_copy, x_iret, x_lret, x_vret, ok1, pu, ct, rcv, rcs, ent0, List.getElem?_cons_zero, List.getElem?_cons_succ, List.getElem?_nil, List.set_cons_zero, List.set_cons_succ, List.take_succ_cons, List.take_zero, List.drop_succ_cons, List.drop_zero, List.reverse_cons, List.reverse_nil, List.nil_append, List.cons_append, List.length_cons, List.length_nil, true_and, and_true, and_self, ne_eq, not_true_eq_false, not_false_eq_true, reduceIte, true_or, or_true, false_or, or_false, Nat.reduceAdd, Nat.reduceSub, Nat.reduceMul, Nat.reduceLeDiff, Nat.reduceEqDiff, Nat.reduceLT, Nat.le_refl, Nat.zero_le, Int.reduceToNat, Int.reduceAdd, Int.reduceSub, Int.reduceMul, Int.reduceNeg, Int.reduceLT, Int.reduceLE, Int.reduceEq, Nat.zero_add, Nat.add_zero, Nat.reduceBEq, Nat.one_ne_zero, Nat.zero_ne_one, Nat.lt_irrefl, Nat.succ_ne_zero, w32_id, ixc, ixc2, Int.toNat_natCast]
    refine ⟨fun _ => ?_, fun z => absurd z (by omega)⟩
    refine S_X11_puts_129 _ _ _ _ ?_; simp (disch := omega) only [B_X11_puts_129, bi_0, x_ic, x_lc, x_ld, x_st, x_sl, x_inc, x_b32, x_b64, x_d32, x_d64, x_s64, x_un, x_lcmp, x_dup, x_pop, x_dup2, x_if, x_cmp, x_sw, swk, x_ald, x_ast, x_alen, x_getf, x_putf, x_inv, x_mm, x_copy, x_iret, x_lret, x_vret, ok1, pu, ct, rcv, rcs, ent0, List.getElem?_cons_zero, List.getElem?_cons_succ, List.getElem?_nil, List.set_cons_zero, List.set_cons_succ, List.take_succ_cons, List.take_zero, List.drop_succ_cons, List.drop_zero, List.reverse_cons, List.reverse_nil, List.nil_append, List.cons_append, List.length_cons, List.length_nil, true_and, and_true, and_self, ne_eq, not_true_eq_false, not_false_eq_true, reduceIte, true_or, or_true, false_or, or_false, Nat.reduceAdd, Nat.reduceSub, Nat.reduceMul, Nat.reduceLeDiff, Nat.reduceEqDiff, Nat.reduceLT, Nat.le_refl, Nat.zero_le, Int.reduceToNat, Int.reduceAdd, Int.reduceSub, Int.reduceMul, Int.reduceNeg, Int.reduceLT, Int.reduceLE, Int.reduceEq, Nat.zero_add, Nat.add_zero, Nat.reduceBEq, Nat.one_ne_zero, Nat.zero_ne_one, Nat.lt_irrefl, Nat.succ_ne_zero, w32_id, ixc, ixc2, Int.toNat_natCast, ob_214, b17, ln_226, ix0, tv, ip, pv]
    refine ⟨by omega, by omega, by omega, ?_⟩
    refine hQ _ _ _ ⟨rfl, rfl, F.trans (Fw.up (by omega)), ?_⟩
    have := Rm.pt Tj.2.1 (f := f) (t := tmT X.1) (by omega) (by omega) (w32 (ptT X.1 f (tmT X.1) + (k : Int)))
    unfold ptP
    have e1 : (fun i u => if i = f ∧ u = tmT X.1 then w32 (ptT X.1 f (tmT X.1) + (k : Int)) else ptT X.1 i u) = fun i t => if i = f ∧ t = tmT X.1 then w32 (ptT X.1 i t + (k : Int)) else ptT X.1 i t := funext fun i => funext fun u => by
      by_cases e : i = f ∧ u = tmT X.1
      · rw [if_pos e, if_pos e, e.1, e.2]
      · rw [if_neg e, if_neg e]
    rw [e1] at this
    exact this
end MP

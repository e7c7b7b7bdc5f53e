/-! the class: a tick -/
theorem sel_rest {kind : Int} {fl : Nat → Nat} : ∀ {q : Nat} {t : Int} {I : List Nat}, (∀ k, k ∈ I → (fl k : Int) < 4) → I.Nodup → (sel kind fl q t I).2 = I.filter (fun k => !((sel kind fl q t I).1.contains k))
  | 0, t, I, _, _ => by
    rw [show ∀ t J, sel kind fl 0 t J = ([], J) from fun _ _ => rfl]
    exact (List.filter_eq_self.mpr (fun k _ => by simp)).symm
  | q + 1, t, I, h4, hd => by
    by_cases e : I = []
    · subst e; rw [sel_n]; rfl
    · have hl : 0 < I.length := List.length_pos_iff.mpr e
      have pb := pkP_b (kind := kind) (x := fun j => (fl (I.getD j 0) : Int)) (t := t) hl (fun j hj => ⟨by omega, h4 _ (gD_mem 0 hj)⟩)
      rw [sel_s e]
      generalize hp : (pkP kind (fun j => (fl (I.getD j 0) : Int)) I.length t).toNat = p at *
      have hp2 : p < I.length := by omega
      have ih := sel_rest (kind := kind) (fl := fl) (q := q) (t := (fl (I.getD p 0) : Int)) (I := I.eraseIdx p) (fun k hk => h4 k (er_mem hk)) (er_nd hd)
      dsimp only
      rw [ih]
      generalize (sel kind fl q (fl (I.getD p 0) : Int) (I.eraseIdx p)).1 = R
      rw [er_fil hd hp2, List.filter_filter]
      refine List.filter_congr (fun k _ => ?_)
      rw [List.contains_cons, Bool.not_or, Bool.and_comm]
theorem rest_q {nt : Nat → Int} {us : List Un} {bz : Nat → Int} (h4 : ∀ k, k < us.length → ((uA us k).1 : Int) < 4) {N n : Nat} (hn : n < N) : qL nt (lft0 us (slS nt us bz N)) n = (slN nt us bz n).2.map (fun k => enc (uA us k)) := by
  unfold lft0
  rw [qL_map, pl_fil]
  congr 1
  have h1 : (slN nt us bz n).2 = (ixs nt us n).filter (fun k => !((slN nt us bz n).1.contains k)) := sel_rest (fun k hk => h4 k (ixs_at hk).1) (pl_nd _ _)
  rw [h1]
  unfold ixs
  rw [pl_fil]
  refine pl_cong (fun k hk => ?_)
  rw [Bool.and_comm]
  by_cases e : atU nt us n k = true
  · rw [e, Bool.true_and, Bool.true_and]
    congr 1
    have hki : k ∈ ixs nt us n := pl_mem.mpr ⟨hk, e⟩
    by_cases e2 : k ∈ (slN nt us bz n).1
    · have := slS_in hn e2
      simp [this, e2]
    · have : ¬ k ∈ slS nt us bz N := fun z => by
        obtain ⟨n', a, b, c⟩ := slS_at h4 z
        have h3 := (ixs_at b).2
        have h5 := (ixs_at hki).2
        have : n' = n := by omega
        rw [this] at c; exact e2 c
      simp [this, e2]
  · simp at e; simp [e]
/-- as it was, but a law's pile -/
def Fy (tb nb : Nat) (h h' : Mem) : Prop := (∀ i, i < tb ∨ tb + 22 ≤ i → i ≠ nb + 17 → h' i = h i) ∧ (∀ j, j ≠ 10 → h' tb j = h tb j) ∧ ∀ i, i = tb + 1 ∨ i = tb + 6 ∨ i = tb + 11 → h' i = h i
theorem Fx.y {tb nb : Nat} {h h' : Mem} (f : Fx tb h h') : Fy tb nb h h' := ⟨fun i q _ => f.1 i q, f.2.1, f.2.2⟩
theorem Fy.trans {tb nb : Nat} {h h1 h2 : Mem} (a : Fy tb nb h h1) (b : Fy tb nb h1 h2) : Fy tb nb h h2 := ⟨fun i q r => (b.1 i q r).trans (a.1 i q r), fun j p => (b.2.1 j p).trans (a.2.1 j p), fun i q => (b.2.2 i q).trans (a.2.2 i q)⟩
def trC5 (tb nb : Nat) : Bool := LAYL.all (fun q => if q.1 = tb then !(q.2.1 == 9) && !(q.2.1 == 10) else ((decide (q.1 < tb) || decide (tb + 22 ≤ q.1)) && !(q.1 == nb + 17)) || (q.1 == tb + 1 || q.1 == tb + 6 || q.1 == tb + 11))
theorem Fy.lay {tb nb : Nat} (ht : Trf tb) (hn : nb = 4 ∨ nb = 34) {h h' : Mem} (f : Fy tb nb h h') (L : Lay h) : Lay h' := by
  refine Lay_fr L (fun q hq => ?_)
  have hn : trC5 tb nb = true := by rcases ht with rfl | rfl | rfl | rfl <;> rcases hn with rfl | rfl <;> decide +kernel
  have h1 := List.all_eq_true.mp hn q hq
  by_cases e : q.1 = tb
  · rw [if_pos e] at h1
    simp at h1
    rw [e]; exact f.2.1 _ h1.2
  · rw [if_neg e] at h1
    simp at h1
    rcases h1 with h1 | h1
    · rw [f.1 q.1 h1.1 h1.2]
    · rw [f.2.2 q.1 (by omega)]
theorem Fy.n220 {tb nb : Nat} (ht : Trf tb) (hn : nb = 4 ∨ nb = 34) {h h' : Mem} (f : Fy tb nb h h') : h' 220 = h 220 := f.1 220 (by unfold Trf at ht; omega) (by omega)
theorem RC.fr2 {h h' : Mem} {nb : Nat} (R : RC h nb) (W : WC (h 220)) (hf : ∀ i, ((nb ≤ i ∧ i < nb + 30) ∧ i ≠ nb + 17) ∨ i = 220 → h' i = h i) : RC h' nb := by
  have e := hf 220 (Or.inr rfl)
  refine ⟨by rw [hf nb (Or.inl (by omega)), e]; exact R.1, fun c hc => ?_⟩
  rw [e] at hc ⊢
  have h6 := W.1.2
  rw [hf (nb + 18 + 2 * c) (Or.inl (by omega)), hf (nb + 18 + 2 * c + 1) (Or.inl (by omega))]
  exact R.2 c hc
theorem RN.fr2 {h h' : Mem} {nb : Nat} (R : RN h nb) (W : WN (h 220)) (hf : ∀ i, ((nb ≤ i ∧ i < nb + 30) ∧ i ≠ nb + 17) ∨ i = 220 → h' i = h i) : RN h' nb := by
  have e := hf 220 (Or.inr rfl)
  have nf := W.nf
  refine ⟨R.1.fr2 W.wc hf, ?_, ?_, ?_⟩
  · rw [hf nb (Or.inl (by omega)), e]; exact R.2.1
  · rw [e, hf (nb + 5) (Or.inl (by omega)), hf (nb + 6) (Or.inl (by omega)), hf (nb + 14) (Or.inl (by omega))]; exact R.2.2.1
  · rw [e, hf (nb + 7) (Or.inl (by omega)), hf (nb + 8) (Or.inl (by omega))]
    intro f hff
    rw [hf (nb + 10 + f) (Or.inl (by omega))]
    exact R.2.2.2 f hff
theorem Fy.rn {tb nb : Nat} (ht : Trf tb) (hn : nb = 4 ∨ nb = 34) {h h' : Mem} (f : Fy tb nb h h') (R : RN h nb) (W : WN (h 220)) : RN h' nb := R.fr2 W (fun i hi => by
  rcases hi with hi | rfl
  · exact f.1 i (by unfold Trf at ht; omega) hi.2
  · exact f.n220 ht hn)
theorem Fy.lw {tb nb : Nat} (ht : Trf tb) (hn : nb = 4 ∨ nb = 34) {h h' : Mem} (f : Fy tb nb h h') {P : Nat → Wd} {n : Nat} (C : LwC h nb P n) : LwC h' nb P n := by
  obtain ⟨a, b, c, e⟩ := C
  refine ⟨by rw [f.1 (nb + 15) (by unfold Trf at ht; omega) (by omega)]; exact a, b, by rw [f.1 (nb + 16) (by unfold Trf at ht; omega) (by omega)]; exact c, e⟩
/-- a unit comes to a node -/
theorem CS.ent {h : Mem} {tb : Nat} {T : TS} (C : CS h tb T) {n k : Nat} (hn : n < 4) {u : Un} (hu : nd (h 220) u.1 u.2.1 = (n : Int)) (hk : h (tb + 16) n = (k : Int)) (ht : Trf tb) : CS (up (up h (tb + 2 + n) k (enc u)) (tb + 16) n ((k + 1 : Nat) : Int)) tb (tmT T, usT T ++ [u], bzT T, gnT T, lsT T, ltT T, ptT T) := by
  have e220 : up (up h (tb + 2 + n) k (enc u)) (tb + 16) n ((k + 1 : Nat) : Int) 220 = h 220 := by unfold Trf at ht; rw [up_ne (by omega), up_ne (by omega)]
  obtain ⟨c1, c2, c3, c4, c5⟩ := C
  refine ⟨by rw [up_ne (by omega), up_ne (by omega)]; exact c1, fun n' hn' => ?_, fun n' hn' => by rw [up_ne (by omega), up_ne (by omega)]; exact c3 n' hn', fun f hf => by rw [up_ne (by omega), up_ne (by omega), up_ne (by omega), up_ne (by omega), up_ne (by omega), up_ne (by omega)]; exact c4 f hf, fun f t hf ht => by rw [up_ne (by omega), up_ne (by omega)]; exact c5 f t hf ht⟩
  rw [e220]
  show QR _ tb n' (qL (h 220) (usT T ++ [u]) n')
  rw [qL_app]
  obtain ⟨q1, q2⟩ := c2 n' hn'
  by_cases e : n' = n
  · subst e
    rw [if_pos hu]
    have ek : k = (qL (h 220) (usT T) n').length := by rw [hk] at q1; omega
    refine ⟨by rw [up_at, List.length_append, ek]; rfl, fun i hi => ?_⟩
    rw [up_ne (by omega)]
    rw [List.length_append] at hi
    by_cases e2 : i = k
    · rw [e2, up_at, ek, gD_app_1]
    · have hi' : i < (qL (h 220) (usT T) n').length := by simp at hi; omega
      rw [up_nj e2, gD_app_l 0 hi']; exact q2 i hi'
  · rw [if_neg (by omega), List.append_nil]
    refine ⟨by rw [up_nj e, up_ne (by omega)]; exact q1, fun i hi => ?_⟩
    rw [up_ne (by omega), up_ne (by omega)]; exact q2 i hi
section CW2
variable {l : Launch} {d : Nat} {h : Mem} {tb nb : Nat}
theorem c_sendOn (L : Lay h) (ht : Trf tb) (hnb : nb = 4 ∨ nb = 34) (R : RN h nb) (W : WN (h 220)) {T : TS} (C : CS h tb T) (hl : (usT T).length < 40) {n : Nat} {u : Un} (hu : UW (h 220) 60 u) (hn : nd (h 220) u.1 u.2.1 = (n : Int)) (htm : tmT T ≤ 60) : Cl l (d + 2) M_X9_sendOn [(2, (tb : Int) + 1), (2, (nb : Int) + 1), (0, (n : Int)), (0, enc u)] SHP h (fun r sh' h' => sh' = SHP ∧ Fr [tb + 2, tb + 3, tb + 4, tb + 5, tb + 16, tb + 18, tb + 20] h h' ∧ (((u.2.1 : Int) + 1 < hp (h 220) u.1 ∧ r = 0 ∧ CS h' tb (tmT T, usT T ++ [(u.1, u.2.1 + 1, u.2.2)], bzT T, gnT T, lsT T, ltT T, ptT T)) ∨ (¬ (u.2.1 : Int) + 1 < hp (h 220) u.1 ∧ r = 1 ∧ CS h' tb (tmT T, usT T, bzT T, (fun i => if i = u.1 then w32 (gnT T i + 1) else gnT T i), lsT T, (fun i => if i = u.1 then max (ltT T i) ((tmT T : Int) - (u.2.2 : Int)) else ltT T i), ptT T)))) := by
  have o := tf_ob ht
  have s1 := (net_sh hnb).1
  have nf := W.nf
  have nn := W.nn
  obtain ⟨u1, u2, u3⟩ := hu
  have hh := W.hpB u.1 u1
  have hf4 : u.1 < 4 := by omega
  have hop1 := hop_eq W u1 u2
  rw [hn] at hop1
  obtain ⟨x1, x2, x3⟩ := R.2.2.2 u.1 u1
  have eb : 0 ≤ enc u ∧ enc u < 256 := by unfold enc; omega
  have ed := enc_d (u := u) (by omega)
  have d1 : dv32 (enc u) 64 = (u.1 : Int) := by rw [dv32_pos eb.1 (by omega) (by decide) (by decide)]; exact ed.1
  have r1 : rm32 (enc u) 64 = (u.2.2 : Int) := by rw [rm32_pos eb.1 (by omega) (by decide) (by decide)]; exact ed.2
  have ch := c_hopAt (l := l) (d := d) L hnb R W u1 (n : Int)
  rw [hop1] at ch
  refine Cl_hide (fun Q hQ => ?_)
  show V l (d + 2) 0 0 M_X9_sendOn 0 0 0 Q [(2, (tb : Int) + 1), (2, (nb : Int) + 1), (0, (n : Int)), (0, enc u), (9, 0), (9, 0)] [] SHP h
  refine S_X9_sendOn_0 _ _ _ _ ?_; simp (disch := omega) only [B_X9_sendOn_0, bi_0, x_ic, x_lc, x_ld, x_st, x_sl, x_inc, x_b32, x_b64, x_d32, x_d64, x_s64, x_un, x_lcmp, x_dup, x_pop, x_dup2, x_if, x_cmp, x_sw, swk, x_ald, x_ast, x_alen, x_getf, x_putf, x_inv, x_mm, x_copy, x_iret, x_lret, x_vret, ok1, pu, ct, rcv, rcs, ent0, List.getElem?_cons_zero, List.getElem?_cons_succ, List.getElem?_nil, List.set_cons_zero, List.set_cons_succ, List.take_succ_cons, List.take_zero, List.drop_succ_cons, List.drop_zero, List.reverse_cons, List.reverse_nil, List.nil_append, List.cons_append, List.length_cons, List.length_nil, true_and, and_true, and_self, ne_eq, not_true_eq_false, not_false_eq_true, reduceIte, true_or, or_true, false_or, or_false, Nat.reduceAdd, Nat.reduceSub, Nat.reduceMul, Nat.reduceLeDiff, Nat.reduceEqDiff, Nat.reduceLT, Nat.le_refl, Nat.zero_le, Int.reduceToNat, Int.reduceAdd, Int.reduceSub, Int.reduceMul, Int.reduceNeg, Int.reduceLT, Int.reduceLE, Int.reduceEq, Nat.zero_add, Nat.add_zero, Nat.reduceBEq, Nat.one_ne_zero, Nat.zero_ne_one, Nat.lt_irrefl, Nat.succ_ne_zero, w32_id, ixc, ixc2, Int.toNat_natCast, d1, s1]
  refine Cl.app ch ?_
  (try simp (disch := omega) only [bi_0, x_ic, x_lc, x_ld, x_st, x_sl, x_inc, x_b32, x_b64, x_d32, x_d64, x_s64, x_un, x_lcmp, x_dup, x_pop, x_dup2, x_if, x_cmp, x_sw, swk, x_ald, x_ast, x_alen, x_getf, x_putf, x_inv, x_mm, x_copy, x_iret, x_lret, x_vret, ok1, pu, ct, rcv, rcs, ent0, List.getElem?_cons_zero, List.getElem?_cons_succ, List.getElem?_nil, List.set_cons_zero, List.set_cons_succ, List.take_succ_cons, List.take_zero, List.drop_succ_cons, List.drop_zero, List.reverse_cons, List.reverse_nil, List.nil_append, List.cons_append, List.length_cons, List.length_nil, true_and, and_true, and_self, ne_eq, not_true_eq_false, not_false_eq_true, reduceIte, true_or, or_true, false_or, or_false, Nat.reduceAdd, Nat.reduceSub, Nat.reduceMul, Nat.reduceLeDiff, Nat.reduceEqDiff, Nat.reduceLT, Nat.le_refl, Nat.zero_le, Int.reduceToNat, Int.reduceAdd, Int.reduceSub, Int.reduceMul, Int.reduceNeg, Int.reduceLT, Int.reduceLE, Int.reduceEq, Nat.zero_add, Nat.add_zero, Nat.reduceBEq, Nat.one_ne_zero, Nat.zero_ne_one, Nat.lt_irrefl, Nat.succ_ne_zero, w32_id, ixc, ixc2, Int.toNat_natCast, s1, nf7 L hnb, nln8 hnb, x2])
  refine ⟨by omega, fun z => ?_, fun z => ?_⟩
  · -- gone
    obtain ⟨c1, c2, c3, c4, c5⟩ := id C
    have g1 := (c4 u.1 hf4).1
    have g3 := (c4 u.1 hf4).2.2
    obtain ⟨m, hm⟩ : ∃ m, m = up h (tb + 18) u.1 (w32 (gnT T u.1 + 1)) := ⟨_, rfl⟩
    have Fm : Fx tb h m := by rw [hm]; exact Fx_up (by omega)
    have Lm := Fm.lay ht L
    have v1 : m (tb + 20) u.1 = ltT T u.1 := by rw [hm, up_ne (by omega)]; exact g3
    have v2 : m tb 10 = (tmT T : Int) := by rw [hm, up_ne (by omega)]; exact c1
    refine S_X9_sendOn_46 _ _ _ _ ?_; simp (disch := omega) only [B_X9_sendOn_46, bi_0, x_ic, x_lc, x_ld, x_st, x_sl, x_inc, x_b32, x_b64, x_d32, x_d64, x_s64, x_un, x_lcmp, x_dup, x_pop, x_dup2, x_if, x_cmp, x_sw, swk, x_ald, x_ast, x_alen, x_getf, x_putf, x_inv, x_mm, x_copy, x_iret, x_lret, x_vret, ok1, pu, ct, rcv, rcs, ent0, List.getElem?_cons_zero, List.getElem?_cons_succ, List.getElem?_nil, List.set_cons_zero, List.set_cons_succ, List.take_succ_cons, List.take_zero, List.drop_succ_cons, List.drop_zero, List.reverse_cons, List.reverse_nil, List.nil_append, List.cons_append, List.length_cons, List.length_nil, true_and, and_true, and_self, ne_eq, not_true_eq_false, not_false_eq_true, reduceIte, true_or, or_true, false_or, or_false, Nat.reduceAdd, Nat.reduceSub, Nat.reduceMul, Nat.reduceLeDiff, Nat.reduceEqDiff, Nat.reduceLT, Nat.le_refl, Nat.zero_le, Int.reduceToNat, Int.reduceAdd, Int.reduceSub, Int.reduceMul, Int.reduceNeg, Int.reduceLT, Int.reduceLE, Int.reduceEq, Nat.zero_add, Nat.add_zero, Nat.reduceBEq, Nat.one_ne_zero, Nat.zero_ne_one, Nat.lt_irrefl, Nat.succ_ne_zero, w32_id, ixc, ixc2, Int.toNat_natCast, o, tf5 L ht, tl18 ht, g1]
    rw [← hm]
    (try simp (disch := omega) only [bi_0, x_ic, x_lc, x_ld, x_st, x_sl, x_inc, x_b32, x_b64, x_d32, x_d64, x_s64, x_un, x_lcmp, x_dup, x_pop, x_dup2, x_if, x_cmp, x_sw, swk, x_ald, x_ast, x_alen, x_getf, x_putf, x_inv, x_mm, x_copy, x_iret, x_lret, x_vret, ok1, pu, ct, rcv, rcs, ent0, List.getElem?_cons_zero, List.getElem?_cons_succ, List.getElem?_nil, List.set_cons_zero, List.set_cons_succ, List.take_succ_cons, List.take_zero, List.drop_succ_cons, List.drop_zero, List.reverse_cons, List.reverse_nil, List.nil_append, List.cons_append, List.length_cons, List.length_nil, true_and, and_true, and_self, ne_eq, not_true_eq_false, not_false_eq_true, reduceIte, true_or, or_true, false_or, or_false, Nat.reduceAdd, Nat.reduceSub, Nat.reduceMul, Nat.reduceLeDiff, Nat.reduceEqDiff, Nat.reduceLT, Nat.le_refl, Nat.zero_le, Int.reduceToNat, Int.reduceAdd, Int.reduceSub, Int.reduceMul, Int.reduceNeg, Int.reduceLT, Int.reduceLE, Int.reduceEq, Nat.zero_add, Nat.add_zero, Nat.reduceBEq, Nat.one_ne_zero, Nat.zero_ne_one, Nat.lt_irrefl, Nat.succ_ne_zero, w32_id, ixc, ixc2, Int.toNat_natCast, o, tf7 Lm ht, tl20 ht, v1, v2, r1])
    (repeat' (first | assumption | (with_reducible refine And.intro ?_ ?_) | (refine im (fun hq => ?_); (try (exfalso; omega; done))) | omega))
    refine hQ _ _ _ ⟨rfl, Fr.up (by rw [hm]; exact Fr.up Fr.rfl (by simp)) (by simp), Or.inr ⟨by omega, rfl, ?_⟩⟩
    have e220 : up m (tb + 20) u.1 (max (ltT T u.1) ((tmT T : Int) - (u.2.2 : Int))) 220 = h 220 := by unfold Trf at ht; rw [up_ne (by omega), hm, up_ne (by omega)]
    refine ⟨by rw [up_ne (by omega)]; exact v2, fun n' hn' => ?_, fun n' hn' => by rw [up_ne (by omega), hm, up_ne (by omega)]; exact c3 n' hn', fun f hf => ?_, fun f t hf ht => by rw [up_ne (by omega), hm, up_ne (by omega)]; exact c5 f t hf ht⟩
    · rw [e220]
      exact ⟨by rw [up_ne (by omega), hm, up_ne (by omega)]; exact (c2 n' hn').1, by rw [up_ne (by omega), hm, up_ne (by omega)]; exact (c2 n' hn').2⟩
    · have c4 := c4 f hf
      show _ = (if f = u.1 then w32 (gnT T f + 1) else gnT T f) ∧ _ = lsT T f ∧ _ = if f = u.1 then max (ltT T f) ((tmT T : Int) - (u.2.2 : Int)) else ltT T f
      refine ⟨?_, ?_, ?_⟩
      · rw [up_ne (by omega), hm]
        by_cases e : f = u.1
        · rw [e, up_at, if_pos rfl]
        · rw [up_nj e, if_neg e]; exact c4.1
      · rw [up_ne (by omega), hm, up_ne (by omega)]; exact c4.2.1
      · by_cases e : f = u.1
        · rw [e, up_at, if_pos rfl]
        · rw [up_nj e, if_neg e, hm, up_ne (by omega)]; exact c4.2.2
  · have x4 := x3 (u.2.1 + 1) (by omega)
    have hnd := W.ndB u.1 (u.2.1 + 1) u1 (by omega)
    obtain ⟨n2, en2⟩ : ∃ n2 : Nat, nd (h 220) u.1 (u.2.1 + 1) = (n2 : Int) := ⟨(nd (h 220) u.1 (u.2.1 + 1)).toNat, by omega⟩
    rw [en2] at x4
    have hn2 : n2 < 4 := by omega
    have ix : ((u.2.1 : Int) + 1).toNat = u.2.1 + 1 := by omega
    have qk := (C.2.1 n2 hn2).1
    have qlen : (qL (h 220) (usT T) n2).length < 40 := by
      rw [qL_len]; unfold ixs
      have := pl_len (p := atU (h 220) (usT T) n2) (m := (usT T).length)
      omega
    have cb := c_bringTo (l := l) (d := d) L ht hn2 qlen qk (enc u)
    (try simp (disch := omega) only [bi_0, x_ic, x_lc, x_ld, x_st, x_sl, x_inc, x_b32, x_b64, x_d32, x_d64, x_s64, x_un, x_lcmp, x_dup, x_pop, x_dup2, x_if, x_cmp, x_sw, swk, x_ald, x_ast, x_alen, x_getf, x_putf, x_inv, x_mm, x_copy, x_iret, x_lret, x_vret, ok1, pu, ct, rcv, rcs, ent0, List.getElem?_cons_zero, List.getElem?_cons_succ, List.getElem?_nil, List.set_cons_zero, List.set_cons_succ, List.take_succ_cons, List.take_zero, List.drop_succ_cons, List.drop_zero, List.reverse_cons, List.reverse_nil, List.nil_append, List.cons_append, List.length_cons, List.length_nil, true_and, and_true, and_self, ne_eq, not_true_eq_false, not_false_eq_true, reduceIte, true_or, or_true, false_or, or_false, Nat.reduceAdd, Nat.reduceSub, Nat.reduceMul, Nat.reduceLeDiff, Nat.reduceEqDiff, Nat.reduceLT, Nat.le_refl, Nat.zero_le, Int.reduceToNat, Int.reduceAdd, Int.reduceSub, Int.reduceMul, Int.reduceNeg, Int.reduceLT, Int.reduceLE, Int.reduceEq, Nat.zero_add, Nat.add_zero, Nat.reduceBEq, Nat.one_ne_zero, Nat.zero_ne_one, Nat.lt_irrefl, Nat.succ_ne_zero, w32_id, ixc, ixc2, Int.toNat_natCast, s1, nf8 L hnb, nln9 hnb, (net_w L hnb hf4).1, (net_w L hnb hf4).2, ix, x4, o])
    (repeat' (first | assumption | (with_reducible refine And.intro ?_ ?_) | (refine im (fun hq => ?_); (try (exfalso; omega; done))) | omega))
    refine Cl.app cb ?_
    (try simp (disch := omega) only [bi_0, x_ic, x_lc, x_ld, x_st, x_sl, x_inc, x_b32, x_b64, x_d32, x_d64, x_s64, x_un, x_lcmp, x_dup, x_pop, x_dup2, x_if, x_cmp, x_sw, swk, x_ald, x_ast, x_alen, x_getf, x_putf, x_inv, x_mm, x_copy, x_iret, x_lret, x_vret, ok1, pu, ct, rcv, rcs, ent0, List.getElem?_cons_zero, List.getElem?_cons_succ, List.getElem?_nil, List.set_cons_zero, List.set_cons_succ, List.take_succ_cons, List.take_zero, List.drop_succ_cons, List.drop_zero, List.reverse_cons, List.reverse_nil, List.nil_append, List.cons_append, List.length_cons, List.length_nil, true_and, and_true, and_self, ne_eq, not_true_eq_false, not_false_eq_true, reduceIte, true_or, or_true, false_or, or_false, Nat.reduceAdd, Nat.reduceSub, Nat.reduceMul, Nat.reduceLeDiff, Nat.reduceEqDiff, Nat.reduceLT, Nat.le_refl, Nat.zero_le, Int.reduceToNat, Int.reduceAdd, Int.reduceSub, Int.reduceMul, Int.reduceNeg, Int.reduceLT, Int.reduceLE, Int.reduceEq, Nat.zero_add, Nat.add_zero, Nat.reduceBEq, Nat.one_ne_zero, Nat.zero_ne_one, Nat.lt_irrefl, Nat.succ_ne_zero, w32_id, ixc, ixc2, Int.toNat_natCast])
    refine hQ _ _ _ ⟨rfl, Fr.up (Fr.up Fr.rfl (by simp; omega)) (by simp), Or.inl ⟨by omega, rfl, ?_⟩⟩
    have := C.ent hn2 (u := (u.1, u.2.1 + 1, u.2.2)) (by show nd (h 220) u.1 (u.2.1 + 1) = _; exact en2) qk ht
    exact this
end CW2

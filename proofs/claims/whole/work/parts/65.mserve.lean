/-! those that are served: what holds of the lists; the reference serves so -/
theorem sel_s {kind : Int} {fl : Nat → Nat} {q : Nat} {t : Int} {I : List Nat} (h : I ≠ []) : sel kind fl (q + 1) t I = (I.getD (pkP kind (fun j => (fl (I.getD j 0) : Int)) I.length t).toNat 0 :: (sel kind fl q (fl (I.getD (pkP kind (fun j => (fl (I.getD j 0) : Int)) I.length t).toNat 0) : Int) (I.eraseIdx (pkP kind (fun j => (fl (I.getD j 0) : Int)) I.length t).toNat)).1, (sel kind fl q (fl (I.getD (pkP kind (fun j => (fl (I.getD j 0) : Int)) I.length t).toNat 0) : Int) (I.eraseIdx (pkP kind (fun j => (fl (I.getD j 0) : Int)) I.length t).toNat)).2) := by
  rw [sel, if_neg h]
theorem sel_n {kind : Int} {fl : Nat → Nat} {q : Nat} {t : Int} : sel kind fl q t [] = ([], []) := by
  cases q with
  | zero => rfl
  | succ q => rw [sel, if_pos rfl]
theorem sel_mem {kind : Int} {fl : Nat → Nat} : ∀ {q : Nat} {t : Int} {I : List Nat}, (∀ k, k ∈ I → (fl k : Int) < 4) → ∀ k, (k ∈ (sel kind fl q t I).1 ∨ k ∈ (sel kind fl q t I).2) ↔ k ∈ I
  | 0, t, I, _, k => by unfold sel; simp
  | q + 1, t, I, h4, k => by
    by_cases e : I = []
    · subst e; rw [sel_n]; simp
    · have hl : 0 < I.length := List.length_pos_iff.mpr e
      have pb := pkP_b (kind := kind) (x := fun j => (fl (I.getD j 0) : Int)) (t := t) hl (fun j hj => ⟨by omega, h4 _ (gD_mem 0 hj)⟩)
      rw [sel_s e]
      generalize hp : (pkP kind (fun j => (fl (I.getD j 0) : Int)) I.length t).toNat = p at *
      have hp2 : p < I.length := by omega
      have ih := sel_mem (kind := kind) (fl := fl) (q := q) (t := (fl (I.getD p 0) : Int)) (I := I.eraseIdx p) (fun k hk => h4 k (er_mem hk)) k
      rw [List.mem_cons, or_assoc, ih]
      constructor
      · rintro (h | h)
        · rw [h]; exact gD_mem 0 hp2
        · exact er_mem h
      · intro h
        obtain ⟨j, hj, ej⟩ := mem_gD h
        by_cases q1 : j = p
        · exact Or.inl (by rw [← ej, q1])
        · refine Or.inr ?_
          have he := er_len hp2
          by_cases q2 : j < p
          · have : (I.eraseIdx p).getD j 0 = k := by rw [gD_er, if_pos q2]; exact ej
            rw [← this]; exact gD_mem 0 (by omega)
          · have : (I.eraseIdx p).getD (j - 1) 0 = k := by rw [gD_er, if_neg (by omega), show j - 1 + 1 = j by omega]; exact ej
            rw [← this]; exact gD_mem 0 (by omega)
theorem er_nd {l : List Nat} {p : Nat} (h : l.Nodup) : (l.eraseIdx p).Nodup := List.Nodup.sublist (List.eraseIdx_sublist l p) h
theorem sel_nd {kind : Int} {fl : Nat → Nat} : ∀ {q : Nat} {t : Int} {I : List Nat}, (∀ k, k ∈ I → (fl k : Int) < 4) → I.Nodup → (sel kind fl q t I).1.Nodup ∧ (sel kind fl q t I).2.Nodup ∧ ∀ k, k ∈ (sel kind fl q t I).1 → ¬ k ∈ (sel kind fl q t I).2
  | 0, t, I, _, hd => by unfold sel; exact ⟨List.nodup_nil, hd, fun k h => by cases h⟩
  | q + 1, t, I, h4, hd => by
    by_cases e : I = []
    · subst e; rw [sel_n]; exact ⟨List.nodup_nil, List.nodup_nil, fun k h => by cases h⟩
    · have hl : 0 < I.length := List.length_pos_iff.mpr e
      have pb := pkP_b (kind := kind) (x := fun j => (fl (I.getD j 0) : Int)) (t := t) hl (fun j hj => ⟨by omega, h4 _ (gD_mem 0 hj)⟩)
      rw [sel_s e]
      generalize hp : (pkP kind (fun j => (fl (I.getD j 0) : Int)) I.length t).toNat = p at *
      have hp2 : p < I.length := by omega
      have h4' : ∀ k, k ∈ I.eraseIdx p → (fl k : Int) < 4 := fun k hk => h4 k (er_mem hk)
      obtain ⟨i1, i2, i3⟩ := sel_nd (kind := kind) (fl := fl) (q := q) (t := (fl (I.getD p 0) : Int)) (I := I.eraseIdx p) h4' (er_nd hd)
      have hm := sel_mem (kind := kind) (fl := fl) (q := q) (t := (fl (I.getD p 0) : Int)) (I := I.eraseIdx p) h4'
      have hx : ¬ I.getD p 0 ∈ I.eraseIdx p := fun z => by
        rw [er_fil hd hp2] at z
        have := (List.mem_filter.mp z).2
        simp at this
      refine ⟨List.nodup_cons.mpr ⟨fun z => hx ((hm _).mp (Or.inl z)), i1⟩, i2, fun k hk z => ?_⟩
      rcases List.mem_cons.mp hk with h | h
      · rw [h] at z; exact hx ((hm _).mp (Or.inr z))
      · exact i3 k h z
/-- of m places, those not in a list without doubles -/
theorem nd_len {m : Nat} : ∀ {S : List Nat}, S.Nodup → (∀ x, x ∈ S → x < m) → (pl (fun k => !(S.contains k)) m).length + S.length = m
  | [], _, _ => by
    have : pl (fun k => !(([] : List Nat).contains k)) m = List.range m := by unfold pl; exact List.filter_eq_self.mpr (fun k _ => by simp)
    rw [this, List.length_range]; rfl
  | x :: S, hd, hm => by
    obtain ⟨h1, h2⟩ := List.nodup_cons.mp hd
    have ih := nd_len (S := S) h2 (fun y hy => hm y (List.mem_cons_of_mem _ hy))
    have hx : x ∈ pl (fun k => !(S.contains k)) m := pl_mem.mpr ⟨hm x List.mem_cons_self, by simp [h1]⟩
    obtain ⟨p, hp, ep⟩ := mem_gD hx
    have e1 := er_fil (pl_nd (fun k => !(S.contains k)) m) hp
    rw [ep, pl_fil] at e1
    have e2 : pl (fun k => !((x :: S).contains k)) m = pl (fun k => !(S.contains k) && !(k == x)) m := pl_cong (fun k _ => by
      rw [List.contains_cons, Bool.not_or, Bool.and_comm])
    rw [e2, ← e1]
    have := er_len hp
    rw [List.length_cons]; omega
section SL
variable {nt : Nat → Int} {us : List Un} {bz : Nat → Int}
theorem ixs_at {n k : Nat} (h : k ∈ ixs nt us n) : k < us.length ∧ nd nt (uA us k).1 (uA us k).2.1 = (n : Int) := by
  obtain ⟨h1, h2⟩ := pl_mem.mp h
  exact ⟨h1, by unfold atU at h2; simpa using h2⟩
theorem slN_mem (h4 : ∀ k, k < us.length → ((uA us k).1 : Int) < 4) (n k : Nat) : (k ∈ (slN nt us bz n).1 ∨ k ∈ (slN nt us bz n).2) ↔ k ∈ ixs nt us n := sel_mem (fun k hk => h4 k (ixs_at hk).1) k
theorem slN_nd (h4 : ∀ k, k < us.length → ((uA us k).1 : Int) < 4) (n : Nat) : (slN nt us bz n).1.Nodup ∧ (slN nt us bz n).2.Nodup ∧ ∀ k, k ∈ (slN nt us bz n).1 → ¬ k ∈ (slN nt us bz n).2 := sel_nd (fun k hk => h4 k (ixs_at hk).1) (pl_nd _ _)
theorem slS_at (h4 : ∀ k, k < us.length → ((uA us k).1 : Int) < 4) : ∀ {n k : Nat}, k ∈ slS nt us bz n → ∃ n', n' < n ∧ k ∈ ixs nt us n' ∧ k ∈ (slN nt us bz n').1
  | 0, k, h => by cases h
  | n + 1, k, h => by
    rcases List.mem_append.mp h with q | q
    · obtain ⟨n', a, b⟩ := slS_at h4 q
      exact ⟨n', by omega, b⟩
    · exact ⟨n, by omega, (slN_mem h4 n k).mp (Or.inl q), q⟩
theorem slS_in {n n' k : Nat} (hn : n' < n) (h : k ∈ (slN nt us bz n').1) : k ∈ slS nt us bz n := by
  induction n with
  | zero => omega
  | succ n ih =>
    rw [slS, List.mem_append]
    by_cases e : n' = n
    · subst e; exact Or.inr h
    · exact Or.inl (ih (by omega))
theorem slS_no (h4 : ∀ k, k < us.length → ((uA us k).1 : Int) < 4) {n k : Nat} (hk : k ∈ ixs nt us n) : ¬ k ∈ slS nt us bz n := fun h => by
  obtain ⟨n', a, b, _⟩ := slS_at h4 h
  have h1 := (ixs_at hk).2
  have h2 := (ixs_at b).2
  omega
theorem nd_app {a b : List Nat} (h1 : a.Nodup) (h2 : b.Nodup) (h3 : ∀ x, x ∈ a → ¬ x ∈ b) : (a ++ b).Nodup := List.nodup_append.mpr ⟨h1, h2, fun x hx y hy e => h3 x hx (by rw [e]; exact hy)⟩
theorem slS_nd (h4 : ∀ k, k < us.length → ((uA us k).1 : Int) < 4) : ∀ {n : Nat}, (slS nt us bz n).Nodup
  | 0 => List.nodup_nil
  | n + 1 => nd_app (slS_nd h4) (slN_nd h4 n).1 (fun x hx hy => slS_no h4 ((slN_mem h4 n x).mp (Or.inl hy)) hx)
theorem slS_lt (h4 : ∀ k, k < us.length → ((uA us k).1 : Int) < 4) {n k : Nat} (h : k ∈ slS nt us bz n) : k < us.length := by
  obtain ⟨n', a, b, _⟩ := slS_at h4 h
  exact (ixs_at b).1
theorem slS_room (h4 : ∀ k, k < us.length → ((uA us k).1 : Int) < 4) (n : Nat) : (slS nt us bz n).length + (ixs nt us n).length ≤ us.length := by
  have := nd_len (m := us.length) (S := slS nt us bz n ++ ixs nt us n) (nd_app (slS_nd h4) (pl_nd _ _) (fun x hx hy => slS_no h4 hy hx)) (fun x hx => by
    rcases List.mem_append.mp hx with q | q
    · exact slS_lt h4 q
    · exact (ixs_at q).1)
  rw [List.length_append] at this
  omega
theorem slS_len (h4 : ∀ k, k < us.length → ((uA us k).1 : Int) < 4) (n : Nat) : (pl (fun k => !((slS nt us bz n).contains k)) us.length).length + (slS nt us bz n).length = us.length := nd_len (slS_nd h4) (fun x hx => slS_lt h4 hx)
end SL
theorem nz1 : nz 1 = 1 := by decide +kernel
theorem nz0 : nz 0 = 0 := by decide +kernel
/-- who is marked as served, and in which order -/
def FlS (m : Mem) (S : List Nat) : Prop := (∀ k, k < 40 → m 235 k = if S.contains k = true then 1 else 0) ∧ m 214 28 = (S.length : Int) ∧ ∀ i, i < S.length → m 234 i = (S.getD i 0 : Nat)
theorem Ip_fl {nt : Nat → Int} {us : List Un} {m : Mem} {S : List Nat} (F : FlS m S) (hl : us.length ≤ 40) (n : Nat) : Ip nt us (m 235) n = pl (fun k => atU nt us n k && !(S.contains k)) us.length := pl_cong (fun k hk => by
  rw [F.1 k (by omega)]
  by_cases e : S.contains k = true
  · rw [if_pos e, e]; simp
  · rw [if_neg e]; simp at e ⊢; simp [e])
def SF (h h' : Mem) : Prop := (∀ i, i ∉ [214, 234, 235] → h' i = h i) ∧ ∀ j, j ∉ [28, 30] → h' 214 j = h 214 j
theorem SF.rfl {h : Mem} : SF h h := ⟨fun _ _ => Eq.refl _, fun _ _ => Eq.refl _⟩
theorem SF.trans {h h1 h2 : Mem} (a : SF h h1) (b : SF h1 h2) : SF h h2 := ⟨fun i q => (b.1 i q).trans (a.1 i q), fun j q => (b.2 j q).trans (a.2 j q)⟩
theorem SF.lay {h h' : Mem} (f : SF h h') (L : Lay h) : Lay h' := by
  refine Lay_fr L (fun q hq => ?_)
  have hn : LAYL.all (fun q => if q.1 = 214 then !([28, 30].contains q.2.1) else !([234, 235].contains q.1)) = true := by decide +kernel
  have h1 := List.all_eq_true.mp hn q hq
  by_cases e : q.1 = 214
  · rw [if_pos e] at h1
    rw [e]; exact f.2 _ (by simpa using h1)
  · rw [if_neg e] at h1
    rw [f.1 q.1 (by simp at h1 ⊢; exact ⟨e, h1⟩)]
section MV2
variable {l : Launch} {d : Nat} {h : Mem} {b : Nat} {T : TS}
theorem r_servesOf (L : Lay h) (W : WN (h 220)) (hb : b + 382 ≤ 1628) (R : RS (h 226) b T) (Tw : TX (h 220) T) {n : Nat} (hn : (n : Int) < h 220 1) {S : List Nat} (F : FlS h S) {q : Int} (hq : 0 ≤ q ∧ q ≤ 100000) (hr : S.length + (Ip (h 220) (usT T) (h 235) n).length ≤ 40) : Cl l (d + 5) M_X11_servesOf [(2, 215), (0, (b : Int)), (0, (n : Int)), (0, q)] SHP h (fun r sh' h' => r = 0 ∧ sh' = SHP ∧ SF h h' ∧ FlS h' (S ++ (sel (kd (h 220) n) (fun k => (uA (usT T) k).1) q.toNat (-1) (Ip (h 220) (usT T) (h 235) n)).1) ∧ Ip (h 220) (usT T) (h' 235) n = (sel (kd (h 220) n) (fun k => (uA (usT T) k).1) q.toNat (-1) (Ip (h 220) (usT T) (h 235) n)).2) := by
  have nf := W.nf
  refine Cl_hide (fun Q hQ => ?_)
  obtain ⟨nt, ent⟩ : ∃ nt, nt = h 220 := ⟨_, rfl⟩
  obtain ⟨us, eus⟩ : ∃ us, us = usT T := ⟨_, rfl⟩
  obtain ⟨fl, hfl⟩ : ∃ fl : Nat → Nat, fl = fun k => (uA us k).1 := ⟨_, rfl⟩
  rw [← ent] at hQ hr hn nf
  rw [← eus] at hQ hr
  rw [← hfl] at hQ
  have hl : us.length ≤ 40 := by rw [eus]; exact Tw.2.1
  have f2 : ∀ k, k < us.length → (fl k : Int) < nt 2 := fun k hk => by rw [hfl, ent]; rw [eus] at hk ⊢; exact (Tw.2.2.1 k hk).1
  show V l (d + 5) 0 0 M_X11_servesOf 0 0 0 Q [(2, 215), (0, (b : Int)), (0, (n : Int)), (0, q), (9, 0), (9, 0)] [] SHP h
  refine S_X11_servesOf_0 _ _ _ _ ?_; simp (disch := omega) only [B_X11_servesOf_0, bi_0, x_ic, x_lc, x_ld, x_st, x_sl, x_inc, x_b32, x_b64, x_d32, x_d64, x_s64, x_un, x_lcmp, x_dup, x_pop, x_dup2, x_if, x_cmp, x_sw, swk, x_ald, x_ast, x_alen, x_getf, x_putf, x_inv, x_mm, x_copy, x_iret, x_lret, x_vret, ok1, pu, ct, rcv, rcs, ent0, List.getElem?_cons_zero, List.getElem?_cons_succ, List.getElem?_nil, List.set_cons_zero, List.set_cons_succ, List.take_succ_cons, List.take_zero, List.drop_succ_cons, List.drop_zero, List.reverse_cons, List.reverse_nil, List.nil_append, List.cons_append, List.length_cons, List.length_nil, true_and, and_true, and_self, ne_eq, not_true_eq_false, not_false_eq_true, reduceIte, true_or, or_true, false_or, or_false, Nat.reduceAdd, Nat.reduceSub, Nat.reduceMul, Nat.reduceLeDiff, Nat.reduceEqDiff, Nat.reduceLT, Nat.le_refl, Nat.zero_le, Int.reduceToNat, Int.reduceAdd, Int.reduceSub, Int.reduceMul, Int.reduceNeg, Int.reduceLT, Int.reduceLE, Int.reduceEq, Nat.zero_add, Nat.add_zero, Nat.reduceBEq, Nat.one_ne_zero, Nat.zero_ne_one, Nat.lt_irrefl, Nat.succ_ne_zero, w32_id, ixc, ixc2, Int.toNat_natCast, ob_214]
  have key : ∀ (g j : Nat) (S' : List Nat) (t : Int) (m : Mem), (j : Int) + g = q → SF h m → FlS m S' → (-1 ≤ t ∧ t < nt 2) → (kd nt n = 3 → m 214 30 = t) → S'.length + (Ip nt us (m 235) n).length ≤ 40 → (S' ++ (sel (kd nt n) fl g t (Ip nt us (m 235) n)).1, (sel (kd nt n) fl g t (Ip nt us (m 235) n)).2) = (S ++ (sel (kd nt n) fl q.toNat (-1) (Ip nt us (h 235) n)).1, (sel (kd nt n) fl q.toNat (-1) (Ip nt us (h 235) n)).2) → V l (d + 5) 0 0 M_X11_servesOf 0 0 8 Q [(2, 215), (0, (b : Int)), (0, (n : Int)), (0, q), (0, (j : Int)), (9, 0)] [] SHP m := by
    intro g
    induction g with
    | zero =>
      intro j S' t m hj hF hS ht h3 hrm heq
      refine S_X11_servesOf_8 _ _ _ _ ?_; simp (disch := omega) only [B_X11_servesOf_8, bi_0, x_ic, x_lc, x_ld, x_st, x_sl, x_inc, x_b32, x_b64, x_d32, x_d64, x_s64, x_un, x_lcmp, x_dup, x_pop, x_dup2, x_if, x_cmp, x_sw, swk, x_ald, x_ast, x_alen, x_getf, x_putf, x_inv, x_mm, x_copy, x_iret, x_lret, x_vret, ok1, pu, ct, rcv, rcs, ent0, List.getElem?_cons_zero, List.getElem?_cons_succ, List.getElem?_nil, List.set_cons_zero, List.set_cons_succ, List.take_succ_cons, List.take_zero, List.drop_succ_cons, List.drop_zero, List.reverse_cons, List.reverse_nil, List.nil_append, List.cons_append, List.length_cons, List.length_nil, true_and, and_true, and_self, ne_eq, not_true_eq_false, not_false_eq_true, reduceIte, true_or, or_true, false_or, or_false, Nat.reduceAdd, Nat.reduceSub, Nat.reduceMul, Nat.reduceLeDiff, Nat.reduceEqDiff, Nat.reduceLT, Nat.le_refl, Nat.zero_le, Int.reduceToNat, Int.reduceAdd, Int.reduceSub, Int.reduceMul, Int.reduceNeg, Int.reduceLT, Int.reduceLE, Int.reduceEq, Nat.zero_add, Nat.add_zero, Nat.reduceBEq, Nat.one_ne_zero, Nat.zero_ne_one, Nat.lt_irrefl, Nat.succ_ne_zero, w32_id, ixc, ixc2, Int.toNat_natCast]
      refine ⟨fun _ => ?_, fun z => absurd z (by omega)⟩
      refine S_X11_servesOf_63 _ _ _ _ ?_; simp (disch := omega) only [B_X11_servesOf_63, bi_0, x_ic, x_lc, x_ld, x_st, x_sl, x_inc, x_b32, x_b64, x_d32, x_d64, x_s64, x_un, x_lcmp, x_dup, x_pop, x_dup2, x_if, x_cmp, x_sw, swk, x_ald, x_ast, x_alen, x_getf, x_putf, x_inv, x_mm, x_copy, x_iret, x_lret, x_vret, ok1, pu, ct, rcv, rcs, ent0, List.getElem?_cons_zero, List.getElem?_cons_succ, List.getElem?_nil, List.set_cons_zero, List.set_cons_succ, List.take_succ_cons, List.take_zero, List.drop_succ_cons, List.drop_zero, List.reverse_cons, List.reverse_nil, List.nil_append, List.cons_append, List.length_cons, List.length_nil, true_and, and_true, and_self, ne_eq, not_true_eq_false, not_false_eq_true, reduceIte, true_or, or_true, false_or, or_false, Nat.reduceAdd, Nat.reduceSub, Nat.reduceMul, Nat.reduceLeDiff, Nat.reduceEqDiff, Nat.reduceLT, Nat.le_refl, Nat.zero_le, Int.reduceToNat, Int.reduceAdd, Int.reduceSub, Int.reduceMul, Int.reduceNeg, Int.reduceLT, Int.reduceLE, Int.reduceEq, Nat.zero_add, Nat.add_zero, Nat.reduceBEq, Nat.one_ne_zero, Nat.zero_ne_one, Nat.lt_irrefl, Nat.succ_ne_zero, w32_id, ixc, ixc2, Int.toNat_natCast]
      rw [show ∀ t J, sel (kd nt n) fl 0 t J = ([], J) from fun _ _ => rfl] at heq
      have e1 := congrArg Prod.fst heq
      have e2 := congrArg Prod.snd heq
      dsimp only at e1 e2
      refine hQ _ _ _ ⟨rfl, rfl, hF, ?_, ?_⟩
      · rw [← e1, List.append_nil]; exact hS
      · rw [← e2]
    | succ g ih =>
      intro j S' t m hj hF hS ht h3 hrm heq
      have Lm := hF.lay L
      have e220 : m 220 = nt := by rw [ent]; exact hF.1 220 (by decide)
      have e226 : m 226 = h 226 := hF.1 226 (by decide)
      have Wm : WN (m 220) := by rw [e220, ent]; exact W
      have Rm : RS (m 226) b T := by rw [e226]; exact R
      have Tm : TX (m 220) T := by rw [e220, ent]; exact Tw
      have cn := r_nextUnit (l := l) (d := d) Lm Wm hb Rm Tm (n := n) (by rw [e220]; exact hn) (t := t) (by rw [e220]; exact ht) (by rw [e220]; exact h3)
      rw [e220, ← eus] at cn
      obtain ⟨I, hI⟩ : ∃ I, I = Ip nt us (m 235) n := ⟨_, rfl⟩
      rw [← hI] at cn heq hrm
      refine S_X11_servesOf_8 _ _ _ _ ?_; simp (disch := omega) only [B_X11_servesOf_8, bi_0, x_ic, x_lc, x_ld, x_st, x_sl, x_inc, x_b32, x_b64, x_d32, x_d64, x_s64, x_un, x_lcmp, x_dup, x_pop, x_dup2, x_if, x_cmp, x_sw, swk, x_ald, x_ast, x_alen, x_getf, x_putf, x_inv, x_mm, x_copy, x_iret, x_lret, x_vret, ok1, pu, ct, rcv, rcs, ent0, List.getElem?_cons_zero, List.getElem?_cons_succ, List.getElem?_nil, List.set_cons_zero, List.set_cons_succ, List.take_succ_cons, List.take_zero, List.drop_succ_cons, List.drop_zero, List.reverse_cons, List.reverse_nil, List.nil_append, List.cons_append, List.length_cons, List.length_nil, true_and, and_true, and_self, ne_eq, not_true_eq_false, not_false_eq_true, reduceIte, true_or, or_true, false_or, or_false, Nat.reduceAdd, Nat.reduceSub, Nat.reduceMul, Nat.reduceLeDiff, Nat.reduceEqDiff, Nat.reduceLT, Nat.le_refl, Nat.zero_le, Int.reduceToNat, Int.reduceAdd, Int.reduceSub, Int.reduceMul, Int.reduceNeg, Int.reduceLT, Int.reduceLE, Int.reduceEq, Nat.zero_add, Nat.add_zero, Nat.reduceBEq, Nat.one_ne_zero, Nat.zero_ne_one, Nat.lt_irrefl, Nat.succ_ne_zero, w32_id, ixc, ixc2, Int.toNat_natCast, ob_214]
      refine ⟨fun z => absurd z (by omega), fun _ => ?_⟩
      refine Cl.imp cn (fun r sh' h' qq => ?_)
      obtain ⟨q1, rfl, q2, q3⟩ := qq
      by_cases eI : I = []
      · rw [if_pos eI] at q1
        subst q1
        have hF2 : SF h h' := hF.trans ⟨fun i hi => q2.1 i (fun e => hi (by rw [e]; decide)), fun jj hjj => q2.2 jj (fun e => hjj (by rw [e]; decide))⟩
        (try simp (disch := omega) only [bi_0, x_ic, x_lc, x_ld, x_st, x_sl, x_inc, x_b32, x_b64, x_d32, x_d64, x_s64, x_un, x_lcmp, x_dup, x_pop, x_dup2, x_if, x_cmp, x_sw, swk, x_ald, x_ast, x_alen, x_getf, x_putf, x_inv, x_mm, x_copy, x_iret, x_lret, x_vret, ok1, pu, ct, rcv, rcs, ent0, List.getElem?_cons_zero, List.getElem?_cons_succ, List.getElem?_nil, List.set_cons_zero, List.set_cons_succ, List.take_succ_cons, List.take_zero, List.drop_succ_cons, List.drop_zero, List.reverse_cons, List.reverse_nil, List.nil_append, List.cons_append, List.length_cons, List.length_nil, true_and, and_true, and_self, ne_eq, not_true_eq_false, not_false_eq_true, reduceIte, true_or, or_true, false_or, or_false, Nat.reduceAdd, Nat.reduceSub, Nat.reduceMul, Nat.reduceLeDiff, Nat.reduceEqDiff, Nat.reduceLT, Nat.le_refl, Nat.zero_le, Int.reduceToNat, Int.reduceAdd, Int.reduceSub, Int.reduceMul, Int.reduceNeg, Int.reduceLT, Int.reduceLE, Int.reduceEq, Nat.zero_add, Nat.add_zero, Nat.reduceBEq, Nat.one_ne_zero, Nat.zero_ne_one, Nat.lt_irrefl, Nat.succ_ne_zero, w32_id, ixc, ixc2, Int.toNat_natCast])
        refine ⟨fun z => absurd z (by decide), fun _ => ?_⟩
        rw [eI, sel_n] at heq
        have e1 := congrArg Prod.fst heq
        have e2 := congrArg Prod.snd heq
        dsimp only at e1 e2
        refine hQ _ _ _ ⟨rfl, rfl, hF2, ?_, ?_⟩
        · rw [← e1, List.append_nil]
          refine ⟨fun k hk => by rw [q2.1 235 (by decide)]; exact hS.1 k hk, by rw [q2.2 28 (by decide)]; exact hS.2.1, fun i hi => by rw [q2.1 234 (by decide)]; exact hS.2.2 i hi⟩
        · rw [← e2, q2.1 235 (by decide), ← hI]; exact eI
      · rw [if_neg eI] at q1
        have hlI : 0 < I.length := List.length_pos_iff.mpr eI
        have mI : ∀ k, k ∈ I → k < us.length := fun k hk => by rw [hI] at hk; exact (pl_mem.mp hk).1
        have pb := pkP_b (kind := kd nt n) (x := fun j => (fl (I.getD j 0) : Int)) (t := t) hlI (fun j hj => ⟨by omega, by have := f2 _ (mI _ (gD_mem 0 hj)); omega⟩)
        rw [sel_s eI] at heq
        have en : nxT (kd nt n) us I t = I.getD (pkP (kd nt n) (fun j => (fl (I.getD j 0) : Int)) I.length t).toNat 0 := by unfold nxT; rw [hfl]
        rw [en] at q1 q3
        generalize hp : (pkP (kd nt n) (fun j => (fl (I.getD j 0) : Int)) I.length t).toNat = p at *
        have hp2 : p < I.length := by omega
        obtain ⟨k, hk⟩ : ∃ k, k = I.getD p 0 := ⟨_, rfl⟩
        rw [← hk] at q1 q3 heq
        have hkI : k ∈ I := by rw [hk]; exact gD_mem 0 hp2
        have hkl := mI k hkI
        have L2 := q2.lay Lm
        have a29 := ly_214_29 L2
        have g28 : h' 214 28 = (S'.length : Int) := by rw [q2.2 28 (by decide)]; exact hS.2.1
        subst q1
        have u27 : up h' 235 k (nz 1) 214 27 = 235 := by rw [up_ne (by decide)]; exact ly_214_27 L2
        have u28 : up h' 235 k (nz 1) 214 28 = (S'.length : Int) := by rw [up_ne (by decide)]; exact g28
        have v28 : up (up h' 235 k (nz 1)) 234 S'.length (k : Int) 214 28 = (S'.length : Int) := by rw [up_ne (by decide)]; exact u28
        (try simp (disch := omega) only [bi_0, x_ic, x_lc, x_ld, x_st, x_sl, x_inc, x_b32, x_b64, x_d32, x_d64, x_s64, x_un, x_lcmp, x_dup, x_pop, x_dup2, x_if, x_cmp, x_sw, swk, x_ald, x_ast, x_alen, x_getf, x_putf, x_inv, x_mm, x_copy, x_iret, x_lret, x_vret, ok1, pu, ct, rcv, rcs, ent0, List.getElem?_cons_zero, List.getElem?_cons_succ, List.getElem?_nil, List.set_cons_zero, List.set_cons_succ, List.take_succ_cons, List.take_zero, List.drop_succ_cons, List.drop_zero, List.reverse_cons, List.reverse_nil, List.nil_append, List.cons_append, List.length_cons, List.length_nil, true_and, and_true, and_self, ne_eq, not_true_eq_false, not_false_eq_true, reduceIte, true_or, or_true, false_or, or_false, Nat.reduceAdd, Nat.reduceSub, Nat.reduceMul, Nat.reduceLeDiff, Nat.reduceEqDiff, Nat.reduceLT, Nat.le_refl, Nat.zero_le, Int.reduceToNat, Int.reduceAdd, Int.reduceSub, Int.reduceMul, Int.reduceNeg, Int.reduceLT, Int.reduceLE, Int.reduceEq, Nat.zero_add, Nat.add_zero, Nat.reduceBEq, Nat.one_ne_zero, Nat.zero_ne_one, Nat.lt_irrefl, Nat.succ_ne_zero, w32_id, ixc, ixc2, Int.toNat_natCast])
        refine ⟨fun _ => ?_, fun z => absurd z (by omega)⟩
        refine S_X11_servesOf_28 _ _ _ _ ?_; simp (disch := omega) only [B_X11_servesOf_28, bi_0, x_ic, x_lc, x_ld, x_st, x_sl, x_inc, x_b32, x_b64, x_d32, x_d64, x_s64, x_un, x_lcmp, x_dup, x_pop, x_dup2, x_if, x_cmp, x_sw, swk, x_ald, x_ast, x_alen, x_getf, x_putf, x_inv, x_mm, x_copy, x_iret, x_lret, x_vret, ok1, pu, ct, rcv, rcs, ent0, List.getElem?_cons_zero, List.getElem?_cons_succ, List.getElem?_nil, List.set_cons_zero, List.set_cons_succ, List.take_succ_cons, List.take_zero, List.drop_succ_cons, List.drop_zero, List.reverse_cons, List.reverse_nil, List.nil_append, List.cons_append, List.length_cons, List.length_nil, true_and, and_true, and_self, ne_eq, not_true_eq_false, not_false_eq_true, reduceIte, true_or, or_true, false_or, or_false, Nat.reduceAdd, Nat.reduceSub, Nat.reduceMul, Nat.reduceLeDiff, Nat.reduceEqDiff, Nat.reduceLT, Nat.le_refl, Nat.zero_le, Int.reduceToNat, Int.reduceAdd, Int.reduceSub, Int.reduceMul, Int.reduceNeg, Int.reduceLT, Int.reduceLE, Int.reduceEq, Nat.zero_add, Nat.add_zero, Nat.reduceBEq, Nat.one_ne_zero, Nat.zero_ne_one, Nat.lt_irrefl, Nat.succ_ne_zero, w32_id, ixc, ixc2, Int.toNat_natCast, ob_214, a29, ln_235, u27, u28, v28, ln_234]
        refine ⟨by omega, by omega, ?_⟩
        rw [nz1]
        obtain ⟨m2, hm2⟩ : ∃ m2, m2 = up (up (up h' 235 k 1) 234 S'.length (k : Int)) 214 28 ((S'.length : Int) + 1) := ⟨_, rfl⟩
        rw [← hm2]
        have m235 : m2 235 = up h' 235 k 1 235 := by rw [hm2, up_ne (by decide), up_ne (by decide)]
        have h235 : h' 235 = m 235 := q2.1 235 (by decide)
        have hF3 : SF h m2 := by
          refine hF.trans ⟨fun i hi => ?_, fun jj hjj => ?_⟩
          · have w1 : i ≠ 214 := fun e => hi (by rw [e]; decide)
            have w2 : i ≠ 234 := fun e => hi (by rw [e]; decide)
            have w3 : i ≠ 235 := fun e => hi (by rw [e]; decide)
            rw [hm2, up_ne w1, up_ne w2, up_ne w3]; exact q2.1 i w1
          · have w1 : jj ≠ 28 := fun e => hjj (by rw [e]; decide)
            have w2 : jj ≠ 30 := fun e => hjj (by rw [e]; decide)
            rw [hm2, up_nj w1, up_ne (by decide), up_ne (by decide)]; exact q2.2 jj w2
        have hS2 : FlS m2 (S' ++ [k]) := by
          refine ⟨fun k' hk' => ?_, ?_, fun i hi => ?_⟩
          · rw [m235]
            by_cases e : k' = k
            · subst e; rw [up_at, if_pos (by simp)]
            · rw [up_nj e, h235, hS.1 k' hk']
              have : (S' ++ [k]).contains k' = S'.contains k' := by
                rw [List.contains_eq_mem, List.contains_eq_mem]
                simp [e]
              rw [this]
          · rw [hm2, up_at, List.length_append]; simp
          · rw [hm2, up_ne (by decide)]
            rw [List.length_append] at hi
            by_cases e : i = S'.length
            · subst e; rw [up_at, gD_app_1]
            · have hi' : i < S'.length := by simp at hi; omega
              rw [up_nj e, up_ne (by decide), q2.1 234 (by decide), hS.2.2 i hi', gD_app_l 0 hi']
        have eI2 : Ip nt us (m2 235) n = I.eraseIdx p := by
          have hnd : I.Nodup := by rw [hI]; exact pl_nd _ _
          rw [er_fil hnd hp2, ← hk, hI]
          unfold Ip
          rw [pl_fil]
          refine pl_cong (fun k' hk' => ?_)
          rw [m235]
          by_cases e : k' = k
          · subst e; rw [up_at]; simp
          · rw [up_nj e, h235]; simp [e]
        have hrm2 : (S' ++ [k]).length + (Ip nt us (m2 235) n).length ≤ 40 := by
          rw [eI2, List.length_append]
          have := er_len hp2
          simp; omega
        refine V_fg [5] ?_
        refine ih (j + 1) (S' ++ [k]) (fl k : Int) m2 (by omega) hF3 hS2 ⟨by omega, f2 k hkl⟩ (fun k3 => ?_) hrm2 ?_
        · rw [hm2, up_nj (by decide), up_ne (by decide), up_ne (by decide), q3 k3 eI, hfl]
        · rw [eI2, List.append_assoc]; exact heq
  refine key q.toNat 0 S (-1) (up h 214 30 (-1)) (by omega) ⟨fun i hi => up_ne (fun e => hi (by rw [e]; decide)), fun j hj => up_nj (fun e => hj (by rw [e]; decide))⟩ ?_ (by omega) (fun _ => up_at) ?_ ?_
  · exact ⟨fun k hk => by rw [up_ne (by decide)]; exact F.1 k hk, by rw [up_nj (by decide)]; exact F.2.1, fun i hi => by rw [up_ne (by decide)]; exact F.2.2 i hi⟩
  · rw [up_ne (by decide)]; exact hr
  · rw [up_ne (by decide)]
end MV2

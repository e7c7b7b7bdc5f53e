/-! the class: units and all that came of them -/
def Trf (tb : Nat) : Prop := tb = 72 ∨ tb = 94 ∨ tb = 122 ∨ tb = 148
section TL
variable {h : Mem} {tb : Nat}
theorem tf_ob (ht : Trf tb) : ob SHP 9 ((tb : Int) + 1) := by
  rcases ht with rfl | rfl | rfl | rfl
  · exact ob_72
  · exact ob_94
  · exact ob_122
  · exact ob_148
theorem tf_f (L : Lay h) (ht : Trf tb) : h tb 0 = ((tb + 1 : Nat) : Int) + 1 ∧ h tb 1 = ((tb + 6 : Nat) : Int) + 1 ∧ h tb 2 = ((tb + 11 : Nat) : Int) + 1 ∧ h tb 3 = ((tb + 16 : Nat) : Int) + 1 ∧ h tb 4 = ((tb + 17 : Nat) : Int) + 1 ∧ h tb 5 = ((tb + 18 : Nat) : Int) + 1 ∧ h tb 6 = ((tb + 19 : Nat) : Int) + 1 ∧ h tb 7 = ((tb + 20 : Nat) : Int) + 1 ∧ h tb 8 = ((tb + 21 : Nat) : Int) + 1 := by
  rcases ht with rfl | rfl | rfl | rfl
  · exact ⟨ly_72_0 L, ly_72_1 L, ly_72_2 L, ly_72_3 L, ly_72_4 L, ly_72_5 L, ly_72_6 L, ly_72_7 L, ly_72_8 L⟩
  · exact ⟨ly_94_0 L, ly_94_1 L, ly_94_2 L, ly_94_3 L, ly_94_4 L, ly_94_5 L, ly_94_6 L, ly_94_7 L, ly_94_8 L⟩
  · exact ⟨ly_122_0 L, ly_122_1 L, ly_122_2 L, ly_122_3 L, ly_122_4 L, ly_122_5 L, ly_122_6 L, ly_122_7 L, ly_122_8 L⟩
  · exact ⟨ly_148_0 L, ly_148_1 L, ly_148_2 L, ly_148_3 L, ly_148_4 L, ly_148_5 L, ly_148_6 L, ly_148_7 L, ly_148_8 L⟩
theorem tf0 (L : Lay h) (ht : Trf tb) : h tb 0 = ((tb + 1 : Nat) : Int) + 1 := (tf_f L ht).1
theorem tf1 (L : Lay h) (ht : Trf tb) : h tb 1 = ((tb + 6 : Nat) : Int) + 1 := (tf_f L ht).2.1
theorem tf2 (L : Lay h) (ht : Trf tb) : h tb 2 = ((tb + 11 : Nat) : Int) + 1 := (tf_f L ht).2.2.1
theorem tf3 (L : Lay h) (ht : Trf tb) : h tb 3 = ((tb + 16 : Nat) : Int) + 1 := (tf_f L ht).2.2.2.1
theorem tf4 (L : Lay h) (ht : Trf tb) : h tb 4 = ((tb + 17 : Nat) : Int) + 1 := (tf_f L ht).2.2.2.2.1
theorem tf5 (L : Lay h) (ht : Trf tb) : h tb 5 = ((tb + 18 : Nat) : Int) + 1 := (tf_f L ht).2.2.2.2.2.1
theorem tf6 (L : Lay h) (ht : Trf tb) : h tb 6 = ((tb + 19 : Nat) : Int) + 1 := (tf_f L ht).2.2.2.2.2.2.1
theorem tf7 (L : Lay h) (ht : Trf tb) : h tb 7 = ((tb + 20 : Nat) : Int) + 1 := (tf_f L ht).2.2.2.2.2.2.2.1
theorem tf8 (L : Lay h) (ht : Trf tb) : h tb 8 = ((tb + 21 : Nat) : Int) + 1 := (tf_f L ht).2.2.2.2.2.2.2.2
theorem tf_g (L : Lay h) (ht : Trf tb) {n : Nat} (hn : n < 4) : h (tb + 1) n = ((tb + 2 + n : Nat) : Int) + 1 ∧ h (tb + 6) n = ((tb + 7 + n : Nat) : Int) + 1 ∧ h (tb + 11) n = ((tb + 12 + n : Nat) : Int) + 1 := by
  rcases ht with rfl | rfl | rfl | rfl
  · exact ⟨lay_g L (a := 73) (b := 74) (n := 4) (by decide +kernel) hn, lay_g L (a := 78) (b := 79) (n := 4) (by decide +kernel) hn, lay_g L (a := 83) (b := 84) (n := 4) (by decide +kernel) hn⟩
  · exact ⟨lay_g L (a := 95) (b := 96) (n := 4) (by decide +kernel) hn, lay_g L (a := 100) (b := 101) (n := 4) (by decide +kernel) hn, lay_g L (a := 105) (b := 106) (n := 4) (by decide +kernel) hn⟩
  · exact ⟨lay_g L (a := 123) (b := 124) (n := 4) (by decide +kernel) hn, lay_g L (a := 128) (b := 129) (n := 4) (by decide +kernel) hn, lay_g L (a := 133) (b := 134) (n := 4) (by decide +kernel) hn⟩
  · exact ⟨lay_g L (a := 149) (b := 150) (n := 4) (by decide +kernel) hn, lay_g L (a := 154) (b := 155) (n := 4) (by decide +kernel) hn, lay_g L (a := 159) (b := 160) (n := 4) (by decide +kernel) hn⟩
theorem tf_q (L : Lay h) (ht : Trf tb) {n : Nat} (hn : n < 4) : h (tb + 1) n = ((tb + 2 + n : Nat) : Int) + 1 := (tf_g L ht hn).1
theorem tf_s (L : Lay h) (ht : Trf tb) {n : Nat} (hn : n < 4) : h (tb + 6) n = ((tb + 7 + n : Nat) : Int) + 1 := (tf_g L ht hn).2.1
theorem tf_p (L : Lay h) (ht : Trf tb) {n : Nat} (hn : n < 4) : h (tb + 11) n = ((tb + 12 + n : Nat) : Int) + 1 := (tf_g L ht hn).2.2
theorem tf_ln (ht : Trf tb) {n : Nat} (hn : n < 4) : ln SHP 0 (((tb + 2 + n : Nat) : Int) + 1) = 40 ∧ ln SHP 0 (((tb + 7 + n : Nat) : Int) + 1) = 40 ∧ ln SHP 0 (((tb + 12 + n : Nat) : Int) + 1) = 61 := by
  rcases ht with rfl | rfl | rfl | rfl
  · exact ⟨ln_g (b := 74) (n := 4) (by decide +kernel) hn, ln_g (b := 79) (n := 4) (by decide +kernel) hn, ln_g (b := 84) (n := 4) (by decide +kernel) hn⟩
  · exact ⟨ln_g (b := 96) (n := 4) (by decide +kernel) hn, ln_g (b := 101) (n := 4) (by decide +kernel) hn, ln_g (b := 106) (n := 4) (by decide +kernel) hn⟩
  · exact ⟨ln_g (b := 124) (n := 4) (by decide +kernel) hn, ln_g (b := 129) (n := 4) (by decide +kernel) hn, ln_g (b := 134) (n := 4) (by decide +kernel) hn⟩
  · exact ⟨ln_g (b := 150) (n := 4) (by decide +kernel) hn, ln_g (b := 155) (n := 4) (by decide +kernel) hn, ln_g (b := 160) (n := 4) (by decide +kernel) hn⟩
theorem tlq (ht : Trf tb) {n : Nat} (hn : n < 4) : ln SHP 0 (((tb + 2 + n : Nat) : Int) + 1) = 40 := (tf_ln ht hn).1
theorem tls (ht : Trf tb) {n : Nat} (hn : n < 4) : ln SHP 0 (((tb + 7 + n : Nat) : Int) + 1) = 40 := (tf_ln ht hn).2.1
theorem tlp (ht : Trf tb) {n : Nat} (hn : n < 4) : ln SHP 0 (((tb + 12 + n : Nat) : Int) + 1) = 61 := (tf_ln ht hn).2.2
theorem tf_l4 (ht : Trf tb) : ln SHP 4 (((tb + 1 : Nat) : Int) + 1) = 4 ∧ ln SHP 4 (((tb + 6 : Nat) : Int) + 1) = 4 ∧ ln SHP 4 (((tb + 11 : Nat) : Int) + 1) = 4 ∧ ln SHP 0 (((tb + 16 : Nat) : Int) + 1) = 4 ∧ ln SHP 0 (((tb + 17 : Nat) : Int) + 1) = 4 ∧ ln SHP 0 (((tb + 18 : Nat) : Int) + 1) = 4 ∧ ln SHP 0 (((tb + 19 : Nat) : Int) + 1) = 4 ∧ ln SHP 0 (((tb + 20 : Nat) : Int) + 1) = 4 ∧ ln SHP 0 (((tb + 21 : Nat) : Int) + 1) = 4 := by
  rcases ht with rfl | rfl | rfl | rfl
  · exact ⟨ln_73, ln_78, ln_83, ln_88, ln_89, ln_90, ln_91, ln_92, ln_93⟩
  · exact ⟨ln_95, ln_100, ln_105, ln_110, ln_111, ln_112, ln_113, ln_114, ln_115⟩
  · exact ⟨ln_123, ln_128, ln_133, ln_138, ln_139, ln_140, ln_141, ln_142, ln_143⟩
  · exact ⟨ln_149, ln_154, ln_159, ln_164, ln_165, ln_166, ln_167, ln_168, ln_169⟩
theorem tl1 (ht : Trf tb) : ln SHP 4 (((tb + 1 : Nat) : Int) + 1) = 4 := (tf_l4 ht).1
theorem tl6 (ht : Trf tb) : ln SHP 4 (((tb + 6 : Nat) : Int) + 1) = 4 := (tf_l4 ht).2.1
theorem tl11 (ht : Trf tb) : ln SHP 4 (((tb + 11 : Nat) : Int) + 1) = 4 := (tf_l4 ht).2.2.1
theorem tl16 (ht : Trf tb) : ln SHP 0 (((tb + 16 : Nat) : Int) + 1) = 4 := (tf_l4 ht).2.2.2.1
theorem tl17 (ht : Trf tb) : ln SHP 0 (((tb + 17 : Nat) : Int) + 1) = 4 := (tf_l4 ht).2.2.2.2.1
theorem tl18 (ht : Trf tb) : ln SHP 0 (((tb + 18 : Nat) : Int) + 1) = 4 := (tf_l4 ht).2.2.2.2.2.1
theorem tl19 (ht : Trf tb) : ln SHP 0 (((tb + 19 : Nat) : Int) + 1) = 4 := (tf_l4 ht).2.2.2.2.2.2.1
theorem tl20 (ht : Trf tb) : ln SHP 0 (((tb + 20 : Nat) : Int) + 1) = 4 := (tf_l4 ht).2.2.2.2.2.2.2.1
theorem tl21 (ht : Trf tb) : ln SHP 0 (((tb + 21 : Nat) : Int) + 1) = 4 := (tf_l4 ht).2.2.2.2.2.2.2.2
end TL
/-- of an object of traffic, what may change: all but its references -/
def Fx (tb : Nat) (h h' : Mem) : Prop := (∀ i, i < tb ∨ tb + 22 ≤ i → h' i = h i) ∧ (∀ j, j ≠ 10 → h' tb j = h tb j) ∧ ∀ i, i = tb + 1 ∨ i = tb + 6 ∨ i = tb + 11 → h' i = h i
theorem Fx.rfl {tb : Nat} {h : Mem} : Fx tb h h := ⟨fun _ _ => Eq.refl _, fun _ _ => Eq.refl _, fun _ _ => Eq.refl _⟩
theorem Fx.trans {tb : Nat} {h h1 h2 : Mem} (a : Fx tb h h1) (b : Fx tb h1 h2) : Fx tb h h2 := ⟨fun i q => (b.1 i q).trans (a.1 i q), fun j p => (b.2.1 j p).trans (a.2.1 j p), fun i q => (b.2.2 i q).trans (a.2.2 i q)⟩
def trC4 (tb : Nat) : Bool := LAYL.all (fun q => if q.1 = tb then !(q.2.1 == 9) && !(q.2.1 == 10) else (decide (q.1 < tb) || decide (tb + 22 ≤ q.1)) || (q.1 == tb + 1 || q.1 == tb + 6 || q.1 == tb + 11))
theorem Fx.lay {tb : Nat} (ht : Trf tb) {h h' : Mem} (f : Fx tb h h') (L : Lay h) : Lay h' := by
  refine Lay_fr L (fun q hq => ?_)
  have hn : trC4 tb = true := by rcases ht with rfl | rfl | rfl | rfl <;> decide +kernel
  have h1 := List.all_eq_true.mp hn q hq
  by_cases e : q.1 = tb
  · rw [if_pos e] at h1
    simp at h1
    rw [e]; exact f.2.1 _ h1.2
  · rw [if_neg e] at h1
    simp at h1
    rcases h1 with h1 | h1
    · rw [f.1 q.1 h1]
    · rw [f.2.2 q.1 (by omega)]
theorem Fx_up {tb : Nat} {h : Mem} {a j : Nat} {v : Int} (ha : (tb + 2 ≤ a ∧ a < tb + 22) ∧ a ≠ tb + 6 ∧ a ≠ tb + 11) : Fx tb h (up h a j v) := ⟨fun i q => up_ne (by omega), fun q _ => by rw [up_ne (by omega)], fun i q => up_ne (by omega)⟩
theorem Fx_fld {tb : Nat} {h : Mem} {v : Int} : Fx tb h (up h tb 10 v) := ⟨fun i q => up_ne (by omega), fun q q1 => up_nj q1, fun i q => up_ne (by omega)⟩
theorem Fx.n220 {tb : Nat} (ht : Trf tb) {h h' : Mem} (f : Fx tb h h') : h' 220 = h 220 := f.1 220 (by unfold Trf at ht; omega)
theorem Fx.rn {tb nb : Nat} (ht : Trf tb) {h h' : Mem} (f : Fx tb h h') (R : RN h nb) (W : WN (h 220)) (hn : nb = 4 ∨ nb = 34) : RN h' nb := R.fr W (fun i hi => f.1 i (by unfold Trf at ht; omega))
/-- a queue -/
def QR (h : Mem) (tb n : Nat) (L : List Int) : Prop := h (tb + 16) n = (L.length : Int) ∧ ∀ i, i < L.length → h (tb + 2 + n) i = L.getD i 0
def qL (nt : Nat → Int) (us : List Un) (n : Nat) : List Int := (us.filter (fun u => decide (nd nt u.1 u.2.1 = (n : Int)))).map enc
theorem us_rng (us : List Un) : us = (List.range us.length).map (uA us) := by
  apply gD_ext (0, 0, 0)
  · rw [List.length_map, List.length_range]
  · intro i hi
    rw [gD_map (uA us) 0 _ (by rw [List.length_range]; exact hi), gD_rng 0 hi]; rfl
theorem qL_map {nt : Nat → Int} {us : List Un} {J : List Nat} {n : Nat} : qL nt (J.map (uA us)) n = (J.filter (atU nt us n)).map (fun k => enc (uA us k)) := by
  unfold qL
  rw [List.filter_map, List.map_map]
  rfl
theorem qL_ix {nt : Nat → Int} {us : List Un} {n : Nat} : qL nt us n = (ixs nt us n).map (fun k => enc (uA us k)) := by
  have := qL_map (nt := nt) (us := us) (J := List.range us.length) (n := n)
  rw [← us_rng us] at this
  exact this
theorem qL_app {nt : Nat → Int} {us : List Un} {u : Un} {n : Nat} : qL nt (us ++ [u]) n = qL nt us n ++ (if nd nt u.1 u.2.1 = (n : Int) then [enc u] else []) := by
  unfold qL
  rw [List.filter_append, List.map_append]
  congr 1
  by_cases e : nd nt u.1 u.2.1 = (n : Int)
  · rw [if_pos e]; simp [e]
  · rw [if_neg e]; simp [e]
theorem qL_len {nt : Nat → Int} {us : List Un} {n : Nat} : (qL nt us n).length = (ixs nt us n).length := by rw [qL_ix, List.length_map]
/-- the class's cells hold it -/
def CS (h : Mem) (tb : Nat) (T : TS) : Prop := h tb 10 = (tmT T : Int) ∧ (∀ n, n < 4 → QR h tb n (qL (h 220) (usT T) n)) ∧ (∀ n, n < 4 → h (tb + 17) n = bzT T n) ∧ (∀ f, f < 4 → h (tb + 18) f = gnT T f ∧ h (tb + 19) f = lsT T f ∧ h (tb + 20) f = ltT T f) ∧ ∀ f t, f < 4 → t ≤ 60 → h (tb + 12 + f) t = ptT T f t
theorem CS.fr {h h' : Mem} {tb : Nat} {T : TS} (C : CS h tb T) (hf : ∀ i, (tb ≤ i ∧ i < tb + 22) ∨ i = 220 → h' i = h i) : CS h' tb T := by
  have e := hf 220 (Or.inr rfl)
  obtain ⟨c1, c2, c3, c4, c5⟩ := C
  refine ⟨by rw [hf tb (Or.inl (by omega))]; exact c1, fun n hn => ?_, fun n hn => by rw [hf (tb + 17) (Or.inl (by omega))]; exact c3 n hn, fun f hf' => ?_, fun f t hf' ht => by rw [hf (tb + 12 + f) (Or.inl (by omega))]; exact c5 f t hf' ht⟩
  · rw [e]
    have := c2 n hn
    exact ⟨by rw [hf (tb + 16) (Or.inl (by omega))]; exact this.1, by rw [hf (tb + 2 + n) (Or.inl (by omega))]; exact this.2⟩
  · rw [hf (tb + 18) (Or.inl (by omega)), hf (tb + 19) (Or.inl (by omega)), hf (tb + 20) (Or.inl (by omega))]; exact c4 f hf'
def sp (f : Nat → Int) : Nat → Int
  | 0 => 0
  | i + 1 => w32 (sp f i + f i)
def s4 (f : Nat → Int) : Int := sp f 4
section CB
variable {l : Launch} {d : Nat} {h : Mem} {tb nb : Nat}
theorem c_bringTo (L : Lay h) (ht : Trf tb) {n k : Nat} (hn : n < 4) (hk : k < 40) (hq : h (tb + 16) n = (k : Int)) (e : Int) : Cl l (d + 1) M_X9_bringTo [(2, (tb : Int) + 1), (0, (n : Int)), (0, e)] SHP h (Rt 0 SHP (up (up h (tb + 2 + n) k e) (tb + 16) n ((k + 1 : Nat) : Int))) := by
  have o := tf_ob ht
  obtain ⟨m, hm⟩ : ∃ m, m = up h (tb + 2 + n) k e := ⟨_, rfl⟩
  have F1 : Fx tb h m := by rw [hm]; exact Fx_up (by omega)
  have Lm := F1.lay ht L
  rw [← hm]
  show V l (d + 1) 0 0 M_X9_bringTo 0 0 0 _ [(2, (tb : Int) + 1), (0, (n : Int)), (0, e), (9, 0)] [] SHP h
  refine S_X9_bringTo_0 _ _ _ _ ?_; simp (disch := omega) only [B_X9_bringTo_0, bi_0, x_ic, x_lc, x_ld, x_st, x_sl, x_inc, x_b32, x_b64, x_d32, x_d64, x_s64, x_un, x_lcmp, x_dup, x_pop, x_dup2, x_if, x_cmp, x_sw, swk, x_ald, x_ast, x_alen, x_getf, x_putf, x_inv, x_mm, x_copy, x_iret, x_lret, x_vret, ok1, pu, ct, rcv, rcs, ent0, List.getElem?_cons_zero, List.getElem?_cons_succ, List.getElem?_nil, List.set_cons_zero, List.set_cons_succ, List.take_succ_cons, List.take_zero, List.drop_succ_cons, List.drop_zero, List.reverse_cons, List.reverse_nil, List.nil_append, List.cons_append, List.length_cons, List.length_nil, true_and, and_true, and_self, ne_eq, not_true_eq_false, not_false_eq_true, reduceIte, true_or, or_true, false_or, or_false, Nat.reduceAdd, Nat.reduceSub, Nat.reduceMul, Nat.reduceLeDiff, Nat.reduceEqDiff, Nat.reduceLT, Nat.le_refl, Nat.zero_le, Int.reduceToNat, Int.reduceAdd, Int.reduceSub, Int.reduceMul, Int.reduceNeg, Int.reduceLT, Int.reduceLE, Int.reduceEq, Nat.zero_add, Nat.add_zero, Nat.reduceBEq, Nat.one_ne_zero, Nat.zero_ne_one, Nat.lt_irrefl, Nat.succ_ne_zero, w32_id, ixc, ixc2, Int.toNat_natCast, o, tf3 L ht, tl16 ht, hq, tf0 L ht, tl1 ht, tf_q L ht hn, tlq ht hn]
  rw [← hm]
  (try simp (disch := omega) only [bi_0, x_ic, x_lc, x_ld, x_st, x_sl, x_inc, x_b32, x_b64, x_d32, x_d64, x_s64, x_un, x_lcmp, x_dup, x_pop, x_dup2, x_if, x_cmp, x_sw, swk, x_ald, x_ast, x_alen, x_getf, x_putf, x_inv, x_mm, x_copy, x_iret, x_lret, x_vret, ok1, pu, ct, rcv, rcs, ent0, List.getElem?_cons_zero, List.getElem?_cons_succ, List.getElem?_nil, List.set_cons_zero, List.set_cons_succ, List.take_succ_cons, List.take_zero, List.drop_succ_cons, List.drop_zero, List.reverse_cons, List.reverse_nil, List.nil_append, List.cons_append, List.length_cons, List.length_nil, true_and, and_true, and_self, ne_eq, not_true_eq_false, not_false_eq_true, reduceIte, true_or, or_true, false_or, or_false, Nat.reduceAdd, Nat.reduceSub, Nat.reduceMul, Nat.reduceLeDiff, Nat.reduceEqDiff, Nat.reduceLT, Nat.le_refl, Nat.zero_le, Int.reduceToNat, Int.reduceAdd, Int.reduceSub, Int.reduceMul, Int.reduceNeg, Int.reduceLT, Int.reduceLE, Int.reduceEq, Nat.zero_add, Nat.add_zero, Nat.reduceBEq, Nat.one_ne_zero, Nat.zero_ne_one, Nat.lt_irrefl, Nat.succ_ne_zero, w32_id, ixc, ixc2, Int.toNat_natCast, o, tf3 Lm ht, tl16 ht])
  (repeat' (first | assumption | (with_reducible refine And.intro ?_ ?_) | (refine im (fun hq => ?_); (try (exfalso; omega; done))) | omega))
  refine S_X9_bringTo_31 _ _ _ _ ?_; simp (disch := omega) only [B_X9_bringTo_31, bi_0, x_ic, x_lc, x_ld, x_st, x_sl, x_inc, x_b32, x_b64, x_d32, x_d64, x_s64, x_un, x_lcmp, x_dup, x_pop, x_dup2, x_if, x_cmp, x_sw, swk, x_ald, x_ast, x_alen, x_getf, x_putf, x_inv, x_mm, x_copy, x_iret, x_lret, x_vret, ok1, pu, ct, rcv, rcs, ent0, List.getElem?_cons_zero, List.getElem?_cons_succ, List.getElem?_nil, List.set_cons_zero, List.set_cons_succ, List.take_succ_cons, List.take_zero, List.drop_succ_cons, List.drop_zero, List.reverse_cons, List.reverse_nil, List.nil_append, List.cons_append, List.length_cons, List.length_nil, true_and, and_true, and_self, ne_eq, not_true_eq_false, not_false_eq_true, reduceIte, true_or, or_true, false_or, or_false, Nat.reduceAdd, Nat.reduceSub, Nat.reduceMul, Nat.reduceLeDiff, Nat.reduceEqDiff, Nat.reduceLT, Nat.le_refl, Nat.zero_le, Int.reduceToNat, Int.reduceAdd, Int.reduceSub, Int.reduceMul, Int.reduceNeg, Int.reduceLT, Int.reduceLE, Int.reduceEq, Nat.zero_add, Nat.add_zero, Nat.reduceBEq, Nat.one_ne_zero, Nat.zero_ne_one, Nat.lt_irrefl, Nat.succ_ne_zero, w32_id, ixc, ixc2, Int.toNat_natCast]
  exact Rt_mk3 rfl rfl (by rw [show ((k + 1 : Nat) : Int) = (k : Int) + 1 by omega])
theorem c_sum {a : Nat} (ha : ln SHP 0 ((a : Int) + 1) = 4) : Cl l (d + 1) M_X9_sum [(2, (a : Int) + 1)] SHP h (Rt (s4 (h a)) SHP h) := by
  show V l (d + 1) 0 0 M_X9_sum 0 0 0 _ [(2, (a : Int) + 1), (9, 0), (9, 0)] [] SHP h
  refine S_X9_sum_0 _ _ _ _ ?_; simp (disch := omega) only [B_X9_sum_0, bi_0, x_ic, x_lc, x_ld, x_st, x_sl, x_inc, x_b32, x_b64, x_d32, x_d64, x_s64, x_un, x_lcmp, x_dup, x_pop, x_dup2, x_if, x_cmp, x_sw, swk, x_ald, x_ast, x_alen, x_getf, x_putf, x_inv, x_mm, x_copy, x_iret, x_lret, x_vret, ok1, pu, ct, rcv, rcs, ent0, List.getElem?_cons_zero, List.getElem?_cons_succ, List.getElem?_nil, List.set_cons_zero, List.set_cons_succ, List.take_succ_cons, List.take_zero, List.drop_succ_cons, List.drop_zero, List.reverse_cons, List.reverse_nil, List.nil_append, List.cons_append, List.length_cons, List.length_nil, true_and, and_true, and_self, ne_eq, not_true_eq_false, not_false_eq_true, reduceIte, true_or, or_true, false_or, or_false, Nat.reduceAdd, Nat.reduceSub, Nat.reduceMul, Nat.reduceLeDiff, Nat.reduceEqDiff, Nat.reduceLT, Nat.le_refl, Nat.zero_le, Int.reduceToNat, Int.reduceAdd, Int.reduceSub, Int.reduceMul, Int.reduceNeg, Int.reduceLT, Int.reduceLE, Int.reduceEq, Nat.zero_add, Nat.add_zero, Nat.reduceBEq, Nat.one_ne_zero, Nat.zero_ne_one, Nat.lt_irrefl, Nat.succ_ne_zero, w32_id, ixc, ixc2, Int.toNat_natCast]
  refine V_it (pc := 4) (fun i => [(2, (a : Int) + 1), (0, sp (h a) i), (0, (i : Int))]) (fun _ => h) 4 (fun i hi ih => ?_) ?_
  · refine S_X9_sum_4 _ _ _ _ ?_; simp (disch := omega) only [B_X9_sum_4, bi_0, x_ic, x_lc, x_ld, x_st, x_sl, x_inc, x_b32, x_b64, x_d32, x_d64, x_s64, x_un, x_lcmp, x_dup, x_pop, x_dup2, x_if, x_cmp, x_sw, swk, x_ald, x_ast, x_alen, x_getf, x_putf, x_inv, x_mm, x_copy, x_iret, x_lret, x_vret, ok1, pu, ct, rcv, rcs, ent0, List.getElem?_cons_zero, List.getElem?_cons_succ, List.getElem?_nil, List.set_cons_zero, List.set_cons_succ, List.take_succ_cons, List.take_zero, List.drop_succ_cons, List.drop_zero, List.reverse_cons, List.reverse_nil, List.nil_append, List.cons_append, List.length_cons, List.length_nil, true_and, and_true, and_self, ne_eq, not_true_eq_false, not_false_eq_true, reduceIte, true_or, or_true, false_or, or_false, Nat.reduceAdd, Nat.reduceSub, Nat.reduceMul, Nat.reduceLeDiff, Nat.reduceEqDiff, Nat.reduceLT, Nat.le_refl, Nat.zero_le, Int.reduceToNat, Int.reduceAdd, Int.reduceSub, Int.reduceMul, Int.reduceNeg, Int.reduceLT, Int.reduceLE, Int.reduceEq, Nat.zero_add, Nat.add_zero, Nat.reduceBEq, Nat.one_ne_zero, Nat.zero_ne_one, Nat.lt_irrefl, Nat.succ_ne_zero, w32_id, ixc, ixc2, Int.toNat_natCast, ha]
    (repeat' (first | assumption | (with_reducible refine And.intro ?_ ?_) | (refine im (fun hq => ?_); (try (exfalso; omega; done))) | omega))
  · refine S_X9_sum_4 _ _ _ _ ?_; simp (disch := omega) only [B_X9_sum_4, bi_0, x_ic, x_lc, x_ld, x_st, x_sl, x_inc, x_b32, x_b64, x_d32, x_d64, x_s64, x_un, x_lcmp, x_dup, x_pop, x_dup2, x_if, x_cmp, x_sw, swk, x_ald, x_ast, x_alen, x_getf, x_putf, x_inv, x_mm, x_copy, x_iret, x_lret, x_vret, ok1, pu, ct, rcv, rcs, ent0, List.getElem?_cons_zero, List.getElem?_cons_succ, List.getElem?_nil, List.set_cons_zero, List.set_cons_succ, List.take_succ_cons, List.take_zero, List.drop_succ_cons, List.drop_zero, List.reverse_cons, List.reverse_nil, List.nil_append, List.cons_append, List.length_cons, List.length_nil, true_and, and_true, and_self, ne_eq, not_true_eq_false, not_false_eq_true, reduceIte, true_or, or_true, false_or, or_false, Nat.reduceAdd, Nat.reduceSub, Nat.reduceMul, Nat.reduceLeDiff, Nat.reduceEqDiff, Nat.reduceLT, Nat.le_refl, Nat.zero_le, Int.reduceToNat, Int.reduceAdd, Int.reduceSub, Int.reduceMul, Int.reduceNeg, Int.reduceLT, Int.reduceLE, Int.reduceEq, Nat.zero_add, Nat.add_zero, Nat.reduceBEq, Nat.one_ne_zero, Nat.zero_ne_one, Nat.lt_irrefl, Nat.succ_ne_zero, w32_id, ixc, ixc2, Int.toNat_natCast, ha]
    (repeat' (first | assumption | (with_reducible refine And.intro ?_ ?_) | (refine im (fun hq => ?_); (try (exfalso; omega; done))) | omega))
    refine S_X9_sum_22 _ _ _ _ ?_; simp (disch := omega) only [B_X9_sum_22, bi_0, x_ic, x_lc, x_ld, x_st, x_sl, x_inc, x_b32, x_b64, x_d32, x_d64, x_s64, x_un, x_lcmp, x_dup, x_pop, x_dup2, x_if, x_cmp, x_sw, swk, x_ald, x_ast, x_alen, x_getf, x_putf, x_inv, x_mm, x_copy, x_iret, x_lret, x_vret, ok1, pu, ct, rcv, rcs, ent0, List.getElem?_cons_zero, List.getElem?_cons_succ, List.getElem?_nil, List.set_cons_zero, List.set_cons_succ, List.take_succ_cons, List.take_zero, List.drop_succ_cons, List.drop_zero, List.reverse_cons, List.reverse_nil, List.nil_append, List.cons_append, List.length_cons, List.length_nil, true_and, and_true, and_self, ne_eq, not_true_eq_false, not_false_eq_true, reduceIte, true_or, or_true, false_or, or_false, Nat.reduceAdd, Nat.reduceSub, Nat.reduceMul, Nat.reduceLeDiff, Nat.reduceEqDiff, Nat.reduceLT, Nat.le_refl, Nat.zero_le, Int.reduceToNat, Int.reduceAdd, Int.reduceSub, Int.reduceMul, Int.reduceNeg, Int.reduceLT, Int.reduceLE, Int.reduceEq, Nat.zero_add, Nat.add_zero, Nat.reduceBEq, Nat.one_ne_zero, Nat.zero_ne_one, Nat.lt_irrefl, Nat.succ_ne_zero, w32_id, ixc, ixc2, Int.toNat_natCast]
    exact Rt_mk rfl
theorem sp_c {f g : Nat → Int} : ∀ {k : Nat}, (∀ i, i < k → f i = g i) → sp f k = sp g k
  | 0, _ => rfl
  | k + 1, h => by rw [sp, sp, sp_c (fun i hi => h i (by omega)), h k (by omega)]
/-- at each unit's one node it is counted once -/
theorem qsum {nt : Nat → Int} {us : List Un} (h : ∀ u, u ∈ us → 0 ≤ nd nt u.1 u.2.1 ∧ nd nt u.1 u.2.1 < 4) : (qL nt us 0).length + (qL nt us 1).length + (qL nt us 2).length + (qL nt us 3).length = us.length := by
  induction us with
  | nil => rfl
  | cons u us ih =>
    have ih := ih (fun v hv => h v (List.mem_cons_of_mem _ hv))
    have hu := h u List.mem_cons_self
    have st : ∀ n : Nat, (qL nt (u :: us) n).length = (qL nt us n).length + (if nd nt u.1 u.2.1 = (n : Int) then 1 else 0) := fun n => by
      unfold qL
      rw [List.filter_cons]
      by_cases e : nd nt u.1 u.2.1 = (n : Int)
      · rw [if_pos (by simp [e]), if_pos e]; simp
      · rw [if_neg (by simp [e]), if_neg e]; simp
    rw [st, st, st, st, List.length_cons]
    (repeat' split) <;> omega
theorem sum_q {nt : Nat → Int} {us : List Un} {f : Nat → Int} (h : ∀ u, u ∈ us → 0 ≤ nd nt u.1 u.2.1 ∧ nd nt u.1 u.2.1 < 4) (hl : us.length ≤ 40) (hf : ∀ n, n < 4 → f n = ((qL nt us n).length : Int)) : s4 f = (us.length : Int) := by
  have q := qsum h
  unfold s4
  simp only [sp]
  rw [hf 0 (by decide), hf 1 (by decide), hf 2 (by decide), hf 3 (by decide)]
  rw [w32_id (x := 0 + ((qL nt us 0).length : Int)) (by omega) (by omega), w32_id (x := 0 + ((qL nt us 0).length : Int) + ((qL nt us 1).length : Int)) (by omega) (by omega), w32_id (x := 0 + ((qL nt us 0).length : Int) + ((qL nt us 1).length : Int) + ((qL nt us 2).length : Int)) (by omega) (by omega), w32_id (by omega) (by omega)]
  omega
theorem TX.nd4 {nt : Nat → Int} {T : TS} (W : WN nt) (X : TX nt T) : ∀ u, u ∈ usT T → 0 ≤ nd nt u.1 u.2.1 ∧ nd nt u.1 u.2.1 < 4 := fun u hu => by
  obtain ⟨k, hk, e⟩ := memU hu
  have := X.2.2.1 k hk
  rw [e] at this
  have := W.ndB u.1 u.2.1 this.1 this.2.1
  have := W.nn
  omega
end CB

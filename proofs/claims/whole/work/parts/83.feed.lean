/-! both: signs fed to the tape -/
theorem bv_byte (x : BitVec 64) {k : Nat} (hk : k ≤ 56) : (x.sshiftRight k).setWidth 32 &&& 255#32 = ((x >>> k) &&& 255#64).setWidth 32 := by
  apply BitVec.eq_of_getLsbD_eq
  intro i hi
  have e1 : (255#32 : BitVec 32).getLsbD i = decide (i < 8) := by
    rcases (show i < 8 ∨ 8 ≤ i by omega) with h | h
    · have : i = 0 ∨ i = 1 ∨ i = 2 ∨ i = 3 ∨ i = 4 ∨ i = 5 ∨ i = 6 ∨ i = 7 := by omega
      rcases this with rfl | rfl | rfl | rfl | rfl | rfl | rfl | rfl <;> decide
    · have : ∀ j : Fin 32, 8 ≤ j.1 → (255#32 : BitVec 32).getLsbD j.1 = decide (j.1 < 8) := by decide +kernel
      exact this ⟨i, hi⟩ h
  have e2 : (255#64 : BitVec 64).getLsbD i = decide (i < 8) := by
    have : ∀ j : Fin 32, (255#64 : BitVec 64).getLsbD j.1 = decide (j.1 < 8) := by decide +kernel
    exact this ⟨i, hi⟩
  by_cases h8 : i < 8
  · simp [BitVec.getLsbD_and, BitVec.getLsbD_setWidth, BitVec.getLsbD_sshiftRight, BitVec.getLsbD_ushiftRight, e1, e2, h8, hi]
    rw [if_pos (show k + i < 64 by omega)]
    simp [show ¬ 64 ≤ i by omega]
  · simp [BitVec.getLsbD_and, BitVec.getLsbD_setWidth, e1, e2, h8]
def rby (v k : Int) : Int := o32 (fun x y => x &&& y) (w32 (sh64 (fun x y => x >>> (y.toInt64 &&& 63)) v k)) 255
def cby (v k : Int) : Int := i2c (w32 (o64 (fun x y => x &&& y) (sh64 (fun x y => (x.toUInt64 >>> (y.toInt64.toUInt64 &&& Int64.toUInt64 63)).toInt64) v k) 255))
theorem and255 (z : Int32) : (z &&& Int32.ofInt 255).toInt = ((z.toBitVec &&& 255#32).toNat : Int) ∧ (z.toBitVec &&& 255#32).toNat ≤ 255 := by
  have b : (z.toBitVec &&& 255#32).toNat ≤ 255 := by rw [BitVec.toNat_and]; exact Nat.and_le_right
  refine ⟨?_, b⟩
  rw [Int32.toInt, Int32.toBitVec_and, BitVec.toInt_eq_toNat_of_lt]
  · rfl
  · show 2 * (z.toBitVec &&& 255#32).toNat < 2 ^ 32
    omega
theorem rby_b (v k : Int) : 0 ≤ rby v k ∧ rby v k ≤ 255 := by
  unfold rby o32 w32 sh64
  rw [Int32.ofInt_toInt]
  generalize Int32.ofInt _ = z
  have := and255 z
  show 0 ≤ (z &&& Int32.ofInt 255).toInt ∧ (z &&& Int32.ofInt 255).toInt ≤ 255
  omega
theorem of32 (Z : Int64) : (Int32.ofInt Z.toInt).toBitVec = Z.toBitVec.setWidth 32 := by
  rw [Int32.ofInt_int64ToInt, Int64.toBitVec_toInt32, BitVec.signExtend_eq_setWidth_of_le _ (by decide)]
theorem i2c_b {Z : Int64} {b : Nat} (hb : b ≤ 255) (h : (Z.toBitVec.setWidth 32).toNat = b) : i2c (w32 Z.toInt) = (b : Int) := by
  unfold i2c w32
  rw [Int32.ofInt_toInt]
  have e : (Int32.ofInt Z.toInt).toUInt32.toNat = b := by rw [← h, ← of32]; rfl
  have e2 : ((Int32.ofInt Z.toInt).toUInt32 % 65536).toNat = b := by
    rw [UInt32.toNat_mod, e]
    show b % 65536 = b
    omega
  rw [Int32.toInt, BitVec.toInt_eq_toNat_of_lt]
  · exact congrArg Int.ofNat e2
  · show 2 * ((Int32.ofInt Z.toInt).toUInt32 % 65536).toNat < 2 ^ 32
    omega
theorem cby_k {v k : Int} {n : Nat} (hn : n ≤ 56) (h1 : ∀ X : Int64, (X >>> ((Int32.ofInt k).toInt64 &&& 63)).toBitVec = X.toBitVec.sshiftRight n) (h2 : ∀ X : Int64, ((X.toUInt64 >>> ((Int32.ofInt k).toInt64.toUInt64 &&& Int64.toUInt64 63)).toInt64).toBitVec = X.toBitVec >>> n) : cby v k = rby v k := by
  have key := bv_byte (Int64.ofInt v).toBitVec hn
  have a := and255 (Int32.ofInt (Int64.ofInt v >>> ((Int32.ofInt k).toInt64 &&& 63)).toInt)
  rw [of32, h1, key] at a
  unfold cby rby
  have e1 : o32 (fun x y => x &&& y) (w32 (sh64 (fun x y => x >>> (y.toInt64 &&& 63)) v k)) 255 = (Int32.ofInt (Int64.ofInt v >>> ((Int32.ofInt k).toInt64 &&& 63)).toInt &&& Int32.ofInt 255).toInt := by
    unfold o32 w32 sh64; rw [Int32.ofInt_toInt]
  rw [e1, a.1]
  unfold o64 sh64
  rw [Int64.ofInt_toInt]
  refine i2c_b a.2 ?_
  rw [Int64.toBitVec_and, h2]
  rfl
theorem cby_r {v k : Int} (hk : k = 0 ∨ k = 8 ∨ k = 16 ∨ k = 24 ∨ k = 32 ∨ k = 40 ∨ k = 48 ∨ k = 56) : cby v k = rby v k := by
  rcases hk with rfl | rfl | rfl | rfl | rfl | rfl | rfl | rfl
  · exact cby_k (n := 0) (by decide) (fun _ => rfl) (fun _ => rfl)
  · exact cby_k (n := 8) (by decide) (fun _ => rfl) (fun _ => rfl)
  · exact cby_k (n := 16) (by decide) (fun _ => rfl) (fun _ => rfl)
  · exact cby_k (n := 24) (by decide) (fun _ => rfl) (fun _ => rfl)
  · exact cby_k (n := 32) (by decide) (fun _ => rfl) (fun _ => rfl)
  · exact cby_k (n := 40) (by decide) (fun _ => rfl) (fun _ => rfl)
  · exact cby_k (n := 48) (by decide) (fun _ => rfl) (fun _ => rfl)
  · exact cby_k (n := 56) (by decide) (fun _ => rfl) (fun _ => rfl)
/-- a sign comes to the tape -/
def apnd (X : (Nat → Int) × Nat) (c : Int) : (Nat → Int) × Nat := if (c = 10 ∨ (32 ≤ c ∧ c ≤ 126)) ∧ X.2 < 1000 then (fun i => if i = X.2 then c else X.1 i, X.2 + 1) else X
def fd (v : Int) (X : (Nat → Int) × Nat) : Nat → (Nat → Int) × Nat
  | 0 => X
  | i + 1 => apnd (fd v X i) (rby v (56 - 8 * (i : Int)))
def TpR (h : Mem) (X : (Nat → Int) × Nat) : Prop := h 214 2 = (X.2 : Int) ∧ h 215 = X.1
def TpC (h : Mem) (X : (Nat → Int) × Nat) : Prop := h 1 2 = (X.2 : Int) ∧ ∀ i, i < X.2 → h 2 i = X.1 i
/-- what lies on a tape are signs -/
def TpW (X : (Nat → Int) × Nat) : Prop := X.2 ≤ 1000 ∧ ∀ i, i < X.2 → X.1 i = 10 ∨ (32 ≤ X.1 i ∧ X.1 i ≤ 126)
theorem apnd_w {X : (Nat → Int) × Nat} {c : Int} (h : TpW X) : TpW (apnd X c) := by
  unfold apnd
  split
  · rename_i q
    refine ⟨q.2, fun i hi => ?_⟩
    have hi : i < X.2 + 1 := hi
    show (if i = X.2 then c else X.1 i) = 10 ∨ (32 ≤ (if i = X.2 then c else X.1 i) ∧ (if i = X.2 then c else X.1 i) ≤ 126)
    by_cases e : i = X.2
    · rw [if_pos e]; exact q.1
    · rw [if_neg e]; exact h.2 i (by omega)
  · exact h
theorem fd_w {v : Int} {X : (Nat → Int) × Nat} (h : TpW X) : ∀ i, TpW (fd v X i)
  | 0 => h
  | i + 1 => by rw [fd]; exact apnd_w (fd_w h i)
/-- as it was, but the tape of the reference, of the class -/
def Ftr (h h' : Mem) : Prop := (∀ i, i ≠ 214 → i ≠ 215 → h' i = h i) ∧ ∀ j, j ≠ 2 → h' 214 j = h 214 j
def Ftc (h h' : Mem) : Prop := (∀ i, i ≠ 1 → i ≠ 2 → h' i = h i) ∧ ∀ j, j ≠ 2 → h' 1 j = h 1 j
theorem Ftr.rfl {h : Mem} : Ftr h h := ⟨fun _ _ _ => Eq.refl _, fun _ _ => Eq.refl _⟩
theorem Ftc.rfl {h : Mem} : Ftc h h := ⟨fun _ _ _ => Eq.refl _, fun _ _ => Eq.refl _⟩
theorem Ftr.trans {h h1 h2 : Mem} (a : Ftr h h1) (b : Ftr h1 h2) : Ftr h h2 := ⟨fun i p q => (b.1 i p q).trans (a.1 i p q), fun j q => (b.2 j q).trans (a.2 j q)⟩
theorem Ftc.trans {h h1 h2 : Mem} (a : Ftc h h1) (b : Ftc h1 h2) : Ftc h h2 := ⟨fun i p q => (b.1 i p q).trans (a.1 i p q), fun j q => (b.2 j q).trans (a.2 j q)⟩
theorem Ftr.lay {h h' : Mem} (f : Ftr h h') (L : Lay h) : Lay h' := by
  refine Lay_fr L (fun q hq => ?_)
  have hn : LAYL.all (fun q => if q.1 = 214 then !(q.2.1 == 2) else !(q.1 == 215)) = true := by decide +kernel
  have h1 := List.all_eq_true.mp hn q hq
  by_cases e : q.1 = 214
  · rw [if_pos e] at h1
    rw [e]; exact f.2 _ (by simpa using h1)
  · rw [if_neg e] at h1
    rw [f.1 q.1 e (by simpa using h1)]
theorem Ftc.lay {h h' : Mem} (f : Ftc h h') (L : Lay h) : Lay h' := by
  refine Lay_fr L (fun q hq => ?_)
  have hn : LAYL.all (fun q => if q.1 = 1 then !(q.2.1 == 2) else !(q.1 == 2)) = true := by decide +kernel
  have h1 := List.all_eq_true.mp hn q hq
  by_cases e : q.1 = 1
  · rw [if_pos e] at h1
    rw [e]; exact f.2 _ (by simpa using h1)
  · rw [if_neg e] at h1
    rw [f.1 q.1 e (by simpa using h1)]
section FE
variable {l : Launch} {d : Nat} {h : Mem} {X : (Nat → Int) × Nat}
theorem r_lay (L : Lay h) (Tp : TpR h X) (v : Int) : Cl l (d + 1) M_X11_lay [(2, 215), (1, v)] SHP h (fun r sh' h' => r = 0 ∧ sh' = SHP ∧ Ftr h h' ∧ TpR h' (fd v X 8)) := by
  refine Cl_hide (fun Q hQ => ?_)
  show V l (d + 1) 0 0 M_X11_lay 0 0 0 Q [(2, 215), (1, v), (9, 0), (9, 0), (9, 0)] [] SHP h
  refine S_X11_lay_0 _ _ _ _ ?_; simp (disch := omega) only [B_X11_lay_0, bi_0, x_ic, x_lc, x_ld, x_st, x_sl, x_inc, x_b32, x_b64, x_d32, x_d64, x_s64, x_un, x_lcmp, x_dup, x_pop, x_dup2, x_if, x_cmp, x_sw, swk, x_ald, x_ast, x_alen, x_getf, x_putf, x_inv, x_mm, x_copy, x_iret, x_lret, x_vret, ok1, pu, ct, rcv, rcs, ent0, List.getElem?_cons_zero, List.getElem?_cons_succ, List.getElem?_nil, List.set_cons_zero, List.set_cons_succ, List.take_succ_cons, List.take_zero, List.drop_succ_cons, List.drop_zero, List.reverse_cons, List.reverse_nil, List.nil_append, List.cons_append, List.length_cons, List.length_nil, true_and, and_true, and_self, ne_eq, not_true_eq_false, not_false_eq_true, reduceIte, true_or, or_true, false_or, or_false, Nat.reduceAdd, Nat.reduceSub, Nat.reduceMul, Nat.reduceLeDiff, Nat.reduceEqDiff, Nat.reduceLT, Nat.le_refl, Nat.zero_le, Int.reduceToNat, Int.reduceAdd, Int.reduceSub, Int.reduceMul, Int.reduceNeg, Int.reduceLT, Int.reduceLE, Int.reduceEq, Nat.zero_add, Nat.add_zero, Nat.reduceBEq, Nat.one_ne_zero, Nat.zero_ne_one, Nat.lt_irrefl, Nat.succ_ne_zero, w32_id, ixc, ixc2, Int.toNat_natCast]
  have key : ∀ (g i : Nat), i + g = 8 → ∀ m, Ftr h m → TpR m (fd v X i) → V l (d + 1) 0 0 M_X11_lay 0 0 3 Q [(2, 215), (1, v), (9, 0), (0, 56 - 8 * (i : Int)), (9, 0)] [] SHP m := by
    intro g
    induction g with
    | zero =>
      intro i hi m F T
      refine S_X11_lay_3 _ _ _ _ ?_; simp (disch := omega) only [B_X11_lay_3, bi_0, x_ic, x_lc, x_ld, x_st, x_sl, x_inc, x_b32, x_b64, x_d32, x_d64, x_s64, x_un, x_lcmp, x_dup, x_pop, x_dup2, x_if, x_cmp, x_sw, swk, x_ald, x_ast, x_alen, x_getf, x_putf, x_inv, x_mm, x_copy, x_iret, x_lret, x_vret, ok1, pu, ct, rcv, rcs, ent0, List.getElem?_cons_zero, List.getElem?_cons_succ, List.getElem?_nil, List.set_cons_zero, List.set_cons_succ, List.take_succ_cons, List.take_zero, List.drop_succ_cons, List.drop_zero, List.reverse_cons, List.reverse_nil, List.nil_append, List.cons_append, List.length_cons, List.length_nil, true_and, and_true, and_self, ne_eq, not_true_eq_false, not_false_eq_true, reduceIte, true_or, or_true, false_or, or_false, Nat.reduceAdd, Nat.reduceSub, Nat.reduceMul, Nat.reduceLeDiff, Nat.reduceEqDiff, Nat.reduceLT, Nat.le_refl, Nat.zero_le, Int.reduceToNat, Int.reduceAdd, Int.reduceSub, Int.reduceMul, Int.reduceNeg, Int.reduceLT, Int.reduceLE, Int.reduceEq, Nat.zero_add, Nat.add_zero, Nat.reduceBEq, Nat.one_ne_zero, Nat.zero_ne_one, Nat.lt_irrefl, Nat.succ_ne_zero, w32_id, ixc, ixc2, Int.toNat_natCast]
      refine ⟨fun _ => ?_, fun z => absurd z (by omega)⟩
      refine S_X11_lay_75 _ _ _ _ ?_; simp (disch := omega) only [B_X11_lay_75, bi_0, x_ic, x_lc, x_ld, x_st, x_sl, x_inc, x_b32, x_b64, x_d32, x_d64, x_s64, x_un, x_lcmp, x_dup, x_pop, x_dup2, x_if, x_cmp, x_sw, swk, x_ald, x_ast, x_alen, x_getf, x_putf, x_inv, x_mm, x_copy, x_iret, x_lret, x_vret, ok1, pu, ct, rcv, rcs, ent0, List.getElem?_cons_zero, List.getElem?_cons_succ, List.getElem?_nil, List.set_cons_zero, List.set_cons_succ, List.take_succ_cons, List.take_zero, List.drop_succ_cons, List.drop_zero, List.reverse_cons, List.reverse_nil, List.nil_append, List.cons_append, List.length_cons, List.length_nil, true_and, and_true, and_self, ne_eq, not_true_eq_false, not_false_eq_true, reduceIte, true_or, or_true, false_or, or_false, Nat.reduceAdd, Nat.reduceSub, Nat.reduceMul, Nat.reduceLeDiff, Nat.reduceEqDiff, Nat.reduceLT, Nat.le_refl, Nat.zero_le, Int.reduceToNat, Int.reduceAdd, Int.reduceSub, Int.reduceMul, Int.reduceNeg, Int.reduceLT, Int.reduceLE, Int.reduceEq, Nat.zero_add, Nat.add_zero, Nat.reduceBEq, Nat.one_ne_zero, Nat.zero_ne_one, Nat.lt_irrefl, Nat.succ_ne_zero, w32_id, ixc, ixc2, Int.toNat_natCast]
      rw [show i = 8 by omega] at T
      exact hQ _ _ _ ⟨rfl, rfl, F, T⟩
    | succ g ih =>
      intro i hi m F T
      have ih := ih (i + 1) (by omega)
      rw [fd, show (56 : Int) - 8 * ((i + 1 : Nat) : Int) = 56 - 8 * (i : Int) - 8 by omega] at ih
      have Lm := F.lay L
      have a1 := ly_214_1 Lm
      have rb := rby_b v (56 - 8 * (i : Int))
      obtain ⟨c, hc⟩ : ∃ c, c = rby v (56 - 8 * (i : Int)) := ⟨_, rfl⟩
      have hc2 : o32 (fun x y => x &&& y) (w32 (sh64 (fun x y => x >>> (y.toInt64 &&& 63)) v (56 - 8 * (i : Int)))) 255 = c := hc.symm
      rw [← hc] at ih rb
      obtain ⟨Y, hY⟩ : ∃ Y, Y = fd v X i := ⟨_, rfl⟩
      rw [← hY] at ih T
      unfold apnd at ih
      have no : ¬ ((c = 10 ∨ (32 ≤ c ∧ c ≤ 126)) ∧ Y.2 < 1000) → V l (d + 1) 0 0 M_X11_lay 0 0 69 Q [(2, 215), (1, v), (9, 0), (0, 56 - 8 * (i : Int)), (0, c)] [] SHP m := by
        intro z
        rw [if_neg z] at ih
        refine S_X11_lay_69 _ _ _ _ ?_; simp (disch := omega) only [B_X11_lay_69, bi_0, x_ic, x_lc, x_ld, x_st, x_sl, x_inc, x_b32, x_b64, x_d32, x_d64, x_s64, x_un, x_lcmp, x_dup, x_pop, x_dup2, x_if, x_cmp, x_sw, swk, x_ald, x_ast, x_alen, x_getf, x_putf, x_inv, x_mm, x_copy, x_iret, x_lret, x_vret, ok1, pu, ct, rcv, rcs, ent0, List.getElem?_cons_zero, List.getElem?_cons_succ, List.getElem?_nil, List.set_cons_zero, List.set_cons_succ, List.take_succ_cons, List.take_zero, List.drop_succ_cons, List.drop_zero, List.reverse_cons, List.reverse_nil, List.nil_append, List.cons_append, List.length_cons, List.length_nil, true_and, and_true, and_self, ne_eq, not_true_eq_false, not_false_eq_true, reduceIte, true_or, or_true, false_or, or_false, Nat.reduceAdd, Nat.reduceSub, Nat.reduceMul, Nat.reduceLeDiff, Nat.reduceEqDiff, Nat.reduceLT, Nat.le_refl, Nat.zero_le, Int.reduceToNat, Int.reduceAdd, Int.reduceSub, Int.reduceMul, Int.reduceNeg, Int.reduceLT, Int.reduceLE, Int.reduceEq, Nat.zero_add, Nat.add_zero, Nat.reduceBEq, Nat.one_ne_zero, Nat.zero_ne_one, Nat.lt_irrefl, Nat.succ_ne_zero, w32_id, ixc, ixc2, Int.toNat_natCast]
        exact V_fg [4] (ih m F T)
      have yes : (c = 10 ∨ (32 ≤ c ∧ c ≤ 126)) → V l (d + 1) 0 0 M_X11_lay 0 0 38 Q [(2, 215), (1, v), (9, 0), (0, 56 - 8 * (i : Int)), (0, c)] [] SHP m := by
        intro z
        have t1 := T.1
        have t2 : up m 215 Y.2 c 214 2 = (Y.2 : Int) := by rw [up_ne (by decide)]; exact t1
        refine S_X11_lay_38 _ _ _ _ ?_; simp (disch := omega) only [B_X11_lay_38, bi_0, x_ic, x_lc, x_ld, x_st, x_sl, x_inc, x_b32, x_b64, x_d32, x_d64, x_s64, x_un, x_lcmp, x_dup, x_pop, x_dup2, x_if, x_cmp, x_sw, swk, x_ald, x_ast, x_alen, x_getf, x_putf, x_inv, x_mm, x_copy, x_iret, x_lret, x_vret, ok1, pu, ct, rcv, rcs, ent0, List.getElem?_cons_zero, List.getElem?_cons_succ, List.getElem?_nil, List.set_cons_zero, List.set_cons_succ, List.take_succ_cons, List.take_zero, List.drop_succ_cons, List.drop_zero, List.reverse_cons, List.reverse_nil, List.nil_append, List.cons_append, List.length_cons, List.length_nil, true_and, and_true, and_self, ne_eq, not_true_eq_false, not_false_eq_true, reduceIte, true_or, or_true, false_or, or_false, Nat.reduceAdd, Nat.reduceSub, Nat.reduceMul, Nat.reduceLeDiff, Nat.reduceEqDiff, Nat.reduceLT, Nat.le_refl, Nat.zero_le, Int.reduceToNat, Int.reduceAdd, Int.reduceSub, Int.reduceMul, Int.reduceNeg, Int.reduceLT, Int.reduceLE, Int.reduceEq, Nat.zero_add, Nat.add_zero, Nat.reduceBEq, Nat.one_ne_zero, Nat.zero_ne_one, Nat.lt_irrefl, Nat.succ_ne_zero, w32_id, ixc, ixc2, Int.toNat_natCast, ob_214, t1, a1, ln_215, t2]
        refine ⟨fun y => no (by omega), fun y => ⟨by omega, ?_⟩⟩
        rw [if_pos ⟨z, by omega⟩] at ih
        refine S_X11_lay_69 _ _ _ _ ?_; simp (disch := omega) only [B_X11_lay_69, bi_0, x_ic, x_lc, x_ld, x_st, x_sl, x_inc, x_b32, x_b64, x_d32, x_d64, x_s64, x_un, x_lcmp, x_dup, x_pop, x_dup2, x_if, x_cmp, x_sw, swk, x_ald, x_ast, x_alen, x_getf, x_putf, x_inv, x_mm, x_copy, x_iret, x_lret, x_vret, ok1, pu, ct, rcv, rcs, ent0, List.getElem?_cons_zero, List.getElem?_cons_succ, List.getElem?_nil, List.set_cons_zero, List.set_cons_succ, List.take_succ_cons, List.take_zero, List.drop_succ_cons, List.drop_zero, List.reverse_cons, List.reverse_nil, List.nil_append, List.cons_append, List.length_cons, List.length_nil, true_and, and_true, and_self, ne_eq, not_true_eq_false, not_false_eq_true, reduceIte, true_or, or_true, false_or, or_false, Nat.reduceAdd, Nat.reduceSub, Nat.reduceMul, Nat.reduceLeDiff, Nat.reduceEqDiff, Nat.reduceLT, Nat.le_refl, Nat.zero_le, Int.reduceToNat, Int.reduceAdd, Int.reduceSub, Int.reduceMul, Int.reduceNeg, Int.reduceLT, Int.reduceLE, Int.reduceEq, Nat.zero_add, Nat.add_zero, Nat.reduceBEq, Nat.one_ne_zero, Nat.zero_ne_one, Nat.lt_irrefl, Nat.succ_ne_zero, w32_id, ixc, ixc2, Int.toNat_natCast]
        refine V_fg [4] (ih _ (F.trans ⟨fun i p q => by rw [up_ne p, up_ne q], fun j q => by rw [up_nj q, up_ne (by decide)]⟩) ⟨up_at, ?_⟩)
        rw [up_ne (by decide)]
        funext j
        by_cases e : j = Y.2
        · rw [e, up_at]; show c = if Y.2 = Y.2 then c else Y.1 Y.2; rw [if_pos rfl]
        · rw [up_nj e, T.2]; show Y.1 j = if j = Y.2 then c else Y.1 j; rw [if_neg e]
      refine S_X11_lay_3 _ _ _ _ ?_; simp (disch := omega) only [B_X11_lay_3, bi_0, x_ic, x_lc, x_ld, x_st, x_sl, x_inc, x_b32, x_b64, x_d32, x_d64, x_s64, x_un, x_lcmp, x_dup, x_pop, x_dup2, x_if, x_cmp, x_sw, swk, x_ald, x_ast, x_alen, x_getf, x_putf, x_inv, x_mm, x_copy, x_iret, x_lret, x_vret, ok1, pu, ct, rcv, rcs, ent0, List.getElem?_cons_zero, List.getElem?_cons_succ, List.getElem?_nil, List.set_cons_zero, List.set_cons_succ, List.take_succ_cons, List.take_zero, List.drop_succ_cons, List.drop_zero, List.reverse_cons, List.reverse_nil, List.nil_append, List.cons_append, List.length_cons, List.length_nil, true_and, and_true, and_self, ne_eq, not_true_eq_false, not_false_eq_true, reduceIte, true_or, or_true, false_or, or_false, Nat.reduceAdd, Nat.reduceSub, Nat.reduceMul, Nat.reduceLeDiff, Nat.reduceEqDiff, Nat.reduceLT, Nat.le_refl, Nat.zero_le, Int.reduceToNat, Int.reduceAdd, Int.reduceSub, Int.reduceMul, Int.reduceNeg, Int.reduceLT, Int.reduceLE, Int.reduceEq, Nat.zero_add, Nat.add_zero, Nat.reduceBEq, Nat.one_ne_zero, Nat.zero_ne_one, Nat.lt_irrefl, Nat.succ_ne_zero, w32_id, ixc, ixc2, Int.toNat_natCast, hc2]
      refine ⟨fun z => absurd z (by omega), fun _ => ⟨fun z => yes (Or.inl z), fun z => ⟨fun y => no (by omega), fun y => ⟨fun x => no (by omega), fun x => yes (by omega)⟩⟩⟩⟩
  exact key 8 0 rfl h Ftr.rfl Tp
theorem c_append (L : Lay h) (Tp : TpC h X) {c : Int} (hc : 0 ≤ c ∧ c ≤ 255) : Cl l (d + 1) M_X8_append [(2, 2), (0, c)] SHP h (fun r sh' h' => r = 0 ∧ sh' = SHP ∧ Ftc h h' ∧ TpC h' (apnd X c)) := by
  refine Cl_hide (fun Q hQ => ?_)
  unfold apnd at hQ
  have a0 := ly_1_0 L
  have no : ¬ ((c = 10 ∨ (32 ≤ c ∧ c ≤ 126)) ∧ X.2 < 1000) → ∀ x : PV, V l (d + 1) 0 0 M_X8_append 0 0 58 Q [(2, 2), (0, c), x] [] SHP h := by
    intro z x
    rw [if_neg z] at hQ
    refine S_X8_append_58 _ _ _ _ ?_; simp (disch := omega) only [B_X8_append_58, bi_0, x_ic, x_lc, x_ld, x_st, x_sl, x_inc, x_b32, x_b64, x_d32, x_d64, x_s64, x_un, x_lcmp, x_dup, x_pop, x_dup2, x_if, x_cmp, x_sw, swk, x_ald, x_ast, x_alen, x_getf, x_putf, x_inv, x_mm, x_copy, x_iret, x_lret, x_vret, ok1, pu, ct, rcv, rcs, ent0, List.getElem?_cons_zero, List.getElem?_cons_succ, List.getElem?_nil, List.set_cons_zero, List.set_cons_succ, List.take_succ_cons, List.take_zero, List.drop_succ_cons, List.drop_zero, List.reverse_cons, List.reverse_nil, List.nil_append, List.cons_append, List.length_cons, List.length_nil, true_and, and_true, and_self, ne_eq, not_true_eq_false, not_false_eq_true, reduceIte, true_or, or_true, false_or, or_false, Nat.reduceAdd, Nat.reduceSub, Nat.reduceMul, Nat.reduceLeDiff, Nat.reduceEqDiff, Nat.reduceLT, Nat.le_refl, Nat.zero_le, Int.reduceToNat, Int.reduceAdd, Int.reduceSub, Int.reduceMul, Int.reduceNeg, Int.reduceLT, Int.reduceLE, Int.reduceEq, Nat.zero_add, Nat.add_zero, Nat.reduceBEq, Nat.one_ne_zero, Nat.zero_ne_one, Nat.lt_irrefl, Nat.succ_ne_zero, w32_id, ixc, ixc2, Int.toNat_natCast]
    exact hQ _ _ _ ⟨rfl, rfl, Ftc.rfl, Tp⟩
  have n22 : ¬ (c = 10 ∨ (32 ≤ c ∧ c ≤ 126)) → V l (d + 1) 0 0 M_X8_append 0 0 22 Q [(2, 2), (0, c), (9, 0)] [] SHP h := by
    intro z
    refine S_X8_append_22 _ _ _ _ ?_; simp (disch := omega) only [B_X8_append_22, bi_0, x_ic, x_lc, x_ld, x_st, x_sl, x_inc, x_b32, x_b64, x_d32, x_d64, x_s64, x_un, x_lcmp, x_dup, x_pop, x_dup2, x_if, x_cmp, x_sw, swk, x_ald, x_ast, x_alen, x_getf, x_putf, x_inv, x_mm, x_copy, x_iret, x_lret, x_vret, ok1, pu, ct, rcv, rcs, ent0, List.getElem?_cons_zero, List.getElem?_cons_succ, List.getElem?_nil, List.set_cons_zero, List.set_cons_succ, List.take_succ_cons, List.take_zero, List.drop_succ_cons, List.drop_zero, List.reverse_cons, List.reverse_nil, List.nil_append, List.cons_append, List.length_cons, List.length_nil, true_and, and_true, and_self, ne_eq, not_true_eq_false, not_false_eq_true, reduceIte, true_or, or_true, false_or, or_false, Nat.reduceAdd, Nat.reduceSub, Nat.reduceMul, Nat.reduceLeDiff, Nat.reduceEqDiff, Nat.reduceLT, Nat.le_refl, Nat.zero_le, Int.reduceToNat, Int.reduceAdd, Int.reduceSub, Int.reduceMul, Int.reduceNeg, Int.reduceLT, Int.reduceLE, Int.reduceEq, Nat.zero_add, Nat.add_zero, Nat.reduceBEq, Nat.one_ne_zero, Nat.zero_ne_one, Nat.lt_irrefl, Nat.succ_ne_zero, w32_id, ixc, ixc2, Int.toNat_natCast]
    refine S_X8_append_23 _ _ _ _ ?_; simp (disch := omega) only [B_X8_append_23, bi_0, x_ic, x_lc, x_ld, x_st, x_sl, x_inc, x_b32, x_b64, x_d32, x_d64, x_s64, x_un, x_lcmp, x_dup, x_pop, x_dup2, x_if, x_cmp, x_sw, swk, x_ald, x_ast, x_alen, x_getf, x_putf, x_inv, x_mm, x_copy, x_iret, x_lret, x_vret, ok1, pu, ct, rcv, rcs, ent0, List.getElem?_cons_zero, List.getElem?_cons_succ, List.getElem?_nil, List.set_cons_zero, List.set_cons_succ, List.take_succ_cons, List.take_zero, List.drop_succ_cons, List.drop_zero, List.reverse_cons, List.reverse_nil, List.nil_append, List.cons_append, List.length_cons, List.length_nil, true_and, and_true, and_self, ne_eq, not_true_eq_false, not_false_eq_true, reduceIte, true_or, or_true, false_or, or_false, Nat.reduceAdd, Nat.reduceSub, Nat.reduceMul, Nat.reduceLeDiff, Nat.reduceEqDiff, Nat.reduceLT, Nat.le_refl, Nat.zero_le, Int.reduceToNat, Int.reduceAdd, Int.reduceSub, Int.reduceMul, Int.reduceNeg, Int.reduceLT, Int.reduceLE, Int.reduceEq, Nat.zero_add, Nat.add_zero, Nat.reduceBEq, Nat.one_ne_zero, Nat.zero_ne_one, Nat.lt_irrefl, Nat.succ_ne_zero, w32_id, ixc, ixc2, Int.toNat_natCast]
    exact ⟨fun _ => no (fun q => z q.1) _, fun y => y.elim⟩
  have yes : (c = 10 ∨ (32 ≤ c ∧ c ≤ 126)) → V l (d + 1) 0 0 M_X8_append 0 0 18 Q [(2, 2), (0, c), (9, 0)] [] SHP h := by
    intro z
    have t1 := Tp.1
    have t2 : up h 2 X.2 c 1 2 = (X.2 : Int) := by rw [up_ne (by decide)]; exact t1
    have nc1 : nc c = c := by
      have : ∀ x : Fin 256, nc (x.1 : Int) = (x.1 : Int) := by decide +kernel
      have := this ⟨c.toNat, by omega⟩
      rw [show ((c.toNat : Nat) : Int) = c by omega] at this
      exact this
    refine S_X8_append_18 _ _ _ _ ?_; simp (disch := omega) only [B_X8_append_18, bi_0, x_ic, x_lc, x_ld, x_st, x_sl, x_inc, x_b32, x_b64, x_d32, x_d64, x_s64, x_un, x_lcmp, x_dup, x_pop, x_dup2, x_if, x_cmp, x_sw, swk, x_ald, x_ast, x_alen, x_getf, x_putf, x_inv, x_mm, x_copy, x_iret, x_lret, x_vret, ok1, pu, ct, rcv, rcs, ent0, List.getElem?_cons_zero, List.getElem?_cons_succ, List.getElem?_nil, List.set_cons_zero, List.set_cons_succ, List.take_succ_cons, List.take_zero, List.drop_succ_cons, List.drop_zero, List.reverse_cons, List.reverse_nil, List.nil_append, List.cons_append, List.length_cons, List.length_nil, true_and, and_true, and_self, ne_eq, not_true_eq_false, not_false_eq_true, reduceIte, true_or, or_true, false_or, or_false, Nat.reduceAdd, Nat.reduceSub, Nat.reduceMul, Nat.reduceLeDiff, Nat.reduceEqDiff, Nat.reduceLT, Nat.le_refl, Nat.zero_le, Int.reduceToNat, Int.reduceAdd, Int.reduceSub, Int.reduceMul, Int.reduceNeg, Int.reduceLT, Int.reduceLE, Int.reduceEq, Nat.zero_add, Nat.add_zero, Nat.reduceBEq, Nat.one_ne_zero, Nat.zero_ne_one, Nat.lt_irrefl, Nat.succ_ne_zero, w32_id, ixc, ixc2, Int.toNat_natCast]
    refine S_X8_append_23 _ _ _ _ ?_; simp (disch := omega) only [B_X8_append_23, bi_0, x_ic, x_lc, x_ld, x_st, x_sl, x_inc, x_b32, x_b64, x_d32, x_d64, x_s64, x_un, x_lcmp, x_dup, x_pop, x_dup2, x_if, x_cmp, x_sw, swk, x_ald, x_ast, x_alen, x_getf, x_putf, x_inv, x_mm, x_copy, x_iret, x_lret, x_vret, ok1, pu, ct, rcv, rcs, ent0, List.getElem?_cons_zero, List.getElem?_cons_succ, List.getElem?_nil, List.set_cons_zero, List.set_cons_succ, List.take_succ_cons, List.take_zero, List.drop_succ_cons, List.drop_zero, List.reverse_cons, List.reverse_nil, List.nil_append, List.cons_append, List.length_cons, List.length_nil, true_and, and_true, and_self, ne_eq, not_true_eq_false, not_false_eq_true, reduceIte, true_or, or_true, false_or, or_false, Nat.reduceAdd, Nat.reduceSub, Nat.reduceMul, Nat.reduceLeDiff, Nat.reduceEqDiff, Nat.reduceLT, Nat.le_refl, Nat.zero_le, Int.reduceToNat, Int.reduceAdd, Int.reduceSub, Int.reduceMul, Int.reduceNeg, Int.reduceLT, Int.reduceLE, Int.reduceEq, Nat.zero_add, Nat.add_zero, Nat.reduceBEq, Nat.one_ne_zero, Nat.zero_ne_one, Nat.lt_irrefl, Nat.succ_ne_zero, w32_id, ixc, ixc2, Int.toNat_natCast, ob_1, t1, a0, ln_2, t2, nc1]
    refine ⟨fun y => y.elim, fun _ => ⟨fun y => no (by omega) _, fun y => ⟨by omega, ?_⟩⟩⟩
    rw [if_pos ⟨z, by omega⟩] at hQ
    refine S_X8_append_58 _ _ _ _ ?_; simp (disch := omega) only [B_X8_append_58, bi_0, x_ic, x_lc, x_ld, x_st, x_sl, x_inc, x_b32, x_b64, x_d32, x_d64, x_s64, x_un, x_lcmp, x_dup, x_pop, x_dup2, x_if, x_cmp, x_sw, swk, x_ald, x_ast, x_alen, x_getf, x_putf, x_inv, x_mm, x_copy, x_iret, x_lret, x_vret, ok1, pu, ct, rcv, rcs, ent0, List.getElem?_cons_zero, List.getElem?_cons_succ, List.getElem?_nil, List.set_cons_zero, List.set_cons_succ, List.take_succ_cons, List.take_zero, List.drop_succ_cons, List.drop_zero, List.reverse_cons, List.reverse_nil, List.nil_append, List.cons_append, List.length_cons, List.length_nil, true_and, and_true, and_self, ne_eq, not_true_eq_false, not_false_eq_true, reduceIte, true_or, or_true, false_or, or_false, Nat.reduceAdd, Nat.reduceSub, Nat.reduceMul, Nat.reduceLeDiff, Nat.reduceEqDiff, Nat.reduceLT, Nat.le_refl, Nat.zero_le, Int.reduceToNat, Int.reduceAdd, Int.reduceSub, Int.reduceMul, Int.reduceNeg, Int.reduceLT, Int.reduceLE, Int.reduceEq, Nat.zero_add, Nat.add_zero, Nat.reduceBEq, Nat.one_ne_zero, Nat.zero_ne_one, Nat.lt_irrefl, Nat.succ_ne_zero, w32_id, ixc, ixc2, Int.toNat_natCast]
    refine hQ _ _ _ ⟨rfl, rfl, ⟨fun i p q => by rw [up_ne p, up_ne q], fun j q => by rw [up_nj q, up_ne (by decide)]⟩, up_at, fun i hi => ?_⟩
    have hi : i < X.2 + 1 := hi
    rw [up_ne (by decide)]
    show _ = if i = X.2 then c else X.1 i
    by_cases e : i = X.2
    · rw [e, up_at, if_pos rfl]
    · rw [up_nj e, if_neg e]; exact Tp.2 i (by omega)
  show V l (d + 1) 0 0 M_X8_append 0 0 0 Q [(2, 2), (0, c), (9, 0)] [] SHP h
  refine S_X8_append_0 _ _ _ _ ?_; simp (disch := omega) only [B_X8_append_0, bi_0, x_ic, x_lc, x_ld, x_st, x_sl, x_inc, x_b32, x_b64, x_d32, x_d64, x_s64, x_un, x_lcmp, x_dup, x_pop, x_dup2, x_if, x_cmp, x_sw, swk, x_ald, x_ast, x_alen, x_getf, x_putf, x_inv, x_mm, x_copy, x_iret, x_lret, x_vret, ok1, pu, ct, rcv, rcs, ent0, List.getElem?_cons_zero, List.getElem?_cons_succ, List.getElem?_nil, List.set_cons_zero, List.set_cons_succ, List.take_succ_cons, List.take_zero, List.drop_succ_cons, List.drop_zero, List.reverse_cons, List.reverse_nil, List.nil_append, List.cons_append, List.length_cons, List.length_nil, true_and, and_true, and_self, ne_eq, not_true_eq_false, not_false_eq_true, reduceIte, true_or, or_true, false_or, or_false, Nat.reduceAdd, Nat.reduceSub, Nat.reduceMul, Nat.reduceLeDiff, Nat.reduceEqDiff, Nat.reduceLT, Nat.le_refl, Nat.zero_le, Int.reduceToNat, Int.reduceAdd, Int.reduceSub, Int.reduceMul, Int.reduceNeg, Int.reduceLT, Int.reduceLE, Int.reduceEq, Nat.zero_add, Nat.add_zero, Nat.reduceBEq, Nat.one_ne_zero, Nat.zero_ne_one, Nat.lt_irrefl, Nat.succ_ne_zero, w32_id, ixc, ixc2, Int.toNat_natCast]
  exact ⟨fun z => yes (Or.inl z), fun z => ⟨fun y => n22 (by omega), fun y => ⟨fun x => n22 (by omega), fun x => yes (by omega)⟩⟩⟩
theorem c_appendBytes (L : Lay h) (Tp : TpC h X) (v : Int) : Cl l (d + 2) M_X10_appendBytes [(2, 1), (1, v)] SHP h (fun r sh' h' => r = 0 ∧ sh' = SHP ∧ Ftc h h' ∧ TpC h' (fd v X 8)) := by
  refine Cl_hide (fun Q hQ => ?_)
  show V l (d + 2) 0 0 M_X10_appendBytes 0 0 0 Q [(2, 1), (1, v), (9, 0), (9, 0)] [] SHP h
  refine S_X10_appendBytes_0 _ _ _ _ ?_; simp (disch := omega) only [B_X10_appendBytes_0, bi_0, x_ic, x_lc, x_ld, x_st, x_sl, x_inc, x_b32, x_b64, x_d32, x_d64, x_s64, x_un, x_lcmp, x_dup, x_pop, x_dup2, x_if, x_cmp, x_sw, swk, x_ald, x_ast, x_alen, x_getf, x_putf, x_inv, x_mm, x_copy, x_iret, x_lret, x_vret, ok1, pu, ct, rcv, rcs, ent0, List.getElem?_cons_zero, List.getElem?_cons_succ, List.getElem?_nil, List.set_cons_zero, List.set_cons_succ, List.take_succ_cons, List.take_zero, List.drop_succ_cons, List.drop_zero, List.reverse_cons, List.reverse_nil, List.nil_append, List.cons_append, List.length_cons, List.length_nil, true_and, and_true, and_self, ne_eq, not_true_eq_false, not_false_eq_true, reduceIte, true_or, or_true, false_or, or_false, Nat.reduceAdd, Nat.reduceSub, Nat.reduceMul, Nat.reduceLeDiff, Nat.reduceEqDiff, Nat.reduceLT, Nat.le_refl, Nat.zero_le, Int.reduceToNat, Int.reduceAdd, Int.reduceSub, Int.reduceMul, Int.reduceNeg, Int.reduceLT, Int.reduceLE, Int.reduceEq, Nat.zero_add, Nat.add_zero, Nat.reduceBEq, Nat.one_ne_zero, Nat.zero_ne_one, Nat.lt_irrefl, Nat.succ_ne_zero, w32_id, ixc, ixc2, Int.toNat_natCast]
  have key : ∀ (g i : Nat), i + g = 8 → ∀ m, Ftc h m → TpC m (fd v X i) → V l (d + 2) 0 0 M_X10_appendBytes 0 0 3 Q [(2, 1), (1, v), (9, 0), (0, 56 - 8 * (i : Int))] [] SHP m := by
    intro g
    induction g with
    | zero =>
      intro i hi m F T
      refine S_X10_appendBytes_3 _ _ _ _ ?_; simp (disch := omega) only [B_X10_appendBytes_3, bi_0, x_ic, x_lc, x_ld, x_st, x_sl, x_inc, x_b32, x_b64, x_d32, x_d64, x_s64, x_un, x_lcmp, x_dup, x_pop, x_dup2, x_if, x_cmp, x_sw, swk, x_ald, x_ast, x_alen, x_getf, x_putf, x_inv, x_mm, x_copy, x_iret, x_lret, x_vret, ok1, pu, ct, rcv, rcs, ent0, List.getElem?_cons_zero, List.getElem?_cons_succ, List.getElem?_nil, List.set_cons_zero, List.set_cons_succ, List.take_succ_cons, List.take_zero, List.drop_succ_cons, List.drop_zero, List.reverse_cons, List.reverse_nil, List.nil_append, List.cons_append, List.length_cons, List.length_nil, true_and, and_true, and_self, ne_eq, not_true_eq_false, not_false_eq_true, reduceIte, true_or, or_true, false_or, or_false, Nat.reduceAdd, Nat.reduceSub, Nat.reduceMul, Nat.reduceLeDiff, Nat.reduceEqDiff, Nat.reduceLT, Nat.le_refl, Nat.zero_le, Int.reduceToNat, Int.reduceAdd, Int.reduceSub, Int.reduceMul, Int.reduceNeg, Int.reduceLT, Int.reduceLE, Int.reduceEq, Nat.zero_add, Nat.add_zero, Nat.reduceBEq, Nat.one_ne_zero, Nat.zero_ne_one, Nat.lt_irrefl, Nat.succ_ne_zero, w32_id, ixc, ixc2, Int.toNat_natCast]
      refine ⟨fun _ => ?_, fun z => absurd z (by omega)⟩
      refine S_X10_appendBytes_29 _ _ _ _ ?_; simp (disch := omega) only [B_X10_appendBytes_29, bi_0, x_ic, x_lc, x_ld, x_st, x_sl, x_inc, x_b32, x_b64, x_d32, x_d64, x_s64, x_un, x_lcmp, x_dup, x_pop, x_dup2, x_if, x_cmp, x_sw, swk, x_ald, x_ast, x_alen, x_getf, x_putf, x_inv, x_mm, x_copy, x_iret, x_lret, x_vret, ok1, pu, ct, rcv, rcs, ent0, List.getElem?_cons_zero, List.getElem?_cons_succ, List.getElem?_nil, List.set_cons_zero, List.set_cons_succ, List.take_succ_cons, List.take_zero, List.drop_succ_cons, List.drop_zero, List.reverse_cons, List.reverse_nil, List.nil_append, List.cons_append, List.length_cons, List.length_nil, true_and, and_true, and_self, ne_eq, not_true_eq_false, not_false_eq_true, reduceIte, true_or, or_true, false_or, or_false, Nat.reduceAdd, Nat.reduceSub, Nat.reduceMul, Nat.reduceLeDiff, Nat.reduceEqDiff, Nat.reduceLT, Nat.le_refl, Nat.zero_le, Int.reduceToNat, Int.reduceAdd, Int.reduceSub, Int.reduceMul, Int.reduceNeg, Int.reduceLT, Int.reduceLE, Int.reduceEq, Nat.zero_add, Nat.add_zero, Nat.reduceBEq, Nat.one_ne_zero, Nat.zero_ne_one, Nat.lt_irrefl, Nat.succ_ne_zero, w32_id, ixc, ixc2, Int.toNat_natCast]
      rw [show i = 8 by omega] at T
      exact hQ _ _ _ ⟨rfl, rfl, F, T⟩
    | succ g ih =>
      intro i hi m F T
      have ih := ih (i + 1) (by omega)
      rw [fd, show (56 : Int) - 8 * ((i + 1 : Nat) : Int) = 56 - 8 * (i : Int) - 8 by omega] at ih
      have Lm := F.lay L
      have a0 := ly_0_0 Lm
      have rb := rby_b v (56 - 8 * (i : Int))
      have hc2 : i2c (w32 (o64 (fun x y => x &&& y) (sh64 (fun x y => (x.toUInt64 >>> (y.toInt64.toUInt64 &&& Int64.toUInt64 63)).toInt64) v (56 - 8 * (i : Int))) 255)) = rby v (56 - 8 * (i : Int)) := cby_r (v := v) (k := 56 - 8 * (i : Int)) (by omega)
      refine S_X10_appendBytes_3 _ _ _ _ ?_; simp (disch := omega) only [B_X10_appendBytes_3, bi_0, x_ic, x_lc, x_ld, x_st, x_sl, x_inc, x_b32, x_b64, x_d32, x_d64, x_s64, x_un, x_lcmp, x_dup, x_pop, x_dup2, x_if, x_cmp, x_sw, swk, x_ald, x_ast, x_alen, x_getf, x_putf, x_inv, x_mm, x_copy, x_iret, x_lret, x_vret, ok1, pu, ct, rcv, rcs, ent0, List.getElem?_cons_zero, List.getElem?_cons_succ, List.getElem?_nil, List.set_cons_zero, List.set_cons_succ, List.take_succ_cons, List.take_zero, List.drop_succ_cons, List.drop_zero, List.reverse_cons, List.reverse_nil, List.nil_append, List.cons_append, List.length_cons, List.length_nil, true_and, and_true, and_self, ne_eq, not_true_eq_false, not_false_eq_true, reduceIte, true_or, or_true, false_or, or_false, Nat.reduceAdd, Nat.reduceSub, Nat.reduceMul, Nat.reduceLeDiff, Nat.reduceEqDiff, Nat.reduceLT, Nat.le_refl, Nat.zero_le, Int.reduceToNat, Int.reduceAdd, Int.reduceSub, Int.reduceMul, Int.reduceNeg, Int.reduceLT, Int.reduceLE, Int.reduceEq, Nat.zero_add, Nat.add_zero, Nat.reduceBEq, Nat.one_ne_zero, Nat.zero_ne_one, Nat.lt_irrefl, Nat.succ_ne_zero, w32_id, ixc, ixc2, Int.toNat_natCast, ob_0, a0, ob_1, hc2]
      refine ⟨fun z => absurd z (by omega), fun _ => ?_⟩
      refine Cl.imp (c_append (l := l) (d := d) Lm T rb) (fun r sh' m2 q => ?_)
      obtain ⟨rfl, rfl, F2, T2⟩ := q
      (try simp (disch := omega) only [bi_0, x_ic, x_lc, x_ld, x_st, x_sl, x_inc, x_b32, x_b64, x_d32, x_d64, x_s64, x_un, x_lcmp, x_dup, x_pop, x_dup2, x_if, x_cmp, x_sw, swk, x_ald, x_ast, x_alen, x_getf, x_putf, x_inv, x_mm, x_copy, x_iret, x_lret, x_vret, ok1, pu, ct, rcv, rcs, ent0, List.getElem?_cons_zero, List.getElem?_cons_succ, List.getElem?_nil, List.set_cons_zero, List.set_cons_succ, List.take_succ_cons, List.take_zero, List.drop_succ_cons, List.drop_zero, List.reverse_cons, List.reverse_nil, List.nil_append, List.cons_append, List.length_cons, List.length_nil, true_and, and_true, and_self, ne_eq, not_true_eq_false, not_false_eq_true, reduceIte, true_or, or_true, false_or, or_false, Nat.reduceAdd, Nat.reduceSub, Nat.reduceMul, Nat.reduceLeDiff, Nat.reduceEqDiff, Nat.reduceLT, Nat.le_refl, Nat.zero_le, Int.reduceToNat, Int.reduceAdd, Int.reduceSub, Int.reduceMul, Int.reduceNeg, Int.reduceLT, Int.reduceLE, Int.reduceEq, Nat.zero_add, Nat.add_zero, Nat.reduceBEq, Nat.one_ne_zero, Nat.zero_ne_one, Nat.lt_irrefl, Nat.succ_ne_zero, w32_id, ixc, ixc2, Int.toNat_natCast])
      exact ih _ (F.trans F2) T2
  exact key 8 0 rfl h Ftc.rfl Tp
def fd3 (a b c : Int) (X : (Nat → Int) × Nat) : (Nat → Int) × Nat := fd c (fd b (fd a X 8) 8) 8
theorem fd3_w {a b c : Int} (h : TpW X) : TpW (fd3 a b c X) := fd_w (fd_w (fd_w h 8) 8) 8
theorem r_feed (L : Lay h) (Tp : TpR h X) (a b c : Int) : Cl l (d + 2) M_X11_feed [(2, 215), (1, a), (1, b), (1, c)] SHP h (fun r sh' h' => r = ((fd3 a b c X).2 : Int) ∧ sh' = SHP ∧ Ftr (up h 214 0 0) h' ∧ TpR h' (fd3 a b c X)) := by
  refine Cl_hide (fun Q hQ => ?_)
  have L1 : Lay (up h 214 0 0) := Lay_upf L (by decide +kernel)
  have T1 : TpR (up h 214 0 0) X := ⟨by rw [up_nj (by decide)]; exact Tp.1, by rw [up_ne (by decide)]; exact Tp.2⟩
  show V l (d + 2) 0 0 M_X11_feed 0 0 0 Q [(2, 215), (1, a), (9, 0), (1, b), (9, 0), (1, c), (9, 0)] [] SHP h
  refine S_X11_feed_0 _ _ _ _ ?_; simp (disch := omega) only [B_X11_feed_0, bi_0, x_ic, x_lc, x_ld, x_st, x_sl, x_inc, x_b32, x_b64, x_d32, x_d64, x_s64, x_un, x_lcmp, x_dup, x_pop, x_dup2, x_if, x_cmp, x_sw, swk, x_ald, x_ast, x_alen, x_getf, x_putf, x_inv, x_mm, x_copy, x_iret, x_lret, x_vret, ok1, pu, ct, rcv, rcs, ent0, List.getElem?_cons_zero, List.getElem?_cons_succ, List.getElem?_nil, List.set_cons_zero, List.set_cons_succ, List.take_succ_cons, List.take_zero, List.drop_succ_cons, List.drop_zero, List.reverse_cons, List.reverse_nil, List.nil_append, List.cons_append, List.length_cons, List.length_nil, true_and, and_true, and_self, ne_eq, not_true_eq_false, not_false_eq_true, reduceIte, true_or, or_true, false_or, or_false, Nat.reduceAdd, Nat.reduceSub, Nat.reduceMul, Nat.reduceLeDiff, Nat.reduceEqDiff, Nat.reduceLT, Nat.le_refl, Nat.zero_le, Int.reduceToNat, Int.reduceAdd, Int.reduceSub, Int.reduceMul, Int.reduceNeg, Int.reduceLT, Int.reduceLE, Int.reduceEq, Nat.zero_add, Nat.add_zero, Nat.reduceBEq, Nat.one_ne_zero, Nat.zero_ne_one, Nat.lt_irrefl, Nat.succ_ne_zero, w32_id, ixc, ixc2, Int.toNat_natCast, ob_214]
  refine Cl.imp (r_lay (l := l) (d := d) L1 T1 a) (fun r sh' h1 q => ?_)
  obtain ⟨rfl, rfl, F1, T1⟩ := q
  (try simp (disch := omega) only [bi_0, x_ic, x_lc, x_ld, x_st, x_sl, x_inc, x_b32, x_b64, x_d32, x_d64, x_s64, x_un, x_lcmp, x_dup, x_pop, x_dup2, x_if, x_cmp, x_sw, swk, x_ald, x_ast, x_alen, x_getf, x_putf, x_inv, x_mm, x_copy, x_iret, x_lret, x_vret, ok1, pu, ct, rcv, rcs, ent0, List.getElem?_cons_zero, List.getElem?_cons_succ, List.getElem?_nil, List.set_cons_zero, List.set_cons_succ, List.take_succ_cons, List.take_zero, List.drop_succ_cons, List.drop_zero, List.reverse_cons, List.reverse_nil, List.nil_append, List.cons_append, List.length_cons, List.length_nil, true_and, and_true, and_self, ne_eq, not_true_eq_false, not_false_eq_true, reduceIte, true_or, or_true, false_or, or_false, Nat.reduceAdd, Nat.reduceSub, Nat.reduceMul, Nat.reduceLeDiff, Nat.reduceEqDiff, Nat.reduceLT, Nat.le_refl, Nat.zero_le, Int.reduceToNat, Int.reduceAdd, Int.reduceSub, Int.reduceMul, Int.reduceNeg, Int.reduceLT, Int.reduceLE, Int.reduceEq, Nat.zero_add, Nat.add_zero, Nat.reduceBEq, Nat.one_ne_zero, Nat.zero_ne_one, Nat.lt_irrefl, Nat.succ_ne_zero, w32_id, ixc, ixc2, Int.toNat_natCast, ob_214])
  refine Cl.imp (r_lay (l := l) (d := d) (F1.lay L1) T1 b) (fun r sh' h2 q => ?_)
  obtain ⟨rfl, rfl, F2, T2⟩ := q
  (try simp (disch := omega) only [bi_0, x_ic, x_lc, x_ld, x_st, x_sl, x_inc, x_b32, x_b64, x_d32, x_d64, x_s64, x_un, x_lcmp, x_dup, x_pop, x_dup2, x_if, x_cmp, x_sw, swk, x_ald, x_ast, x_alen, x_getf, x_putf, x_inv, x_mm, x_copy, x_iret, x_lret, x_vret, ok1, pu, ct, rcv, rcs, ent0, List.getElem?_cons_zero, List.getElem?_cons_succ, List.getElem?_nil, List.set_cons_zero, List.set_cons_succ, List.take_succ_cons, List.take_zero, List.drop_succ_cons, List.drop_zero, List.reverse_cons, List.reverse_nil, List.nil_append, List.cons_append, List.length_cons, List.length_nil, true_and, and_true, and_self, ne_eq, not_true_eq_false, not_false_eq_true, reduceIte, true_or, or_true, false_or, or_false, Nat.reduceAdd, Nat.reduceSub, Nat.reduceMul, Nat.reduceLeDiff, Nat.reduceEqDiff, Nat.reduceLT, Nat.le_refl, Nat.zero_le, Int.reduceToNat, Int.reduceAdd, Int.reduceSub, Int.reduceMul, Int.reduceNeg, Int.reduceLT, Int.reduceLE, Int.reduceEq, Nat.zero_add, Nat.add_zero, Nat.reduceBEq, Nat.one_ne_zero, Nat.zero_ne_one, Nat.lt_irrefl, Nat.succ_ne_zero, w32_id, ixc, ixc2, Int.toNat_natCast, ob_214])
  refine Cl.imp (r_lay (l := l) (d := d) (F2.lay (F1.lay L1)) T2 c) (fun r sh' h3 q => ?_)
  obtain ⟨rfl, rfl, F3, T3⟩ := q
  have t3 := T3.1
  (try simp (disch := omega) only [bi_0, x_ic, x_lc, x_ld, x_st, x_sl, x_inc, x_b32, x_b64, x_d32, x_d64, x_s64, x_un, x_lcmp, x_dup, x_pop, x_dup2, x_if, x_cmp, x_sw, swk, x_ald, x_ast, x_alen, x_getf, x_putf, x_inv, x_mm, x_copy, x_iret, x_lret, x_vret, ok1, pu, ct, rcv, rcs, ent0, List.getElem?_cons_zero, List.getElem?_cons_succ, List.getElem?_nil, List.set_cons_zero, List.set_cons_succ, List.take_succ_cons, List.take_zero, List.drop_succ_cons, List.drop_zero, List.reverse_cons, List.reverse_nil, List.nil_append, List.cons_append, List.length_cons, List.length_nil, true_and, and_true, and_self, ne_eq, not_true_eq_false, not_false_eq_true, reduceIte, true_or, or_true, false_or, or_false, Nat.reduceAdd, Nat.reduceSub, Nat.reduceMul, Nat.reduceLeDiff, Nat.reduceEqDiff, Nat.reduceLT, Nat.le_refl, Nat.zero_le, Int.reduceToNat, Int.reduceAdd, Int.reduceSub, Int.reduceMul, Int.reduceNeg, Int.reduceLT, Int.reduceLE, Int.reduceEq, Nat.zero_add, Nat.add_zero, Nat.reduceBEq, Nat.one_ne_zero, Nat.zero_ne_one, Nat.lt_irrefl, Nat.succ_ne_zero, w32_id, ixc, ixc2, Int.toNat_natCast, ob_214, t3])
  exact hQ _ _ _ ⟨rfl, rfl, (F1.trans F2).trans F3, T3⟩
theorem c_feed (L : Lay h) (Tp : TpC h X) (a b c : Int) : Cl l (d + 3) M_X10_feed [(2, 1), (1, a), (1, b), (1, c)] SHP h (fun r sh' h' => r = ((fd3 a b c X).2 : Int) ∧ sh' = SHP ∧ Ftc h h' ∧ TpC h' (fd3 a b c X)) := by
  refine Cl_hide (fun Q hQ => ?_)
  show V l (d + 3) 0 0 M_X10_feed 0 0 0 Q [(2, 1), (1, a), (9, 0), (1, b), (9, 0), (1, c), (9, 0)] [] SHP h
  refine S_X10_feed_0 _ _ _ _ ?_; simp (disch := omega) only [B_X10_feed_0, bi_0, x_ic, x_lc, x_ld, x_st, x_sl, x_inc, x_b32, x_b64, x_d32, x_d64, x_s64, x_un, x_lcmp, x_dup, x_pop, x_dup2, x_if, x_cmp, x_sw, swk, x_ald, x_ast, x_alen, x_getf, x_putf, x_inv, x_mm, x_copy, x_iret, x_lret, x_vret, ok1, pu, ct, rcv, rcs, ent0, List.getElem?_cons_zero, List.getElem?_cons_succ, List.getElem?_nil, List.set_cons_zero, List.set_cons_succ, List.take_succ_cons, List.take_zero, List.drop_succ_cons, List.drop_zero, List.reverse_cons, List.reverse_nil, List.nil_append, List.cons_append, List.length_cons, List.length_nil, true_and, and_true, and_self, ne_eq, not_true_eq_false, not_false_eq_true, reduceIte, true_or, or_true, false_or, or_false, Nat.reduceAdd, Nat.reduceSub, Nat.reduceMul, Nat.reduceLeDiff, Nat.reduceEqDiff, Nat.reduceLT, Nat.le_refl, Nat.zero_le, Int.reduceToNat, Int.reduceAdd, Int.reduceSub, Int.reduceMul, Int.reduceNeg, Int.reduceLT, Int.reduceLE, Int.reduceEq, Nat.zero_add, Nat.add_zero, Nat.reduceBEq, Nat.one_ne_zero, Nat.zero_ne_one, Nat.lt_irrefl, Nat.succ_ne_zero, w32_id, ixc, ixc2, Int.toNat_natCast, ob_0]
  refine Cl.imp (c_appendBytes (l := l) (d := d) L Tp a) (fun r sh' h1 q => ?_)
  obtain ⟨rfl, rfl, F1, T1⟩ := q
  (try simp (disch := omega) only [bi_0, x_ic, x_lc, x_ld, x_st, x_sl, x_inc, x_b32, x_b64, x_d32, x_d64, x_s64, x_un, x_lcmp, x_dup, x_pop, x_dup2, x_if, x_cmp, x_sw, swk, x_ald, x_ast, x_alen, x_getf, x_putf, x_inv, x_mm, x_copy, x_iret, x_lret, x_vret, ok1, pu, ct, rcv, rcs, ent0, List.getElem?_cons_zero, List.getElem?_cons_succ, List.getElem?_nil, List.set_cons_zero, List.set_cons_succ, List.take_succ_cons, List.take_zero, List.drop_succ_cons, List.drop_zero, List.reverse_cons, List.reverse_nil, List.nil_append, List.cons_append, List.length_cons, List.length_nil, true_and, and_true, and_self, ne_eq, not_true_eq_false, not_false_eq_true, reduceIte, true_or, or_true, false_or, or_false, Nat.reduceAdd, Nat.reduceSub, Nat.reduceMul, Nat.reduceLeDiff, Nat.reduceEqDiff, Nat.reduceLT, Nat.le_refl, Nat.zero_le, Int.reduceToNat, Int.reduceAdd, Int.reduceSub, Int.reduceMul, Int.reduceNeg, Int.reduceLT, Int.reduceLE, Int.reduceEq, Nat.zero_add, Nat.add_zero, Nat.reduceBEq, Nat.one_ne_zero, Nat.zero_ne_one, Nat.lt_irrefl, Nat.succ_ne_zero, w32_id, ixc, ixc2, Int.toNat_natCast, ob_0])
  refine Cl.imp (c_appendBytes (l := l) (d := d) (F1.lay L) T1 b) (fun r sh' h2 q => ?_)
  obtain ⟨rfl, rfl, F2, T2⟩ := q
  (try simp (disch := omega) only [bi_0, x_ic, x_lc, x_ld, x_st, x_sl, x_inc, x_b32, x_b64, x_d32, x_d64, x_s64, x_un, x_lcmp, x_dup, x_pop, x_dup2, x_if, x_cmp, x_sw, swk, x_ald, x_ast, x_alen, x_getf, x_putf, x_inv, x_mm, x_copy, x_iret, x_lret, x_vret, ok1, pu, ct, rcv, rcs, ent0, List.getElem?_cons_zero, List.getElem?_cons_succ, List.getElem?_nil, List.set_cons_zero, List.set_cons_succ, List.take_succ_cons, List.take_zero, List.drop_succ_cons, List.drop_zero, List.reverse_cons, List.reverse_nil, List.nil_append, List.cons_append, List.length_cons, List.length_nil, true_and, and_true, and_self, ne_eq, not_true_eq_false, not_false_eq_true, reduceIte, true_or, or_true, false_or, or_false, Nat.reduceAdd, Nat.reduceSub, Nat.reduceMul, Nat.reduceLeDiff, Nat.reduceEqDiff, Nat.reduceLT, Nat.le_refl, Nat.zero_le, Int.reduceToNat, Int.reduceAdd, Int.reduceSub, Int.reduceMul, Int.reduceNeg, Int.reduceLT, Int.reduceLE, Int.reduceEq, Nat.zero_add, Nat.add_zero, Nat.reduceBEq, Nat.one_ne_zero, Nat.zero_ne_one, Nat.lt_irrefl, Nat.succ_ne_zero, w32_id, ixc, ixc2, Int.toNat_natCast, ob_0])
  refine Cl.imp (c_appendBytes (l := l) (d := d) (F2.lay (F1.lay L)) T2 c) (fun r sh' h3 q => ?_)
  obtain ⟨rfl, rfl, F3, T3⟩ := q
  have t3 := T3.1
  have a0 := ly_0_0 (F3.lay (F2.lay (F1.lay L)))
  (try simp (disch := omega) only [bi_0, x_ic, x_lc, x_ld, x_st, x_sl, x_inc, x_b32, x_b64, x_d32, x_d64, x_s64, x_un, x_lcmp, x_dup, x_pop, x_dup2, x_if, x_cmp, x_sw, swk, x_ald, x_ast, x_alen, x_getf, x_putf, x_inv, x_mm, x_copy, x_iret, x_lret, x_vret, ok1, pu, ct, rcv, rcs, ent0, List.getElem?_cons_zero, List.getElem?_cons_succ, List.getElem?_nil, List.set_cons_zero, List.set_cons_succ, List.take_succ_cons, List.take_zero, List.drop_succ_cons, List.drop_zero, List.reverse_cons, List.reverse_nil, List.nil_append, List.cons_append, List.length_cons, List.length_nil, true_and, and_true, and_self, ne_eq, not_true_eq_false, not_false_eq_true, reduceIte, true_or, or_true, false_or, or_false, Nat.reduceAdd, Nat.reduceSub, Nat.reduceMul, Nat.reduceLeDiff, Nat.reduceEqDiff, Nat.reduceLT, Nat.le_refl, Nat.zero_le, Int.reduceToNat, Int.reduceAdd, Int.reduceSub, Int.reduceMul, Int.reduceNeg, Int.reduceLT, Int.reduceLE, Int.reduceEq, Nat.zero_add, Nat.add_zero, Nat.reduceBEq, Nat.one_ne_zero, Nat.zero_ne_one, Nat.lt_irrefl, Nat.succ_ne_zero, w32_id, ixc, ixc2, Int.toNat_natCast, ob_0, a0, ob_1, t3])
  exact hQ _ _ _ ⟨rfl, rfl, (F1.trans F2).trans F3, T3⟩
end FE

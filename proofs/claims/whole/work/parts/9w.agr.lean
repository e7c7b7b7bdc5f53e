/-! two rows that are the same net -/
def Agr (nt nt' : Nat → Int) : Prop := WN nt ∧ ∀ j, j < 110 → nt' j = nt j
section AGR
variable {nt nt' : Nat → Int}
theorem Agr.vO (A : Agr nt nt') {c : Int} (h0 : 0 ≤ c) (h1 : c < nt 0) (t : Int) : vOf nt' c t = vOf nt c t := by
  obtain ⟨⟨c1, c2⟩, ⟨l1, l2⟩, ⟨a1, a2⟩, _, _⟩ := A.1.wc.2 c h0 h1
  have e := A.2
  unfold vOf
  rw [e (4 + 11 * c).toNat (by omega), e (4 + 11 * c + 1).toNat (by omega), e (4 + 11 * c + 2).toNat (by omega)]
  by_cases x : t < nt (4 + 11 * c).toNat
  · rw [if_pos x, if_pos x, e _ (by omega)]
  · rw [if_neg x, if_neg x]
    obtain ⟨L, hL⟩ : ∃ L, L = nt (4 + 11 * c).toNat := ⟨_, rfl⟩
    obtain ⟨B, hB⟩ : ∃ B, B = nt (4 + 11 * c + 1).toNat := ⟨_, rfl⟩
    rw [← hL, ← hB]
    rw [← hL] at l1 l2 a2 x
    rw [← hB] at a1 a2
    have d := ediv_b (a := t - L) (b := B) (by omega) (by omega)
    obtain ⟨q, hq⟩ : ∃ q, q = (t - L) / B := ⟨_, rfl⟩
    rw [← hq] at d ⊢
    have m1 : (q + 1) * B = q * B + B := by rw [Int.add_mul, Int.one_mul]
    rw [m1, e _ (by omega)]
theorem Agr.n0 (A : Agr nt nt') : nt' 0 = nt 0 := A.2 0 (by decide)
theorem Agr.n1 (A : Agr nt nt') : nt' 1 = nt 1 := A.2 1 (by decide)
theorem Agr.n2 (A : Agr nt nt') : nt' 2 = nt 2 := A.2 2 (by decide)
theorem Agr.hop (A : Agr nt nt') {f : Nat} (hf : (f : Int) < nt 2) (n : Int) : hop nt' f n = hop nt f n := by
  have := A.1.nf
  exact hop_cg (A.1.hpB f hf).2 (fun j a b => A.2 j (by omega))
theorem Agr.ov (A : Agr nt nt') (n : Nat) : ovr nt' n = ovr nt n := by
  funext f
  unfold ovr
  rw [A.n2]
  by_cases x : (f : Int) < nt 2
  · rw [A.hop x]
  · rw [decide_eq_false x, Bool.false_and, Bool.false_and]
theorem Agr.kdE (A : Agr nt nt') {n : Nat} (hn : n < 4) : kd nt' n = kd nt n := A.2 _ (by omega)
theorem Agr.cuE (A : Agr nt nt') {n : Nat} (hn : n < 4) : cu nt' n = cu nt n := A.2 _ (by omega)
theorem Agr.sbE (A : Agr nt nt') {f : Nat} (hf : f < 4) : sby nt' f = sby nt f := A.2 _ (by omega)
theorem Agr.hpE (A : Agr nt nt') {f : Nat} (hf : f < 4) : hp nt' f = hp nt f := A.2 _ (by omega)
theorem Agr.ndE (A : Agr nt nt') {f k : Nat} (hf : f < 4) (hk : k < 4) : nd nt' f k = nd nt f k := A.2 _ (by omega)
theorem Agr.arvE (A : Agr nt nt') (D : Nat → Int) {f : Nat} (hf : (f : Int) < nt 2) (n t : Int) : arv nt' D f n t = arv nt D f n t := by
  have := A.1.nf
  have sb := A.1.sb f hf
  unfold arv
  rw [A.hop hf, A.sbE (by omega), A.vO sb.1 sb.2]
theorem Agr.arSE (A : Agr nt nt') (D : Nat → Int) (n : Nat) (P : Nat → Bool) (t : Int) : arS nt' D n P t = arS nt D n P t := by
  have := A.1.nf
  unfold arS
  rw [A.n2]
  exact sm_cong (fun i q => by rw [A.arvE D (by omega)])
theorem Agr.cuTE (A : Agr nt nt') (tn tc : Int) {n : Nat} (hn : n < 4) : cuT nt' tn tc n = cuT nt tn tc n := by
  unfold cuT
  rw [A.cuE hn]
theorem Agr.srvE (A : Agr nt nt') {tn tc : Int} (ht : TrW nt tn tc) {n : Nat} (hn : (n : Int) < nt 1) (t : Int) : srv nt' tn tc n t = srv nt tn tc n t := by
  have := A.1.nn
  have b := cuT_b A.1 ht hn
  unfold srv
  rw [A.cuTE tn tc (by omega), A.vO b.1 b.2]
theorem Agr.othE (A : Agr nt nt') (f : Nat) {n : Nat} (hn : n < 4) : oth nt' f n = oth nt f n := by
  unfold oth
  rw [A.kdE hn, A.ov n]
theorem Agr.lftE (A : Agr nt nt') (D : Nat → Int) {tn tc : Int} (ht : TrW nt tn tc) (f : Nat) {n : Nat} (hn : (n : Int) < nt 1) (t : Nat) : lft nt' D tn tc f n t = lft nt D tn tc f n t := by
  have := A.1.nn
  unfold lft
  rw [A.kdE (by omega), A.srvE ht hn, A.ov n, A.othE f (by omega)]
  have e : (fun s : Nat => srv nt' tn tc n s - arS nt' D n (oth nt f n) s) = fun s : Nat => srv nt tn tc n s - arS nt D n (oth nt f n) s := by
    funext s
    rw [A.srvE ht hn, A.arSE]
  rw [e]
theorem Agr.arrE (A : Agr nt nt') (D : Nat → Int) {f k : Nat} (hf : (f : Int) < nt 2) (hk : (k : Int) < hp nt f) : arrR nt' D f k = arrR nt D f k := by
  have nf := A.1.nf
  have hb := A.1.hpB f hf
  have n1 := A.1.nn
  have nb := A.1.ndB f k hf hk
  have sb := A.1.sb f hf
  funext t
  unfold arrR
  rw [A.ndE (by omega) (by omega), A.kdE (by omega), A.arSE, A.ov, A.sbE (by omega), A.vO sb.1 sb.2]
theorem Agr.hI (A : Agr nt nt') (i : Nat) : HopI nt' i = HopI nt i := by
  have nf := A.1.nf
  unfold HopI
  rw [A.n2]
  by_cases x : ((i / 4 : Nat) : Int) < nt 2
  · rw [A.hpE (by omega)]
  · exact propext ⟨fun q => absurd q.1 x, fun q => absurd q.1 x⟩
theorem Agr.dlyE (A : Agr nt nt') {tn tc : Int} (ht : TrW nt tn tc) (D : Nat → Int) {i : Nat} (hi : HopI nt i) : dly nt' tn tc D i = dly nt tn tc D i := by
  have nf := A.1.nf
  have hb := A.1.hpB _ hi.1
  have nb := A.1.ndB _ _ hi.1 hi.2
  have h1 := hi.1
  unfold dly
  rw [A.arrE D hi.1 hi.2, A.ndE (by omega) (by omega)]
  have e : (fun t => lft nt' D tn tc (i / 4) (nd nt (i / 4) (i % 4)).toNat t) = fun t => lft nt D tn tc (i / 4) (nd nt (i / 4) (i % 4)).toNat t := by
    funext t
    rw [A.lftE D ht _ (by omega)]
  rw [e]
theorem Agr.nxE (A : Agr nt nt') {tn tc : Int} (ht : TrW nt tn tc) (D : Nat → Int) : nxD nt' tn tc D = nxD nt tn tc D := by
  funext i
  unfold nxD
  rw [A.hI]
  by_cases x : HopI nt i
  · rw [iF_t x, iF_t x, A.dlyE ht D x]
  · rw [iF_f x, iF_f x]
theorem Agr.badE (A : Agr nt nt') {tn tc : Int} (ht : TrW nt tn tc) (D : Nat → Int) : Bad nt' tn tc D = Bad nt tn tc D := by
  unfold Bad
  refine propext ⟨fun ⟨i, a, b, c⟩ => ?_, fun ⟨i, a, b, c⟩ => ?_⟩
  · rw [A.hI] at b
    rw [A.dlyE ht D b] at c
    exact ⟨i, a, b, c⟩
  · exact ⟨i, a, by rw [A.hI]; exact b, by rw [A.dlyE ht D b]; exact c⟩
theorem Agr.chgE (A : Agr nt nt') {tn tc : Int} (ht : TrW nt tn tc) (D : Nat → Int) (m : Nat) : Chg nt' tn tc D m = Chg nt tn tc D m := by
  unfold Chg
  refine propext ⟨fun ⟨i, a, b, c⟩ => ?_, fun ⟨i, a, b, c⟩ => ?_⟩
  · rw [A.hI] at b
    rw [A.dlyE ht D b] at c
    exact ⟨i, a, b, c⟩
  · exact ⟨i, a, by rw [A.hI]; exact b, by rw [A.dlyE ht D b]; exact c⟩
theorem Agr.stlE (A : Agr nt nt') {tn tc : Int} (ht : TrW nt tn tc) : ∀ (f r : Nat) (D : Nat → Int), stl nt' tn tc f r D = stl nt tn tc f r D
  | 0, _, _ => rfl
  | f + 1, r, D => by
    rw [stl, stl, A.badE ht, A.chgE ht, A.nxE ht, Agr.stlE A ht f]
theorem Agr.rdsE (A : Agr nt nt') {tn tc : Int} (ht : TrW nt tn tc) : rds nt' tn tc = rds nt tn tc := by unfold rds; rw [A.stlE ht]
theorem Agr.dlsE (A : Agr nt nt') {tn tc : Int} (ht : TrW nt tn tc) : dls nt' tn tc = dls nt tn tc := by unfold dls; rw [A.stlE ht]
theorem Agr.triE (A : Agr nt nt') {n c : Int} (ht : TrW nt n c) {f : Nat} (hf : f < 4) : triF nt' n c f = triF nt n c f := by
  unfold triF
  rw [A.rdsE ht, A.dlsE ht, A.hpE hf]
theorem Agr.wn (A : Agr nt nt') : WN nt' := by
  obtain ⟨⟨w0, wc⟩, w1, w2, w3, w4, w5, w6, w7, w8⟩ := A.1
  have n0 := A.n0
  have n1 := A.n1
  have n2 := A.n2
  refine ⟨⟨by rw [n0]; exact w0, fun c a b => ?_⟩, by rw [n1]; exact w1, by rw [n2]; exact w2, fun q hq => ?_, fun q hq => ?_, fun f hf => ?_, fun f hf => ?_, fun f k hf hk => ?_, fun f j k hf hj hk => ?_⟩
  · rw [n0] at b
    obtain ⟨x1, x2, x3, x4, x5⟩ := wc c a b
    unfold CW
    rw [A.2 (4 + 11 * c).toNat (by omega), A.2 (4 + 11 * c + 1).toNat (by omega), A.2 (4 + 11 * c + 2).toNat (by omega)]
    exact ⟨x1, x2, x3, x4, fun j j0 j1 => by rw [A.2 _ (by omega)]; exact x5 j j0 j1⟩
  · rw [n1] at hq; rw [A.kdE (by omega)]; exact w3 q hq
  · rw [n1] at hq; rw [A.cuE (by omega), n0]; exact w4 q hq
  · rw [n2] at hf; rw [A.sbE (by omega), n0]; exact w5 f hf
  · rw [n2] at hf; rw [A.hpE (by omega)]; exact w6 f hf
  · rw [n2] at hf
    rw [A.hpE (by omega)] at hk
    have := w6 f hf
    rw [A.ndE (by omega) (by omega), n1]; exact w7 f k hf hk
  · rw [n2] at hf
    rw [A.hpE (by omega)] at hj hk
    have := w6 f hf
    rw [A.ndE (by omega) (by omega), A.ndE (by omega) (by omega)]
    exact w8 f j k hf hj hk
theorem Agr.mono (A : Agr nt nt') (M : Mono nt) : Mono nt' := fun c t c0 c1 t0 t1 => by
  rw [A.n0] at c1
  rw [A.vO c0 c1, A.vO c0 c1]
  exact M c t c0 c1 t0 t1
end AGR

/-! settling as a function; the reference settles so -/
noncomputable def iF {α : Type} (p : Prop) (a b : α) : α := @ite α p (Classical.propDecidable p) a b
theorem iF_t {α : Type} {p : Prop} {a b : α} (h : p) : iF p a b = a := @if_pos p (Classical.propDecidable p) h α a b
theorem iF_f {α : Type} {p : Prop} {a b : α} (h : ¬ p) : iF p a b = b := @if_neg p (Classical.propDecidable p) h α a b
/-- place i is a hop: of the flow i / 4 the hop i % 4 -/
def HopI (nt : Nat → Int) (i : Nat) : Prop := ((i / 4 : Nat) : Int) < nt 2 ∧ ((i % 4 : Nat) : Int) < hp nt (i / 4)
/-- the delay of a flow at a hop, by the delays ahead -/
def dly (nt : Nat → Int) (tn tc : Int) (D : Nat → Int) (i : Nat) : Int := lat (arrR nt D (i / 4) (i % 4)) (fun t => lft nt D tn tc (i / 4) (nd nt (i / 4) (i % 4)).toNat t)
noncomputable def nxD (nt : Nat → Int) (tn tc : Int) (D : Nat → Int) (i : Nat) : Int := iF (HopI nt i) (dly nt tn tc D i) 0
def Bad (nt : Nat → Int) (tn tc : Int) (D : Nat → Int) : Prop := ∃ i, i < 16 ∧ HopI nt i ∧ dly nt tn tc D i < 0
def Chg (nt : Nat → Int) (tn tc : Int) (D : Nat → Int) (b : Nat) : Prop := ∃ i, i < b ∧ HopI nt i ∧ dly nt tn tc D i ≠ D i
noncomputable def stl (nt : Nat → Int) (tn tc : Int) : Nat → Nat → (Nat → Int) → Int × (Nat → Int)
  | 0, _, D => (-1, D)
  | f + 1, r, D => iF (Bad nt tn tc D) (-1, D) (iF (Chg nt tn tc D 16) (stl nt tn tc f (r + 1) (nxD nt tn tc D)) ((r : Int), nxD nt tn tc D))
theorem hopI_at {nt : Nat → Int} {f k : Nat} (hk : k < 4) : HopI nt (4 * f + k) ↔ (f : Int) < nt 2 ∧ (k : Int) < hp nt f := by
  unfold HopI
  rw [show (4 * f + k) / 4 = f by omega, show (4 * f + k) % 4 = k by omega]
theorem dly_at {nt : Nat → Int} {tn tc : Int} {D : Nat → Int} {f k : Nat} (hk : k < 4) : dly nt tn tc D (4 * f + k) = lat (arrR nt D f k) (fun t => lft nt D tn tc f (nd nt f k).toNat t) := by
  unfold dly
  rw [show (4 * f + k) / 4 = f by omega, show (4 * f + k) % 4 = k by omega]
theorem dly_r (nt : Nat → Int) (tn tc : Int) (D : Nat → Int) (i : Nat) : -1 ≤ dly nt tn tc D i ∧ dly nt tn tc D i ≤ 60 := lat_r _ _
theorem nxD_b {nt : Nat → Int} {tn tc : Int} {D : Nat → Int} (hB : ¬ Bad nt tn tc D) : DB (nxD nt tn tc D) := by
  intro i hi
  unfold nxD
  by_cases e : HopI nt i
  · rw [iF_t e]
    have := dly_r nt tn tc D i
    by_cases q : dly nt tn tc D i < 0
    · exact absurd ⟨i, hi, e, q⟩ hB
    · omega
  · rw [iF_f e]; omega
theorem stl_b {nt : Nat → Int} {tn tc : Int} : ∀ (f r : Nat) (D : Nat → Int), 1 ≤ r → ((stl nt tn tc f r D).1 = -1 ∨ ((r : Int) ≤ (stl nt tn tc f r D).1 ∧ (stl nt tn tc f r D).1 < r + f ∧ DB (stl nt tn tc f r D).2))
  | 0, _, _, _ => Or.inl rfl
  | f + 1, r, D, hr => by
    unfold stl
    by_cases hB : Bad nt tn tc D
    · rw [iF_t hB]; exact Or.inl rfl
    · rw [iF_f hB]
      by_cases hC : Chg nt tn tc D 16
      · rw [iF_t hC]
        rcases stl_b (nt := nt) (tn := tn) (tc := tc) f (r + 1) (nxD nt tn tc D) (by omega) with q | ⟨q1, q2, q3⟩
        · exact Or.inl q
        · exact Or.inr ⟨by omega, by omega, q3⟩
      · rw [iF_f hC]
        exact Or.inr ⟨Int.le_refl _, by show (r : Int) < r + (f + 1 : Nat); omega, nxD_b hB⟩
def zer : Nat → Int := fun _ => 0
theorem zer_b : DB zer := fun _ _ => ⟨Int.le_refl 0, show (0 : Int) ≤ 60 by decide⟩
/-- in how many rounds, and the delays -/
noncomputable def rds (nt : Nat → Int) (tn tc : Int) : Int := (stl nt tn tc 60 1 zer).1
noncomputable def dls (nt : Nat → Int) (tn tc : Int) : Nat → Int := (stl nt tn tc 60 1 zer).2
theorem rds_b (nt : Nat → Int) (tn tc : Int) : rds nt tn tc = -1 ∨ (1 ≤ rds nt tn tc ∧ rds nt tn tc ≤ 60 ∧ DB (dls nt tn tc)) := by
  unfold rds dls
  rcases stl_b (nt := nt) (tn := tn) (tc := tc) 60 1 zer (by decide) with q | ⟨q1, q2, q3⟩
  · exact Or.inl q
  · exact Or.inr ⟨by omega, by omega, q3⟩
theorem sm_c0 {D D' : Nat → Int} (h : ∀ i, i < 16 → D i = D' i) {f k : Nat} (hf : f < 4) (hk : k ≤ 4) : ah D f k = ah D' f k := sm_cong (fun i q => h _ (by omega))
section DC
variable {nt D D' : Nat → Int} (W : WN nt) (h : ∀ i, i < 16 → D i = D' i)
theorem arv_c (W : WN nt) (h : ∀ i, i < 16 → D i = D' i) {f : Nat} (hf : (f : Int) < nt 2) (n t : Int) : arv nt D f n t = arv nt D' f n t := by
  have hb := W.hpB f hf
  have nf := W.nf
  unfold arv
  by_cases e : 0 ≤ hop nt f n
  · have := hop_some e
    rw [sm_c0 h (by omega) (by omega)]
  · rw [sm_c0 h (by omega) (by omega)]
theorem arS_c (W : WN nt) (h : ∀ i, i < 16 → D i = D' i) (n : Nat) (P : Nat → Bool) (t : Int) : arS nt D n P t = arS nt D' n P t := by
  unfold arS
  refine sm_cong (fun i hi => ?_)
  rw [arv_c W h (by omega)]
theorem lft_c (W : WN nt) (h : ∀ i, i < 16 → D i = D' i) (tn tc : Int) (f n t : Nat) : lft nt D tn tc f n t = lft nt D' tn tc f n t := by
  unfold lft
  rw [mx0_cong (fun i _ => by rw [arS_c W h])]
theorem arrR_c (W : WN nt) (h : ∀ i, i < 16 → D i = D' i) {f k : Nat} (hf : (f : Int) < nt 2) (hk : (k : Int) < hp nt f) (t : Nat) : arrR nt D f k t = arrR nt D' f k t := by
  have hb := W.hpB f hf
  have nf := W.nf
  unfold arrR
  rw [arS_c W h, sm_c0 h (by omega) (by omega)]
theorem dly_c (W : WN nt) (h : ∀ i, i < 16 → D i = D' i) (tn tc : Int) {i : Nat} (hi : HopI nt i) : dly nt tn tc D i = dly nt tn tc D' i := by
  unfold dly
  exact lat_cong (fun j _ => arrR_c W h hi.1 hi.2 j) (fun j _ => lft_c W h _ _ _ _ _)
end DC
/-- the reference's cells while it settles: delays as told, those anew up to b -/
def SJ (h : Mem) (nt : Nat → Int) (tn tc : Int) (D : Nat → Int) (b : Nat) (m : Mem) : Prop := Fr [229, 230, 232, 233] h m ∧ (∀ i, i < 16 → m 232 i = D i) ∧ (∀ i, i < 16 → (i < b ∨ ¬ HopI nt i) → m 233 i = nxD nt tn tc D i) ∧ ∀ i, i < b → HopI nt i → 0 ≤ dly nt tn tc D i
theorem SJ.up {h : Mem} {nt : Nat → Int} {tn tc : Int} {D : Nat → Int} {b b' : Nat} {m : Mem} (J : SJ h nt tn tc D b m) (hb : ∀ i, b ≤ i → i < b' → ¬ HopI nt i) : SJ h nt tn tc D b' m := ⟨J.1, J.2.1, fun i hi q => by
    by_cases e : i < b
    · exact J.2.2.1 i hi (Or.inl e)
    · by_cases e2 : HopI nt i
      · exact absurd e2 (hb i (by omega) (by rcases q with q | q; exact q; exact absurd e2 q))
      · exact J.2.2.1 i hi (Or.inr e2), fun i hi q => by
    by_cases e : i < b
    · exact J.2.2.2 i e q
    · exact absurd q (hb i (by omega) hi)⟩
theorem Chg_up {nt : Nat → Int} {tn tc : Int} {D : Nat → Int} {b b' : Nat} (hbb : b ≤ b') (hb : ∀ i, b ≤ i → i < b' → ¬ HopI nt i) : Chg nt tn tc D b ↔ Chg nt tn tc D b' := ⟨fun ⟨i, q1, q2, q3⟩ => ⟨i, by omega, q2, q3⟩, fun ⟨i, q1, q2, q3⟩ => ⟨i, by
    by_cases e : i < b
    · exact e
    · exact absurd q2 (hb i (by omega) q1), q2, q3⟩⟩
theorem Chg_1 {nt : Nat → Int} {tn tc : Int} {D : Nat → Int} {b : Nat} (hh : HopI nt b) : Chg nt tn tc D (b + 1) ↔ (Chg nt tn tc D b ∨ dly nt tn tc D b ≠ D b) := ⟨fun ⟨i, q1, q2, q3⟩ => by
    by_cases e : i = b
    · subst e; exact Or.inr q3
    · exact Or.inl ⟨i, by omega, q2, q3⟩, fun q => by
    rcases q with ⟨i, q1, q2, q3⟩ | q
    · exact ⟨i, by omega, q2, q3⟩
    · exact ⟨b, by omega, hh, q⟩⟩
section RS
variable {l : Launch} {d : Nat} {h : Mem}
theorem r_settles (L : Lay h) (W : WN (h 220)) (ht : TrW (h 220) (h 214 19) (h 214 20)) : Cl l (d + 5) M_X11_settles [(2, 215)] SHP h (fun r sh' h' => r = rds (h 220) (h 214 19) (h 214 20) ∧ sh' = SHP ∧ Fr [229, 230, 232, 233] h h' ∧ (0 < r → ∀ i, i < 16 → h' 232 i = dls (h 220) (h 214 19) (h 214 20) i)) := by
  have nf := W.nf
  have nn := W.nn
  obtain ⟨Q, hQ⟩ : ∃ Q : Int → Shp → Mem → Prop, Q = (fun r sh' h' => r = rds (h 220) (h 214 19) (h 214 20) ∧ sh' = SHP ∧ Fr [229, 230, 232, 233] h h' ∧ (0 < r → ∀ i, i < 16 → h' 232 i = dls (h 220) (h 214 19) (h 214 20) i)) := ⟨_, rfl⟩
  rw [← hQ]
  obtain ⟨nt, ent⟩ : ∃ nt, nt = h 220 := ⟨_, rfl⟩
  obtain ⟨tn, etn⟩ : ∃ tn, tn = h 214 19 := ⟨_, rfl⟩
  obtain ⟨tc, etc⟩ : ∃ tc, tc = h 214 20 := ⟨_, rfl⟩
  rw [← ent] at W nf nn
  rw [← ent, ← etn, ← etc] at hQ ht
  -- what is known of any such memory
  have kn : ∀ {D b m}, SJ h nt tn tc D b m → Lay m ∧ m 220 = nt ∧ m 214 = h 214 := fun {D b m} J => ⟨Lay_Fr L (by decide +kernel) J.1, by rw [ent]; exact J.1 220 (by decide), J.1 214 (by decide)⟩
  -- a round
  have rnd : ∀ (r : Nat) (D : Nat → Int), 1 ≤ r → r ≤ 60 → DB D →
      (Bad nt tn tc D → ∀ m, Fr [229, 230, 232, 233] h m → Q (-1) SHP m) →
      (¬ Bad nt tn tc D → ∀ m, SJ h nt tn tc D 16 m → V l (d + 5) 0 0 M_X11_settles 0 0 144 Q [(2, 215), (0, (r : Int)), (0, bI (Chg nt tn tc D 16)), (9, 0), (9, 0), (9, 0)] [] SHP m) →
      ∀ m, SJ h nt tn tc D 0 m → V l (d + 5) 0 0 M_X11_settles 0 0 40 Q [(2, 215), (0, (r : Int)), (0, 0), (0, 0), (9, 0), (9, 0)] [] SHP m := by
    intro r D hr1 hr2 hD hbad hgo m0 J0
    have key := V_jx (l := l) (d := d + 5) (K := 0) (N := 0) (y := M_X11_settles) (k := 0) (n := 0) (pc := 40) (Q := Q) (fun f => [(2, 215), (0, (r : Int)), (0, bI (Chg nt tn tc D (4 * f))), (0, (f : Int)), (9, 0), (9, 0)]) (fun f m => SJ h nt tn tc D (4 * f) m) (nt 2).toNat (fun f m hf J ih => ?_) (fun m J => ?_) m0 J0
    · rw [show bI (Chg nt tn tc D (4 * 0)) = 0 from bI_f (fun ⟨i, q, _⟩ => by omega)] at key
      exact key
    · obtain ⟨Lm, e220, e214⟩ := kn J
      have c1 := r_flows (l := l) (d := d + 3) Lm
      rw [e220] at c1
      have hfl : (f : Int) < nt 2 := by omega
      have hh := W.hpB f hfl
      refine S_X11_settles_40 _ _ _ _ ?_; simp (disch := omega) only [B_X11_settles_40, bi_0, x_ic, x_lc, x_ld, x_st, x_sl, x_inc, x_b32, x_b64, x_d32, x_d64, x_s64, x_un, x_lcmp, x_dup, x_pop, x_dup2, x_if, x_cmp, x_sw, swk, x_ald, x_ast, x_alen, x_getf, x_putf, x_inv, x_mm, x_copy, x_iret, x_lret, x_vret, ok1, pu, ct, rcv, rcs, ent0, List.getElem?_cons_zero, List.getElem?_cons_succ, List.getElem?_nil, List.set_cons_zero, List.set_cons_succ, List.take_succ_cons, List.take_zero, List.drop_succ_cons, List.drop_zero, List.reverse_cons, List.reverse_nil, List.nil_append, List.cons_append, List.length_cons, List.length_nil, true_and, and_true, and_self, ne_eq, not_true_eq_false, not_false_eq_true, reduceIte, true_or, or_true, false_or, or_false, Nat.reduceAdd, Nat.reduceSub, Nat.reduceMul, Nat.reduceLeDiff, Nat.reduceEqDiff, Nat.reduceLT, Nat.le_refl, Nat.zero_le, Int.reduceToNat, Int.reduceAdd, Int.reduceSub, Int.reduceMul, Int.reduceNeg, Int.reduceLT, Int.reduceLE, Int.reduceEq, Nat.zero_add, Nat.add_zero, Nat.reduceBEq, Nat.one_ne_zero, Nat.zero_ne_one, Nat.lt_irrefl, Nat.succ_ne_zero, w32_id, ixc, ixc2, Int.toNat_natCast, ob_214]
      refine Cl.app c1 ?_
      (try simp (disch := omega) only [bi_0, x_ic, x_lc, x_ld, x_st, x_sl, x_inc, x_b32, x_b64, x_d32, x_d64, x_s64, x_un, x_lcmp, x_dup, x_pop, x_dup2, x_if, x_cmp, x_sw, swk, x_ald, x_ast, x_alen, x_getf, x_putf, x_inv, x_mm, x_copy, x_iret, x_lret, x_vret, ok1, pu, ct, rcv, rcs, ent0, List.getElem?_cons_zero, List.getElem?_cons_succ, List.getElem?_nil, List.set_cons_zero, List.set_cons_succ, List.take_succ_cons, List.take_zero, List.drop_succ_cons, List.drop_zero, List.reverse_cons, List.reverse_nil, List.nil_append, List.cons_append, List.length_cons, List.length_nil, true_and, and_true, and_self, ne_eq, not_true_eq_false, not_false_eq_true, reduceIte, true_or, or_true, false_or, or_false, Nat.reduceAdd, Nat.reduceSub, Nat.reduceMul, Nat.reduceLeDiff, Nat.reduceEqDiff, Nat.reduceLT, Nat.le_refl, Nat.zero_le, Int.reduceToNat, Int.reduceAdd, Int.reduceSub, Int.reduceMul, Int.reduceNeg, Int.reduceLT, Int.reduceLE, Int.reduceEq, Nat.zero_add, Nat.add_zero, Nat.reduceBEq, Nat.one_ne_zero, Nat.zero_ne_one, Nat.lt_irrefl, Nat.succ_ne_zero, w32_id, ixc, ixc2, Int.toNat_natCast])
      refine ⟨fun z => absurd z (by omega), fun _ => ?_⟩
      refine V_jx (l := l) (d := d + 5) (K := 0) (N := 0) (y := M_X11_settles) (k := 0) (n := 0) (pc := 51) (Q := Q) (fun k => [(2, 215), (0, (r : Int)), (0, bI (Chg nt tn tc D (4 * f + k))), (0, (f : Int)), (0, (k : Int)), (9, 0)]) (fun k m => SJ h nt tn tc D (4 * f + k) m) (hp nt f).toNat (fun k m hk J ih2 => ?_) (fun m J => ?_) m J
      · obtain ⟨Lm, e220, e214⟩ := kn J
        have hk4 : k < 4 := by omega
        have hki : (k : Int) < hp nt f := by omega
        have hH : HopI nt (4 * f + k) := (hopI_at hk4).mpr ⟨hfl, hki⟩
        have hnb := W.ndB f k hfl hki
        have D1 : DB (m 232) := fun i hi => by rw [J.2.1 i hi]; exact hD i hi
        obtain ⟨n, en⟩ : ∃ n : Nat, nd nt f k = (n : Int) := ⟨(nd nt f k).toNat, by omega⟩
        have ho := ovr_hop W hfl hki
        rw [en, Int.toNat_natCast] at ho
        have c2 := r_hopsOf (l := l) (d := d + 3) Lm (f := f) (by omega)
        have c3 := r_laysArriving (l := l) (d := d) Lm (by rw [e220]; exact W) D1 (f := f) (k := k) (by rw [e220]; exact hfl) (by rw [e220]; exact hki)
        rw [e220] at c2 c3
        obtain ⟨F, hF⟩ : ∃ F, F = arrR nt (m 232) f k := ⟨_, rfl⟩
        rw [← hF] at c3
        have L2 : Lay (row m 229 121 F) := Lay_row Lm (by decide +kernel)
        have c4 := r_nodeOf (l := l) (d := d + 3) L2 (f := f) (k := k) (by omega) (by omega)
        have c5 := r_laysLeft (l := l) (d := d) L2 (by rw [row_ne (by decide), e220]; exact W) (by rw [row_ne (by decide)]; exact D1) (by rw [row_ne (by decide), row_ne (by decide), e220, e214, ← etn, ← etc]; exact ht) (f := f) (n := n) (by rw [row_ne (by decide), e220]; exact hfl) (by rw [row_ne (by decide), e220]; omega) (by rw [row_ne (by decide), e220]; exact ho)
        rw [row_ne (by decide), row_ne (by decide), row_ne (by decide), e220, e214, ← etn, ← etc] at c5
        rw [row_ne (by decide), e220, en] at c4
        obtain ⟨G, hG⟩ : ∃ G, G = fun t : Nat => lft nt (m 232) tn tc f n t := ⟨_, rfl⟩
        rw [← hG] at c5
        have L3 : Lay (row (row m 229 121 F) 230 121 G) := Lay_row L2 (by decide +kernel)
        have c6 := r_lateness (l := l) (d := d + 3) L3
        have eL : lat (row (row m 229 121 F) 230 121 G 229) (row (row m 229 121 F) 230 121 G 230) = dly nt tn tc D (4 * f + k) := by
          rw [dly_at hk4, en, Int.toNat_natCast]
          refine lat_cong (fun j hj => ?_) (fun j hj => ?_)
          · rw [row_ne (by decide), row_at (by omega), hF]
            exact arrR_c W J.2.1 hfl hki j
          · rw [row_at (by omega), hG]
            exact lft_c W J.2.1 _ _ _ _ _
        rw [eL] at c6
        have a25 := ly_214_25 L3
        have a26 := ly_214_26 L3
        have dr := dly_r nt tn tc D (4 * f + k)
        refine S_X11_settles_51 _ _ _ _ ?_; simp (disch := omega) only [B_X11_settles_51, bi_0, x_ic, x_lc, x_ld, x_st, x_sl, x_inc, x_b32, x_b64, x_d32, x_d64, x_s64, x_un, x_lcmp, x_dup, x_pop, x_dup2, x_if, x_cmp, x_sw, swk, x_ald, x_ast, x_alen, x_getf, x_putf, x_inv, x_mm, x_copy, x_iret, x_lret, x_vret, ok1, pu, ct, rcv, rcs, ent0, List.getElem?_cons_zero, List.getElem?_cons_succ, List.getElem?_nil, List.set_cons_zero, List.set_cons_succ, List.take_succ_cons, List.take_zero, List.drop_succ_cons, List.drop_zero, List.reverse_cons, List.reverse_nil, List.nil_append, List.cons_append, List.length_cons, List.length_nil, true_and, and_true, and_self, ne_eq, not_true_eq_false, not_false_eq_true, reduceIte, true_or, or_true, false_or, or_false, Nat.reduceAdd, Nat.reduceSub, Nat.reduceMul, Nat.reduceLeDiff, Nat.reduceEqDiff, Nat.reduceLT, Nat.le_refl, Nat.zero_le, Int.reduceToNat, Int.reduceAdd, Int.reduceSub, Int.reduceMul, Int.reduceNeg, Int.reduceLT, Int.reduceLE, Int.reduceEq, Nat.zero_add, Nat.add_zero, Nat.reduceBEq, Nat.one_ne_zero, Nat.zero_ne_one, Nat.lt_irrefl, Nat.succ_ne_zero, w32_id, ixc, ixc2, Int.toNat_natCast, ob_214]
        refine Cl.app c2 ?_
        (try simp (disch := omega) only [bi_0, x_ic, x_lc, x_ld, x_st, x_sl, x_inc, x_b32, x_b64, x_d32, x_d64, x_s64, x_un, x_lcmp, x_dup, x_pop, x_dup2, x_if, x_cmp, x_sw, swk, x_ald, x_ast, x_alen, x_getf, x_putf, x_inv, x_mm, x_copy, x_iret, x_lret, x_vret, ok1, pu, ct, rcv, rcs, ent0, List.getElem?_cons_zero, List.getElem?_cons_succ, List.getElem?_nil, List.set_cons_zero, List.set_cons_succ, List.take_succ_cons, List.take_zero, List.drop_succ_cons, List.drop_zero, List.reverse_cons, List.reverse_nil, List.nil_append, List.cons_append, List.length_cons, List.length_nil, true_and, and_true, and_self, ne_eq, not_true_eq_false, not_false_eq_true, reduceIte, true_or, or_true, false_or, or_false, Nat.reduceAdd, Nat.reduceSub, Nat.reduceMul, Nat.reduceLeDiff, Nat.reduceEqDiff, Nat.reduceLT, Nat.le_refl, Nat.zero_le, Int.reduceToNat, Int.reduceAdd, Int.reduceSub, Int.reduceMul, Int.reduceNeg, Int.reduceLT, Int.reduceLE, Int.reduceEq, Nat.zero_add, Nat.add_zero, Nat.reduceBEq, Nat.one_ne_zero, Nat.zero_ne_one, Nat.lt_irrefl, Nat.succ_ne_zero, w32_id, ixc, ixc2, Int.toNat_natCast, ob_214])
        refine ⟨fun z => absurd z (by omega), fun _ => ?_⟩
        refine Cl.app c3 ?_
        (try simp (disch := omega) only [bi_0, x_ic, x_lc, x_ld, x_st, x_sl, x_inc, x_b32, x_b64, x_d32, x_d64, x_s64, x_un, x_lcmp, x_dup, x_pop, x_dup2, x_if, x_cmp, x_sw, swk, x_ald, x_ast, x_alen, x_getf, x_putf, x_inv, x_mm, x_copy, x_iret, x_lret, x_vret, ok1, pu, ct, rcv, rcs, ent0, List.getElem?_cons_zero, List.getElem?_cons_succ, List.getElem?_nil, List.set_cons_zero, List.set_cons_succ, List.take_succ_cons, List.take_zero, List.drop_succ_cons, List.drop_zero, List.reverse_cons, List.reverse_nil, List.nil_append, List.cons_append, List.length_cons, List.length_nil, true_and, and_true, and_self, ne_eq, not_true_eq_false, not_false_eq_true, reduceIte, true_or, or_true, false_or, or_false, Nat.reduceAdd, Nat.reduceSub, Nat.reduceMul, Nat.reduceLeDiff, Nat.reduceEqDiff, Nat.reduceLT, Nat.le_refl, Nat.zero_le, Int.reduceToNat, Int.reduceAdd, Int.reduceSub, Int.reduceMul, Int.reduceNeg, Int.reduceLT, Int.reduceLE, Int.reduceEq, Nat.zero_add, Nat.add_zero, Nat.reduceBEq, Nat.one_ne_zero, Nat.zero_ne_one, Nat.lt_irrefl, Nat.succ_ne_zero, w32_id, ixc, ixc2, Int.toNat_natCast, ob_214])
        refine Cl.app c4 ?_
        (try simp (disch := omega) only [bi_0, x_ic, x_lc, x_ld, x_st, x_sl, x_inc, x_b32, x_b64, x_d32, x_d64, x_s64, x_un, x_lcmp, x_dup, x_pop, x_dup2, x_if, x_cmp, x_sw, swk, x_ald, x_ast, x_alen, x_getf, x_putf, x_inv, x_mm, x_copy, x_iret, x_lret, x_vret, ok1, pu, ct, rcv, rcs, ent0, List.getElem?_cons_zero, List.getElem?_cons_succ, List.getElem?_nil, List.set_cons_zero, List.set_cons_succ, List.take_succ_cons, List.take_zero, List.drop_succ_cons, List.drop_zero, List.reverse_cons, List.reverse_nil, List.nil_append, List.cons_append, List.length_cons, List.length_nil, true_and, and_true, and_self, ne_eq, not_true_eq_false, not_false_eq_true, reduceIte, true_or, or_true, false_or, or_false, Nat.reduceAdd, Nat.reduceSub, Nat.reduceMul, Nat.reduceLeDiff, Nat.reduceEqDiff, Nat.reduceLT, Nat.le_refl, Nat.zero_le, Int.reduceToNat, Int.reduceAdd, Int.reduceSub, Int.reduceMul, Int.reduceNeg, Int.reduceLT, Int.reduceLE, Int.reduceEq, Nat.zero_add, Nat.add_zero, Nat.reduceBEq, Nat.one_ne_zero, Nat.zero_ne_one, Nat.lt_irrefl, Nat.succ_ne_zero, w32_id, ixc, ixc2, Int.toNat_natCast, ob_214])
        refine Cl.app c5 ?_
        (try simp (disch := omega) only [bi_0, x_ic, x_lc, x_ld, x_st, x_sl, x_inc, x_b32, x_b64, x_d32, x_d64, x_s64, x_un, x_lcmp, x_dup, x_pop, x_dup2, x_if, x_cmp, x_sw, swk, x_ald, x_ast, x_alen, x_getf, x_putf, x_inv, x_mm, x_copy, x_iret, x_lret, x_vret, ok1, pu, ct, rcv, rcs, ent0, List.getElem?_cons_zero, List.getElem?_cons_succ, List.getElem?_nil, List.set_cons_zero, List.set_cons_succ, List.take_succ_cons, List.take_zero, List.drop_succ_cons, List.drop_zero, List.reverse_cons, List.reverse_nil, List.nil_append, List.cons_append, List.length_cons, List.length_nil, true_and, and_true, and_self, ne_eq, not_true_eq_false, not_false_eq_true, reduceIte, true_or, or_true, false_or, or_false, Nat.reduceAdd, Nat.reduceSub, Nat.reduceMul, Nat.reduceLeDiff, Nat.reduceEqDiff, Nat.reduceLT, Nat.le_refl, Nat.zero_le, Int.reduceToNat, Int.reduceAdd, Int.reduceSub, Int.reduceMul, Int.reduceNeg, Int.reduceLT, Int.reduceLE, Int.reduceEq, Nat.zero_add, Nat.add_zero, Nat.reduceBEq, Nat.one_ne_zero, Nat.zero_ne_one, Nat.lt_irrefl, Nat.succ_ne_zero, w32_id, ixc, ixc2, Int.toNat_natCast, ob_214])
        refine Cl.app c6 ?_
        (try simp (disch := omega) only [bi_0, x_ic, x_lc, x_ld, x_st, x_sl, x_inc, x_b32, x_b64, x_d32, x_d64, x_s64, x_un, x_lcmp, x_dup, x_pop, x_dup2, x_if, x_cmp, x_sw, swk, x_ald, x_ast, x_alen, x_getf, x_putf, x_inv, x_mm, x_copy, x_iret, x_lret, x_vret, ok1, pu, ct, rcv, rcs, ent0, List.getElem?_cons_zero, List.getElem?_cons_succ, List.getElem?_nil, List.set_cons_zero, List.set_cons_succ, List.take_succ_cons, List.take_zero, List.drop_succ_cons, List.drop_zero, List.reverse_cons, List.reverse_nil, List.nil_append, List.cons_append, List.length_cons, List.length_nil, true_and, and_true, and_self, ne_eq, not_true_eq_false, not_false_eq_true, reduceIte, true_or, or_true, false_or, or_false, Nat.reduceAdd, Nat.reduceSub, Nat.reduceMul, Nat.reduceLeDiff, Nat.reduceEqDiff, Nat.reduceLT, Nat.le_refl, Nat.zero_le, Int.reduceToNat, Int.reduceAdd, Int.reduceSub, Int.reduceMul, Int.reduceNeg, Int.reduceLT, Int.reduceLE, Int.reduceEq, Nat.zero_add, Nat.add_zero, Nat.reduceBEq, Nat.one_ne_zero, Nat.zero_ne_one, Nat.lt_irrefl, Nat.succ_ne_zero, w32_id, ixc, ixc2, Int.toNat_natCast])
        have fr3 : Fr [229, 230, 232, 233] h (row (row m 229 121 F) 230 121 G) := Fr.row (Fr.row J.1 (by decide)) (by decide)
        have q232 : row (row m 229 121 F) 230 121 G 232 = m 232 := by rw [row_ne (by decide), row_ne (by decide)]
        have q233 : row (row m 229 121 F) 230 121 G 233 = m 233 := by rw [row_ne (by decide), row_ne (by decide)]
        refine ⟨fun z => ?_, fun z => ?_⟩
        · have ix : (4 * (f : Int) + (k : Int)).toNat = 4 * f + k := by omega
          have J3 : SJ h nt tn tc D (4 * f + (k + 1)) (up (row (row m 229 121 F) 230 121 G) 233 (4 * f + k) (dly nt tn tc D (4 * f + k))) := by
            refine ⟨Fr.up fr3 (by decide), fun i hi => ?_, fun i hi q => ?_, fun i hi q => ?_⟩
            · rw [up_ne (by decide), q232]; exact J.2.1 i hi
            · by_cases e : i = 4 * f + k
              · subst e
                rw [up_at]; unfold nxD; rw [iF_t hH]
              · rw [up_nj e, q233]
                exact J.2.2.1 i hi (by rcases q with q | q; exact Or.inl (by omega); exact Or.inr q)
            · by_cases e : i = 4 * f + k
              · subst e; exact z
              · exact J.2.2.2 i (by omega) q
          have ih3 := ih2 _ J3
          have u25 : up (row (row m 229 121 F) 230 121 G) 233 (4 * f + k) (dly nt tn tc D (4 * f + k)) 214 25 = 233 := by rw [up_ne (by decide)]; exact a25
          have u232 : up (row (row m 229 121 F) 230 121 G) 233 (4 * f + k) (dly nt tn tc D (4 * f + k)) 232 (4 * f + k) = D (4 * f + k) := J3.2.1 _ (by omega)
          have bb := bI_b (p := Chg nt tn tc D (4 * f + k))
          have cu := Chg_1 (nt := nt) (tn := tn) (tc := tc) (D := D) hH
          refine S_X11_settles_93 _ _ _ _ ?_; simp (disch := omega) only [B_X11_settles_93, bi_0, x_ic, x_lc, x_ld, x_st, x_sl, x_inc, x_b32, x_b64, x_d32, x_d64, x_s64, x_un, x_lcmp, x_dup, x_pop, x_dup2, x_if, x_cmp, x_sw, swk, x_ald, x_ast, x_alen, x_getf, x_putf, x_inv, x_mm, x_copy, x_iret, x_lret, x_vret, ok1, pu, ct, rcv, rcs, ent0, List.getElem?_cons_zero, List.getElem?_cons_succ, List.getElem?_nil, List.set_cons_zero, List.set_cons_succ, List.take_succ_cons, List.take_zero, List.drop_succ_cons, List.drop_zero, List.reverse_cons, List.reverse_nil, List.nil_append, List.cons_append, List.length_cons, List.length_nil, true_and, and_true, and_self, ne_eq, not_true_eq_false, not_false_eq_true, reduceIte, true_or, or_true, false_or, or_false, Nat.reduceAdd, Nat.reduceSub, Nat.reduceMul, Nat.reduceLeDiff, Nat.reduceEqDiff, Nat.reduceLT, Nat.le_refl, Nat.zero_le, Int.reduceToNat, Int.reduceAdd, Int.reduceSub, Int.reduceMul, Int.reduceNeg, Int.reduceLT, Int.reduceLE, Int.reduceEq, Nat.zero_add, Nat.add_zero, Nat.reduceBEq, Nat.one_ne_zero, Nat.zero_ne_one, Nat.lt_irrefl, Nat.succ_ne_zero, w32_id, ixc, ixc2, Int.toNat_natCast, ob_214, a26, ln_233, ix, u25, ln_232, u232]
          refine ⟨by omega, fun z0 => ⟨by omega, fun z1 => ?_, fun z1 => ?_⟩, fun z0 => ?_⟩
          · rw [bI_0] at z0
            rw [show bI (Chg nt tn tc D (4 * f + (k + 1))) = 0 from bI_f (fun q => by rcases cu.mp q with q | q; exact z0 q; exact q z1)] at ih3
            refine S_X11_settles_130 _ _ _ _ ?_; simp (disch := omega) only [B_X11_settles_130, bi_0, x_ic, x_lc, x_ld, x_st, x_sl, x_inc, x_b32, x_b64, x_d32, x_d64, x_s64, x_un, x_lcmp, x_dup, x_pop, x_dup2, x_if, x_cmp, x_sw, swk, x_ald, x_ast, x_alen, x_getf, x_putf, x_inv, x_mm, x_copy, x_iret, x_lret, x_vret, ok1, pu, ct, rcv, rcs, ent0, List.getElem?_cons_zero, List.getElem?_cons_succ, List.getElem?_nil, List.set_cons_zero, List.set_cons_succ, List.take_succ_cons, List.take_zero, List.drop_succ_cons, List.drop_zero, List.reverse_cons, List.reverse_nil, List.nil_append, List.cons_append, List.length_cons, List.length_nil, true_and, and_true, and_self, ne_eq, not_true_eq_false, not_false_eq_true, reduceIte, true_or, or_true, false_or, or_false, Nat.reduceAdd, Nat.reduceSub, Nat.reduceMul, Nat.reduceLeDiff, Nat.reduceEqDiff, Nat.reduceLT, Nat.le_refl, Nat.zero_le, Int.reduceToNat, Int.reduceAdd, Int.reduceSub, Int.reduceMul, Int.reduceNeg, Int.reduceLT, Int.reduceLE, Int.reduceEq, Nat.zero_add, Nat.add_zero, Nat.reduceBEq, Nat.one_ne_zero, Nat.zero_ne_one, Nat.lt_irrefl, Nat.succ_ne_zero, w32_id, ixc, ixc2, Int.toNat_natCast]
            refine S_X11_settles_131 _ _ _ _ ?_; simp (disch := omega) only [B_X11_settles_131, bi_0, x_ic, x_lc, x_ld, x_st, x_sl, x_inc, x_b32, x_b64, x_d32, x_d64, x_s64, x_un, x_lcmp, x_dup, x_pop, x_dup2, x_if, x_cmp, x_sw, swk, x_ald, x_ast, x_alen, x_getf, x_putf, x_inv, x_mm, x_copy, x_iret, x_lret, x_vret, ok1, pu, ct, rcv, rcs, ent0, List.getElem?_cons_zero, List.getElem?_cons_succ, List.getElem?_nil, List.set_cons_zero, List.set_cons_succ, List.take_succ_cons, List.take_zero, List.drop_succ_cons, List.drop_zero, List.reverse_cons, List.reverse_nil, List.nil_append, List.cons_append, List.length_cons, List.length_nil, true_and, and_true, and_self, ne_eq, not_true_eq_false, not_false_eq_true, reduceIte, true_or, or_true, false_or, or_false, Nat.reduceAdd, Nat.reduceSub, Nat.reduceMul, Nat.reduceLeDiff, Nat.reduceEqDiff, Nat.reduceLT, Nat.le_refl, Nat.zero_le, Int.reduceToNat, Int.reduceAdd, Int.reduceSub, Int.reduceMul, Int.reduceNeg, Int.reduceLT, Int.reduceLE, Int.reduceEq, Nat.zero_add, Nat.add_zero, Nat.reduceBEq, Nat.one_ne_zero, Nat.zero_ne_one, Nat.lt_irrefl, Nat.succ_ne_zero, w32_id, ixc, ixc2, Int.toNat_natCast]
            exact V_fg [5] ih3
          · rw [show bI (Chg nt tn tc D (4 * f + (k + 1))) = 1 from bI_t (cu.mpr (Or.inr z1))] at ih3
            refine S_X11_settles_126 _ _ _ _ ?_; simp (disch := omega) only [B_X11_settles_126, bi_0, x_ic, x_lc, x_ld, x_st, x_sl, x_inc, x_b32, x_b64, x_d32, x_d64, x_s64, x_un, x_lcmp, x_dup, x_pop, x_dup2, x_if, x_cmp, x_sw, swk, x_ald, x_ast, x_alen, x_getf, x_putf, x_inv, x_mm, x_copy, x_iret, x_lret, x_vret, ok1, pu, ct, rcv, rcs, ent0, List.getElem?_cons_zero, List.getElem?_cons_succ, List.getElem?_nil, List.set_cons_zero, List.set_cons_succ, List.take_succ_cons, List.take_zero, List.drop_succ_cons, List.drop_zero, List.reverse_cons, List.reverse_nil, List.nil_append, List.cons_append, List.length_cons, List.length_nil, true_and, and_true, and_self, ne_eq, not_true_eq_false, not_false_eq_true, reduceIte, true_or, or_true, false_or, or_false, Nat.reduceAdd, Nat.reduceSub, Nat.reduceMul, Nat.reduceLeDiff, Nat.reduceEqDiff, Nat.reduceLT, Nat.le_refl, Nat.zero_le, Int.reduceToNat, Int.reduceAdd, Int.reduceSub, Int.reduceMul, Int.reduceNeg, Int.reduceLT, Int.reduceLE, Int.reduceEq, Nat.zero_add, Nat.add_zero, Nat.reduceBEq, Nat.one_ne_zero, Nat.zero_ne_one, Nat.lt_irrefl, Nat.succ_ne_zero, w32_id, ixc, ixc2, Int.toNat_natCast]
            refine S_X11_settles_131 _ _ _ _ ?_; simp (disch := omega) only [B_X11_settles_131, bi_0, x_ic, x_lc, x_ld, x_st, x_sl, x_inc, x_b32, x_b64, x_d32, x_d64, x_s64, x_un, x_lcmp, x_dup, x_pop, x_dup2, x_if, x_cmp, x_sw, swk, x_ald, x_ast, x_alen, x_getf, x_putf, x_inv, x_mm, x_copy, x_iret, x_lret, x_vret, ok1, pu, ct, rcv, rcs, ent0, List.getElem?_cons_zero, List.getElem?_cons_succ, List.getElem?_nil, List.set_cons_zero, List.set_cons_succ, List.take_succ_cons, List.take_zero, List.drop_succ_cons, List.drop_zero, List.reverse_cons, List.reverse_nil, List.nil_append, List.cons_append, List.length_cons, List.length_nil, true_and, and_true, and_self, ne_eq, not_true_eq_false, not_false_eq_true, reduceIte, true_or, or_true, false_or, or_false, Nat.reduceAdd, Nat.reduceSub, Nat.reduceMul, Nat.reduceLeDiff, Nat.reduceEqDiff, Nat.reduceLT, Nat.le_refl, Nat.zero_le, Int.reduceToNat, Int.reduceAdd, Int.reduceSub, Int.reduceMul, Int.reduceNeg, Int.reduceLT, Int.reduceLE, Int.reduceEq, Nat.zero_add, Nat.add_zero, Nat.reduceBEq, Nat.one_ne_zero, Nat.zero_ne_one, Nat.lt_irrefl, Nat.succ_ne_zero, w32_id, ixc, ixc2, Int.toNat_natCast]
            exact V_fg [5] ih3
          · rw [bI_0] at z0
            rw [show bI (Chg nt tn tc D (4 * f + (k + 1))) = 1 from bI_t (cu.mpr (Or.inl (Classical.not_not.mp z0)))] at ih3
            refine S_X11_settles_126 _ _ _ _ ?_; simp (disch := omega) only [B_X11_settles_126, bi_0, x_ic, x_lc, x_ld, x_st, x_sl, x_inc, x_b32, x_b64, x_d32, x_d64, x_s64, x_un, x_lcmp, x_dup, x_pop, x_dup2, x_if, x_cmp, x_sw, swk, x_ald, x_ast, x_alen, x_getf, x_putf, x_inv, x_mm, x_copy, x_iret, x_lret, x_vret, ok1, pu, ct, rcv, rcs, ent0, List.getElem?_cons_zero, List.getElem?_cons_succ, List.getElem?_nil, List.set_cons_zero, List.set_cons_succ, List.take_succ_cons, List.take_zero, List.drop_succ_cons, List.drop_zero, List.reverse_cons, List.reverse_nil, List.nil_append, List.cons_append, List.length_cons, List.length_nil, true_and, and_true, and_self, ne_eq, not_true_eq_false, not_false_eq_true, reduceIte, true_or, or_true, false_or, or_false, Nat.reduceAdd, Nat.reduceSub, Nat.reduceMul, Nat.reduceLeDiff, Nat.reduceEqDiff, Nat.reduceLT, Nat.le_refl, Nat.zero_le, Int.reduceToNat, Int.reduceAdd, Int.reduceSub, Int.reduceMul, Int.reduceNeg, Int.reduceLT, Int.reduceLE, Int.reduceEq, Nat.zero_add, Nat.add_zero, Nat.reduceBEq, Nat.one_ne_zero, Nat.zero_ne_one, Nat.lt_irrefl, Nat.succ_ne_zero, w32_id, ixc, ixc2, Int.toNat_natCast]
            refine S_X11_settles_131 _ _ _ _ ?_; simp (disch := omega) only [B_X11_settles_131, bi_0, x_ic, x_lc, x_ld, x_st, x_sl, x_inc, x_b32, x_b64, x_d32, x_d64, x_s64, x_un, x_lcmp, x_dup, x_pop, x_dup2, x_if, x_cmp, x_sw, swk, x_ald, x_ast, x_alen, x_getf, x_putf, x_inv, x_mm, x_copy, x_iret, x_lret, x_vret, ok1, pu, ct, rcv, rcs, ent0, List.getElem?_cons_zero, List.getElem?_cons_succ, List.getElem?_nil, List.set_cons_zero, List.set_cons_succ, List.take_succ_cons, List.take_zero, List.drop_succ_cons, List.drop_zero, List.reverse_cons, List.reverse_nil, List.nil_append, List.cons_append, List.length_cons, List.length_nil, true_and, and_true, and_self, ne_eq, not_true_eq_false, not_false_eq_true, reduceIte, true_or, or_true, false_or, or_false, Nat.reduceAdd, Nat.reduceSub, Nat.reduceMul, Nat.reduceLeDiff, Nat.reduceEqDiff, Nat.reduceLT, Nat.le_refl, Nat.zero_le, Int.reduceToNat, Int.reduceAdd, Int.reduceSub, Int.reduceMul, Int.reduceNeg, Int.reduceLT, Int.reduceLE, Int.reduceEq, Nat.zero_add, Nat.add_zero, Nat.reduceBEq, Nat.one_ne_zero, Nat.zero_ne_one, Nat.lt_irrefl, Nat.succ_ne_zero, w32_id, ixc, ixc2, Int.toNat_natCast]
            exact V_fg [5] ih3
        · exact hbad ⟨4 * f + k, by omega, hH, by omega⟩ _ fr3
      · obtain ⟨Lm, e220, e214⟩ := kn J
        have c2 := r_hopsOf (l := l) (d := d + 3) Lm (f := f) (by omega)
        rw [e220] at c2
        have no : ∀ i, 4 * f + (hp nt f).toNat ≤ i → i < 4 * (f + 1) → ¬ HopI nt i := fun i q1 q2 q3 => by
          obtain ⟨k, rfl⟩ : ∃ k, i = 4 * f + k := ⟨i - 4 * f, by omega⟩
          have := (hopI_at (show k < 4 by omega)).mp q3
          omega
        have ih := ih m (J.up no)
        rw [← bI_iff (Chg_up (nt := nt) (tn := tn) (tc := tc) (D := D) (show 4 * f + (hp nt f).toNat ≤ 4 * (f + 1) by omega) no)] at ih
        refine S_X11_settles_51 _ _ _ _ ?_; simp (disch := omega) only [B_X11_settles_51, bi_0, x_ic, x_lc, x_ld, x_st, x_sl, x_inc, x_b32, x_b64, x_d32, x_d64, x_s64, x_un, x_lcmp, x_dup, x_pop, x_dup2, x_if, x_cmp, x_sw, swk, x_ald, x_ast, x_alen, x_getf, x_putf, x_inv, x_mm, x_copy, x_iret, x_lret, x_vret, ok1, pu, ct, rcv, rcs, ent0, List.getElem?_cons_zero, List.getElem?_cons_succ, List.getElem?_nil, List.set_cons_zero, List.set_cons_succ, List.take_succ_cons, List.take_zero, List.drop_succ_cons, List.drop_zero, List.reverse_cons, List.reverse_nil, List.nil_append, List.cons_append, List.length_cons, List.length_nil, true_and, and_true, and_self, ne_eq, not_true_eq_false, not_false_eq_true, reduceIte, true_or, or_true, false_or, or_false, Nat.reduceAdd, Nat.reduceSub, Nat.reduceMul, Nat.reduceLeDiff, Nat.reduceEqDiff, Nat.reduceLT, Nat.le_refl, Nat.zero_le, Int.reduceToNat, Int.reduceAdd, Int.reduceSub, Int.reduceMul, Int.reduceNeg, Int.reduceLT, Int.reduceLE, Int.reduceEq, Nat.zero_add, Nat.add_zero, Nat.reduceBEq, Nat.one_ne_zero, Nat.zero_ne_one, Nat.lt_irrefl, Nat.succ_ne_zero, w32_id, ixc, ixc2, Int.toNat_natCast, ob_214]
        refine Cl.app c2 ?_
        (try simp (disch := omega) only [bi_0, x_ic, x_lc, x_ld, x_st, x_sl, x_inc, x_b32, x_b64, x_d32, x_d64, x_s64, x_un, x_lcmp, x_dup, x_pop, x_dup2, x_if, x_cmp, x_sw, swk, x_ald, x_ast, x_alen, x_getf, x_putf, x_inv, x_mm, x_copy, x_iret, x_lret, x_vret, ok1, pu, ct, rcv, rcs, ent0, List.getElem?_cons_zero, List.getElem?_cons_succ, List.getElem?_nil, List.set_cons_zero, List.set_cons_succ, List.take_succ_cons, List.take_zero, List.drop_succ_cons, List.drop_zero, List.reverse_cons, List.reverse_nil, List.nil_append, List.cons_append, List.length_cons, List.length_nil, true_and, and_true, and_self, ne_eq, not_true_eq_false, not_false_eq_true, reduceIte, true_or, or_true, false_or, or_false, Nat.reduceAdd, Nat.reduceSub, Nat.reduceMul, Nat.reduceLeDiff, Nat.reduceEqDiff, Nat.reduceLT, Nat.le_refl, Nat.zero_le, Int.reduceToNat, Int.reduceAdd, Int.reduceSub, Int.reduceMul, Int.reduceNeg, Int.reduceLT, Int.reduceLE, Int.reduceEq, Nat.zero_add, Nat.add_zero, Nat.reduceBEq, Nat.one_ne_zero, Nat.zero_ne_one, Nat.lt_irrefl, Nat.succ_ne_zero, w32_id, ixc, ixc2, Int.toNat_natCast])
        refine ⟨fun _ => ?_, fun z => absurd z (by omega)⟩
        refine S_X11_settles_138 _ _ _ _ ?_; simp (disch := omega) only [B_X11_settles_138, bi_0, x_ic, x_lc, x_ld, x_st, x_sl, x_inc, x_b32, x_b64, x_d32, x_d64, x_s64, x_un, x_lcmp, x_dup, x_pop, x_dup2, x_if, x_cmp, x_sw, swk, x_ald, x_ast, x_alen, x_getf, x_putf, x_inv, x_mm, x_copy, x_iret, x_lret, x_vret, ok1, pu, ct, rcv, rcs, ent0, List.getElem?_cons_zero, List.getElem?_cons_succ, List.getElem?_nil, List.set_cons_zero, List.set_cons_succ, List.take_succ_cons, List.take_zero, List.drop_succ_cons, List.drop_zero, List.reverse_cons, List.reverse_nil, List.nil_append, List.cons_append, List.length_cons, List.length_nil, true_and, and_true, and_self, ne_eq, not_true_eq_false, not_false_eq_true, reduceIte, true_or, or_true, false_or, or_false, Nat.reduceAdd, Nat.reduceSub, Nat.reduceMul, Nat.reduceLeDiff, Nat.reduceEqDiff, Nat.reduceLT, Nat.le_refl, Nat.zero_le, Int.reduceToNat, Int.reduceAdd, Int.reduceSub, Int.reduceMul, Int.reduceNeg, Int.reduceLT, Int.reduceLE, Int.reduceEq, Nat.zero_add, Nat.add_zero, Nat.reduceBEq, Nat.one_ne_zero, Nat.zero_ne_one, Nat.lt_irrefl, Nat.succ_ne_zero, w32_id, ixc, ixc2, Int.toNat_natCast]
        exact V_fg [4] ih
    · obtain ⟨Lm, e220, e214⟩ := kn J
      have c1 := r_flows (l := l) (d := d + 3) Lm
      rw [e220] at c1
      have no : ∀ i, 4 * (nt 2).toNat ≤ i → i < 16 → ¬ HopI nt i := fun i q1 q2 q3 => by
        have := q3.1
        omega
      have nb : ¬ Bad nt tn tc D := fun ⟨i, q1, q2, q3⟩ => by
        have := (J.up no).2.2.2 i q1 q2
        omega
      have g := hgo nb m (J.up no)
      rw [← bI_iff (Chg_up (nt := nt) (tn := tn) (tc := tc) (D := D) (show 4 * (nt 2).toNat ≤ 16 by omega) no)] at g
      refine S_X11_settles_40 _ _ _ _ ?_; simp (disch := omega) only [B_X11_settles_40, bi_0, x_ic, x_lc, x_ld, x_st, x_sl, x_inc, x_b32, x_b64, x_d32, x_d64, x_s64, x_un, x_lcmp, x_dup, x_pop, x_dup2, x_if, x_cmp, x_sw, swk, x_ald, x_ast, x_alen, x_getf, x_putf, x_inv, x_mm, x_copy, x_iret, x_lret, x_vret, ok1, pu, ct, rcv, rcs, ent0, List.getElem?_cons_zero, List.getElem?_cons_succ, List.getElem?_nil, List.set_cons_zero, List.set_cons_succ, List.take_succ_cons, List.take_zero, List.drop_succ_cons, List.drop_zero, List.reverse_cons, List.reverse_nil, List.nil_append, List.cons_append, List.length_cons, List.length_nil, true_and, and_true, and_self, ne_eq, not_true_eq_false, not_false_eq_true, reduceIte, true_or, or_true, false_or, or_false, Nat.reduceAdd, Nat.reduceSub, Nat.reduceMul, Nat.reduceLeDiff, Nat.reduceEqDiff, Nat.reduceLT, Nat.le_refl, Nat.zero_le, Int.reduceToNat, Int.reduceAdd, Int.reduceSub, Int.reduceMul, Int.reduceNeg, Int.reduceLT, Int.reduceLE, Int.reduceEq, Nat.zero_add, Nat.add_zero, Nat.reduceBEq, Nat.one_ne_zero, Nat.zero_ne_one, Nat.lt_irrefl, Nat.succ_ne_zero, w32_id, ixc, ixc2, Int.toNat_natCast, ob_214]
      refine Cl.app c1 ?_
      (try simp (disch := omega) only [bi_0, x_ic, x_lc, x_ld, x_st, x_sl, x_inc, x_b32, x_b64, x_d32, x_d64, x_s64, x_un, x_lcmp, x_dup, x_pop, x_dup2, x_if, x_cmp, x_sw, swk, x_ald, x_ast, x_alen, x_getf, x_putf, x_inv, x_mm, x_copy, x_iret, x_lret, x_vret, ok1, pu, ct, rcv, rcs, ent0, List.getElem?_cons_zero, List.getElem?_cons_succ, List.getElem?_nil, List.set_cons_zero, List.set_cons_succ, List.take_succ_cons, List.take_zero, List.drop_succ_cons, List.drop_zero, List.reverse_cons, List.reverse_nil, List.nil_append, List.cons_append, List.length_cons, List.length_nil, true_and, and_true, and_self, ne_eq, not_true_eq_false, not_false_eq_true, reduceIte, true_or, or_true, false_or, or_false, Nat.reduceAdd, Nat.reduceSub, Nat.reduceMul, Nat.reduceLeDiff, Nat.reduceEqDiff, Nat.reduceLT, Nat.le_refl, Nat.zero_le, Int.reduceToNat, Int.reduceAdd, Int.reduceSub, Int.reduceMul, Int.reduceNeg, Int.reduceLT, Int.reduceLE, Int.reduceEq, Nat.zero_add, Nat.add_zero, Nat.reduceBEq, Nat.one_ne_zero, Nat.zero_ne_one, Nat.lt_irrefl, Nat.succ_ne_zero, w32_id, ixc, ixc2, Int.toNat_natCast])
      refine ⟨fun _ => ?_, fun z => absurd z (by omega)⟩
      exact V_fg [3] g
  -- the rounds
  obtain ⟨Z0, hZ0⟩ : ∃ Z0, Z0 = stl nt tn tc 60 1 zer := ⟨_, rfl⟩
  have rnds : ∀ (fu r : Nat) (D : Nat → Int), r + fu = 61 → 1 ≤ r → DB D → (Z0 = stl nt tn tc fu r D) → ∀ m, SJ h nt tn tc D 0 m → V l (d + 5) 0 0 M_X11_settles 0 0 30 Q [(2, 215), (0, (r : Int)), (9, 0), (9, 0), (9, 0), (9, 0)] [] SHP m := by
    intro fu
    induction fu with
    | zero =>
      intro r D hr hr1 hD hs m J
      refine S_X11_settles_30 _ _ _ _ ?_; simp (disch := omega) only [B_X11_settles_30, bi_0, x_ic, x_lc, x_ld, x_st, x_sl, x_inc, x_b32, x_b64, x_d32, x_d64, x_s64, x_un, x_lcmp, x_dup, x_pop, x_dup2, x_if, x_cmp, x_sw, swk, x_ald, x_ast, x_alen, x_getf, x_putf, x_inv, x_mm, x_copy, x_iret, x_lret, x_vret, ok1, pu, ct, rcv, rcs, ent0, List.getElem?_cons_zero, List.getElem?_cons_succ, List.getElem?_nil, List.set_cons_zero, List.set_cons_succ, List.take_succ_cons, List.take_zero, List.drop_succ_cons, List.drop_zero, List.reverse_cons, List.reverse_nil, List.nil_append, List.cons_append, List.length_cons, List.length_nil, true_and, and_true, and_self, ne_eq, not_true_eq_false, not_false_eq_true, reduceIte, true_or, or_true, false_or, or_false, Nat.reduceAdd, Nat.reduceSub, Nat.reduceMul, Nat.reduceLeDiff, Nat.reduceEqDiff, Nat.reduceLT, Nat.le_refl, Nat.zero_le, Int.reduceToNat, Int.reduceAdd, Int.reduceSub, Int.reduceMul, Int.reduceNeg, Int.reduceLT, Int.reduceLE, Int.reduceEq, Nat.zero_add, Nat.add_zero, Nat.reduceBEq, Nat.one_ne_zero, Nat.zero_ne_one, Nat.lt_irrefl, Nat.succ_ne_zero, w32_id, ixc, ixc2, Int.toNat_natCast]
      refine ⟨fun _ => ?_, fun z => absurd z (by omega)⟩
      refine S_X11_settles_182 _ _ _ _ ?_; simp (disch := omega) only [B_X11_settles_182, bi_0, x_ic, x_lc, x_ld, x_st, x_sl, x_inc, x_b32, x_b64, x_d32, x_d64, x_s64, x_un, x_lcmp, x_dup, x_pop, x_dup2, x_if, x_cmp, x_sw, swk, x_ald, x_ast, x_alen, x_getf, x_putf, x_inv, x_mm, x_copy, x_iret, x_lret, x_vret, ok1, pu, ct, rcv, rcs, ent0, List.getElem?_cons_zero, List.getElem?_cons_succ, List.getElem?_nil, List.set_cons_zero, List.set_cons_succ, List.take_succ_cons, List.take_zero, List.drop_succ_cons, List.drop_zero, List.reverse_cons, List.reverse_nil, List.nil_append, List.cons_append, List.length_cons, List.length_nil, true_and, and_true, and_self, ne_eq, not_true_eq_false, not_false_eq_true, reduceIte, true_or, or_true, false_or, or_false, Nat.reduceAdd, Nat.reduceSub, Nat.reduceMul, Nat.reduceLeDiff, Nat.reduceEqDiff, Nat.reduceLT, Nat.le_refl, Nat.zero_le, Int.reduceToNat, Int.reduceAdd, Int.reduceSub, Int.reduceMul, Int.reduceNeg, Int.reduceLT, Int.reduceLE, Int.reduceEq, Nat.zero_add, Nat.add_zero, Nat.reduceBEq, Nat.one_ne_zero, Nat.zero_ne_one, Nat.lt_irrefl, Nat.succ_ne_zero, w32_id, ixc, ixc2, Int.toNat_natCast]
      rw [hQ]
      unfold stl at hs
      refine ⟨by unfold rds; rw [← hZ0, hs], rfl, J.1, fun z => absurd z (by decide)⟩
    | succ fu ih =>
      intro r D hr hr1 hD hs m J
      refine S_X11_settles_30 _ _ _ _ ?_; simp (disch := omega) only [B_X11_settles_30, bi_0, x_ic, x_lc, x_ld, x_st, x_sl, x_inc, x_b32, x_b64, x_d32, x_d64, x_s64, x_un, x_lcmp, x_dup, x_pop, x_dup2, x_if, x_cmp, x_sw, swk, x_ald, x_ast, x_alen, x_getf, x_putf, x_inv, x_mm, x_copy, x_iret, x_lret, x_vret, ok1, pu, ct, rcv, rcs, ent0, List.getElem?_cons_zero, List.getElem?_cons_succ, List.getElem?_nil, List.set_cons_zero, List.set_cons_succ, List.take_succ_cons, List.take_zero, List.drop_succ_cons, List.drop_zero, List.reverse_cons, List.reverse_nil, List.nil_append, List.cons_append, List.length_cons, List.length_nil, true_and, and_true, and_self, ne_eq, not_true_eq_false, not_false_eq_true, reduceIte, true_or, or_true, false_or, or_false, Nat.reduceAdd, Nat.reduceSub, Nat.reduceMul, Nat.reduceLeDiff, Nat.reduceEqDiff, Nat.reduceLT, Nat.le_refl, Nat.zero_le, Int.reduceToNat, Int.reduceAdd, Int.reduceSub, Int.reduceMul, Int.reduceNeg, Int.reduceLT, Int.reduceLE, Int.reduceEq, Nat.zero_add, Nat.add_zero, Nat.reduceBEq, Nat.one_ne_zero, Nat.zero_ne_one, Nat.lt_irrefl, Nat.succ_ne_zero, w32_id, ixc, ixc2, Int.toNat_natCast]
      refine ⟨fun z => absurd z (by omega), fun _ => ?_⟩
      unfold stl at hs
      refine rnd r D hr1 (by omega) hD (fun hb m f3 => ?_) (fun hb m J => ?_) m J
      · rw [iF_t hb] at hs
        rw [hQ]
        exact ⟨by unfold rds; rw [← hZ0, hs], rfl, f3, fun z => absurd z (by decide)⟩
      · rw [iF_f hb] at hs
        refine S_X11_settles_144 _ _ _ _ ?_; simp (disch := omega) only [B_X11_settles_144, bi_0, x_ic, x_lc, x_ld, x_st, x_sl, x_inc, x_b32, x_b64, x_d32, x_d64, x_s64, x_un, x_lcmp, x_dup, x_pop, x_dup2, x_if, x_cmp, x_sw, swk, x_ald, x_ast, x_alen, x_getf, x_putf, x_inv, x_mm, x_copy, x_iret, x_lret, x_vret, ok1, pu, ct, rcv, rcs, ent0, List.getElem?_cons_zero, List.getElem?_cons_succ, List.getElem?_nil, List.set_cons_zero, List.set_cons_succ, List.take_succ_cons, List.take_zero, List.drop_succ_cons, List.drop_zero, List.reverse_cons, List.reverse_nil, List.nil_append, List.cons_append, List.length_cons, List.length_nil, true_and, and_true, and_self, ne_eq, not_true_eq_false, not_false_eq_true, reduceIte, true_or, or_true, false_or, or_false, Nat.reduceAdd, Nat.reduceSub, Nat.reduceMul, Nat.reduceLeDiff, Nat.reduceEqDiff, Nat.reduceLT, Nat.le_refl, Nat.zero_le, Int.reduceToNat, Int.reduceAdd, Int.reduceSub, Int.reduceMul, Int.reduceNeg, Int.reduceLT, Int.reduceLE, Int.reduceEq, Nat.zero_add, Nat.add_zero, Nat.reduceBEq, Nat.one_ne_zero, Nat.zero_ne_one, Nat.lt_irrefl, Nat.succ_ne_zero, w32_id, ixc, ixc2, Int.toNat_natCast]
        have key := V_jx (l := l) (d := d + 5) (K := 0) (N := 0) (y := M_X11_settles) (k := 0) (n := 0) (pc := 146) (Q := Q) (fun j => [(2, 215), (0, (r : Int)), (0, bI (Chg nt tn tc D 16)), (0, (j : Int)), (9, 0), (9, 0)]) (fun j m => Fr [229, 230, 232, 233] h m ∧ (∀ i, i < 16 → m 233 i = nxD nt tn tc D i) ∧ ∀ i, i < j → m 232 i = nxD nt tn tc D i) 16 (fun j m hj J2 ih2 => ?_) (fun m J2 => ?_) m ⟨J.1, fun i hi => J.2.2.1 i hi (Or.inl hi), fun i hi => absurd hi (by omega)⟩
        · exact key
        · have Lm : Lay m := Lay_Fr L (by decide +kernel) J2.1
          have a25 := ly_214_25 Lm
          have a26 := ly_214_26 Lm
          refine S_X11_settles_146 _ _ _ _ ?_; simp (disch := omega) only [B_X11_settles_146, bi_0, x_ic, x_lc, x_ld, x_st, x_sl, x_inc, x_b32, x_b64, x_d32, x_d64, x_s64, x_un, x_lcmp, x_dup, x_pop, x_dup2, x_if, x_cmp, x_sw, swk, x_ald, x_ast, x_alen, x_getf, x_putf, x_inv, x_mm, x_copy, x_iret, x_lret, x_vret, ok1, pu, ct, rcv, rcs, ent0, List.getElem?_cons_zero, List.getElem?_cons_succ, List.getElem?_nil, List.set_cons_zero, List.set_cons_succ, List.take_succ_cons, List.take_zero, List.drop_succ_cons, List.drop_zero, List.reverse_cons, List.reverse_nil, List.nil_append, List.cons_append, List.length_cons, List.length_nil, true_and, and_true, and_self, ne_eq, not_true_eq_false, not_false_eq_true, reduceIte, true_or, or_true, false_or, or_false, Nat.reduceAdd, Nat.reduceSub, Nat.reduceMul, Nat.reduceLeDiff, Nat.reduceEqDiff, Nat.reduceLT, Nat.le_refl, Nat.zero_le, Int.reduceToNat, Int.reduceAdd, Int.reduceSub, Int.reduceMul, Int.reduceNeg, Int.reduceLT, Int.reduceLE, Int.reduceEq, Nat.zero_add, Nat.add_zero, Nat.reduceBEq, Nat.one_ne_zero, Nat.zero_ne_one, Nat.lt_irrefl, Nat.succ_ne_zero, w32_id, ixc, ixc2, Int.toNat_natCast, ob_214, a25, a26, ln_232, ln_233]
          refine ⟨fun z => absurd z (by omega), fun _ => ⟨by omega, by omega, ?_⟩⟩
          refine ih2 _ ?_; refine ⟨Fr.up J2.1 (by decide), fun i hi => by rw [up_ne (by decide)]; exact J2.2.1 i hi, fun i hi => ?_⟩
          by_cases e : i = j
          · subst e; rw [up_at]; exact J2.2.1 i (by omega)
          · rw [up_nj e]; exact J2.2.2 i (by omega)
        · refine S_X11_settles_146 _ _ _ _ ?_; simp (disch := omega) only [B_X11_settles_146, bi_0, x_ic, x_lc, x_ld, x_st, x_sl, x_inc, x_b32, x_b64, x_d32, x_d64, x_s64, x_un, x_lcmp, x_dup, x_pop, x_dup2, x_if, x_cmp, x_sw, swk, x_ald, x_ast, x_alen, x_getf, x_putf, x_inv, x_mm, x_copy, x_iret, x_lret, x_vret, ok1, pu, ct, rcv, rcs, ent0, List.getElem?_cons_zero, List.getElem?_cons_succ, List.getElem?_nil, List.set_cons_zero, List.set_cons_succ, List.take_succ_cons, List.take_zero, List.drop_succ_cons, List.drop_zero, List.reverse_cons, List.reverse_nil, List.nil_append, List.cons_append, List.length_cons, List.length_nil, true_and, and_true, and_self, ne_eq, not_true_eq_false, not_false_eq_true, reduceIte, true_or, or_true, false_or, or_false, Nat.reduceAdd, Nat.reduceSub, Nat.reduceMul, Nat.reduceLeDiff, Nat.reduceEqDiff, Nat.reduceLT, Nat.le_refl, Nat.zero_le, Int.reduceToNat, Int.reduceAdd, Int.reduceSub, Int.reduceMul, Int.reduceNeg, Int.reduceLT, Int.reduceLE, Int.reduceEq, Nat.zero_add, Nat.add_zero, Nat.reduceBEq, Nat.one_ne_zero, Nat.zero_ne_one, Nat.lt_irrefl, Nat.succ_ne_zero, w32_id, ixc, ixc2, Int.toNat_natCast]
          refine ⟨fun _ => ?_, fun z => absurd z (by omega)⟩
          refine S_X11_settles_170 _ _ _ _ ?_; simp (disch := omega) only [B_X11_settles_170, bi_0, x_ic, x_lc, x_ld, x_st, x_sl, x_inc, x_b32, x_b64, x_d32, x_d64, x_s64, x_un, x_lcmp, x_dup, x_pop, x_dup2, x_if, x_cmp, x_sw, swk, x_ald, x_ast, x_alen, x_getf, x_putf, x_inv, x_mm, x_copy, x_iret, x_lret, x_vret, ok1, pu, ct, rcv, rcs, ent0, List.getElem?_cons_zero, List.getElem?_cons_succ, List.getElem?_nil, List.set_cons_zero, List.set_cons_succ, List.take_succ_cons, List.take_zero, List.drop_succ_cons, List.drop_zero, List.reverse_cons, List.reverse_nil, List.nil_append, List.cons_append, List.length_cons, List.length_nil, true_and, and_true, and_self, ne_eq, not_true_eq_false, not_false_eq_true, reduceIte, true_or, or_true, false_or, or_false, Nat.reduceAdd, Nat.reduceSub, Nat.reduceMul, Nat.reduceLeDiff, Nat.reduceEqDiff, Nat.reduceLT, Nat.le_refl, Nat.zero_le, Int.reduceToNat, Int.reduceAdd, Int.reduceSub, Int.reduceMul, Int.reduceNeg, Int.reduceLT, Int.reduceLE, Int.reduceEq, Nat.zero_add, Nat.add_zero, Nat.reduceBEq, Nat.one_ne_zero, Nat.zero_ne_one, Nat.lt_irrefl, Nat.succ_ne_zero, w32_id, ixc, ixc2, Int.toNat_natCast]
          refine ⟨fun z => ?_, fun z => ?_⟩
          · rw [bI_0] at z
            rw [iF_f z] at hs
            rw [hQ]
            exact ⟨by unfold rds; rw [← hZ0, hs], rfl, J2.1, fun _ i hi => by unfold dls; rw [← hZ0, hs]; exact J2.2.2 i hi⟩
          · rw [bI_0] at z
            rw [iF_t (Classical.not_not.mp z)] at hs
            refine S_X11_settles_176 _ _ _ _ ?_; simp (disch := omega) only [B_X11_settles_176, bi_0, x_ic, x_lc, x_ld, x_st, x_sl, x_inc, x_b32, x_b64, x_d32, x_d64, x_s64, x_un, x_lcmp, x_dup, x_pop, x_dup2, x_if, x_cmp, x_sw, swk, x_ald, x_ast, x_alen, x_getf, x_putf, x_inv, x_mm, x_copy, x_iret, x_lret, x_vret, ok1, pu, ct, rcv, rcs, ent0, List.getElem?_cons_zero, List.getElem?_cons_succ, List.getElem?_nil, List.set_cons_zero, List.set_cons_succ, List.take_succ_cons, List.take_zero, List.drop_succ_cons, List.drop_zero, List.reverse_cons, List.reverse_nil, List.nil_append, List.cons_append, List.length_cons, List.length_nil, true_and, and_true, and_self, ne_eq, not_true_eq_false, not_false_eq_true, reduceIte, true_or, or_true, false_or, or_false, Nat.reduceAdd, Nat.reduceSub, Nat.reduceMul, Nat.reduceLeDiff, Nat.reduceEqDiff, Nat.reduceLT, Nat.le_refl, Nat.zero_le, Int.reduceToNat, Int.reduceAdd, Int.reduceSub, Int.reduceMul, Int.reduceNeg, Int.reduceLT, Int.reduceLE, Int.reduceEq, Nat.zero_add, Nat.add_zero, Nat.reduceBEq, Nat.one_ne_zero, Nat.zero_ne_one, Nat.lt_irrefl, Nat.succ_ne_zero, w32_id, ixc, ixc2, Int.toNat_natCast]
            refine V_fg [2, 3] ?_
            exact ih (r + 1) (nxD nt tn tc D) (by omega) (by omega) (nxD_b hb) hs m ⟨J2.1, J2.2.2, fun i hi q => by
              rw [J2.2.1 i hi]
              rcases q with q | q
              · exact absurd q (by omega)
              · unfold nxD; rw [iF_f q, iF_f q], fun i hi => absurd hi (by omega)⟩
  show V l (d + 5) 0 0 M_X11_settles 0 0 0 Q [(2, 215), (9, 0), (9, 0), (9, 0), (9, 0), (9, 0)] [] SHP h
  refine S_X11_settles_0 _ _ _ _ ?_; simp (disch := omega) only [B_X11_settles_0, bi_0, x_ic, x_lc, x_ld, x_st, x_sl, x_inc, x_b32, x_b64, x_d32, x_d64, x_s64, x_un, x_lcmp, x_dup, x_pop, x_dup2, x_if, x_cmp, x_sw, swk, x_ald, x_ast, x_alen, x_getf, x_putf, x_inv, x_mm, x_copy, x_iret, x_lret, x_vret, ok1, pu, ct, rcv, rcs, ent0, List.getElem?_cons_zero, List.getElem?_cons_succ, List.getElem?_nil, List.set_cons_zero, List.set_cons_succ, List.take_succ_cons, List.take_zero, List.drop_succ_cons, List.drop_zero, List.reverse_cons, List.reverse_nil, List.nil_append, List.cons_append, List.length_cons, List.length_nil, true_and, and_true, and_self, ne_eq, not_true_eq_false, not_false_eq_true, reduceIte, true_or, or_true, false_or, or_false, Nat.reduceAdd, Nat.reduceSub, Nat.reduceMul, Nat.reduceLeDiff, Nat.reduceEqDiff, Nat.reduceLT, Nat.le_refl, Nat.zero_le, Int.reduceToNat, Int.reduceAdd, Int.reduceSub, Int.reduceMul, Int.reduceNeg, Int.reduceLT, Int.reduceLE, Int.reduceEq, Nat.zero_add, Nat.add_zero, Nat.reduceBEq, Nat.one_ne_zero, Nat.zero_ne_one, Nat.lt_irrefl, Nat.succ_ne_zero, w32_id, ixc, ixc2, Int.toNat_natCast]
  refine V_jx (l := l) (d := d + 5) (K := 0) (N := 0) (y := M_X11_settles) (k := 0) (n := 0) (pc := 2) (Q := Q) (fun j => [(2, 215), (0, (j : Int)), (9, 0), (9, 0), (9, 0), (9, 0)]) (fun j m => Fr [229, 230, 232, 233] h m ∧ ∀ i, i < j → m 232 i = 0 ∧ m 233 i = 0) 16 (fun j m hj J ih => ?_) (fun m J => ?_) h ⟨Fr.rfl, fun i hi => absurd hi (by omega)⟩
  · have Lm : Lay m := Lay_Fr L (by decide +kernel) J.1
    have a25 := ly_214_25 Lm
    have a26 : up m 232 j 0 214 26 = 234 := by rw [up_ne (by decide)]; exact ly_214_26 Lm
    refine S_X11_settles_2 _ _ _ _ ?_; simp (disch := omega) only [B_X11_settles_2, bi_0, x_ic, x_lc, x_ld, x_st, x_sl, x_inc, x_b32, x_b64, x_d32, x_d64, x_s64, x_un, x_lcmp, x_dup, x_pop, x_dup2, x_if, x_cmp, x_sw, swk, x_ald, x_ast, x_alen, x_getf, x_putf, x_inv, x_mm, x_copy, x_iret, x_lret, x_vret, ok1, pu, ct, rcv, rcs, ent0, List.getElem?_cons_zero, List.getElem?_cons_succ, List.getElem?_nil, List.set_cons_zero, List.set_cons_succ, List.take_succ_cons, List.take_zero, List.drop_succ_cons, List.drop_zero, List.reverse_cons, List.reverse_nil, List.nil_append, List.cons_append, List.length_cons, List.length_nil, true_and, and_true, and_self, ne_eq, not_true_eq_false, not_false_eq_true, reduceIte, true_or, or_true, false_or, or_false, Nat.reduceAdd, Nat.reduceSub, Nat.reduceMul, Nat.reduceLeDiff, Nat.reduceEqDiff, Nat.reduceLT, Nat.le_refl, Nat.zero_le, Int.reduceToNat, Int.reduceAdd, Int.reduceSub, Int.reduceMul, Int.reduceNeg, Int.reduceLT, Int.reduceLE, Int.reduceEq, Nat.zero_add, Nat.add_zero, Nat.reduceBEq, Nat.one_ne_zero, Nat.zero_ne_one, Nat.lt_irrefl, Nat.succ_ne_zero, w32_id, ixc, ixc2, Int.toNat_natCast, ob_214, a25, a26, ln_232, ln_233]
    refine ⟨fun z => absurd z (by omega), fun _ => ⟨by omega, by omega, ?_⟩⟩
    refine ih _ ?_; refine ⟨Fr.up (Fr.up J.1 (by decide)) (by decide), fun i hi => ?_⟩
    by_cases e : i = j
    · subst e; rw [up_at, up_ne (by decide), up_at]; exact ⟨rfl, rfl⟩
    · rw [up_nj e, up_ne (by decide), up_nj e, up_ne (by decide)]; exact J.2 i (by omega)
  · refine S_X11_settles_2 _ _ _ _ ?_; simp (disch := omega) only [B_X11_settles_2, bi_0, x_ic, x_lc, x_ld, x_st, x_sl, x_inc, x_b32, x_b64, x_d32, x_d64, x_s64, x_un, x_lcmp, x_dup, x_pop, x_dup2, x_if, x_cmp, x_sw, swk, x_ald, x_ast, x_alen, x_getf, x_putf, x_inv, x_mm, x_copy, x_iret, x_lret, x_vret, ok1, pu, ct, rcv, rcs, ent0, List.getElem?_cons_zero, List.getElem?_cons_succ, List.getElem?_nil, List.set_cons_zero, List.set_cons_succ, List.take_succ_cons, List.take_zero, List.drop_succ_cons, List.drop_zero, List.reverse_cons, List.reverse_nil, List.nil_append, List.cons_append, List.length_cons, List.length_nil, true_and, and_true, and_self, ne_eq, not_true_eq_false, not_false_eq_true, reduceIte, true_or, or_true, false_or, or_false, Nat.reduceAdd, Nat.reduceSub, Nat.reduceMul, Nat.reduceLeDiff, Nat.reduceEqDiff, Nat.reduceLT, Nat.le_refl, Nat.zero_le, Int.reduceToNat, Int.reduceAdd, Int.reduceSub, Int.reduceMul, Int.reduceNeg, Int.reduceLT, Int.reduceLE, Int.reduceEq, Nat.zero_add, Nat.add_zero, Nat.reduceBEq, Nat.one_ne_zero, Nat.zero_ne_one, Nat.lt_irrefl, Nat.succ_ne_zero, w32_id, ixc, ixc2, Int.toNat_natCast]
    refine ⟨fun _ => ?_, fun z => absurd z (by omega)⟩
    refine S_X11_settles_28 _ _ _ _ ?_; simp (disch := omega) only [B_X11_settles_28, bi_0, x_ic, x_lc, x_ld, x_st, x_sl, x_inc, x_b32, x_b64, x_d32, x_d64, x_s64, x_un, x_lcmp, x_dup, x_pop, x_dup2, x_if, x_cmp, x_sw, swk, x_ald, x_ast, x_alen, x_getf, x_putf, x_inv, x_mm, x_copy, x_iret, x_lret, x_vret, ok1, pu, ct, rcv, rcs, ent0, List.getElem?_cons_zero, List.getElem?_cons_succ, List.getElem?_nil, List.set_cons_zero, List.set_cons_succ, List.take_succ_cons, List.take_zero, List.drop_succ_cons, List.drop_zero, List.reverse_cons, List.reverse_nil, List.nil_append, List.cons_append, List.length_cons, List.length_nil, true_and, and_true, and_self, ne_eq, not_true_eq_false, not_false_eq_true, reduceIte, true_or, or_true, false_or, or_false, Nat.reduceAdd, Nat.reduceSub, Nat.reduceMul, Nat.reduceLeDiff, Nat.reduceEqDiff, Nat.reduceLT, Nat.le_refl, Nat.zero_le, Int.reduceToNat, Int.reduceAdd, Int.reduceSub, Int.reduceMul, Int.reduceNeg, Int.reduceLT, Int.reduceLE, Int.reduceEq, Nat.zero_add, Nat.add_zero, Nat.reduceBEq, Nat.one_ne_zero, Nat.zero_ne_one, Nat.lt_irrefl, Nat.succ_ne_zero, w32_id, ixc, ixc2, Int.toNat_natCast]
    exact rnds 60 1 zer rfl (by decide) zer_b hZ0 m ⟨J.1, fun i hi => (J.2 i hi).1, fun i hi q => by
      rcases q with q | q
      · exact absurd q (by omega)
      · unfold nxD; rw [iF_f q]; exact (J.2 i hi).2, fun i hi => absurd hi (by omega)⟩
end RS

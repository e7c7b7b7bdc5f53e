/-! all that holds between two calls -/
def MkR (h : Mem) : Prop := ∀ m, m < 2 → (h 174 m = 0 ∨ h 174 m = 1) ∧ h 174 m = h 227 m ∧ (h 174 m = 1 → ∃ Tm, RS (h 226) (407 * (1 + m)) Tm ∧ CS h (122 + 26 * m) Tm ∧ TW (h 220) Tm ∧ SnR h (144 + 26 * m) (fun j => h 226 (407 * (1 + m) + j)) ∧ SeW (fun j => h 226 (407 * (1 + m) + j)))
def IvA (h : Mem) (nb sb : Nat) : Prop := Lay h ∧ Td h nb ∧ h 0 3 = ((38 - nb : Nat) : Int) + 1 ∧ SdR h sb ∧ h 0 5 = ((135 - sb : Nat) : Int) + 1
def IvN (h : Mem) (nb : Nat) (P : Nat → Wd) (pn : Nat) : Prop := (RN h nb ∧ WN (h 220) ∧ Mono (h 220)) ∧ NaL (h 222) (h (nb + 4)) 10 (h 220 2).toNat ∧ LwR h P pn ∧ LwC h nb P pn
def IvT (h : Mem) (X : (Nat → Int) × Nat) : Prop := TpR h X ∧ TpC h X ∧ TpW X ∧ WdC h ∧ WdR h
def IvL (h : Mem) (sb : Nat) (T : TS) : Prop := (RS (h 226) 0 T ∧ CS h 72 T ∧ TW (h 220) T) ∧ (ScR h sb ∧ LnW (h 220) (h 223)) ∧ (SnR h 116 (h 226) ∧ SeW (h 226)) ∧ MkR h
def INVd (h : Mem) (nb sb : Nat) (T : TS) (P : Nat → Wd) (pn : Nat) (X : (Nat → Int) × Nat) : Prop := IvA h nb sb ∧ IvN h nb P pn ∧ (Cch h nb ∧ TrC h) ∧ IvT h X ∧ IvL h sb T
section INV
variable {h h' : Mem} {nb sb : Nat} {T : TS} {P : Nat → Wd} {pn : Nat} {X : (Nat → Int) × Nat}
theorem Sn_cg {gb : Nat} {s s' : Nat → Int} (S : SnR h gb s) (W : SeW s) (hc : ∀ i, gb ≤ i ∧ i < gb + 4 → h' i = h i) (e : ∀ j, 382 ≤ j → j < 407 → s' j = s j) : SnR h' gb s' ∧ SeW s' := by
  obtain ⟨⟨a, b⟩, c⟩ := W
  have e0 := e 382 (by decide) (by decide)
  refine ⟨⟨by rw [hc gb (by omega), e0]; exact S.1, fun i hi => ?_⟩, ⟨by rw [e0]; exact ⟨a, b⟩, fun i hi => ?_⟩⟩
  · rw [e0] at hi
    rw [hc (gb + 1) (by omega), hc (gb + 2) (by omega), hc (gb + 3) (by omega), e _ (by omega) (by omega), e _ (by omega) (by omega), e _ (by omega) (by omega)]
    exact S.2 i hi
  · rw [e0] at hi
    rw [e _ (by omega) (by omega), e _ (by omega) (by omega), e _ (by omega) (by omega)]
    exact c i hi
theorem TW_ag {nt nt' : Nat → Int} (A : Agr nt nt') (W : TW nt T) : TW nt' T ∧ (∀ n, qL nt' (usT T) n = qL nt (usT T) n) := by
  obtain ⟨w1, w2, w3, w4, w5⟩ := W
  have nf := A.1.nf
  have hu : ∀ k, k < (usT T).length → nd nt' (uA (usT T) k).1 (uA (usT T) k).2.1 = nd nt (uA (usT T) k).1 (uA (usT T) k).2.1 := fun k hk => by
    obtain ⟨a, b, _⟩ := w3 k hk
    have := A.1.hpB _ a
    exact A.ndE (by omega) (by omega)
  have ix : ∀ n, ixs nt' (usT T) n = ixs nt (usT T) n := fun n => by
    unfold ixs
    refine pl_cong (fun k hk => ?_)
    unfold atU
    rw [hu k hk]
  refine ⟨⟨w1, w2, fun k hk => ?_, w4, fun n hn => by rw [ix n]; exact w5 n hn⟩, fun n => ?_⟩
  · obtain ⟨a, b, c⟩ := w3 k hk
    exact ⟨by rw [A.n2]; exact a, by rw [A.hpE (by omega)]; exact b, c⟩
  · unfold qL
    rw [List.filter_congr (fun u hu' => ?_)]
    obtain ⟨k, hk, e⟩ := List.getElem_of_mem hu'
    have e2 : uA (usT T) k = u := by unfold uA; rw [List.getD_eq_getElem?_getD, List.getElem?_eq_getElem hk]; exact e
    have := hu k hk
    rw [e2] at this
    rw [this]
theorem CS_ag {tb : Nat} (C : CS h tb T) (A : Agr (h 220) (h' 220)) (W : TW (h 220) T) (hc : ∀ i, tb ≤ i ∧ i < tb + 22 → h' i = h i) : CS h' tb T := by
  obtain ⟨c1, c2, c3, c4, c5⟩ := C
  have q := (TW_ag A W).2
  refine ⟨by rw [hc tb (by omega)]; exact c1, fun n hn => ?_, ?_, ?_, fun f t hf ht => ?_⟩
  · rw [q n]
    unfold QR
    rw [hc (tb + 16) (by omega), hc (tb + 2 + n) (by omega)]
    exact c2 n hn
  · rw [hc (tb + 17) (by omega)]; exact c3
  · rw [hc (tb + 18) (by omega), hc (tb + 19) (by omega), hc (tb + 20) (by omega)]; exact c4
  · rw [hc (tb + 12 + f) (by omega)]; exact c5 f t hf ht
theorem RN_ag (R : RN h nb) (A : Agr (h 220) (h' 220)) (hc : ∀ i, nb ≤ i → i < nb + 30 → i ≠ nb + 17 → h' i = h i) : RN h' nb := by
  obtain ⟨⟨a1, a2⟩, ⟨b1, b2⟩, c, e⟩ := R
  have W := A.1
  have n6 := W.wc.1
  have nn := W.nn
  have nf := W.nf
  refine ⟨⟨by rw [hc nb (by omega) (by omega) (by omega), A.n0]; exact a1, fun q hq => ?_⟩, ⟨by rw [hc nb (by omega) (by omega) (by omega), A.n1]; exact b1, by rw [hc nb (by omega) (by omega) (by omega), A.n2]; exact b2⟩, fun q hq => ?_, fun f hf => ?_⟩
  · rw [A.n0] at hq
    obtain ⟨x1, x2, x3, x4⟩ := a2 q hq
    have cw := W.wc.2 q (by omega) hq
    rw [hc (nb + 18 + 2 * q) (by omega) (by omega) (by omega), hc (nb + 18 + 2 * q + 1) (by omega) (by omega) (by omega), A.2 _ (by omega), A.2 _ (by omega), A.2 _ (by omega)]
    refine ⟨x1, x2, x3, fun j j0 j1 => ?_⟩
    have := cw.2.1
    rw [A.2 _ (by omega)]
    exact x4 j j0 j1
  · rw [A.n1] at hq
    rw [hc (nb + 5) (by omega) (by omega) (by omega), hc (nb + 6) (by omega) (by omega) (by omega), hc (nb + 14) (by omega) (by omega) (by omega), A.kdE (by omega), A.cuE (by omega), A.ov]
    exact c q hq
  · rw [A.n2] at hf
    obtain ⟨x1, x2, x3⟩ := e f hf
    have hb := W.hpB f hf
    rw [hc (nb + 7) (by omega) (by omega) (by omega), hc (nb + 8) (by omega) (by omega) (by omega), hc (nb + 10 + f) (by omega) (by omega) (by omega), A.sbE (by omega), A.hpE (by omega)]
    exact ⟨x1, x2, fun k hk => by rw [A.ndE (by omega) (by omega)]; exact x3 k hk⟩
theorem Cch_ag (C : Cch h nb) (A : Agr (h 220) (h' 220)) (hc : ∀ i, 175 ≤ i → i ≤ 207 → h' i = h i) : Cch h' nb := by
  have t : TrW (h 220) (-1) 0 := Or.inl rfl
  rcases C with c | ⟨c, s1, s2, s3⟩
  · exact Or.inl (by rw [hc 175 (by decide) (by decide)]; exact c)
  · refine Or.inr ⟨by rw [hc 175 (by decide) (by decide)]; exact c, by rw [hc 175 (by decide) (by decide)]; exact s1, by rw [hc 175 (by decide) (by decide), A.rdsE t]; exact s2, fun q => ?_⟩
    rw [A.rdsE t] at q
    obtain ⟨d1, d2, d3⟩ := s3 q
    rw [A.dlsE t]
    have nn := A.1.nn
    refine ⟨fun f k hf hk => by rw [hc _ (by omega) (by omega)]; exact d1 f k hf hk, fun n f t' hn hf ht => ?_, fun n t' hn ht => ?_⟩
    · rw [hc _ (by omega) (by omega), A.ov, d2 n f t' hn hf ht]
      by_cases x : ovr (h 220) n f = true
      · rw [if_pos x, if_pos x, A.arvE]
        unfold ovr at x
        rw [Bool.and_eq_true] at x
        exact of_decide_eq_true x.1
      · rw [if_neg x, if_neg x]
    · rw [A.n1] at hn
      rw [hc _ (by omega) (by omega), A.srvE (Or.inl rfl) hn]
      exact d3 n t' hn ht
theorem TrC_ag (C : TrC h) (A : Agr (h 220) (h' 220)) (hc : h' 210 = h 210) : TrC h' := fun n c f hn hc' hf => by
  rw [A.n1] at hn
  rw [A.n0] at hc'
  rw [A.n2] at hf
  have := A.1.nf
  rw [hc, A.triE (Or.inr ⟨by omega, hc'⟩) (by omega)]
  exact C n c f hn hc' hf
/-- what may change between two calls, and what may not -/
theorem INVd.fr (I : INVd h nb sb T P pn X) (L : Lay h') (c0 : h' 0 = h 0) (c1 : h' 1 2 = h 1 2) (c2 : h' 2 = h 2) (c3 : h' 3 = h 3) (cn : ∀ i, nb ≤ i → i < nb + 30 → i ≠ nb + 17 → h' i = h i) (cs : ∀ i, sb ≤ i → i ≤ sb + 2 → h' i = h i) (ct : ∀ i, 72 ≤ i → i < 94 → h' i = h i) (cm : ∀ i, 116 ≤ i → i < 175 → h' i = h i) (Cc : Cch h' nb) (Tc : TrC h') (r2 : h' 214 2 = h 214 2) (r5 : h' 215 = h 215) (r9 : h' 219 = h 219) (r20 : ∀ j, j < 110 → h' 220 j = h 220 j) (r21 : ∀ j, j < 1100 → h' 221 j = h 221 j) (r22 : ∀ j, j < 14 → h' 222 j = h 222 j) (r23 : ∀ j, j < 85 → h' 223 j = h 223 j) (r26 : ∀ j, j < 1221 → h' 226 j = h 226 j) (r27 : h' 227 = h 227) : INVd h' nb sb T P pn X := by
  obtain ⟨⟨i1, i2, i3, i4, i5⟩, ⟨⟨n1, n2, n3⟩, n4, n5, n6⟩, _, ⟨t1, t2, t3, t4, t5⟩, ⟨l1, l2, l3⟩, ⟨s1, s2⟩, ⟨g1, g2⟩, mk⟩ := I
  have A : Agr (h 220) (h' 220) := ⟨n2, r20⟩
  have hn := i2.1
  have hs := i4.1
  have nf := n2.nf
  refine ⟨⟨L, ⟨hn, by rw [c0]; exact i2.2⟩, by rw [c0]; exact i3, ⟨hs, by rw [c0]; exact i4.2⟩, by rw [c0]; exact i5⟩, ⟨⟨RN_ag n1 A cn, A.wn, A.mono n3⟩, ?_, ?_, ?_⟩, ⟨Cc, Tc⟩, ⟨⟨by rw [r2]; exact t1.1, by rw [r5]; exact t1.2⟩, ⟨by rw [c1]; exact t2.1, by rw [c2]; exact t2.2⟩, t3, by unfold WdC; rw [c3]; exact t4, by unfold WdR; rw [r9]; exact t5⟩, ⟨?_, ?_, (TW_ag A l3).1⟩, ⟨?_, ?_⟩, ?_, fun m hm => ?_⟩
  · rw [A.n2, cn (nb + 4) (by omega) (by omega) (by omega)]
    refine ⟨fun k hk => by rw [r22 _ (by omega)]; exact n4.1 k hk, fun j k hj hk => ?_⟩
    rw [r22 _ (by omega), r22 _ (by omega)]
    exact n4.2 j k hj hk
  · rcases n5 with ⟨a, b⟩ | ⟨a, b, c, e, f, g⟩
    · exact Or.inl ⟨a, by rw [r20 3 (by decide)]; exact b⟩
    · exact Or.inr ⟨a, b, by rw [r20 3 (by decide)]; exact c, fun i hi => by rw [r21 i (by omega)]; exact e i hi, by rw [r21 _ (by omega)]; exact f, g⟩
  · obtain ⟨a, b, c, e⟩ := n6
    exact ⟨by rw [cn (nb + 15) (by omega) (by omega) (by omega)]; exact a, b, by rw [cn (nb + 16) (by omega) (by omega) (by omega)]; exact c, e⟩
  · exact RS.cong l1 l3.2.1 (fun j _ hj => r26 j (by omega))
  · exact CS_ag l2 A l3 (fun i hi => ct i hi.1 hi.2)
  · obtain ⟨a, b⟩ := s1
    have w := s2.1
    refine ⟨by rw [cs sb (by omega) (by omega), r23 0 (by decide)]; exact a, fun i hi => ?_⟩
    rw [r23 0 (by decide)] at hi
    rw [cs (sb + 1) (by omega) (by omega), cs (sb + 2) (by omega) (by omega), r23 _ (by omega), r23 _ (by omega)]
    exact b i hi
  · obtain ⟨a, b⟩ := s2
    refine ⟨by rw [r23 0 (by decide)]; exact a, fun i hi => ?_⟩
    rw [r23 0 (by decide)] at hi
    rw [r23 _ (by omega), r23 _ (by omega), A.n2]
    exact b i hi
  · exact Sn_cg g1 g2 (fun i hi => cm i (by omega) (by omega)) (fun j _ hj => r26 j (by omega))
  · obtain ⟨a, b, c⟩ := mk m hm
    rw [cm 174 (by decide) (by decide), r27]
    refine ⟨a, b, fun x => ?_⟩
    obtain ⟨Tm, y1, y2, y3, y4, y5⟩ := c x
    obtain ⟨z1, z2⟩ := Sn_cg (h' := h') (s' := fun j => h' 226 (407 * (1 + m) + j)) y4 y5 (fun i hi => cm i (by omega) (by omega)) (fun j _ hj => r26 _ (by omega))
    exact ⟨Tm, RS.cong y1 y3.2.1 (fun j _ hj => r26 j (by omega)), CS_ag y2 A y3 (fun i hi => cm i (by omega) (by omega)), (TW_ag A y3).1, z1, z2⟩
/-- the class has asked itself something -/
theorem INVd.cl (I : INVd h nb sb T P pn X) (L : Lay h') (lo : ∀ i, i < 94 → i ≠ nb + 17 → h' i = h i) (mi : ∀ i, 116 ≤ i → i < 175 → h' i = h i) (hi : ∀ i, 214 ≤ i → h' i = h i) (Cc : Cch h' nb) (Tc : TrC h') : INVd h' nb sb T P pn X := by
  have hn := I.1.2.1.1
  have hs := I.1.2.2.2.1.1
  exact I.fr L (lo 0 (by decide) (by omega)) (by rw [lo 1 (by decide) (by omega)]) (lo 2 (by decide) (by omega)) (lo 3 (by decide) (by omega)) (fun i a b c => lo i (by omega) c) (fun i a b => lo i (by omega) (by omega)) (fun i a b => lo i b (by omega)) mi Cc Tc (by rw [hi 214 (by decide)]) (hi _ (by decide)) (hi _ (by decide)) (fun j _ => by rw [hi 220 (by decide)]) (fun j _ => by rw [hi 221 (by decide)]) (fun j _ => by rw [hi 222 (by decide)]) (fun j _ => by rw [hi 223 (by decide)]) (fun j _ => by rw [hi 226 (by decide)]) (hi _ (by decide))
/-- the reference has asked itself something -/
theorem INVd.rf (I : INVd h nb sb T P pn X) (L : Lay h') (lo : ∀ i, i < 214 → h' i = h i) (r2 : h' 214 2 = h 214 2) (r5 : h' 215 = h 215) (mi : ∀ i, 219 ≤ i → i ≤ 223 → h' i = h i) (r26 : ∀ j, j < 1221 → h' 226 j = h 226 j) (r27 : h' 227 = h 227) : INVd h' nb sb T P pn X := by
  have hn := I.1.2.1.1
  have hs := I.1.2.2.2.1.1
  have A : Agr (h 220) (h' 220) := ⟨I.2.1.1.2.1, fun j _ => by rw [mi 220 (by decide) (by decide)]⟩
  exact I.fr L (lo 0 (by decide)) (by rw [lo 1 (by decide)]) (lo 2 (by decide)) (lo 3 (by decide)) (fun i a b c => lo i (by omega)) (fun i a b => lo i (by omega)) (fun i a b => lo i (by omega)) (fun i a b => lo i (by omega)) (Cch_ag I.2.2.1.1 A (fun i a b => lo i (by omega))) (TrC_ag I.2.2.1.2 A (lo 210 (by decide))) r2 r5 (mi _ (by decide) (by decide)) (fun j _ => by rw [mi 220 (by decide) (by decide)]) (fun j _ => by rw [mi 221 (by decide) (by decide)]) (fun j _ => by rw [mi 222 (by decide) (by decide)]) (fun j _ => by rw [mi 223 (by decide) (by decide)]) r26 r27
end INV

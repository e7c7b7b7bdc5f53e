section GE
variable {p : Program} {l : Launch} {e : Env} {R : Room} {s : State} {m : MethodId} {args : Array Value} {below : List Frame} {meth : Method} {c : Code} {D : va_G} {dA : Nat → ClassId} {A : Nat → Prop} {T : State → Prop} {y : MI} {ad0 : Nat → Nat} {sz0 k n pc : Nat} {kk kt kf : KT} {d K N K1 N1 : Nat} {y1 : MI} {Q : Int → Shp → Mem → Prop}
def x_iret (P : Int → Prop) (Q : Int → Shp → Mem → Prop) : KT := fun _ st sh h => match st with
  | [v] => (v.1 = 0 ∧ P v.2) ∧ Q v.2 sh h
  | _ => False
def x_lret (Q : Int → Shp → Mem → Prop) : KT := fun _ st sh h => match st with
  | [v] => v.1 = 1 ∧ Q v.2 sh h
  | _ => False
def x_vret (Q : Int → Shp → Mem → Prop) : KT := fun _ st sh h => match st with
  | [] => Q 0 sh h
  | _ => False
theorem S_iret (C : Cx y p s m args meth c D dA A) (hd : decode y.2.1 pc = .ok (.ireturn, 1)) (hret : y.2.2.2 = some .int) (hk : k ≤ K) (hn : n ≤ N) : ∀ ls st sh h, x_iret (fun _ => True) Q ls st sh h → G p l e R s m args below meth c D dA A (MQ below (qV D dA A ad0 sz0 Q y.2.2.2) args s K N A) y.2.2.1 ad0 sz0 k n pc ls st sh h := by
  intro ls st sh h hk0 ad H locs lsA g1 g2 g3 g4 g5 g6 g7 g8 g9
  obtain ⟨hx, hb, hr, hml, hown, hts, hK, hlk, hnm, hN, hA⟩ := id C
  unfold x_iret at hk0
  split at hk0
  · rename_i v
    obtain ⟨tv, r⟩ := v
    dsimp only at hk0
    obtain ⟨⟨rfl, hP0⟩, hQ⟩ := hk0
    refine W.widen hk hn ?_
    exact W.iret (v := Int32.ofInt r) hx hb (hr.trans hret) (fun t ht hW => ⟨⟨r, sh, h, ad, by rw [hret]; rfl, hQ, by rw [hret]; exact (can_hd g5).1 rfl, g6, g2, g1, by rw [ht]; exact g7, g8⟩, g9.F ht⟩) g9.2.2 hd hlk
  · exact hk0.elim
theorem S_zret (C : Cx y p s m args meth c D dA A) (hd : decode y.2.1 pc = .ok (.ireturn, 1)) (hret : y.2.2.2 = some .boolean) (hk : k ≤ K) (hn : n ≤ N) : ∀ ls st sh h, x_iret (fun x => 0 ≤ x ∧ x ≤ 1) Q ls st sh h → G p l e R s m args below meth c D dA A (MQ below (qV D dA A ad0 sz0 Q y.2.2.2) args s K N A) y.2.2.1 ad0 sz0 k n pc ls st sh h := by
  intro ls st sh h hk0 ad H locs lsA g1 g2 g3 g4 g5 g6 g7 g8 g9
  obtain ⟨hx, hb, hr, hml, hown, hts, hK, hlk, hnm, hN, hA⟩ := id C
  unfold x_iret at hk0
  split at hk0
  · rename_i v
    obtain ⟨tv, r⟩ := v
    dsimp only at hk0
    obtain ⟨⟨rfl, hP0⟩, hQ⟩ := hk0
    have hnz : narrow .boolean (.int (Int32.ofInt r)) = .int (Int32.ofInt r) := by rcases (show r = 0 ∨ r = 1 by omega) with rfl | rfl <;> rfl
    refine W.widen hk hn ?_
    exact W.zret (v := Int32.ofInt r) hx hb (hr.trans hret) hnz (fun t ht hW => ⟨⟨r, sh, h, ad, by rw [hret]; rfl, hQ, by rw [hret]; exact (can_hd g5).1 rfl, g6, g2, g1, by rw [ht]; exact g7, g8⟩, g9.F ht⟩) g9.2.2 hd hlk
  · exact hk0.elim
theorem S_lret (C : Cx y p s m args meth c D dA A) (hd : decode y.2.1 pc = .ok (.lreturn, 1)) (hret : y.2.2.2 = some .long) (hk : k ≤ K) (hn : n ≤ N) : ∀ ls st sh h, x_lret Q ls st sh h → G p l e R s m args below meth c D dA A (MQ below (qV D dA A ad0 sz0 Q y.2.2.2) args s K N A) y.2.2.1 ad0 sz0 k n pc ls st sh h := by
  intro ls st sh h hk0 ad H locs lsA g1 g2 g3 g4 g5 g6 g7 g8 g9
  obtain ⟨hx, hb, hr, hml, hown, hts, hK, hlk, hnm, hN, hA⟩ := id C
  unfold x_lret at hk0
  split at hk0
  · rename_i v
    obtain ⟨tv, r⟩ := v
    dsimp only at hk0
    obtain ⟨rfl, hQ⟩ := hk0
    refine W.widen hk hn ?_
    exact W.lret (v := Int64.ofInt r) hx hb (hr.trans hret) (fun t ht hW => ⟨⟨r, sh, h, ad, by rw [hret]; rfl, hQ, by rw [hret]; exact (can_hd g5).2.1 rfl, g6, g2, g1, by rw [ht]; exact g7, g8⟩, g9.F ht⟩) g9.2.2 hd hlk
  · exact hk0.elim
theorem S_vret (C : Cx y p s m args meth c D dA A) (hd : decode y.2.1 pc = .ok (.return_, 1)) (hret : y.2.2.2 = none) (hk : k ≤ K) (hn : n ≤ N) : ∀ ls st sh h, x_vret Q ls st sh h → G p l e R s m args below meth c D dA A (MQ below (qV D dA A ad0 sz0 Q y.2.2.2) args s K N A) y.2.2.1 ad0 sz0 k n pc ls st sh h := by
  intro ls st sh h hk0 ad H locs lsA g1 g2 g3 g4 g5 g6 g7 g8 g9
  obtain ⟨hx, hb, hr, hml, hown, hts, hK, hlk, hnm, hN, hA⟩ := id C
  unfold x_vret at hk0
  split at hk0
  · refine W.widen hk hn ?_
    exact W.vret hx hb (hr.trans hret) (fun t ht hW => ⟨⟨0, sh, h, ad, by rw [hret]; rfl, hk0, by rw [hret]; trivial, g6, g2, g1, by rw [ht]; exact g7, g8⟩, g9.F ht⟩) g9.2.2 hd hlk
  · exact hk0.elim
def x_mm (f : Int → Int → Int) (kk : KT) : KT := fun ls st sh h => match st with
  | b :: a :: q => ((a.1 = 0 ∧ b.1 = 0) ∧ ct q ≤ 40) ∧ kk ls ((0, f a.2 b.2) :: q) sh h
  | _ => False
theorem w_max : Cond.static Lib.Math.max.name ∈ tables_1 ∧ Cond.code Lib.Math.max.name Lib.Math.max.code 2 (some .int) ∈ tables_1 := ⟨by decide +kernel, by decide +kernel⟩
theorem w_min : Cond.static Lib.Math.min.name ∈ tables_1 ∧ Cond.code Lib.Math.min.name Lib.Math.min.code 2 (some .int) ∈ tables_1 := ⟨by decide +kernel, by decide +kernel⟩
theorem w_math : Cond.initialized "java/lang/Math" ∈ tables_1 := by decide +kernel
theorem S_max {idx : Nat} (C : Cx y p s m args meth c D dA A) (hd : decode y.2.1 pc = .ok (.invokestatic idx, 3)) (hl : Cond.methodLink y.1.cls idx Lib.Math.max.name ∈ tables_1) (hk : k ≤ K) (hn : n ≤ N) (ih : ∀ ls st sh h, kk ls st sh h → G p l e (rmV (d + 1) K N) s m args below meth c D dA A T y.2.2.1 ad0 sz0 k n (pc + 3) ls st sh h) : ∀ ls st sh h, x_mm (fun a b => max a b) kk ls st sh h → G p l e (rmV (d + 1) K N) s m args below meth c D dA A T y.2.2.1 ad0 sz0 k n pc ls st sh h := by
  intro ls st sh h hk0 ad H locs lsA g1 g2 g3 g4 g5 g6 g7 g8 g9
  obtain ⟨hx, hb, hr, hml, hown, hts, hK, hlk, hnm, hN, hA⟩ := id C
  unfold x_mm at hk0
  split at hk0
  · rename_i b a q
    obtain ⟨ta, a⟩ := a
    obtain ⟨tb, b⟩ := b
    dsimp only at hk0
    obtain ⟨⟨⟨rfl, rfl⟩, hct⟩, hk1⟩ := hk0
    have cb := (can_hd g5).1 rfl
    have ca := (can_hd (can_tl g5)).1 rfl
    have kn := ih _ _ _ _ hk1 ad H locs lsA g1 g2 g3 g4 (can_cons (can_int (by omega)) (can_tl (can_tl g5))) g6 g7 g8 g9
    have ev : Int32.ofInt (max a b) = (if Int32.ofInt a < Int32.ofInt b then Int32.ofInt b else Int32.ofInt a) := by
      simp only [ofInt_lt ca cb, ofInt_lt cb ca]
      split
      · congr 1; omega
      · congr 1; omega
    rw [List.map_cons, em_i, ev] at kn
    exact va_mmax hx hb (hml.trans g3.1.symm) hown (hts _ (in_g hl rfl)) (hts _ (in_g w_max.1 rfl)) (hts _ (in_g w_math rfl)) (hts _ (in_g w_max.2 rfl)) (by show 1 ≤ d + 1; omega) (by rw [ct_of]; show ct q + 13 ≤ 64 * (d + 1); omega) hk hn hd kn
  · exact hk0.elim
theorem S_min {idx : Nat} (C : Cx y p s m args meth c D dA A) (hd : decode y.2.1 pc = .ok (.invokestatic idx, 3)) (hl : Cond.methodLink y.1.cls idx Lib.Math.min.name ∈ tables_1) (hk : k ≤ K) (hn : n ≤ N) (ih : ∀ ls st sh h, kk ls st sh h → G p l e (rmV (d + 1) K N) s m args below meth c D dA A T y.2.2.1 ad0 sz0 k n (pc + 3) ls st sh h) : ∀ ls st sh h, x_mm (fun a b => min a b) kk ls st sh h → G p l e (rmV (d + 1) K N) s m args below meth c D dA A T y.2.2.1 ad0 sz0 k n pc ls st sh h := by
  intro ls st sh h hk0 ad H locs lsA g1 g2 g3 g4 g5 g6 g7 g8 g9
  obtain ⟨hx, hb, hr, hml, hown, hts, hK, hlk, hnm, hN, hA⟩ := id C
  unfold x_mm at hk0
  split at hk0
  · rename_i b a q
    obtain ⟨ta, a⟩ := a
    obtain ⟨tb, b⟩ := b
    dsimp only at hk0
    obtain ⟨⟨⟨rfl, rfl⟩, hct⟩, hk1⟩ := hk0
    have cb := (can_hd g5).1 rfl
    have ca := (can_hd (can_tl g5)).1 rfl
    have kn := ih _ _ _ _ hk1 ad H locs lsA g1 g2 g3 g4 (can_cons (can_int (by omega)) (can_tl (can_tl g5))) g6 g7 g8 g9
    have ev : Int32.ofInt (min a b) = (if Int32.ofInt b < Int32.ofInt a then Int32.ofInt b else Int32.ofInt a) := by
      simp only [ofInt_lt ca cb, ofInt_lt cb ca]
      split
      · congr 1; omega
      · congr 1; omega
    rw [List.map_cons, em_i, ev] at kn
    exact va_mmin hx hb (hml.trans g3.1.symm) hown (hts _ (in_g hl rfl)) (hts _ (in_g w_min.1 rfl)) (hts _ (in_g w_math rfl)) (hts _ (in_g w_min.2 rfl)) (by show 1 ≤ d + 1; omega) (by rw [ct_of]; show ct q + 13 ≤ 64 * (d + 1); omega) hk hn hd kn
  · exact hk0.elim
theorem S_iushr  (C : Cx y p s m args meth c D dA A) (hd : decode y.2.1 pc = .ok (.iushr, 1))  (ih : ∀ ls st sh h, kk ls st sh h → G p l e R s m args below meth c D dA A T y.2.2.1 ad0 sz0 k n (pc + 1) ls st sh h) : ∀ ls st sh h, x_b32 (o32 (fun x y => (x.toUInt32 >>> (y.toUInt32 &&& Int32.toUInt32 31)).toInt32)) kk ls st sh h → G p l e R s m args below meth c D dA A T y.2.2.1 ad0 sz0 k n pc ls st sh h := by
  intro ls st sh h hk0 ad H locs lsA g1 g2 g3 g4 g5 g6 g7 g8 g9
  obtain ⟨hx, hb, hr, hml, hown, hts, hK, hlk, hnm, hN, hA⟩ := id C
  obtain ⟨a, b, q, rfl, hk⟩ := x_b32_of hk0
  have kn := ih _ _ _ _ hk ad H locs lsA g1 g2 g3 g4 (can_cons (can_i32 _) (can_tl (can_tl g5))) g6 g7 g8 g9
  rw [List.map_cons, em_i, o32_of] at kn
  exact lv_iushr hx hb hd rfl kn
theorem S_ldcw {i : Nat} {v : Int} (C : Cx y p s m args meth c D dA A) (hd : decode y.2.1 pc = .ok (.ldc_w i, 3)) (hw : Cond.constant y.1.cls i (Int32.ofInt v) ∈ tables_1) (hc : -2147483648 ≤ v ∧ v < 2147483648) (ih : ∀ ls st sh h, kk ls st sh h → G p l e R s m args below meth c D dA A T y.2.2.1 ad0 sz0 k n (pc + 3) ls st sh h) : ∀ ls st sh h, x_ic v kk ls st sh h → G p l e R s m args below meth c D dA A T y.2.2.1 ad0 sz0 k n pc ls st sh h := by
  intro ls st sh h hk0 ad H locs lsA g1 g2 g3 g4 g5 g6 g7 g8 g9
  obtain ⟨hx, hb, hr, hml, hown, hts, hK, hlk, hnm, hN, hA⟩ := id C
  exact lv_ldcw hx hb hown (hts _ (in_g hw rfl)) hd (ih _ _ _ _ hk0 ad H locs lsA g1 g2 g3 g4 (can_cons (can_int hc) g5) g6 g7 g8 g9)
/-- a switch: by the first number that it is, or else -/
def swk (a : Int) (kd : KT) (ls q : List PV) (sh : Shp) (h : Mem) : List (Int × KT) → Prop
  | [] => kd ls q sh h
  | (v, kx) :: r => (a = v → kx ls q sh h) ∧ (¬ a = v → swk a kd ls q sh h r)
def x_sw (cs : List (Int × KT)) (kd : KT) : KT := fun ls st sh h => match st with
  | a :: q => a.1 = 0 ∧ swk a.2 kd ls q sh h cs
  | _ => False
theorem sw_pick {a : Int} {kd : KT} {ls q : List PV} {sh : Shp} {h : Mem} : ∀ {cs : List (Int × KT)}, swk a kd ls q sh h cs → (∃ kx, (a, kx) ∈ cs ∧ kx ls q sh h) ∨ (a ∉ cs.map Prod.fst ∧ kd ls q sh h)
  | [], hk => Or.inr ⟨by simp, hk⟩
  | (v, kx) :: r, hk => by
    obtain ⟨h1, h2⟩ := hk
    by_cases e : a = v
    · exact Or.inl ⟨kx, by rw [e]; exact List.mem_cons_self, h1 e⟩
    · rcases sw_pick (h2 e) with ⟨kz, hz, hq⟩ | ⟨hz, hq⟩
      · exact Or.inl ⟨kz, List.mem_cons_of_mem _ hz, hq⟩
      · refine Or.inr ⟨?_, hq⟩
        rw [List.map_cons, List.mem_cons]
        exact fun z => z.elim e hz
def swo (GT : Nat → KT) (tg : Int → Nat → Prop) : List (Int × KT) → Prop
  | [] => True
  | (v, kx) :: r => (∃ t : Nat, tg v t ∧ ∀ ls st sh h, kx ls st sh h → GT t ls st sh h) ∧ swo GT tg r
theorem swo_at {GT : Nat → KT} {tg : Int → Nat → Prop} : ∀ {cs : List (Int × KT)}, swo GT tg cs → ∀ {v : Int} {kx : KT}, (v, kx) ∈ cs → ∃ t : Nat, tg v t ∧ ∀ ls st sh h, kx ls st sh h → GT t ls st sh h
  | [], _, v, kx, hm => by simp at hm
  | (u, ku) :: r, ho, v, kx, hm => by
    rcases List.mem_cons.mp hm with e | e
    · cases e; exact ho.1
    · exact swo_at ho.2 e
theorem lsw_none {a dflt : Int} : ∀ {ps : List (Int × Int)}, a ∉ ps.map Prod.fst → Op.lookupswitch.offset ps dflt a = dflt
  | [], _ => rfl
  | (v, o) :: r, hn => by
    rw [List.map_cons, List.mem_cons] at hn
    have e : ¬ v = a := fun z => hn (Or.inl z.symm)
    have := lsw_none (a := a) (dflt := dflt) (ps := r) (fun z => hn (Or.inr z))
    first | (simp [Op.lookupswitch.offset, e]; exact this) | (simp [Op.lookupswitch.offset, e, Ne.symm e] at this ⊢; exact this) | (unfold Op.lookupswitch.offset at this ⊢; simp [e] at this ⊢; exact this)
theorem S_tsw {dflt lo hi : Int} {offs : Array Int} {len : Nat} {cs : List (Int × KT)} {td : Nat} (C : Cx y p s m args meth c D dA A) (hd : decode y.2.1 pc = .ok (.tableswitch dflt lo hi offs, len)) (htd : (pc : Int) + dflt = (td : Int)) (hcov : ∀ a : Int, lo ≤ a → a ≤ hi → a ∈ cs.map Prod.fst) (its : swo (fun t => G p l e R s m args below meth c D dA A T y.2.2.1 ad0 sz0 k n t) (fun v t => ∃ off : Int, lo ≤ v ∧ v ≤ hi ∧ offs[(v - lo).toNat]? = some off ∧ (pc : Int) + off = (t : Int)) cs) (id2 : ∀ ls st sh h, kk ls st sh h → G p l e R s m args below meth c D dA A T y.2.2.1 ad0 sz0 k n td ls st sh h) : ∀ ls st sh h, x_sw cs kk ls st sh h → G p l e R s m args below meth c D dA A T y.2.2.1 ad0 sz0 k n pc ls st sh h := by
  intro ls st sh h hk0 ad H locs lsA g1 g2 g3 g4 g5 g6 g7 g8 g9
  obtain ⟨hx, hb, hr, hml, hown, hts, hK, hlk, hnm, hN, hA⟩ := id C
  unfold x_sw at hk0
  split at hk0
  · rename_i a q
    obtain ⟨ta, a⟩ := a
    dsimp only at hk0
    obtain ⟨rfl, h1⟩ := hk0
    have ca := (can_hd g5).1 rfl
    have ea := Int32.toInt_ofInt_of_le ca.1 ca.2
    rcases sw_pick h1 with ⟨kx, hm, hq⟩ | ⟨hm, hq⟩
    · obtain ⟨t, ⟨off, hlo, hhi, ho, ht⟩, hg⟩ := swo_at its hm
      exact lv_tableIn hx hb hd (by rw [ea]; exact Int.not_lt.mpr hlo) (by rw [ea]; exact Int.not_lt.mpr hhi) (by rw [ea]; exact ho) ht (hg _ _ _ _ hq ad H locs lsA g1 g2 g3 g4 (can_tl g5) g6 g7 g8 g9)
    · have hout : a < lo ∨ hi < a := Decidable.by_contra fun z => hm (hcov a (by omega) (by omega))
      exact lv_tableOut hx hb hd (by rw [ea]; exact hout) htd (id2 _ _ _ _ hq ad H locs lsA g1 g2 g3 g4 (can_tl g5) g6 g7 g8 g9)
  · exact hk0.elim
theorem S_lsw {dflt : Int} {ps : Array (Int × Int)} {len : Nat} {cs : List (Int × KT)} {td : Nat} (C : Cx y p s m args meth c D dA A) (hd : decode y.2.1 pc = .ok (.lookupswitch dflt ps, len)) (htd : (pc : Int) + dflt = (td : Int)) (hsrt : (ps.toList.zip (ps.toList.drop 1)).all (fun (a, next) => a.1 < next.1) = true) (hcov : ps.toList.map Prod.fst = cs.map Prod.fst) (its : swo (fun t => G p l e R s m args below meth c D dA A T y.2.2.1 ad0 sz0 k n t) (fun v t => ∃ off : Int, Op.lookupswitch.offset ps.toList dflt v = off ∧ (pc : Int) + off = (t : Int)) cs) (id2 : ∀ ls st sh h, kk ls st sh h → G p l e R s m args below meth c D dA A T y.2.2.1 ad0 sz0 k n td ls st sh h) : ∀ ls st sh h, x_sw cs kk ls st sh h → G p l e R s m args below meth c D dA A T y.2.2.1 ad0 sz0 k n pc ls st sh h := by
  intro ls st sh h hk0 ad H locs lsA g1 g2 g3 g4 g5 g6 g7 g8 g9
  obtain ⟨hx, hb, hr, hml, hown, hts, hK, hlk, hnm, hN, hA⟩ := id C
  unfold x_sw at hk0
  split at hk0
  · rename_i a q
    obtain ⟨ta, a⟩ := a
    dsimp only at hk0
    obtain ⟨rfl, h1⟩ := hk0
    have ca := (can_hd g5).1 rfl
    have ea := Int32.toInt_ofInt_of_le ca.1 ca.2
    rcases sw_pick h1 with ⟨kx, hm, hq⟩ | ⟨hm, hq⟩
    · obtain ⟨t, ⟨off, ho, ht⟩, hg⟩ := swo_at its hm
      exact lv_lookup hx hb hd hsrt (by rw [ea]; exact ho) ht (hg _ _ _ _ hq ad H locs lsA g1 g2 g3 g4 (can_tl g5) g6 g7 g8 g9)
    · exact lv_lookup hx hb hd hsrt (by rw [ea]; exact lsw_none (by rw [hcov]; exact hm)) htd (id2 _ _ _ _ hq ad H locs lsA g1 g2 g3 g4 (can_tl g5) g6 g7 g8 g9)
  · exact hk0.elim
end GE

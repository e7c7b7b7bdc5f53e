/-! cells that are made -/
def eqv (x z : va_E) : Prop := ∀ (D : va_G) (cl : List vw_C) (q : Nat) (H : Heap), va_at D cl (q, x) H → va_at D cl (q, z) H
theorem arrV_congr {cA : ClassId} {nn : Nat} {f g : Nat → Value} (hfg : ∀ j, j < nn → f j = g j) : arrV cA nn f = arrV cA nn g := by
  unfold arrV
  have : (Array.ofFn (n := nn) fun j => f j.val) = Array.ofFn (n := nn) fun j => g j.val := by
    congr 1; funext j; exact hfg j.val j.isLt
  rw [this]
theorem em_c_ad {dA : Nat → ClassId} {ad ad' : Nat → Nat} {M : Nat} (had : ∀ i, i < M → ad' i = ad i) {kn : Nat × Nat} {f : Nat → Int} (hc : ∀ j, j < kn.2 → can_v M (s_tg kn j, f j)) : eqv (em_c dA ad kn f) (em_c dA ad' kn f) := by
  intro D cl q H hv
  unfold em_c at hv ⊢
  by_cases e1 : kn.1 = 1
  · rw [if_pos e1] at hv ⊢; exact hv
  · rw [if_neg e1] at hv ⊢
    by_cases e2 : kn.1 < 4
    · rw [if_pos e2] at hv ⊢; exact hv
    · rw [if_neg e2] at hv ⊢
      by_cases e3 : kn.1 < 8
      · rw [if_pos e3] at hv ⊢
        have hv : H[q]? = some (arrV (dA kn.1) kn.2 (fun j => va_rf (rf_o ad (f j)))) := hv
        show H[q]? = some (arrV (dA kn.1) kn.2 (fun j => va_rf (rf_o ad' (f j))))
        rw [hv]
        congr 1
        refine arrV_congr (fun j hj => ?_)
        have h1 := hc j hj
        unfold s_tg at h1
        rw [if_neg e1, if_neg e2, if_pos e3] at h1
        exact (em_v_ad had h1).symm
      · rw [if_neg e3] at hv ⊢
        have : ((List.range kn.2).map (fun j => em_v ad' (c_tg (kn.1 - 8) j, f j))) = ((List.range kn.2).map (fun j => em_v ad (c_tg (kn.1 - 8) j, f j))) := by
          refine List.map_congr_left (fun j hj => ?_)
          have h1 := hc j (List.mem_range.mp hj)
          unfold s_tg at h1
          rw [if_neg e1, if_neg e2, if_neg e3] at h1
          exact em_v_ad had h1
        rw [this]; exact hv
theorem grow {D : va_G} {dA : Nat → ClassId} {A : Nat → Prop} {ad ad' : Nat → Nat} {sh shs : Shp} {h h' : Mem} {H1 : Heap} {nw : va_W} (hP : va_P D vwCl (em_w dA ad sh h ++ nw) H1) (hD : va_D A (em_w dA ad sh h ++ nw)) (hc : can_m sh h) (had : ∀ i, i < sh.length → ad' i = ad i) (hh : ∀ i, i < sh.length → h' i = h i)
    (hn : ∀ (i : Nat) (kn : Nat × Nat), shs[i]? = some kn → ∃ ce, nw[i]? = some (ad' (sh.length + i), ce) ∧ eqv ce (em_c dA ad' kn (h' (sh.length + i)))) : va_P D vwCl (em_w dA ad' (sh ++ shs) h') H1 ∧ va_D A (em_w dA ad' (sh ++ shs) h') := by
  have key : ∀ (k : Nat) (q : Nat × va_E), (em_w dA ad' (sh ++ shs) h')[k]? = some q → ∃ q0, (em_w dA ad sh h ++ nw)[k]? = some q0 ∧ q0.1 = q.1 ∧ eqv q0.2 q.2 := by
    intro k q hk
    rw [em_w, List.getElem?_mapIdx, List.getElem?_append] at hk
    have hlen : (em_w dA ad sh h).length = sh.length := by rw [em_w, List.length_mapIdx]
    rw [List.getElem?_append, hlen]
    by_cases hlt : k < sh.length
    · rw [if_pos hlt] at hk ⊢
      cases hs : sh[k]? with
      | none => rw [hs] at hk; cases hk
      | some kn =>
        rw [hs] at hk
        cases hk
        refine ⟨_, em_w_at hs, (had k hlt).symm, ?_⟩
        show eqv (em_c dA ad kn (h k)) (em_c dA ad' kn (h' k))
        rw [hh k hlt]
        exact em_c_ad had (fun j hj => hc k kn hs j hj)
    · rw [if_neg hlt] at hk ⊢
      cases hs : shs[k - sh.length]? with
      | none => rw [hs] at hk; cases hk
      | some kn =>
        rw [hs] at hk
        cases hk
        obtain ⟨ce, h1, h2⟩ := hn _ _ hs
        rw [show sh.length + (k - sh.length) = k by omega] at h1 h2
        exact ⟨_, h1, rfl, h2⟩
  refine ⟨fun k q hk => ?_, ⟨fun i j a b ha hb hab => ?_, fun k q hk => ?_⟩⟩
  · obtain ⟨q0, h1, h2, h3⟩ := key k q hk
    have := h3 D vwCl q0.1 H1 (hP k q0 h1)
    rw [h2] at this
    exact this
  · obtain ⟨a0, h1, h2, -⟩ := key i a ha
    obtain ⟨b0, h3, h4, -⟩ := key j b hb
    exact hD.1 i j a0 b0 h1 h3 (by rw [h2, h4]; exact hab)
  · obtain ⟨q0, h1, h2, -⟩ := key k q hk
    rw [← h2]; exact hD.2 k q0 h1
/-- the memory with the cells from M on laid with 0 -/
def clr (h : Mem) (M : Nat) : Mem := fun i => if i < M then h i else fun _ => 0
theorem can_clr {sh shs : Shp} {h : Mem} (hc : can_m sh h) : can_m (sh ++ shs) (clr h sh.length) := by
  intro i kn hi j hj
  unfold clr
  by_cases e : i < sh.length
  · rw [if_pos e]
    rw [List.getElem?_append, if_pos e] at hi
    exact can_mono (by rw [List.length_append]; omega) (hc i kn hi j hj)
  · rw [if_neg e]
    refine ⟨fun _ => ⟨(show (-2147483648 : Int) ≤ 0 by decide), (show (0 : Int) < 2147483648 by decide)⟩, fun _ => ⟨(show (-9223372036854775808 : Int) ≤ 0 by decide), (show (0 : Int) < 9223372036854775808 by decide)⟩, fun _ => Int.natCast_nonneg _⟩
theorem em_v_0 (ad : Nat → Nat) (ty : FieldType) (ht : ty ≠ .float ∧ ty ≠ .double) : em_v ad (tg_of ty, 0) = defaultValue ty := by
  cases ty <;> first | rfl | exact absurd rfl ht.1 | exact absurd rfl ht.2
section GA
variable {p : Program} {l : Launch} {e : Env} {s : State} {m : MethodId} {args : Array Value} {below : List Frame} {meth : Method} {c : Code} {D : va_G} {dA : Nat → ClassId} {A : Nat → Prop} {T : State → Prop} {y : MI} {ad0 : Nat → Nat} {sz0 k n pc : Nat} {kk kt kf : KT} {d K N K1 N1 : Nat} {y1 : MI}
def x_new (ci nn : Nat) (kk : KT) : KT := fun ls st sh h => kk ls ((2, (sh.length : Int) + 1) :: st) (sh ++ [(8 + ci, nn)]) (clr h sh.length)
def xad (ad : Nat → Nat) (M q : Nat) : Nat → Nat := fun i => if i = M then q else ad i
theorem xad_lt {ad : Nat → Nat} {M q : Nat} : ∀ i, i < M → xad ad M q i = ad i := fun i hi => by unfold xad; rw [if_neg (by omega)]
theorem xad_at {ad : Nat → Nat} {M q : Nat} : xad ad M q M = q := by unfold xad; rw [if_pos rfl]
theorem can_l_mono {M M' : Nat} (hM : M ≤ M') {ls : List PV} (hl : can_l M ls) : can_l M' ls := fun v hv => can_mono hM (hl v hv)
theorem map_ad {ad ad' : Nat → Nat} {M : Nat} (had : ∀ i, i < M → ad' i = ad i) {q : List PV} (hq : can_l M q) : q.map (em_v ad') = q.map (em_v ad) := List.map_congr_left fun v hv => em_v_ad had (hq v hv)
theorem S_new {idx ci nn : Nat} {Cn : String} {Tn : u_T} {ty0 : Nat → FieldType} (C : Cx y p s m args meth c D dA A) (hd : decode y.2.1 pc = .ok (.new idx, 3)) (hc : vwCl[ci]? = some (Cn, Tn, nn)) (hin : ∀ w ∈ u_ws Cn Tn nn, w ∈ lw_g) (hty : ∀ k, k < nn → parseFieldDescriptor (Tn k).2.2.1 = some (ty0 k)) (hct : ∀ j, j < nn → c_ty ci j = ty0 j ∧ ty0 j ≠ .float ∧ ty0 j ≠ .double) (hcl : Cond.classLink y.1.cls idx Cn ∈ tables_1) (hinst : Cond.instantiable Cn nn ∈ tables_1) (hini : Cond.initialized Cn ∈ tables_1) (hk : k + 1 ≤ K) (hn : n + nn ≤ N)
    (ih : ∀ ls st sh h, kk ls st sh h → G p l e (rmV (d + 1) K N) s m args below meth c D dA A T y.2.2.1 ad0 sz0 (k + 1) (n + nn) (pc + 3) ls st sh h) : ∀ ls st sh h, x_new ci nn kk ls st sh h → G p l e (rmV (d + 1) K N) s m args below meth c D dA A T y.2.2.1 ad0 sz0 k n pc ls st sh h := by
  intro ls st sh h hk0 ad H locs lsA g1 g2 g3 g4 g5 g6 g7 g8 g9
  obtain ⟨hx, hb, hr, hml, hown, hts, hK, hlk, hnm, hN, hA⟩ := id C
  refine va_new (ci := ci) (fs := (List.range nn).map (fun j => defaultValue (ty0 j))) hx hb hts hin ty0 hty hown (hts _ (in_g hcl rfl)) (hts _ (in_g hinst rfl)) (hts _ (in_g hini rfl)) hK g7 g8 g9 hA hc (fun j hj => by unfold vp_V; simp [hj]) hk hn hd (fun q H1 hP hD hS => ?_)
  obtain ⟨hP2, hD2⟩ := grow (ad' := xad ad sh.length q) (h' := clr h sh.length) (shs := [(8 + ci, nn)]) hP hD g6 xad_lt (fun i hi => by unfold clr; rw [if_pos hi]) (fun i kn hi => by
    match i, hi with
    | 0, hi =>
      cases hi
      refine ⟨_, by rw [Nat.add_zero, xad_at]; rfl, ?_⟩
      intro D' cl' q' H' hv
      rw [em_c, if_neg (show ¬ 8 + ci = 1 by omega), if_neg (show ¬ 8 + ci < 4 by omega), if_neg (show ¬ 8 + ci < 8 by omega), show (8 + ci, nn).1 - 8 = ci by show 8 + ci - 8 = ci; omega]
      have : (List.range nn).map (fun j => em_v (xad ad sh.length q) (c_tg ci j, clr h sh.length (sh.length + 0) j)) = (List.range nn).map (fun j => defaultValue (ty0 j)) := by
        refine List.map_congr_left (fun j hj => ?_)
        have hj := hct j (List.mem_range.mp hj)
        unfold clr c_tg
        rw [if_neg (by omega), hj.1]
        exact em_v_0 _ _ hj.2
      rw [this]; exact hv
    | i + 1, hi => simp at hi)
  have hlen : (sh ++ [(8 + ci, nn)]).length = sh.length + 1 := by simp
  have kn := ih _ _ _ _ hk0 (xad ad sh.length q) H1 locs lsA (fun i hi => by rw [xad_lt i (by omega)]; exact g1 i hi) (by omega) (lr_ad xad_lt g3 g4) (by rw [hlen]; exact can_l_mono (by omega) g4) (by rw [hlen]; exact can_cons ⟨fun e => (by cases e), fun e => (by cases e), fun _ => by show (sh.length : Int) + 1 ≤ _; omega⟩ (can_l_mono (by omega) g5)) (can_clr g6) hP2 hD2 hS
  rw [List.map_cons, em_ix _ (by omega), show ((sh.length : Int) + 1).toNat - 1 = sh.length by omega, xad_at, map_ad xad_lt g5] at kn
  exact kn
theorem va_RA_inj {cA cB : ClassId} {ty : FieldType} (h1 : va_RA s cA ty) (h2 : va_RA s cB ty) : cA = cB := by
  cases ty with
  | object C =>
    obtain ⟨_, _, _, _, _, h1⟩ := h1
    obtain ⟨_, _, _, _, _, h2⟩ := h2
    exact Option.some.inj (h1.symm.trans h2)
  | _ => exact Option.some.inj (Eq.trans (Eq.symm h1) h2)
theorem cA_eq {cA : ClassId} {ty : FieldType} {kd : Nat} (hK : va_K D vwCl (tysL dA) s) (h8 : kd < 8) (hty : ty = a_ty kd) (hK2 : va_K D vwCl (tysL dA ++ [(cA, ty)]) s) : cA = dA kd := by
  have h1 := (hK2.2 8 (cA, ty) (by rw [List.getElem?_append_right (by simp [tysL])]; simp [tysL])).2
  have h2 := (hK.2 kd _ (tysL_at dA h8)).2
  rw [hty] at h1
  exact va_RA_inj h1 h2
/-- what comes behind a cell that was made -/
theorem grown {R : Room} {ls q : List PV} {sh : Shp} {h : Mem} {ad : Nat → Nat} {H1 : Heap} {locs : List Loc} {lsA : Array Slot} {kn0 : Nat × Nat} {ce : va_E} {qa : Nat} {k' n' pc' : Nat} (g1 : ∀ i, i < sz0 → ad i = ad0 i) (g2 : sz0 ≤ sh.length) (g3 : lr ad lsA y.2.2.1 ls) (g4 : can_l sh.length ls) (g5 : can_l sh.length q) (g6 : can_m sh h)
    (hP : va_P D vwCl (em_w dA ad sh h ++ [(qa, ce)]) H1) (hD : va_D A (em_w dA ad sh h ++ [(qa, ce)])) (hS : va_S A s.heap H1 locs) (hce : ∀ ad' : Nat → Nat, eqv ce (em_c dA ad' kn0 (fun _ => 0)))
    (ih : G p l e R s m args below meth c D dA A T y.2.2.1 ad0 sz0 k' n' pc' ls ((2, (sh.length : Int) + 1) :: q) (sh ++ [kn0]) (clr h sh.length)) : W p l e R s m args below meth c H1 locs k' n' T (F0 m pc' lsA (.ref qa :: q.map (em_v ad))) := by
  obtain ⟨hP2, hD2⟩ := grow (ad' := xad ad sh.length qa) (h' := clr h sh.length) (shs := [kn0]) hP hD g6 xad_lt (fun i hi => by unfold clr; rw [if_pos hi]) (fun i kn hi => by
    match i, hi with
    | 0, hi =>
      cases hi
      refine ⟨_, by rw [Nat.add_zero, xad_at]; rfl, ?_⟩
      have : clr h sh.length (sh.length + 0) = fun _ => 0 := by unfold clr; rw [if_neg (by omega)]
      rw [this]; exact hce _
    | i + 1, hi => simp at hi)
  have hlen : (sh ++ [kn0]).length = sh.length + 1 := by simp
  have kn := ih (xad ad sh.length qa) H1 locs lsA (fun i hi => by rw [xad_lt i (by omega)]; exact g1 i hi) (by omega) (lr_ad xad_lt g3 g4) (by rw [hlen]; exact can_l_mono (by omega) g4) (by rw [hlen]; exact can_cons ⟨fun e => (by cases e), fun e => (by cases e), fun _ => by show (sh.length : Int) + 1 ≤ _; omega⟩ (can_l_mono (by omega) g5)) (can_clr g6) hP2 hD2 hS
  rw [List.map_cons, em_ix _ (by omega), show ((sh.length : Int) + 1).toNat - 1 = sh.length by omega, xad_at, map_ad xad_lt g5] at kn
  exact kn
def x_newa (kd nn : Nat) (kk : KT) : KT := fun ls st sh h => match st with
  | v :: q => (v.1 = 0 ∧ v.2 = nn) ∧ kk ls ((2, (sh.length : Int) + 1) :: q) (sh ++ [(kd, nn)]) (clr h sh.length)
  | _ => False
theorem S_newa {kd nn : Nat} {aty : ArrayType} (C : Cx y p s m args meth c D dA A) (hd : decode y.2.1 pc = .ok (.newarray aty, 2)) (hkd : kd < 4) (hty : newarray.typeOf aty = a_ty kd) (hw : Cond.arrayClass (a_ty kd) ∈ tables_1) (hnn : nn < 100000) (hk : k + 1 ≤ K) (hn : n + nn ≤ N)
    (ih : ∀ ls st sh h, kk ls st sh h → G p l e (rmV (d + 1) K N) s m args below meth c D dA A T y.2.2.1 ad0 sz0 (k + 1) (n + nn) (pc + 2) ls st sh h) : ∀ ls st sh h, x_newa kd nn kk ls st sh h → G p l e (rmV (d + 1) K N) s m args below meth c D dA A T y.2.2.1 ad0 sz0 k n pc ls st sh h := by
  intro ls st sh h hk0 ad H locs lsA g1 g2 g3 g4 g5 g6 g7 g8 g9
  obtain ⟨hx, hb, hr, hml, hown, hts, hK, hlk, hnm, hN, hA⟩ := id C
  unfold x_newa at hk0
  split at hk0
  · rename_i v q
    obtain ⟨tv, v⟩ := v
    dsimp only at hk0
    obtain ⟨⟨rfl, rfl⟩, hk1⟩ := hk0
    have z0 : -2147483648 ≤ (0:Int) ∧ (0:Int) < 2147483648 := by decide
    have cn : -2147483648 ≤ (nn:Int) ∧ (nn:Int) < 2147483648 := by omega
    have hb8 : componentBytes (a_ty kd) ≤ 8 := by rcases (show kd = 0 ∨ kd = 1 ∨ kd = 2 ∨ kd = 3 by omega) with rfl | rfl | rfl | rfl <;> decide
    have hbb : nn * componentBytes (a_ty kd) ≤ 536870912 := Nat.le_trans (Nat.mul_le_mul_left nn hb8) (by omega)
    have en : (Int32.ofInt (nn:Int)).toNatClampNeg = nn := by rw [Int32.toNatClampNeg_ofInt_of_le cn.1 cn.2]; omega
    have hneg : ¬ Int32.ofInt (nn:Int) < 0 := fun z => absurd ((ofInt_lt cn z0).mp z) (by omega)
    by_cases e1 : kd = 1
    · subst e1
      refine va_newa (ty := .long) (a0 := (nn, .inr (.inl (fun _ => 0)))) hx hb (by rw [hty]; exact hts _ (in_g hw rfl)) hty hK g7 g8 g9 hA (fun cA => rfl) hneg en hbb hk hn hd (fun qa cA H1 hK2 hP hD hS => ?_)
      have := cA_eq (kd := 1) hK (by decide) rfl hK2
      subst this
      exact grown (kn0 := (1, nn)) g1 g2 g3 g4 (can_tl g5) g6 hP hD hS (fun ad' D' cl' q' H' hv => hv) (ih _ _ _ _ hk1)
    · have hdv : defaultValue (a_ty kd) = .int 0 := by rcases (show kd = 0 ∨ kd = 2 ∨ kd = 3 by omega) with rfl | rfl | rfl <;> rfl
      refine va_newa (ty := a_ty kd) (a0 := (nn, .inl (fun _ => 0))) hx hb (by rw [hty]; exact hts _ (in_g hw rfl)) hty hK g7 g8 g9 hA (fun cA => by rw [hdv]; rfl) hneg en hbb hk hn hd (fun qa cA H1 hK2 hP hD hS => ?_)
      have := cA_eq (kd := kd) hK (by omega) rfl hK2
      subst this
      exact grown g1 g2 g3 g4 (can_tl g5) g6 hP hD hS (fun ad' D' cl' q' H' hv => by rw [em_c, if_neg (show ¬ kd = 1 from e1), if_pos (show kd < 4 from hkd)]; exact hv) (ih _ _ _ _ hk1)
  · exact hk0.elim
theorem S_anew {kd nn idx : Nat} {Cn : String} (C : Cx y p s m args meth c D dA A) (hd : decode y.2.1 pc = .ok (.anewarray idx, 3)) (hkd : 5 ≤ kd ∧ kd < 8) (hty : a_ty kd = .object Cn) (hw : FieldType.object Cn ∈ lw_over) (hcl : Cond.classLink y.1.cls idx Cn ∈ tables_1) (hnn : nn < 100000) (hk : k + 1 ≤ K) (hn : n + nn ≤ N)
    (ih : ∀ ls st sh h, kk ls st sh h → G p l e (rmV (d + 1) K N) s m args below meth c D dA A T y.2.2.1 ad0 sz0 (k + 1) (n + nn) (pc + 3) ls st sh h) : ∀ ls st sh h, x_newa kd nn kk ls st sh h → G p l e (rmV (d + 1) K N) s m args below meth c D dA A T y.2.2.1 ad0 sz0 k n pc ls st sh h := by
  intro ls st sh h hk0 ad H locs lsA g1 g2 g3 g4 g5 g6 g7 g8 g9
  obtain ⟨hx, hb, hr, hml, hown, hts, hK, hlk, hnm, hN, hA⟩ := id C
  unfold x_newa at hk0
  split at hk0
  · rename_i v q
    obtain ⟨tv, v⟩ := v
    dsimp only at hk0
    obtain ⟨⟨rfl, rfl⟩, hk1⟩ := hk0
    have z0 : -2147483648 ≤ (0:Int) ∧ (0:Int) < 2147483648 := by decide
    have cn : -2147483648 ≤ (nn:Int) ∧ (nn:Int) < 2147483648 := by omega
    have en : (Int32.ofInt (nn:Int)).toNatClampNeg = nn := by rw [Int32.toNatClampNeg_ofInt_of_le cn.1 cn.2]; omega
    have hneg : ¬ Int32.ofInt (nn:Int) < 0 := fun z => absurd ((ofInt_lt cn z0).mp z) (by omega)
    refine va_newq hx hb hown (hts _ (in_g hcl rfl)) (hN.2 _ hw) hK g7 g8 g9 hA hneg en (by omega) hk hn hd (fun qa cA H1 hK2 hP hD hS => ?_)
    have := cA_eq (kd := kd) hK (by omega) hty.symm hK2
    subst this
    exact grown g1 g2 g3 g4 (can_tl g5) g6 hP hD hS (fun ad' D' cl' q' H' hv => by rw [em_c, if_neg (show ¬ kd = 1 by omega), if_neg (show ¬ kd < 4 by omega), if_pos (show kd < 8 by omega)]; exact hv) (ih _ _ _ _ hk1)
  · exact hk0.elim
/-- Object's own constructor -/
def x_obj (kk : KT) : KT := fun ls st sh h => match st with
  | v :: q => (v.1 = 2 ∧ 0 < v.2 ∧ ct q ≤ 8) ∧ kk ls q sh h
  | _ => False
theorem w_obj : Cond.instanceMethod objectInit ∈ tables_1 ∧ Cond.code objectInit ⟨#[0xb1]⟩ 1 none ∈ tables_1 := ⟨by decide +kernel, by decide +kernel⟩
theorem S_obj {idx : Nat} (C : Cx y p s m args meth c D dA A) (hd : decode y.2.1 pc = .ok (.invokespecial idx, 3)) (hl : Cond.methodLink y.1.cls idx objectInit ∈ tables_1) (ih : ∀ ls st sh h, kk ls st sh h → G p l e (rmV (d + 1) K N) s m args below meth c D dA A T y.2.2.1 ad0 sz0 k n (pc + 3) ls st sh h) : ∀ ls st sh h, x_obj kk ls st sh h → G p l e (rmV (d + 1) K N) s m args below meth c D dA A T y.2.2.1 ad0 sz0 k n pc ls st sh h := by
  intro ls st sh h hk0 ad H locs lsA g1 g2 g3 g4 g5 g6 g7 g8 g9
  obtain ⟨hx, hb, hr, hml, hown, hts, hK, hlk, hnm, hN, hA⟩ := id C
  unfold x_obj at hk0
  split at hk0
  · rename_i v q
    obtain ⟨tv, r⟩ := v
    dsimp only at hk0
    obtain ⟨⟨rfl, h0, hct⟩, hk1⟩ := hk0
    rw [List.map_cons, em_ix ad h0]
    exact W.objInit hx hb hown (hts _ (in_g hl rfl)) (hts _ (in_g w_obj.1 rfl)) (hts _ (in_g w_obj.2 rfl)) rfl (by rw [hml]; exact g3.1) rfl hd (by show 1 ≤ d + 1; omega) (by show 2 * 0 + _ + 12 ≤ 64 * (d + 1); rw [ct_of]; omega) (ih _ _ _ _ hk1 ad H locs lsA g1 g2 g3 g4 (can_tl g5) g6 g7 g8 g9)
  · exact hk0.elim
def rcI (a : List PV) (_ : Shp) : Prop := match a with
  | v :: _ => v.1 = 2 ∧ 0 < v.2
  | [] => False
theorem S_invI {idx np : Nat} (C : Cx y p s m args meth c D dA A) (hd : decode y.2.1 pc = .ok (.invokespecial idx, 3)) (hm : MOk y1 np) (hret : y1.2.2.2 = none) (hnam : y1.1.name = "<init>") (hins : Cond.instanceMethod y1.1 ∈ tables_1) (hl : Cond.methodLink y.1.cls idx y1.1 ∈ tables_1) (hk : k + K1 ≤ K) (hn : n + N1 ≤ N) (ih : ∀ ls st sh h, kk ls st sh h → G p l e (rmV (d + 1) K N) s m args below meth c D dA A T y.2.2.1 ad0 sz0 (k + K1) (n + N1) (pc + 3) ls st sh h) :
    ∀ ls st sh h, x_inv rcI y1.2.2.1 (np + 1) (fun a sh h Q => V l d K1 N1 y1 0 0 0 Q (ent y1.2.2.1 a) [] sh h) 0 kk ls st sh h → G p l e (rmV (d + 1) K N) s m args below meth c D dA A T y.2.2.1 ad0 sz0 k n pc ls st sh h := by
  obtain ⟨y1n, y1c, y1m, y1r⟩ := y1
  dsimp only at hret
  subst hret
  intro ls st sh h hk0 ad H locs lsA g1 g2 g3 g4 g5 g6 g7 g8 g9
  obtain ⟨hx, hb, hr, hml, hown, hts, hK, hlk, hnm, hN, hA⟩ := id C
  obtain ⟨a, q, rfl, hlen, hct, hel, hrc, hv⟩ := x_inv_of hk0
  obtain ⟨hcode, hini, hpl, hnh, hmx⟩ := hm
  obtain ⟨ca, cq⟩ := can_rev g5
  match a, hrc with
  | v :: As, hrc =>
    obtain ⟨tv, r⟩ := v
    obtain ⟨rfl, h0⟩ : tv = 2 ∧ 0 < r := hrc
    have hM := V.met hv hpl hel ca g6 D dA ad H.size
    have hcw : CallB (rmV (d + 1) K N) s args y.1.cls idx y1n y1c y1m none (wsY (y1n, y1c, y1m, none)) (rmV d K1 N1) K1 N1 np := callB_of np hts (good_ws hcode) rfl rfl rfl (hts _ (in_g hini rfl)) (hts _ (in_g hl rfl)) hnh ⟨Nat.le_refl _, by show 8 + (y1m + 11) + 64 * d ≤ 64 * (d + 1); dsimp only at hmx; omega⟩
    have hrun := va_runI (l := l) (e := e) (below := below) (meth := meth) (locs := locs) (cells := k) (slots := n) (As := As.map (em_v ad)) (rest := q.map (em_v ad)) (g := F0 m pc lsA (((2, r) :: As).reverse.map (em_v ad) ++ q.map (em_v ad))) (H := H) (b := ad (r.toNat - 1)) ⟨hx, hb, hml, hown, hts⟩ hM ⟨hcw, hnam, hts _ (in_g hins rfl)⟩ ⟨pV_blind, fun U hU hW => ⟨by rw [List.map_cons, em_ix ad h0], by rw [hU], by rw [hU]; exact g7, va_K.moved hW.alike hK, g8.weaken (fun _ _ _ _ => trivial), Nx.warm hW hN⟩⟩ rfl (by rw [List.length_map]; simpa using hlen) g3.1 (by show _ = _; rw [List.reverse_cons, List.map_append, List.map_reverse, List.append_assoc, List.map_cons, List.map_nil, em_ix ad h0]; rfl) (by show 2 * 0 + _ ≤ 8; rw [ct_of]; omega) hd ⟨hk, hn⟩
    rw [List.map_append]
    exact call_go C g1 g2 g3 g4 cq g8 g9 hrun (fun r sh' h' hQ => ih _ _ _ _ hQ)
theorem S_invJ {idx np : Nat} {host : String} (C : Cx y p s m args meth c D dA A) (hd : decode y.2.1 pc = .ok (.invokespecial idx, 3)) (hm : MOk y1 np) (hret : y1.2.2.2 = none) (hnam : y1.1.name = "<init>") (hins : Cond.instanceMethod y1.1 ∈ tables_1) (hl : Cond.methodLinkNest y.1.cls idx y1.1 host ∈ lw_nest) (hk : k + K1 ≤ K) (hn : n + N1 ≤ N) (ih : ∀ ls st sh h, kk ls st sh h → G p l e (rmV (d + 1) K N) s m args below meth c D dA A T y.2.2.1 ad0 sz0 (k + K1) (n + N1) (pc + 3) ls st sh h) :
    ∀ ls st sh h, x_inv rcI y1.2.2.1 (np + 1) (fun a sh h Q => V l d K1 N1 y1 0 0 0 Q (ent y1.2.2.1 a) [] sh h) 0 kk ls st sh h → G p l e (rmV (d + 1) K N) s m args below meth c D dA A T y.2.2.1 ad0 sz0 k n pc ls st sh h := by
  obtain ⟨y1n, y1c, y1m, y1r⟩ := y1
  dsimp only at hret
  subst hret
  intro ls st sh h hk0 ad H locs lsA g1 g2 g3 g4 g5 g6 g7 g8 g9
  obtain ⟨hx, hb, hr, hml, hown, hts, hK, hlk, hnm, hN, hA⟩ := id C
  obtain ⟨a, q, rfl, hlen, hct, hel, hrc, hv⟩ := x_inv_of hk0
  obtain ⟨hcode, hini, hpl, hnh, hmx⟩ := hm
  obtain ⟨ca, cq⟩ := can_rev g5
  match a, hrc with
  | v :: As, hrc =>
    obtain ⟨tv, r⟩ := v
    obtain ⟨rfl, h0⟩ : tv = 2 ∧ 0 < r := hrc
    have hM := V.met hv hpl hel ca g6 D dA ad H.size
    have hcw : va_CN (rmV (d + 1) K N) s args y.1.cls idx y1n host y1c y1m none (wsY (y1n, y1c, y1m, none)) (rmV d K1 N1) K1 N1 np := va_cnB np hts (good_ws hcode) rfl rfl rfl (hN.1 _ hl) (hts _ (in_g hini rfl)) hnh ⟨Nat.le_refl _, by show 8 + (y1m + 11) + 64 * d ≤ 64 * (d + 1); dsimp only at hmx; omega⟩
    have hrun := va_runIN (l := l) (e := e) (below := below) (meth := meth) (locs := locs) (cells := k) (slots := n) (As := As.map (em_v ad)) (rest := q.map (em_v ad)) (g := F0 m pc lsA (((2, r) :: As).reverse.map (em_v ad) ++ q.map (em_v ad))) (H := H) (b := ad (r.toNat - 1)) ⟨hx, hb, hml, hown, hts⟩ hM ⟨hcw, hnam, hts _ (in_g hins rfl)⟩ ⟨pV_blind, fun U hU hW => ⟨by rw [List.map_cons, em_ix ad h0], by rw [hU], by rw [hU]; exact g7, va_K.moved hW.alike hK, g8.weaken (fun _ _ _ _ => trivial), Nx.warm hW hN⟩⟩ rfl (by rw [List.length_map]; simpa using hlen) g3.1 (by show _ = _; rw [List.reverse_cons, List.map_append, List.map_reverse, List.append_assoc, List.map_cons, List.map_nil, em_ix ad h0]; rfl) (by show 2 * 0 + _ ≤ 8; rw [ct_of]; omega) hd ⟨hk, hn⟩
    rw [List.map_append]
    exact call_go C g1 g2 g3 g4 cq g8 g9 hrun (fun r sh' h' hQ => ih _ _ _ _ hQ)
def x_aast (kd ci : Nat) (kk : KT) : KT := fun ls st sh h => match st with
  | v :: i :: a :: q => ((v.1 = 2 ∧ i.1 = 0 ∧ a.1 = 2) ∧ ob sh ci v.2 ∧ 0 ≤ i.2 ∧ i.2 < ln sh kd a.2) ∧ kk ls q sh (up h (a.2.toNat - 1) i.2.toNat v.2)
  | _ => False
theorem S_aast {kd ci : Nat} {rq : vw_C} (C : Cx y p s m args meth c D dA A) (hd : decode y.2.1 pc = .ok (.aastore, 1)) (hkd : 5 ≤ kd ∧ kd < 8) (hc : vwCl[ci]? = some rq) (hty : a_ty kd = .object rq.1) (ih : ∀ ls st sh h, kk ls st sh h → G p l e (rmV (d + 1) K N) s m args below meth c D dA A T y.2.2.1 ad0 sz0 k n (pc + 1) ls st sh h) : ∀ ls st sh h, x_aast kd ci kk ls st sh h → G p l e (rmV (d + 1) K N) s m args below meth c D dA A T y.2.2.1 ad0 sz0 k n pc ls st sh h := by
  intro ls st sh h hk0 ad H locs lsA g1 g2 g3 g4 g5 g6 g7 g8 g9
  obtain ⟨hx, hb, hr, hml, hown, hts, hK, hlk, hnm, hN, hA⟩ := id C
  unfold x_aast at hk0
  split at hk0
  · rename_i v i a q
    obtain ⟨tv, v⟩ := v
    obtain ⟨ti, i⟩ := i
    obtain ⟨ta, r⟩ := a
    dsimp only at hk0
    obtain ⟨⟨⟨rfl, rfl, rfl⟩, ⟨hv0, hvs⟩, hi⟩, hk1⟩ := hk0
    have ci' := (can_hd (can_tl g5)).1 rfl
    obtain ⟨h0, nn, hs, hlt⟩ := ln_at hi.1 hi.2
    have hix := ix_in hi.1 hlt ci'.2
    have cv := can_hd g5
    have g6u := can_m_up g6 hs (j := i.toNat) (v := v) (by rw [s_tg_a (by omega), if_neg (by omega), if_neg (by omega)]; exact cv)
    have ha : (em_w dA ad sh h)[r.toNat - 1]? = some (ad (r.toNat - 1), .inl (dA kd, nn, .inr (.inr (.inr (.inr (fun i => rf_o ad (h (r.toNat - 1) i))))))) := by
      rw [em_w_at hs, em_c, if_neg (show ¬ kd = 1 by omega), if_neg (show ¬ kd < 4 by omega), if_pos hkd.2]
    rw [List.map_cons, List.map_cons, List.map_cons, em_ix ad h0, em_ix ad hv0]
    refine va_astq hx hb hK g7 g8 g9 (r.toNat - 1) kd (v.toNat - 1) ci ha (by rw [← hty]; exact tysL_at dA hkd.2) (em_w_ob hvs) hc hix.1 hd (fun H1 locs1 hP hD hS => ?_)
    have ec : (.inl (dA kd, nn, .inr (.inr (.inr (.inr (va_up (fun i => rf_o ad (h (r.toNat - 1) i)) i.toNat (some (ad (v.toNat - 1)))))))) : va_E) = em_c dA ad (kd, nn) (fun q => if q = i.toNat then v else h (r.toNat - 1) q) := by
      rw [em_c, if_neg (show ¬ kd = 1 by omega), if_neg (show ¬ kd < 4 by omega), if_pos (show kd < 8 from hkd.2)]
      refine congrArg (fun z => (Sum.inl (dA kd, nn, Sum.inr (Sum.inr (Sum.inr (Sum.inr z)))) : va_E)) (funext fun j => ?_)
      unfold va_up
      by_cases e : j = i.toNat
      · simp [e, rf_o, show ¬ v ≤ 0 by omega]
      · simp [e]
    rw [hix.2, ec, em_w_set hs, up_row] at hP hD
    exact ih _ _ _ _ hk1 ad H1 locs1 lsA g1 g2 g3 g4 (can_tl (can_tl (can_tl g5))) g6u hP hD hS
  · exact hk0.elim
/-- a grid: its outer row, then its rows -/
def mna (h : Mem) (M n1 : Nat) : Mem := fun i j => if i < M then h i j else if i = M then (if j < n1 then (M : Int) + 2 + j else 0) else 0
def x_mna (n1 n2 : Nat) (kk : KT) : KT := fun ls st sh h => match st with
  | b :: a :: q => (b.1 = 0 ∧ a.1 = 0 ∧ b.2 = n2 ∧ a.2 = n1) ∧ kk ls ((2, (sh.length : Int) + 1) :: q) (sh ++ (4, n1) :: List.replicate n1 (0, n2)) (mna h sh.length n1)
  | _ => False
theorem S_mna {n1 n2 idx : Nat} (C : Cx y p s m args meth c D dA A) (hd : decode y.2.1 pc = .ok (.multianewarray idx 2, 4)) (hcl : Cond.classLink y.1.cls idx "[[I" ∈ tables_1) (hw : Cond.arrayClass .int ∈ tables_1) (hn1 : n1 < 1000) (hn2 : n2 < 1000) (hk : k + (1 + n1) ≤ K) (hn : n + (n1 + n1 * n2) ≤ N)
    (ih : ∀ ls st sh h, kk ls st sh h → G p l e (rmV (d + 1) K N) s m args below meth c D dA A T y.2.2.1 ad0 sz0 (k + 1 + n1) (n + n1 + n1 * n2) (pc + 4) ls st sh h) : ∀ ls st sh h, x_mna n1 n2 kk ls st sh h → G p l e (rmV (d + 1) K N) s m args below meth c D dA A T y.2.2.1 ad0 sz0 k n pc ls st sh h := by
  intro ls st sh h hk0 ad H locs lsA g1 g2 g3 g4 g5 g6 g7 g8 g9
  obtain ⟨hx, hb, hr, hml, hown, hts, hK, hlk, hnm, hN, hA⟩ := id C
  unfold x_mna at hk0
  split at hk0
  · rename_i b a q
    obtain ⟨tb, b⟩ := b
    obtain ⟨ta, a⟩ := a
    dsimp only at hk0
    obtain ⟨⟨rfl, rfl, rfl, rfl⟩, hk1⟩ := hk0
    have z0 : -2147483648 ≤ (0:Int) ∧ (0:Int) < 2147483648 := by decide
    have c1 : -2147483648 ≤ (n1:Int) ∧ (n1:Int) < 2147483648 := by omega
    have c2 : -2147483648 ≤ (n2:Int) ∧ (n2:Int) < 2147483648 := by omega
    have en1 : (Int32.ofInt (n1:Int)).toNatClampNeg = n1 := by rw [Int32.toNatClampNeg_ofInt_of_le c1.1 c1.2]; omega
    have en2 : (Int32.ofInt (n2:Int)).toNatClampNeg = n2 := by rw [Int32.toNatClampNeg_ofInt_of_le c2.1 c2.2]; omega
    have hg1 : ¬ Int32.ofInt (n1:Int) < 0 := fun z => absurd ((ofInt_lt c1 z0).mp z) (by omega)
    have hg2 : ¬ Int32.ofInt (n2:Int) < 0 := fun z => absurd ((ofInt_lt c2 z0).mp z) (by omega)
    have es : ("[" ++ (FieldType.array .int).toString) = "[[I" := by decide +kernel
    have es2 : (FieldType.array .int).toString = "[" ++ FieldType.int.toString := by decide +kernel
    have hcy : s.vm.findClass (FieldType.array .int).toString = some (dA 0) := by
      rw [es2]; exact (hK.2 0 _ (tysL_at dA (by decide))).2
    rw [List.map_cons, List.map_cons]
    refine va_mna (X := em_w dA ad sh h) (L := []) (f := fun _ => .inl (0, 0, .inl (fun _ => 0))) (ty := .int) (cy := dA 0) (z := (n2, .inl (fun _ => 0))) hx hb hown (by rw [es]; exact hts _ (in_g hcl rfl)) (hN.2 _ (by decide)) (hts _ (in_g hw rfl)) hcy hK (by simpa [va_pl] using g7) (by simpa [va_pl] using g8) g9 hA hg1 hg2 en1 en2 (by omega) (by show n2 * 4 ≤ _; omega) (by omega) rfl rfl hk hn (fun c => arrV_new c _ _) hd (fun qa r cA H1 hinj hnl hK2 hP hD hS => ?_)
    have := cA_eq (kd := 4) hK (by decide) rfl hK2
    subst this
    rw [List.append_assoc] at hP hD
    have hvr : va_pl ([] ++ (List.range n1).map r) (vr_up (fun _ => (.inl (0, 0, .inl (fun _ => 0)) : va_E)) ((List.range n1).map r) (.inl (dA 0, n2, .inl (fun _ => 0)))) = (List.range n1).map (fun i => (r i, (.inl (dA 0, n2, .inl (fun _ => 0)) : va_E))) := by
      unfold va_pl
      rw [List.nil_append, List.map_map]
      refine List.map_congr_left (fun i hi => ?_)
      show (r i, _) = _
      rw [vr_up_in (List.mem_map.mpr ⟨i, hi, rfl⟩)]
    rw [hvr] at hP hD
    let ad' : Nat → Nat := fun i => if i < sh.length then ad i else if i = sh.length then qa else r (i - sh.length - 1)
    have had : ∀ i, i < sh.length → ad' i = ad i := fun i hi => if_pos hi
    have had1 : ad' sh.length = qa := by show (if sh.length < sh.length then _ else if sh.length = sh.length then _ else _) = _; rw [if_neg (by omega), if_pos rfl]
    have had2 : ∀ i, ad' (sh.length + 1 + i) = r i := fun i => by
      show (if sh.length + 1 + i < sh.length then _ else if sh.length + 1 + i = sh.length then _ else _) = _
      rw [if_neg (by omega), if_neg (by omega), show sh.length + 1 + i - sh.length - 1 = i by omega]
    obtain ⟨hP2, hD2⟩ := grow (ad' := ad') (h' := mna h sh.length n1) (shs := (4, n1) :: List.replicate n1 (0, n2)) hP hD g6 had (fun i hi => by funext j; unfold mna; rw [if_pos hi]) (fun i kn hi => by
      match i, hi with
      | 0, hi =>
        cases hi
        refine ⟨_, by rw [Nat.add_zero, had1]; rfl, ?_⟩
        intro D' cl' q' H' hv
        have hv : H'[q']? = some (arrV (dA 4) n1 (fun j => va_rf (if j < n1 then some (r j) else none))) := hv
        show H'[q']? = some (arrV (dA 4) n1 (fun j => va_rf (rf_o ad' (mna h sh.length n1 (sh.length + 0) j))))
        rw [hv]
        congr 1
        refine arrV_congr (fun j hj => ?_)
        have : mna h sh.length n1 (sh.length + 0) j = (sh.length : Int) + 2 + j := by unfold mna; rw [if_neg (by omega), if_pos (by omega), if_pos hj]
        rw [if_pos hj, this, rf_o, if_neg (by omega), show ((sh.length : Int) + 2 + j).toNat - 1 = sh.length + 1 + j by omega, had2]
      | i + 1, hi =>
        rw [List.getElem?_cons_succ, List.getElem?_replicate] at hi
        split at hi
        · rename_i hlt
          cases hi
          refine ⟨.inl (dA 0, n2, .inl (fun _ => 0)), ?_, ?_⟩
          · rw [show sh.length + (i + 1) = sh.length + 1 + i by omega, had2]
            show ((List.range n1).map _)[i]? = _
            rw [List.getElem?_map, List.getElem?_range hlt]; rfl
          · intro D' cl' q' H' hv
            have : mna h sh.length n1 (sh.length + (i + 1)) = fun _ => 0 := by funext j; unfold mna; rw [if_neg (by omega), if_neg (by omega)]
            rw [this]; exact hv
        · cases hi)
    have hlen : (sh ++ (4, n1) :: List.replicate n1 (0, n2)).length = sh.length + 1 + n1 := by simp; omega
    have hcm : can_m (sh ++ (4, n1) :: List.replicate n1 (0, n2)) (mna h sh.length n1) := by
      intro i kn hi j hj
      rw [hlen]
      by_cases e1 : i < sh.length
      · rw [List.getElem?_append, if_pos e1] at hi
        have : mna h sh.length n1 i j = h i j := by unfold mna; rw [if_pos e1]
        rw [this]; exact can_mono (by omega) (g6 i kn hi j hj)
      · have hz : ∀ t : Nat, can_v (sh.length + 1 + n1) (t, 0) := fun t => ⟨fun _ => ⟨(show (-2147483648 : Int) ≤ 0 by decide), (show (0 : Int) < 2147483648 by decide)⟩, fun _ => ⟨(show (-9223372036854775808 : Int) ≤ 0 by decide), (show (0 : Int) < 9223372036854775808 by decide)⟩, fun _ => Int.natCast_nonneg _⟩
        by_cases e2 : i = sh.length
        · subst e2
          rw [List.getElem?_append_right (Nat.le_refl _), Nat.sub_self] at hi
          cases hi
          by_cases e3 : j < n1
          · have : mna h sh.length n1 sh.length j = (sh.length : Int) + 2 + j := by unfold mna; rw [if_neg (by omega), if_pos rfl, if_pos e3]
            rw [this]
            rw [show s_tg (4, n1) j = 2 by rw [s_tg_a (by decide)]; rfl]
            exact ⟨fun e => (by cases e), fun e => (by cases e), fun _ => by show (sh.length : Int) + 2 + j ≤ _; omega⟩
          · exact absurd hj e3
        · have : mna h sh.length n1 i j = 0 := by unfold mna; rw [if_neg e1, if_neg e2]
          rw [this]; exact hz _
    have kn := ih _ _ _ _ hk1 ad' H1 locs lsA (fun i hi => by rw [had i (by omega)]; exact g1 i hi) (by omega) (lr_ad had g3 g4) (by rw [hlen]; exact can_l_mono (by omega) g4) (by rw [hlen]; exact can_cons ⟨fun e => (by cases e), fun e => (by cases e), fun _ => by show (sh.length : Int) + 1 ≤ _; omega⟩ (can_l_mono (by omega) (can_tl (can_tl g5)))) hcm hP2 hD2 hS
    rw [List.map_cons, em_ix _ (by omega), show ((sh.length : Int) + 1).toNat - 1 = sh.length by omega, had1, map_ad had (can_tl (can_tl g5))] at kn
    exact kn
  · exact hk0.elim
end GA

section GF
variable {p : Program} {l : Launch} {e : Env} {R : Room} {s : State} {m : MethodId} {args : Array Value} {below : List Frame} {meth : Method} {c : Code} {D : va_G} {dA : Nat → ClassId} {A : Nat → Prop} {T : State → Prop} {y : MI} {ad0 : Nat → Nat} {sz0 k n pc : Nat} {kk kt kf : KT}
def x_ald (kd t : Nat) (kk : KT) : KT := fun ls st sh h => match st with
  | i :: a :: q => ((i.1 = 0 ∧ a.1 = 2) ∧ 0 ≤ i.2 ∧ i.2 < ln sh kd a.2) ∧ kk ls ((t, h (a.2.toNat - 1) i.2.toNat) :: q) sh h
  | _ => False
theorem x_ald_of {kd t : Nat} {ls st : List PV} {sh : Shp} {h : Mem} (hk : x_ald kd t kk ls st sh h) : ∃ (i r : Int) (q : List PV), st = (0, i) :: (2, r) :: q ∧ (0 ≤ i ∧ i < ln sh kd r) ∧ kk ls ((t, h (r.toNat - 1) i.toNat) :: q) sh h := by
  unfold x_ald at hk
  split at hk
  · rename_i b a q
    obtain ⟨ta, a⟩ := a
    obtain ⟨tb, b⟩ := b
    dsimp only at hk
    obtain ⟨⟨⟨rfl, rfl⟩, h4⟩, h3⟩ := hk
    exact ⟨b, a, q, rfl, h4, h3⟩
  · exact hk.elim
theorem s_tg_a {kd n j : Nat} (h : kd < 8) : s_tg (kd, n) j = if kd = 1 then 1 else if kd < 4 then 0 else 2 := by
  unfold s_tg
  by_cases e : kd = 1
  · simp [e]
  · by_cases e2 : kd < 4 <;> simp [e, e2, h]
theorem S_iaload  (C : Cx y p s m args meth c D dA A) (hd : decode y.2.1 pc = .ok (.iaload, 1))  (ih : ∀ ls st sh h, kk ls st sh h → G p l e R s m args below meth c D dA A T y.2.2.1 ad0 sz0 k n (pc + 1) ls st sh h) : ∀ ls st sh h, x_ald 0 0 kk ls st sh h → G p l e R s m args below meth c D dA A T y.2.2.1 ad0 sz0 k n pc ls st sh h := by
  intro ls st sh h hk0 ad H locs lsA g1 g2 g3 g4 g5 g6 g7 g8 g9
  obtain ⟨hx, hb, hr, hml, hown, hts, hK, hlk, hnm, hN, hA⟩ := id C
  obtain ⟨i, r, q, rfl, hi, hk⟩ := x_ald_of hk0
  have ci := (can_hd g5).1 rfl
  obtain ⟨h0, nn, hs, hlt⟩ := ln_at hi.1 hi.2
  have hix := ix_in hi.1 hlt ci.2
  have cj := can_m_at g6 hs (j := i.toNat) (by show i.toNat < nn; omega)
  have kn := ih _ _ _ _ hk ad H locs lsA g1 g2 g3 g4 (can_cons cj (can_tl (can_tl g5))) g6 g7 g8 g9
  rw [List.map_cons, em_i] at kn
  rw [List.map_cons, List.map_cons, em_ix ad h0]
  exact va_iald hx hb hK g7 (r.toNat - 1) 0 (em_w_at hs) (tysL_at dA (Nat.le_of_ble_eq_true rfl)) hix.1 hd (by rw [hix.2]; exact kn)
theorem S_baload  (C : Cx y p s m args meth c D dA A) (hd : decode y.2.1 pc = .ok (.baload, 1))  (ih : ∀ ls st sh h, kk ls st sh h → G p l e R s m args below meth c D dA A T y.2.2.1 ad0 sz0 k n (pc + 1) ls st sh h) : ∀ ls st sh h, x_ald 2 0 kk ls st sh h → G p l e R s m args below meth c D dA A T y.2.2.1 ad0 sz0 k n pc ls st sh h := by
  intro ls st sh h hk0 ad H locs lsA g1 g2 g3 g4 g5 g6 g7 g8 g9
  obtain ⟨hx, hb, hr, hml, hown, hts, hK, hlk, hnm, hN, hA⟩ := id C
  obtain ⟨i, r, q, rfl, hi, hk⟩ := x_ald_of hk0
  have ci := (can_hd g5).1 rfl
  obtain ⟨h0, nn, hs, hlt⟩ := ln_at hi.1 hi.2
  have hix := ix_in hi.1 hlt ci.2
  have cj := can_m_at g6 hs (j := i.toNat) (by show i.toNat < nn; omega)
  have kn := ih _ _ _ _ hk ad H locs lsA g1 g2 g3 g4 (can_cons cj (can_tl (can_tl g5))) g6 g7 g8 g9
  rw [List.map_cons, em_i] at kn
  rw [List.map_cons, List.map_cons, em_ix ad h0]
  exact va_zald hx hb hK g7 (r.toNat - 1) 2 (em_w_at hs) (tysL_at dA (Nat.le_of_ble_eq_true rfl)) hix.1 hd (by rw [hix.2]; exact kn)
theorem S_caload  (C : Cx y p s m args meth c D dA A) (hd : decode y.2.1 pc = .ok (.caload, 1))  (ih : ∀ ls st sh h, kk ls st sh h → G p l e R s m args below meth c D dA A T y.2.2.1 ad0 sz0 k n (pc + 1) ls st sh h) : ∀ ls st sh h, x_ald 3 0 kk ls st sh h → G p l e R s m args below meth c D dA A T y.2.2.1 ad0 sz0 k n pc ls st sh h := by
  intro ls st sh h hk0 ad H locs lsA g1 g2 g3 g4 g5 g6 g7 g8 g9
  obtain ⟨hx, hb, hr, hml, hown, hts, hK, hlk, hnm, hN, hA⟩ := id C
  obtain ⟨i, r, q, rfl, hi, hk⟩ := x_ald_of hk0
  have ci := (can_hd g5).1 rfl
  obtain ⟨h0, nn, hs, hlt⟩ := ln_at hi.1 hi.2
  have hix := ix_in hi.1 hlt ci.2
  have cj := can_m_at g6 hs (j := i.toNat) (by show i.toNat < nn; omega)
  have kn := ih _ _ _ _ hk ad H locs lsA g1 g2 g3 g4 (can_cons cj (can_tl (can_tl g5))) g6 g7 g8 g9
  rw [List.map_cons, em_i] at kn
  rw [List.map_cons, List.map_cons, em_ix ad h0]
  exact va_cald hx hb hK g7 (r.toNat - 1) 3 (em_w_at hs) (tysL_at dA (Nat.le_of_ble_eq_true rfl)) hix.1 hd (by rw [hix.2]; exact kn)
theorem S_laload  (C : Cx y p s m args meth c D dA A) (hd : decode y.2.1 pc = .ok (.laload, 1))  (ih : ∀ ls st sh h, kk ls st sh h → G p l e R s m args below meth c D dA A T y.2.2.1 ad0 sz0 k n (pc + 1) ls st sh h) : ∀ ls st sh h, x_ald 1 1 kk ls st sh h → G p l e R s m args below meth c D dA A T y.2.2.1 ad0 sz0 k n pc ls st sh h := by
  intro ls st sh h hk0 ad H locs lsA g1 g2 g3 g4 g5 g6 g7 g8 g9
  obtain ⟨hx, hb, hr, hml, hown, hts, hK, hlk, hnm, hN, hA⟩ := id C
  obtain ⟨i, r, q, rfl, hi, hk⟩ := x_ald_of hk0
  have ci := (can_hd g5).1 rfl
  obtain ⟨h0, nn, hs, hlt⟩ := ln_at hi.1 hi.2
  have hix := ix_in hi.1 hlt ci.2
  have cj := can_m_at g6 hs (j := i.toNat) (by show i.toNat < nn; omega)
  have kn := ih _ _ _ _ hk ad H locs lsA g1 g2 g3 g4 (can_cons cj (can_tl (can_tl g5))) g6 g7 g8 g9
  rw [List.map_cons, em_l] at kn
  rw [List.map_cons, List.map_cons, em_ix ad h0]
  exact va_lald hx hb hK g7 (r.toNat - 1) 1 (em_w_at hs) (tysL_at dA (Nat.le_of_ble_eq_true rfl)) hix.1 hd (by rw [hix.2]; exact kn)
theorem S_aaload {kd : Nat} (C : Cx y p s m args meth c D dA A) (hd : decode y.2.1 pc = .ok (.aaload, 1)) (hkd : 4 ≤ kd ∧ kd < 8) (ih : ∀ ls st sh h, kk ls st sh h → G p l e R s m args below meth c D dA A T y.2.2.1 ad0 sz0 k n (pc + 1) ls st sh h) : ∀ ls st sh h, x_ald kd 2 kk ls st sh h → G p l e R s m args below meth c D dA A T y.2.2.1 ad0 sz0 k n pc ls st sh h := by
  intro ls st sh h hk0 ad H locs lsA g1 g2 g3 g4 g5 g6 g7 g8 g9
  obtain ⟨hx, hb, hr, hml, hown, hts, hK, hlk, hnm, hN, hA⟩ := id C
  obtain ⟨i, r, q, rfl, hi, hk⟩ := x_ald_of hk0
  have ci := (can_hd g5).1 rfl
  obtain ⟨h0, nn, hs, hlt⟩ := ln_at hi.1 hi.2
  have hix := ix_in hi.1 hlt ci.2
  have cj := can_m_at g6 hs (j := i.toNat) (by show i.toNat < nn; omega)
  rw [s_tg_a hkd.2, if_neg (by omega), if_neg (by omega)] at cj
  have kn := ih _ _ _ _ hk ad H locs lsA g1 g2 g3 g4 (can_cons cj (can_tl (can_tl g5))) g6 g7 g8 g9
  rw [List.map_cons, em_r] at kn
  rw [List.map_cons, List.map_cons, em_ix ad h0]
  have ha : (em_w dA ad sh h)[r.toNat - 1]? = some (ad (r.toNat - 1), .inl (dA kd, nn, .inr (.inr (.inr (.inr (fun i => rf_o ad (h (r.toNat - 1) i))))))) := by
    rw [em_w_at hs, em_c, if_neg (show ¬ kd = 1 by omega), if_neg (show ¬ kd < 4 by omega), if_pos hkd.2]
  have hlt2 : (Int32.ofInt i).toNatClampNeg < nn := by rw [hix.2]; omega
  have hty : (a_ty kd).isReference = true := by rcases (show kd = 4 ∨ kd = 5 ∨ kd = 6 ∨ kd = 7 by omega) with rfl | rfl | rfl | rfl <;> rfl
  have ht := tysL_at dA hkd.2
  exact W.aald (v := va_rf (rf_o ad (h (r.toNat - 1) i.toNat))) (ty := a_ty kd) hx hb (g7 (r.toNat - 1) _ ha) ((hK.2 kd _ ht).1 nn (fun j => va_rf (rf_o ad (h (r.toNat - 1) j)))) hty (fun q => by cases q) (by show ¬ (_ < 0 ∨ (arrV _ _ _).slots.size ≤ _); rw [arrV_size]; exact hix.1) (by show (arrV _ _ _).slots[_]? = _; rw [arrV_read _ _ hlt2, hix.2]) rfl rfl hd kn
def x_ast (kd t : Nat) (f : Int → Int) (kk : KT) : KT := fun ls st sh h => match st with
  | v :: i :: a :: q => ((v.1 = t ∧ i.1 = 0 ∧ a.1 = 2) ∧ 0 ≤ i.2 ∧ i.2 < ln sh kd a.2) ∧ kk ls q sh (up h (a.2.toNat - 1) i.2.toNat (f v.2))
  | _ => False
theorem x_ast_of {kd t : Nat} {f : Int → Int} {ls st : List PV} {sh : Shp} {h : Mem} (hk : x_ast kd t f kk ls st sh h) : ∃ (x i r : Int) (q : List PV), st = (t, x) :: (0, i) :: (2, r) :: q ∧ (0 ≤ i ∧ i < ln sh kd r) ∧ kk ls q sh (up h (r.toNat - 1) i.toNat (f x)) := by
  unfold x_ast at hk
  split at hk
  · rename_i v b a q
    obtain ⟨ta, a⟩ := a
    obtain ⟨tb, b⟩ := b
    obtain ⟨tv, v⟩ := v
    dsimp only at hk
    obtain ⟨⟨⟨rfl, rfl, rfl⟩, h4⟩, h3⟩ := hk
    exact ⟨v, b, a, q, rfl, h4, h3⟩
  · exact hk.elim
def nz (x : Int) : Int := (vp_nar .boolean (Int32.ofInt x)).toInt
def nc (x : Int) : Int := (vp_nar .char (Int32.ofInt x)).toInt
theorem em_c_i {dA : Nat → ClassId} {ad : Nat → Nat} {kd nn : Nat} (hk : kd ≠ 1) (hk2 : kd < 4) (f : Nat → Int) (j : Nat) (v : Int) (x : Int32) (hx : x = Int32.ofInt v) : (.inl (dA kd, nn, .inl (upd (fun i => Int32.ofInt (f i)) j x)) : va_E) = em_c dA ad (kd, nn) (fun q => if q = j then v else f q) := by
  rw [em_c, if_neg (show ¬ kd = 1 from hk), if_pos (show kd < 4 from hk2), hx]
  refine congrArg (fun z => (Sum.inl (dA kd, nn, Sum.inl z) : va_E)) (funext fun i => ?_)
  unfold upd
  by_cases e : i = j <;> simp [e]
theorem em_c_l {dA : Nat → ClassId} {ad : Nat → Nat} {nn : Nat} (f : Nat → Int) (j : Nat) (v : Int) : (.inl (dA 1, nn, .inr (.inl (vp_updL (fun i => Int64.ofInt (f i)) j (Int64.ofInt v)))) : va_E) = em_c dA ad (1, nn) (fun q => if q = j then v else f q) := by
  rw [em_c, if_pos (show (1, nn).1 = 1 from rfl)]
  refine congrArg (fun z => (Sum.inl (dA 1, nn, Sum.inr (Sum.inl z)) : va_E)) (funext fun i => ?_)
  unfold vp_updL
  by_cases e : i = j <;> simp [e]
theorem em_c_o {dA : Nat → ClassId} {ad : Nat → Nat} {ci nn : Nat} (f : Nat → Int) (j : Nat) (v : Int) (hj : j < nn) : (.inr (ci, ((List.range nn).map (fun j => em_v ad (c_tg ci j, f j))).set j (em_v ad (c_tg ci j, v))) : va_E) = em_c dA ad (8 + ci, nn) (fun q => if q = j then v else f q) := by
  rw [em_c, if_neg (show ¬ 8 + ci = 1 by omega), if_neg (show ¬ 8 + ci < 4 by omega), if_neg (show ¬ 8 + ci < 8 by omega)]
  refine congrArg (Sum.inr : Nat × List Value → va_E) ?_
  rw [show (8 + ci, nn).1 - 8 = ci by show 8 + ci - 8 = ci; omega]
  refine congrArg (Prod.mk ci) (List.ext_getElem? fun i => ?_)
  rw [List.getElem?_set, List.getElem?_map, List.getElem?_map]
  by_cases e : j = i
  · subst e
    rw [if_pos rfl, if_pos (by rw [List.length_map, List.length_range]; exact hj), List.getElem?_range hj]
    simp
  · rw [if_neg e]
    by_cases hi : i < nn
    · rw [List.getElem?_range hi]
      simp [show ¬ i = j from fun q => e q.symm]
    · rw [List.getElem?_eq_none (by rw [List.length_range]; omega)]
      rfl
theorem S_iastore  (C : Cx y p s m args meth c D dA A) (hd : decode y.2.1 pc = .ok (.iastore, 1))  (ih : ∀ ls st sh h, kk ls st sh h → G p l e R s m args below meth c D dA A T y.2.2.1 ad0 sz0 k n (pc + 1) ls st sh h) : ∀ ls st sh h, x_ast 0 0 (fun x => x) kk ls st sh h → G p l e R s m args below meth c D dA A T y.2.2.1 ad0 sz0 k n pc ls st sh h := by
  intro ls st sh h hk0 ad H locs lsA g1 g2 g3 g4 g5 g6 g7 g8 g9
  obtain ⟨hx, hb, hr, hml, hown, hts, hK, hlk, hnm, hN, hA⟩ := id C
  obtain ⟨x, i, r, q, rfl, hi, hk⟩ := x_ast_of hk0
  have ci := (can_hd (can_tl g5)).1 rfl
  obtain ⟨h0, nn, hs, hlt⟩ := ln_at hi.1 hi.2
  have hix := ix_in hi.1 hlt ci.2
  have g6u := can_m_up g6 hs (j := i.toNat) (v := (fun x => x) x) (by rw [s_tg_a (by decide)]; exact can_int ((can_hd g5).1 rfl))
  rw [List.map_cons, List.map_cons, List.map_cons, em_ix ad h0]
  refine va_iast hx hb hK g7 g8 g9 (r.toNat - 1) 0 (em_w_at hs) (tysL_at dA (Nat.le_of_ble_eq_true rfl)) hix.1 hd (fun H1 locs1 hP hD hS => ?_)
  rw [hix.2, em_c_i (ad := ad) (kd := 0) (nn := nn) (by decide) (by decide) _ _ ((fun x => x) x) _ rfl, em_w_set hs, up_row] at hP hD
  exact ih _ _ _ _ hk ad H1 locs1 lsA g1 g2 g3 g4 (can_tl (can_tl (can_tl g5))) g6u hP hD hS
theorem S_bastore  (C : Cx y p s m args meth c D dA A) (hd : decode y.2.1 pc = .ok (.bastore, 1))  (ih : ∀ ls st sh h, kk ls st sh h → G p l e R s m args below meth c D dA A T y.2.2.1 ad0 sz0 k n (pc + 1) ls st sh h) : ∀ ls st sh h, x_ast 2 0 nz kk ls st sh h → G p l e R s m args below meth c D dA A T y.2.2.1 ad0 sz0 k n pc ls st sh h := by
  intro ls st sh h hk0 ad H locs lsA g1 g2 g3 g4 g5 g6 g7 g8 g9
  obtain ⟨hx, hb, hr, hml, hown, hts, hK, hlk, hnm, hN, hA⟩ := id C
  obtain ⟨x, i, r, q, rfl, hi, hk⟩ := x_ast_of hk0
  have ci := (can_hd (can_tl g5)).1 rfl
  obtain ⟨h0, nn, hs, hlt⟩ := ln_at hi.1 hi.2
  have hix := ix_in hi.1 hlt ci.2
  have g6u := can_m_up g6 hs (j := i.toNat) (v := nz x) (by rw [s_tg_a (by decide)]; exact can_i32 _)
  rw [List.map_cons, List.map_cons, List.map_cons, em_ix ad h0]
  refine va_zast hx hb hK g7 g8 g9 (r.toNat - 1) 2 (em_w_at hs) (tysL_at dA (Nat.le_of_ble_eq_true rfl)) hix.1 hd (fun H1 locs1 hP hD hS => ?_)
  rw [hix.2, em_c_i (ad := ad) (kd := 2) (nn := nn) (by decide) (by decide) _ _ (nz x) _ (by rw [nz, Int32.ofInt_toInt]), em_w_set hs, up_row] at hP hD
  exact ih _ _ _ _ hk ad H1 locs1 lsA g1 g2 g3 g4 (can_tl (can_tl (can_tl g5))) g6u hP hD hS
theorem S_castore  (C : Cx y p s m args meth c D dA A) (hd : decode y.2.1 pc = .ok (.castore, 1))  (ih : ∀ ls st sh h, kk ls st sh h → G p l e R s m args below meth c D dA A T y.2.2.1 ad0 sz0 k n (pc + 1) ls st sh h) : ∀ ls st sh h, x_ast 3 0 nc kk ls st sh h → G p l e R s m args below meth c D dA A T y.2.2.1 ad0 sz0 k n pc ls st sh h := by
  intro ls st sh h hk0 ad H locs lsA g1 g2 g3 g4 g5 g6 g7 g8 g9
  obtain ⟨hx, hb, hr, hml, hown, hts, hK, hlk, hnm, hN, hA⟩ := id C
  obtain ⟨x, i, r, q, rfl, hi, hk⟩ := x_ast_of hk0
  have ci := (can_hd (can_tl g5)).1 rfl
  obtain ⟨h0, nn, hs, hlt⟩ := ln_at hi.1 hi.2
  have hix := ix_in hi.1 hlt ci.2
  have g6u := can_m_up g6 hs (j := i.toNat) (v := nc x) (by rw [s_tg_a (by decide)]; exact can_i32 _)
  rw [List.map_cons, List.map_cons, List.map_cons, em_ix ad h0]
  refine va_cast hx hb hK g7 g8 g9 (r.toNat - 1) 3 (em_w_at hs) (tysL_at dA (Nat.le_of_ble_eq_true rfl)) hix.1 hd (fun H1 locs1 hP hD hS => ?_)
  rw [hix.2, em_c_i (ad := ad) (kd := 3) (nn := nn) (by decide) (by decide) _ _ (nc x) _ (by rw [nc, Int32.ofInt_toInt]), em_w_set hs, up_row] at hP hD
  exact ih _ _ _ _ hk ad H1 locs1 lsA g1 g2 g3 g4 (can_tl (can_tl (can_tl g5))) g6u hP hD hS
theorem S_lastore  (C : Cx y p s m args meth c D dA A) (hd : decode y.2.1 pc = .ok (.lastore, 1))  (ih : ∀ ls st sh h, kk ls st sh h → G p l e R s m args below meth c D dA A T y.2.2.1 ad0 sz0 k n (pc + 1) ls st sh h) : ∀ ls st sh h, x_ast 1 1 (fun x => x) kk ls st sh h → G p l e R s m args below meth c D dA A T y.2.2.1 ad0 sz0 k n pc ls st sh h := by
  intro ls st sh h hk0 ad H locs lsA g1 g2 g3 g4 g5 g6 g7 g8 g9
  obtain ⟨hx, hb, hr, hml, hown, hts, hK, hlk, hnm, hN, hA⟩ := id C
  obtain ⟨x, i, r, q, rfl, hi, hk⟩ := x_ast_of hk0
  have ci := (can_hd (can_tl g5)).1 rfl
  obtain ⟨h0, nn, hs, hlt⟩ := ln_at hi.1 hi.2
  have hix := ix_in hi.1 hlt ci.2
  have g6u := can_m_up g6 hs (j := i.toNat) (v := x) (by rw [s_tg_a (by decide)]; exact can_hd g5)
  rw [List.map_cons, List.map_cons, List.map_cons, em_ix ad h0]
  refine va_last hx hb hK g7 g8 g9 (r.toNat - 1) 1 (em_w_at hs) (tysL_at dA (Nat.le_of_ble_eq_true rfl)) hix.1 hd (fun H1 locs1 hP hD hS => ?_)
  rw [hix.2, em_c_l (ad := ad), em_w_set hs, up_row] at hP hD
  exact ih _ _ _ _ hk ad H1 locs1 lsA g1 g2 g3 g4 (can_tl (can_tl (can_tl g5))) g6u hP hD hS
def x_alen (kd : Nat) (kk : KT) : KT := fun ls st sh h => match st with
  | a :: q => (a.1 = 2 ∧ 0 < ln sh kd a.2 ∧ ln sh kd a.2 < 2147483648) ∧ kk ls ((0, ln sh kd a.2) :: q) sh h
  | _ => False
theorem S_alen {kd : Nat} (C : Cx y p s m args meth c D dA A) (hd : decode y.2.1 pc = .ok (.arraylength, 1)) (hkd : kd < 8) (ih : ∀ ls st sh h, kk ls st sh h → G p l e R s m args below meth c D dA A T y.2.2.1 ad0 sz0 k n (pc + 1) ls st sh h) : ∀ ls st sh h, x_alen kd kk ls st sh h → G p l e R s m args below meth c D dA A T y.2.2.1 ad0 sz0 k n pc ls st sh h := by
  intro ls st sh h hk0 ad H locs lsA g1 g2 g3 g4 g5 g6 g7 g8 g9
  obtain ⟨hx, hb, hr, hml, hown, hts, hK, hlk, hnm, hN, hA⟩ := id C
  unfold x_alen at hk0
  split at hk0
  · rename_i a q
    obtain ⟨ta, r⟩ := a
    dsimp only at hk0
    obtain ⟨⟨rfl, hl, hl2⟩, hk⟩ := hk0
    obtain ⟨h0, nn, hs, -⟩ := ln_at (Int.le_refl 0) hl
    have hln : ln sh kd r = (nn : Int) := by unfold ln; rw [hs]; simp [h0]
    rw [hln] at hk hl2
    have kn := ih _ _ _ _ hk ad H locs lsA g1 g2 g3 g4 (can_cons (can_int ⟨by omega, hl2⟩) (can_tl g5)) g6 g7 g8 g9
    rw [List.map_cons, em_i] at kn
    rw [List.map_cons, em_ix ad h0]
    have ha : ∃ x : vp_A, x.1 = nn ∧ (em_w dA ad sh h)[r.toNat - 1]? = some (ad (r.toNat - 1), .inl (dA kd, x)) := by
      rw [em_w_at hs, em_c]
      by_cases e1 : kd = 1
      · subst e1; exact ⟨_, rfl, rfl⟩
      · rw [if_neg (show ¬ kd = 1 from e1)]
        by_cases e2 : kd < 4
        · rw [if_pos (show kd < 4 from e2)]; exact ⟨_, rfl, rfl⟩
        · rw [if_neg (show ¬ kd < 4 from e2), if_pos (show kd < 8 from hkd)]; exact ⟨_, rfl, rfl⟩
    obtain ⟨xa, hxn, ha⟩ := ha
    exact va_alen hx hb hK g7 (r.toNat - 1) kd ha (tysL_at dA hkd) (by rw [hxn]; rfl) hd kn
  · exact hk0.elim
def x_getf (ci j t : Nat) (kk : KT) : KT := fun ls st sh h => match st with
  | a :: q => (a.1 = 2 ∧ ob sh ci a.2) ∧ kk ls ((t, h (a.2.toNat - 1) j) :: q) sh h
  | _ => False
def x_putf (ci j t : Nat) (P : Int → Prop) (kk : KT) : KT := fun ls st sh h => match st with
  | v :: a :: q => ((v.1 = t ∧ a.1 = 2 ∧ ob sh ci a.2) ∧ P v.2) ∧ kk ls q sh (up h (a.2.toNat - 1) j v.2)
  | _ => False
theorem fs_at {ad : Nat → Nat} {ci nn j : Nat} {f : Nat → Int} (hj : j < nn) : ((List.range nn).map (fun j => em_v ad (c_tg ci j, f j)))[j]? = some (em_v ad (c_tg ci j, f j)) := by
  rw [List.getElem?_map, List.getElem?_range hj]; rfl
theorem em_w_ob {dA : Nat → ClassId} {ad : Nat → Nat} {sh : Shp} {h : Mem} {a ci nn : Nat} (hs : sh[a]? = some (8 + ci, nn)) : (em_w dA ad sh h)[a]? = some (ad a, .inr (ci, (List.range nn).map (fun j => em_v ad (c_tg ci j, h a j)))) := by
  rw [em_w_at hs, em_c, if_neg (show ¬ 8 + ci = 1 by omega), if_neg (show ¬ 8 + ci < 4 by omega), if_neg (show ¬ 8 + ci < 8 by omega), show (8 + ci, nn).1 - 8 = ci by show 8 + ci - 8 = ci; omega]
theorem s_tg_o (ci n j : Nat) : s_tg (8 + ci, n) j = c_tg ci j := by
  unfold s_tg
  rw [if_neg (show ¬ 8 + ci = 1 by omega), if_neg (show ¬ 8 + ci < 4 by omega), if_neg (show ¬ 8 + ci < 8 by omega), show (8 + ci, n).1 - 8 = ci by show 8 + ci - 8 = ci; omega]
/-- what a value of a field's type must be -/
def nf (ty : FieldType) (t : Nat) (P : Int → Prop) : Prop := ∀ (ad : Nat → Nat) (x : Int), P x → narrow ty (em_v ad (t, x)) = em_v ad (t, x) ∧ fits ty (em_v ad (t, x)) = true
theorem nf_int : nf .int 0 (fun _ => True) := fun _ _ _ => ⟨rfl, rfl⟩
theorem nf_long : nf .long 1 (fun _ => True) := fun _ _ _ => ⟨rfl, rfl⟩
theorem nf_obj (C : String) : nf (.object C) 2 (fun _ => True) := fun ad x _ => by
  rw [em_r]; cases rf_o ad x <;> exact ⟨rfl, rfl⟩
theorem nf_arr (ty : FieldType) : nf (.array ty) 2 (fun _ => True) := fun ad x _ => by
  rw [em_r]; cases rf_o ad x <;> exact ⟨rfl, rfl⟩
theorem nf_bool : nf .boolean 0 (fun x => 0 ≤ x ∧ x ≤ 1) := fun ad x h => by
  rcases (show x = 0 ∨ x = 1 by omega) with rfl | rfl <;> exact ⟨rfl, rfl⟩
theorem S_getf {idx ci j t N : Nat} {Cn : String} {Tn : u_T} (C : Cx y p s m args meth c D dA A) (hd : decode y.2.1 pc = .ok (.getfield idx, 3)) (hc : vwCl[ci]? = some (Cn, Tn, N)) (hin : ∀ w ∈ u_ws Cn Tn N, w ∈ lw_g) (hj : j < N) (hl : Cond.fieldLink y.1.cls idx (Tn j).1 (Tn j).2.1 (Tn j).2.2.1 ∈ tables_1) (ht : c_tg ci j = t) (ih : ∀ ls st sh h, kk ls st sh h → G p l e R s m args below meth c D dA A T y.2.2.1 ad0 sz0 k n (pc + 3) ls st sh h) : ∀ ls st sh h, x_getf ci j t kk ls st sh h → G p l e R s m args below meth c D dA A T y.2.2.1 ad0 sz0 k n pc ls st sh h := by
  intro ls st sh h hk0 ad H locs lsA g1 g2 g3 g4 g5 g6 g7 g8 g9
  obtain ⟨hx, hb, hr, hml, hown, hts, hK, hlk, hnm, hN, hA⟩ := id C
  unfold x_getf at hk0
  split at hk0
  · rename_i a q
    obtain ⟨ta, r⟩ := a
    dsimp only at hk0
    obtain ⟨⟨rfl, h0, hs⟩, hk⟩ := hk0
    have hN : nfs ci = N := by unfold nfs; rw [hc]; rfl
    rw [hN] at hs
    have cj := can_m_at g6 hs (j := j) hj
    rw [s_tg_o, ht] at cj
    have kn := ih _ _ _ _ hk ad H locs lsA g1 g2 g3 g4 (can_cons cj (can_tl g5)) g6 g7 g8 g9
    rw [List.map_cons, ← ht] at kn
    rw [List.map_cons, em_ix ad h0]
    exact va_get hx hb hts hin hown hK g7 (r.toNat - 1) (em_w_ob hs) hc j hj (hts _ (in_g hl rfl)) (fun _ z => z) (fs_at hj) hd kn
  · exact hk0.elim
theorem S_putf {idx ci j t N : Nat} {Cn : String} {Tn : u_T} {P : Int → Prop} {ty0 : Nat → FieldType} (C : Cx y p s m args meth c D dA A) (hd : decode y.2.1 pc = .ok (.putfield idx, 3)) (hc : vwCl[ci]? = some (Cn, Tn, N)) (hin : ∀ w ∈ u_ws Cn Tn N, w ∈ lw_g) (hj : j < N) (hl : Cond.fieldLink y.1.cls idx (Tn j).1 (Tn j).2.1 (Tn j).2.2.1 ∈ tables_1) (ht : c_tg ci j = t) (hty : ∀ k, k < N → parseFieldDescriptor (Tn k).2.2.1 = some (ty0 k)) (hnmx : ∀ a, a < N → ∀ b, b < N → a ≠ b → (Tn a).2.1 ≠ (Tn b).2.1) (hfin : (Tn j).2.2.2 = false) (hnf : nf (ty0 j) t P)  (ih : ∀ ls st sh h, kk ls st sh h → G p l e R s m args below meth c D dA A T y.2.2.1 ad0 sz0 k n (pc + 3) ls st sh h) : ∀ ls st sh h, x_putf ci j t P kk ls st sh h → G p l e R s m args below meth c D dA A T y.2.2.1 ad0 sz0 k n pc ls st sh h := by
  intro ls st sh h hk0 ad H locs lsA g1 g2 g3 g4 g5 g6 g7 g8 g9
  obtain ⟨hx, hb, hr, hml, hown, hts, hK, hlk, hnm, hN, hA⟩ := id C
  unfold x_putf at hk0
  split at hk0
  · rename_i v a q
    obtain ⟨tv, v⟩ := v
    obtain ⟨ta, r⟩ := a
    dsimp only at hk0
    obtain ⟨⟨⟨rfl, rfl, h0, hs⟩, hP0⟩, hk⟩ := hk0
    have hN : nfs ci = N := by unfold nfs; rw [hc]; rfl
    rw [hN] at hs
    have cv := can_hd g5
    have g6u := can_m_up g6 hs (j := j) (v := v) (by rw [s_tg_o, ht]; exact cv)
    have hq := hnf ad v hP0
    rw [List.map_cons, List.map_cons, em_ix ad h0]
    refine va_put (ty := ty0 j) hx hb hts hin ty0 hty hnmx hown hK g7 g8 g9 (r.toNat - 1) (em_w_ob hs) hc j hj (hts _ (in_g hl rfl)) (fun _ z => z) hfin (hty j hj) hq.1 hq.2 (by rw [List.length_map, List.length_range]; exact hj) hd (fun H1 locs1 hP hD hS => ?_)
    rw [← ht, em_c_o (dA := dA) _ _ _ hj, em_w_set hs, up_row] at hP hD
    exact ih _ _ _ _ hk ad H1 locs1 lsA g1 g2 g3 g4 (can_tl (can_tl g5)) g6u hP hD hS
  · exact hk0.elim
theorem S_putF {idx ci j t N : Nat} {Cn : String} {Tn : u_T} {P : Int → Prop} {ty0 : Nat → FieldType} (C : Cx y p s m args meth c D dA A) (hd : decode y.2.1 pc = .ok (.putfield idx, 3)) (hc : vwCl[ci]? = some (Cn, Tn, N)) (hin : ∀ w ∈ u_ws Cn Tn N, w ∈ lw_g) (hj : j < N) (hl : Cond.fieldLink y.1.cls idx (Tn j).1 (Tn j).2.1 (Tn j).2.2.1 ∈ tables_1) (ht : c_tg ci j = t) (hty : ∀ k, k < N → parseFieldDescriptor (Tn k).2.2.1 = some (ty0 k)) (hnmx : ∀ a, a < N → ∀ b, b < N → a ≠ b → (Tn a).2.1 ≠ (Tn b).2.1) (hfin : (Tn j).2.2.2 = true) (hnf : nf (ty0 j) t P) (hini : y.1.name = "<init>") (hdc : (Tn j).1 = y.1.cls) (ih : ∀ ls st sh h, kk ls st sh h → G p l e R s m args below meth c D dA A T y.2.2.1 ad0 sz0 k n (pc + 3) ls st sh h) : ∀ ls st sh h, x_putf ci j t P kk ls st sh h → G p l e R s m args below meth c D dA A T y.2.2.1 ad0 sz0 k n pc ls st sh h := by
  intro ls st sh h hk0 ad H locs lsA g1 g2 g3 g4 g5 g6 g7 g8 g9
  obtain ⟨hx, hb, hr, hml, hown, hts, hK, hlk, hnm, hN, hA⟩ := id C
  unfold x_putf at hk0
  split at hk0
  · rename_i v a q
    obtain ⟨tv, v⟩ := v
    obtain ⟨ta, r⟩ := a
    dsimp only at hk0
    obtain ⟨⟨⟨rfl, rfl, h0, hs⟩, hP0⟩, hk⟩ := hk0
    have hN : nfs ci = N := by unfold nfs; rw [hc]; rfl
    rw [hN] at hs
    have cv := can_hd g5
    have g6u := can_m_up g6 hs (j := j) (v := v) (by rw [s_tg_o, ht]; exact cv)
    have hq := hnf ad v hP0
    rw [List.map_cons, List.map_cons, em_ix ad h0]
    refine va_putF (ty := ty0 j) hx hb hts hin ty0 hty hnmx hown hK g7 g8 g9 (r.toNat - 1) (em_w_ob hs) hc j hj (hts _ (in_g hl rfl)) (fun _ z => z) hfin (hnm.trans hini) hdc (hty j hj) hq.1 hq.2 (by rw [List.length_map, List.length_range]; exact hj) hd (fun H1 locs1 hP hD hS => ?_)
    rw [← ht, em_c_o (dA := dA) _ _ _ hj, em_w_set hs, up_row] at hP hD
    exact ih _ _ _ _ hk ad H1 locs1 lsA g1 g2 g3 g4 (can_tl (can_tl g5)) g6u hP hD hS
  · exact hk0.elim
end GF

/-! the class: a told net's cells, and those of its settling -/
theorem lay_g {h : Mem} (L : Lay h) {a b n : Nat} (H : ∀ i : Fin n, (a, i.1, ((b + i.1 : Nat) : Int) + 1) ∈ LAYL) {i : Nat} (hi : i < n) : h a i = ((b + i : Nat) : Int) + 1 := L _ (H ⟨i, hi⟩)
theorem ln_g {b n m kd : Nat} (H : ∀ i : Fin n, ln SHP kd (((b + i.1 : Nat) : Int) + 1) = m) {i : Nat} (hi : i < n) : ln SHP kd (((b + i : Nat) : Int) + 1) = m := H ⟨i, hi⟩
theorem net_f {h : Mem} {nb : Nat} (L : Lay h) (hn : nb = 4 ∨ nb = 34) : h nb 1 = ((nb + 2 : Nat) : Int) + 1 ∧ h nb 2 = ((nb + 3 : Nat) : Int) + 1 ∧ h nb 3 = ((nb + 4 : Nat) : Int) + 1 ∧ h nb 4 = ((nb + 5 : Nat) : Int) + 1 ∧ h nb 5 = ((nb + 6 : Nat) : Int) + 1 ∧ h nb 6 = ((nb + 7 : Nat) : Int) + 1 ∧ h nb 7 = ((nb + 8 : Nat) : Int) + 1 ∧ h nb 8 = ((nb + 9 : Nat) : Int) + 1 ∧ h nb 9 = ((nb + 14 : Nat) : Int) + 1 ∧ h nb 10 = ((nb + 15 : Nat) : Int) + 1 := by
  rcases hn with rfl | rfl
  · exact ⟨ly_4_1 L, ly_4_2 L, ly_4_3 L, ly_4_4 L, ly_4_5 L, ly_4_6 L, ly_4_7 L, ly_4_8 L, ly_4_9 L, ly_4_10 L⟩
  · exact ⟨ly_34_1 L, ly_34_2 L, ly_34_3 L, ly_34_4 L, ly_34_5 L, ly_34_6 L, ly_34_7 L, ly_34_8 L, ly_34_9 L, ly_34_10 L⟩
theorem net_ln {nb : Nat} (hn : nb = 4 ∨ nb = 34) : ln SHP 1 (((nb + 2 : Nat) : Int) + 1) = 6 ∧ ln SHP 1 (((nb + 3 : Nat) : Int) + 1) = 4 ∧ ln SHP 1 (((nb + 4 : Nat) : Int) + 1) = 4 ∧ ln SHP 0 (((nb + 5 : Nat) : Int) + 1) = 4 ∧ ln SHP 0 (((nb + 6 : Nat) : Int) + 1) = 4 ∧ ln SHP 0 (((nb + 7 : Nat) : Int) + 1) = 4 ∧ ln SHP 0 (((nb + 8 : Nat) : Int) + 1) = 4 ∧ ln SHP 4 (((nb + 9 : Nat) : Int) + 1) = 4 ∧ ln SHP 0 (((nb + 14 : Nat) : Int) + 1) = 4 ∧ ob SHP 1 (((nb + 15 : Nat) : Int) + 1) := by
  rcases hn with rfl | rfl
  · exact ⟨ln_6, ln_7, ln_8, ln_9, ln_10, ln_11, ln_12, ln_13, ln_18, ob_19⟩
  · exact ⟨ln_36, ln_37, ln_38, ln_39, ln_40, ln_41, ln_42, ln_43, ln_48, ob_49⟩
theorem nln2 {nb : Nat} (hn : nb = 4 ∨ nb = 34) : ln SHP 1 (((nb + 2 : Nat) : Int) + 1) = 6 := (net_ln hn).1
theorem nln3 {nb : Nat} (hn : nb = 4 ∨ nb = 34) : ln SHP 1 (((nb + 3 : Nat) : Int) + 1) = 4 := (net_ln hn).2.1
theorem nln4 {nb : Nat} (hn : nb = 4 ∨ nb = 34) : ln SHP 1 (((nb + 4 : Nat) : Int) + 1) = 4 := (net_ln hn).2.2.1
theorem nln5 {nb : Nat} (hn : nb = 4 ∨ nb = 34) : ln SHP 0 (((nb + 5 : Nat) : Int) + 1) = 4 := (net_ln hn).2.2.2.1
theorem nln6 {nb : Nat} (hn : nb = 4 ∨ nb = 34) : ln SHP 0 (((nb + 6 : Nat) : Int) + 1) = 4 := (net_ln hn).2.2.2.2.1
theorem nln7 {nb : Nat} (hn : nb = 4 ∨ nb = 34) : ln SHP 0 (((nb + 7 : Nat) : Int) + 1) = 4 := (net_ln hn).2.2.2.2.2.1
theorem nln8 {nb : Nat} (hn : nb = 4 ∨ nb = 34) : ln SHP 0 (((nb + 8 : Nat) : Int) + 1) = 4 := (net_ln hn).2.2.2.2.2.2.1
theorem nln9 {nb : Nat} (hn : nb = 4 ∨ nb = 34) : ln SHP 4 (((nb + 9 : Nat) : Int) + 1) = 4 := (net_ln hn).2.2.2.2.2.2.2.1
theorem nln14 {nb : Nat} (hn : nb = 4 ∨ nb = 34) : ln SHP 0 (((nb + 14 : Nat) : Int) + 1) = 4 := (net_ln hn).2.2.2.2.2.2.2.2.1
theorem nob15 {nb : Nat} (hn : nb = 4 ∨ nb = 34) : ob SHP 1 (((nb + 15 : Nat) : Int) + 1) := (net_ln hn).2.2.2.2.2.2.2.2.2
theorem nf1 {h : Mem} {nb : Nat} (L : Lay h) (hn : nb = 4 ∨ nb = 34) : h nb 1 = ((nb + 2 : Nat) : Int) + 1 := (net_f L hn).1
theorem nf2 {h : Mem} {nb : Nat} (L : Lay h) (hn : nb = 4 ∨ nb = 34) : h nb 2 = ((nb + 3 : Nat) : Int) + 1 := (net_f L hn).2.1
theorem nf3 {h : Mem} {nb : Nat} (L : Lay h) (hn : nb = 4 ∨ nb = 34) : h nb 3 = ((nb + 4 : Nat) : Int) + 1 := (net_f L hn).2.2.1
theorem nf4 {h : Mem} {nb : Nat} (L : Lay h) (hn : nb = 4 ∨ nb = 34) : h nb 4 = ((nb + 5 : Nat) : Int) + 1 := (net_f L hn).2.2.2.1
theorem nf5 {h : Mem} {nb : Nat} (L : Lay h) (hn : nb = 4 ∨ nb = 34) : h nb 5 = ((nb + 6 : Nat) : Int) + 1 := (net_f L hn).2.2.2.2.1
theorem nf6 {h : Mem} {nb : Nat} (L : Lay h) (hn : nb = 4 ∨ nb = 34) : h nb 6 = ((nb + 7 : Nat) : Int) + 1 := (net_f L hn).2.2.2.2.2.1
theorem nf7 {h : Mem} {nb : Nat} (L : Lay h) (hn : nb = 4 ∨ nb = 34) : h nb 7 = ((nb + 8 : Nat) : Int) + 1 := (net_f L hn).2.2.2.2.2.2.1
theorem nf8 {h : Mem} {nb : Nat} (L : Lay h) (hn : nb = 4 ∨ nb = 34) : h nb 8 = ((nb + 9 : Nat) : Int) + 1 := (net_f L hn).2.2.2.2.2.2.2.1
theorem nf9 {h : Mem} {nb : Nat} (L : Lay h) (hn : nb = 4 ∨ nb = 34) : h nb 9 = ((nb + 14 : Nat) : Int) + 1 := (net_f L hn).2.2.2.2.2.2.2.2.1
theorem nf10 {h : Mem} {nb : Nat} (L : Lay h) (hn : nb = 4 ∨ nb = 34) : h nb 10 = ((nb + 15 : Nat) : Int) + 1 := (net_f L hn).2.2.2.2.2.2.2.2.2
theorem net_w {h : Mem} {nb : Nat} (L : Lay h) (hn : nb = 4 ∨ nb = 34) {f : Nat} (hf : f < 4) : h (nb + 9) f = ((nb + 10 + f : Nat) : Int) + 1 ∧ ln SHP 0 (((nb + 10 + f : Nat) : Int) + 1) = 4 := by
  rcases hn with rfl | rfl
  · exact ⟨lay_g L (a := 13) (b := 14) (n := 4) (by decide +kernel) hf, ln_g (b := 14) (n := 4) (by decide +kernel) hf⟩
  · exact ⟨lay_g L (a := 43) (b := 44) (n := 4) (by decide +kernel) hf, ln_g (b := 44) (n := 4) (by decide +kernel) hf⟩
theorem stg_l {h : Mem} (L : Lay h) : h 175 0 = 177 ∧ h 175 1 = 182 ∧ h 175 2 = 187 ∧ h 175 3 = 204 ∧ h 175 4 = 209 ∧ h 175 5 = 210 := ⟨ly_175_0 L, ly_175_1 L, ly_175_2 L, ly_175_3 L, ly_175_4 L, ly_175_5 L⟩
theorem stg_d {h : Mem} (L : Lay h) {f : Nat} (hf : f < 4) : h 176 f = ((177 + f : Nat) : Int) + 1 ∧ ln SHP 0 (((177 + f : Nat) : Int) + 1) = 4 := ⟨lay_g L (a := 176) (b := 177) (n := 4) (by decide +kernel) hf, ln_g (b := 177) (n := 4) (by decide +kernel) hf⟩
theorem stg_n {h : Mem} (L : Lay h) {f : Nat} (hf : f < 4) : h 181 f = ((182 + f : Nat) : Int) + 1 ∧ ln SHP 0 (((182 + f : Nat) : Int) + 1) = 4 := ⟨lay_g L (a := 181) (b := 182) (n := 4) (by decide +kernel) hf, ln_g (b := 182) (n := 4) (by decide +kernel) hf⟩
theorem stg_a {h : Mem} (L : Lay h) {i : Nat} (hi : i < 16) : h 186 i = ((187 + i : Nat) : Int) + 1 ∧ ln SHP 0 (((187 + i : Nat) : Int) + 1) = 121 := ⟨lay_g L (a := 186) (b := 187) (n := 16) (by decide +kernel) hi, ln_g (b := 187) (n := 16) (by decide +kernel) hi⟩
theorem stg_s {h : Mem} (L : Lay h) {f : Nat} (hf : f < 4) : h 203 f = ((204 + f : Nat) : Int) + 1 ∧ ln SHP 0 (((204 + f : Nat) : Int) + 1) = 121 := ⟨lay_g L (a := 203) (b := 204) (n := 4) (by decide +kernel) hf, ln_g (b := 204) (n := 4) (by decide +kernel) hf⟩
/-- the net at nb is the reference's -/
def RN (h : Mem) (nb : Nat) : Prop := RC h nb ∧ (h nb 12 = h 220 1 ∧ h nb 13 = h 220 2) ∧ (∀ n : Nat, (n : Int) < h 220 1 → h (nb + 5) n = kd (h 220) n ∧ h (nb + 6) n = cu (h 220) n ∧ h (nb + 14) n = v6 (ovr (h 220) n)) ∧ ∀ f : Nat, (f : Int) < h 220 2 → h (nb + 7) f = sby (h 220) f ∧ h (nb + 8) f = hp (h 220) f ∧ ∀ k : Nat, (k : Int) < hp (h 220) f → h (nb + 10 + f) k = nd (h 220) f k
theorem RN.fr {h h' : Mem} {nb : Nat} (R : RN h nb) (W : WN (h 220)) (hf : ∀ i, (nb ≤ i ∧ i < nb + 30) ∨ i = 220 → h' i = h i) : RN h' nb := by
  have e := hf 220 (Or.inr rfl)
  have nf := W.nf
  refine ⟨R.1.fr W.wc hf, ?_, ?_, ?_⟩
  · rw [hf nb (Or.inl (by omega)), e]; exact R.2.1
  · rw [e, hf (nb + 5) (Or.inl (by omega)), hf (nb + 6) (Or.inl (by omega)), hf (nb + 14) (Or.inl (by omega))]; exact R.2.2.1
  · rw [e, hf (nb + 7) (Or.inl (by omega)), hf (nb + 8) (Or.inl (by omega))]
    intro f hff
    rw [hf (nb + 10 + f) (Or.inl (by omega))]
    exact R.2.2.2 f hff
/-- the cells of the class that hold nothing but what is settled -/
def SKc : List Nat := [177, 178, 179, 180, 182, 183, 184, 185, 187, 188, 189, 190, 191, 192, 193, 194, 195, 196, 197, 198, 199, 200, 201, 202, 204, 205, 206, 207, 208, 209, 211, 212, 213]
def SKf : List Nat := [6, 7, 8]
def Fk (h h' : Mem) : Prop := (∀ i, i ∉ 175 :: SKc → h' i = h i) ∧ ∀ j, j ∉ SKf → h' 175 j = h 175 j
theorem Fk.rfl {h : Mem} : Fk h h := ⟨fun _ _ => Eq.refl _, fun _ _ => Eq.refl _⟩
theorem Fk.trans {h h1 h2 : Mem} (a : Fk h h1) (b : Fk h1 h2) : Fk h h2 := ⟨fun i q => (b.1 i q).trans (a.1 i q), fun j q => (b.2 j q).trans (a.2 j q)⟩
theorem Fk.ofFr {cs : List Nat} {h h' : Mem} (f : Fr cs h h') (hs : ∀ i, i ∈ cs → i ∈ SKc) : Fk h h' := ⟨fun i q => f i (fun z => q (List.mem_cons_of_mem _ (hs i z))), fun j _ => by rw [f 175 (fun z => absurd (hs _ z) (by decide))]⟩
theorem Fk.fld {h : Mem} {j : Nat} {v : Int} (hj : SKf.contains j = true) : Fk h (up h 175 j v) := ⟨fun i q => up_ne (fun e => q (by rw [e]; exact List.mem_cons_self)), fun q hq => up_nj (fun e => hq (by rw [e]; simpa using hj))⟩
theorem Fk.up {h : Mem} {a j : Nat} {v : Int} (ha : a ∈ SKc) : Fk h (up h a j v) := Fk.ofFr (cs := [a]) (Fr.up Fr.rfl List.mem_cons_self) (fun i hi => by simp at hi; rw [hi]; exact ha)
theorem Fk.row {h : Mem} {a n : Nat} {f : Nat → Int} (ha : a ∈ SKc) : Fk h (row h a n f) := Fk.ofFr (cs := [a]) (Fr.row Fr.rfl List.mem_cons_self) (fun i hi => by simp at hi; rw [hi]; exact ha)
theorem Fk.lay {h h' : Mem} (f : Fk h h') (L : Lay h) : Lay h' := by
  refine Lay_fr L (fun q hq => ?_)
  have hn : LAYL.all (fun q => if q.1 = 175 then !(SKf.contains q.2.1) else !(SKc.contains q.1)) = true := by decide +kernel
  have h1 := List.all_eq_true.mp hn q hq
  by_cases e : q.1 = 175
  · rw [if_pos e] at h1
    rw [e]; exact f.2 _ (by simpa using h1)
  · rw [if_neg e] at h1
    rw [f.1 q.1 (by simp [e]; simpa using h1)]
theorem skc_lo {i : Nat} (h : i < 175) : i ∉ 175 :: SKc := by
  intro hm
  have hn : (175 :: SKc).all (fun i => decide (175 ≤ i)) = true := by decide +kernel
  have := List.all_eq_true.mp hn i hm
  simp at this; omega
theorem skc_in {a n b : Nat} (H : ∀ i : Fin n, (b + i.1) ∈ SKc) (h : ∃ i, i < n ∧ a = b + i) : a ∈ SKc := by
  obtain ⟨i, hi, rfl⟩ := h; exact H ⟨i, hi⟩
theorem Fk.n220 {h h' : Mem} (f : Fk h h') : h' 220 = h 220 := f.1 220 (by decide)
theorem Fk.rn {h h' : Mem} {nb : Nat} (f : Fk h h') (R : RN h nb) (W : WN (h 220)) (hn : nb = 4 ∨ nb = 34) : RN h' nb := R.fr W (fun i hi => by
  rcases hi with hi | rfl
  · exact f.1 i (skc_lo (by omega))
  · exact f.n220)
theorem Fk.td {h h' : Mem} {nb : Nat} (f : Fk h h') (T : Td h nb) : Td h' nb := T.fr (f.1 0 (skc_lo (by decide)))
/-- what holds at the end, as a name -/
theorem Cl_hide {l : Launch} {d : Nat} {y : MI} {a : List PV} {sh : Shp} {h : Mem} {Q : Int → Shp → Mem → Prop} (H : ∀ Q' : Int → Shp → Mem → Prop, (∀ r sh h, Q r sh h → Q' r sh h) → Cl l d y a sh h Q') : Cl l d y a sh h Q := H Q (fun _ _ _ q => q)

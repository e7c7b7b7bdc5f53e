/-! RULES: an instruction, a rule, over the pure picture -/
def lw_g : List Cond := lw_tbl.filter goodWord
theorem in_g {w : Cond} (h : w ∈ tables_1) (hg : goodWord w = true) : w ∈ lw_g := List.mem_filter.mpr ⟨List.mem_append_right _ h, hg⟩
theorem in_p {q : MethodName × Nat} (h : q ∈ lw_privs) : Cond.selects q.1.cls q.1 q.1 ∈ lw_g := List.mem_filter.mpr ⟨List.mem_append_left _ (List.mem_map.mpr ⟨q, h, rfl⟩), rfl⟩
def lw_nest : List Cond := [.methodLinkNest "DelayBounds$Net" 50 ⟨"DelayBounds$Law", "<init>", "()V"⟩ "DelayBounds", .methodLinkNest "DelayBounds$Net" 55 ⟨"DelayBounds$Curve", "<init>", "()V"⟩ "DelayBounds", .methodLinkNest "DelayBounds" 37 ⟨"DelayBounds$Script", "<init>", "()V"⟩ "DelayBounds", .methodLinkNest "DelayBounds" 57 ⟨"DelayBounds$Sightings", "<init>", "()V"⟩ "DelayBounds", .methodLinkNest "DelayBounds$Settling" 102 ⟨"DelayBounds", "lateness", "([I[I)I"⟩ "DelayBounds"]
def lw_over : List FieldType := [.object "DelayBounds$Curve", .object "DelayBounds$Traffic", .object "DelayBounds$Sightings", .array .int]
/-- what the tables say beside the words that stay: links among nest mates, arrays of references -/
def Nx (s : State) : Prop := (∀ w ∈ lw_nest, va_Nw w s) ∧ ∀ ty ∈ lw_over, (Cond.arrayOver ty).before #[] s = true
theorem Nx.warm {s U : State} (hW : s.WarmedH U.vm) (h : Nx s) : Nx U := by
  refine ⟨fun w hw => ?_, fun ty hty => ?_⟩
  · have h1 := h.1 w hw
    simp only [lw_nest, List.mem_cons, List.not_mem_nil, or_false] at hw
    rcases hw with rfl | rfl | rfl | rfl | rfl <;> exact va_Nw.warmM hW h1
  · have h1 := h.2 ty hty
    have h2 := (Cond.arrayOver_setVmC (args := #[]) (s := s) (vm' := U.vm) hW.alike ty).trans h1
    exact h2
def Cx (y : MI) (p : Program) (s : State) (m : MethodId) (args : Array Value) (meth : Method) (c : Code) (D : va_G) (dA : Nat → ClassId) (A : Nat → Prop) : Prop :=
  p.tables.exec = Jvm.exec ∧ c.code = y.2.1 ∧ meth.sig.returnType = y.2.2.2 ∧ c.maxLocals = y.2.2.1 ∧ s.vm.findClass y.1.cls = some m.cls ∧ (∀ w ∈ lw_g, w.before args s = true) ∧ va_K D vwCl (tysL dA) s ∧ meth.locks = false ∧ meth.name = y.1.name ∧ Nx s ∧ (∀ q : Nat, s.heap.size ≤ q → A q)
/-- the machine, at pc of a method, with this picture, comes to T -/
def G (p : Program) (l : Launch) (e : Env) (R : Room) (s : State) (m : MethodId) (args : Array Value) (below : List Frame) (meth : Method) (c : Code) (D : va_G) (dA : Nat → ClassId) (A : Nat → Prop) (T : State → Prop) (nL : Nat) (ad0 : Nat → Nat) (sz0 k n pc : Nat) : KT := fun ls st sh h =>
  ∀ (ad : Nat → Nat) (H : Heap) (locs : List Loc) (lsA : Array Slot), (∀ i, i < sz0 → ad i = ad0 i) → sz0 ≤ sh.length → lr ad lsA nL ls → can_l sh.length ls → can_l sh.length st → can_m sh h → va_P D vwCl (em_w dA ad sh h) H → va_D A (em_w dA ad sh h) → va_S A s.heap H locs →
    W p l e R s m args below meth c H locs k n T (F0 m pc lsA (st.map (em_v ad)))

section GR
variable {p : Program} {l : Launch} {e : Env} {R : Room} {s : State} {m : MethodId} {args : Array Value} {below : List Frame} {meth : Method} {c : Code} {D : va_G} {dA : Nat → ClassId} {A : Nat → Prop} {T : State → Prop} {y : MI} {ad0 : Nat → Nat} {sz0 k n pc : Nat} {kk kt kf : KT}
def x_ic (v : Int) (kk : KT) : KT := fun ls st sh h => kk ls ((0, v) :: st) sh h
def x_lc (v : Int) (kk : KT) : KT := fun ls st sh h => kk ls ((1, v) :: st) sh h
theorem S_iconst {v : Int} (C : Cx y p s m args meth c D dA A) (hd : decode y.2.1 pc = .ok (.iconst v, 1)) (hc : -2147483648 ≤ v ∧ v < 2147483648) (ih : ∀ ls st sh h, kk ls st sh h → G p l e R s m args below meth c D dA A T y.2.2.1 ad0 sz0 k n (pc + 1) ls st sh h) : ∀ ls st sh h, x_ic v kk ls st sh h → G p l e R s m args below meth c D dA A T y.2.2.1 ad0 sz0 k n pc ls st sh h := by
  intro ls st sh h hk ad H locs lsA g1 g2 g3 g4 g5 g6 g7 g8 g9
  obtain ⟨hx, hb, hr, hml, hown, hts, hK, hlk, hnm, hN, hA⟩ := id C
  exact lv_iconst hx hb hd rfl (ih _ _ _ _ hk ad H locs lsA g1 g2 g3 g4 (can_cons (can_int hc) g5) g6 g7 g8 g9)
theorem S_bipush {v : Int} (C : Cx y p s m args meth c D dA A) (hd : decode y.2.1 pc = .ok (.bipush v, 2)) (hv : (Int8.ofInt v).toInt32 = Int32.ofInt v) (hc : -2147483648 ≤ v ∧ v < 2147483648) (ih : ∀ ls st sh h, kk ls st sh h → G p l e R s m args below meth c D dA A T y.2.2.1 ad0 sz0 k n (pc + 2) ls st sh h) : ∀ ls st sh h, x_ic v kk ls st sh h → G p l e R s m args below meth c D dA A T y.2.2.1 ad0 sz0 k n pc ls st sh h := by
  intro ls st sh h hk ad H locs lsA g1 g2 g3 g4 g5 g6 g7 g8 g9
  obtain ⟨hx, hb, hr, hml, hown, hts, hK, hlk, hnm, hN, hA⟩ := id C
  exact lv_bipush hx hb hd hv (ih _ _ _ _ hk ad H locs lsA g1 g2 g3 g4 (can_cons (can_int hc) g5) g6 g7 g8 g9)
theorem S_sipush {v : Int} (C : Cx y p s m args meth c D dA A) (hd : decode y.2.1 pc = .ok (.sipush v, 3)) (hv : (Int16.ofInt v).toInt32 = Int32.ofInt v) (hc : -2147483648 ≤ v ∧ v < 2147483648) (ih : ∀ ls st sh h, kk ls st sh h → G p l e R s m args below meth c D dA A T y.2.2.1 ad0 sz0 k n (pc + 3) ls st sh h) : ∀ ls st sh h, x_ic v kk ls st sh h → G p l e R s m args below meth c D dA A T y.2.2.1 ad0 sz0 k n pc ls st sh h := by
  intro ls st sh h hk ad H locs lsA g1 g2 g3 g4 g5 g6 g7 g8 g9
  obtain ⟨hx, hb, hr, hml, hown, hts, hK, hlk, hnm, hN, hA⟩ := id C
  exact lv_sipush hx hb hd hv (ih _ _ _ _ hk ad H locs lsA g1 g2 g3 g4 (can_cons (can_int hc) g5) g6 g7 g8 g9)
theorem S_lconst {v : Fin 2} {x : Int} (C : Cx y p s m args meth c D dA A) (hd : decode y.2.1 pc = .ok (.lconst v, 1)) (hv : Int64.ofNat (v : Nat) = Int64.ofInt x) (hc : -9223372036854775808 ≤ x ∧ x < 9223372036854775808) (ih : ∀ ls st sh h, kk ls st sh h → G p l e R s m args below meth c D dA A T y.2.2.1 ad0 sz0 k n (pc + 1) ls st sh h) : ∀ ls st sh h, x_lc x kk ls st sh h → G p l e R s m args below meth c D dA A T y.2.2.1 ad0 sz0 k n pc ls st sh h := by
  intro ls st sh h hk ad H locs lsA g1 g2 g3 g4 g5 g6 g7 g8 g9
  obtain ⟨hx, hb, hr, hml, hown, hts, hK, hlk, hnm, hN, hA⟩ := id C
  exact lv_lconst hx hb hd hv (ih _ _ _ _ hk ad H locs lsA g1 g2 g3 g4 (can_cons (can_lng hc) g5) g6 g7 g8 g9)
theorem S_ldc {i : Nat} {v : Int} (C : Cx y p s m args meth c D dA A) (hd : decode y.2.1 pc = .ok (.ldc i, 2)) (hw : Cond.constant y.1.cls i (Int32.ofInt v) ∈ tables_1) (hc : -2147483648 ≤ v ∧ v < 2147483648) (ih : ∀ ls st sh h, kk ls st sh h → G p l e R s m args below meth c D dA A T y.2.2.1 ad0 sz0 k n (pc + 2) ls st sh h) : ∀ ls st sh h, x_ic v kk ls st sh h → G p l e R s m args below meth c D dA A T y.2.2.1 ad0 sz0 k n pc ls st sh h := by
  intro ls st sh h hk ad H locs lsA g1 g2 g3 g4 g5 g6 g7 g8 g9
  obtain ⟨hx, hb, hr, hml, hown, hts, hK, hlk, hnm, hN, hA⟩ := id C
  exact lv_ldc hx hb hown (hts _ (in_g hw rfl)) hd (ih _ _ _ _ hk ad H locs lsA g1 g2 g3 g4 (can_cons (can_int hc) g5) g6 g7 g8 g9)
theorem S_ldc2 {i : Nat} {v : Int} (C : Cx y p s m args meth c D dA A) (hd : decode y.2.1 pc = .ok (.ldc2_w i, 3)) (hw : Cond.constantLong y.1.cls i (Int64.ofInt v) ∈ tables_1) (hc : -9223372036854775808 ≤ v ∧ v < 9223372036854775808) (ih : ∀ ls st sh h, kk ls st sh h → G p l e R s m args below meth c D dA A T y.2.2.1 ad0 sz0 k n (pc + 3) ls st sh h) : ∀ ls st sh h, x_lc v kk ls st sh h → G p l e R s m args below meth c D dA A T y.2.2.1 ad0 sz0 k n pc ls st sh h := by
  intro ls st sh h hk ad H locs lsA g1 g2 g3 g4 g5 g6 g7 g8 g9
  obtain ⟨hx, hb, hr, hml, hown, hts, hK, hlk, hnm, hN, hA⟩ := id C
  exact lv_ldc2 hx hb hown (hts _ (in_g hw rfl)) hd (ih _ _ _ _ hk ad H locs lsA g1 g2 g3 g4 (can_cons (can_lng hc) g5) g6 g7 g8 g9)
def x_ld (t i : Nat) (kk : KT) : KT := fun ls st sh h => match ls[i]? with
  | some v => v.1 = t ∧ kk ls ((t, v.2) :: st) sh h
  | none => False
theorem x_ld_of {t i : Nat} {ls st : List PV} {sh : Shp} {h : Mem} (hk : x_ld t i kk ls st sh h) : ∃ x : Int, ls[i]? = some (t, x) ∧ kk ls ((t, x) :: st) sh h := by
  unfold x_ld at hk
  split at hk
  · rename_i v hv
    obtain ⟨h1, h2⟩ := hk
    exact ⟨v.2, by rw [hv, ← h1], h2⟩
  · exact hk.elim
theorem em_null {ad : Nat → Nat} {x : Int} (h : x ≤ 0) : em_v ad (2, x) = .null := by rw [em_r, rf_o, if_pos h]; rfl
theorem S_iload_n {i : Fin 4} (C : Cx y p s m args meth c D dA A) (hd : decode y.2.1 pc = .ok (.iload_n i, 1)) (ih : ∀ ls st sh h, kk ls st sh h → G p l e R s m args below meth c D dA A T y.2.2.1 ad0 sz0 k n (pc + 1) ls st sh h) : ∀ ls st sh h, x_ld 0 i kk ls st sh h → G p l e R s m args below meth c D dA A T y.2.2.1 ad0 sz0 k n pc ls st sh h := by
  intro ls st sh h hk ad H locs lsA g1 g2 g3 g4 g5 g6 g7 g8 g9
  obtain ⟨hx, hb, hr, hml, hown, hts, hK, hlk, hnm, hN, hA⟩ := id C
  obtain ⟨x, hv, hk⟩ := x_ld_of hk
  exact lv_iload_n hx hb hd rfl (g3.2.2 _ _ hv (Nat.le_of_ble_eq_true rfl)) (ih _ _ _ _ hk ad H locs lsA g1 g2 g3 g4 (can_cons (g4 _ (List.mem_of_getElem? hv)) g5) g6 g7 g8 g9)
theorem S_iload {i : Nat} (C : Cx y p s m args meth c D dA A) (hd : decode y.2.1 pc = .ok (.iload i, 2)) (ih : ∀ ls st sh h, kk ls st sh h → G p l e R s m args below meth c D dA A T y.2.2.1 ad0 sz0 k n (pc + 2) ls st sh h) : ∀ ls st sh h, x_ld 0 i kk ls st sh h → G p l e R s m args below meth c D dA A T y.2.2.1 ad0 sz0 k n pc ls st sh h := by
  intro ls st sh h hk ad H locs lsA g1 g2 g3 g4 g5 g6 g7 g8 g9
  obtain ⟨hx, hb, hr, hml, hown, hts, hK, hlk, hnm, hN, hA⟩ := id C
  obtain ⟨x, hv, hk⟩ := x_ld_of hk
  exact lv_iload hx hb hd (g3.2.2 _ _ hv (Nat.le_of_ble_eq_true rfl)) (ih _ _ _ _ hk ad H locs lsA g1 g2 g3 g4 (can_cons (g4 _ (List.mem_of_getElem? hv)) g5) g6 g7 g8 g9)
theorem S_lload_n {i : Fin 4} (C : Cx y p s m args meth c D dA A) (hd : decode y.2.1 pc = .ok (.lload_n i, 1)) (ih : ∀ ls st sh h, kk ls st sh h → G p l e R s m args below meth c D dA A T y.2.2.1 ad0 sz0 k n (pc + 1) ls st sh h) : ∀ ls st sh h, x_ld 1 i kk ls st sh h → G p l e R s m args below meth c D dA A T y.2.2.1 ad0 sz0 k n pc ls st sh h := by
  intro ls st sh h hk ad H locs lsA g1 g2 g3 g4 g5 g6 g7 g8 g9
  obtain ⟨hx, hb, hr, hml, hown, hts, hK, hlk, hnm, hN, hA⟩ := id C
  obtain ⟨x, hv, hk⟩ := x_ld_of hk
  exact lv_lload_n hx hb hd rfl (g3.2.2 _ _ hv (Nat.le_of_ble_eq_true rfl)) (ih _ _ _ _ hk ad H locs lsA g1 g2 g3 g4 (can_cons (g4 _ (List.mem_of_getElem? hv)) g5) g6 g7 g8 g9)
theorem S_lload {i : Nat} (C : Cx y p s m args meth c D dA A) (hd : decode y.2.1 pc = .ok (.lload i, 2)) (ih : ∀ ls st sh h, kk ls st sh h → G p l e R s m args below meth c D dA A T y.2.2.1 ad0 sz0 k n (pc + 2) ls st sh h) : ∀ ls st sh h, x_ld 1 i kk ls st sh h → G p l e R s m args below meth c D dA A T y.2.2.1 ad0 sz0 k n pc ls st sh h := by
  intro ls st sh h hk ad H locs lsA g1 g2 g3 g4 g5 g6 g7 g8 g9
  obtain ⟨hx, hb, hr, hml, hown, hts, hK, hlk, hnm, hN, hA⟩ := id C
  obtain ⟨x, hv, hk⟩ := x_ld_of hk
  exact lv_lload hx hb hd (g3.2.2 _ _ hv (Nat.le_of_ble_eq_true rfl)) (ih _ _ _ _ hk ad H locs lsA g1 g2 g3 g4 (can_cons (g4 _ (List.mem_of_getElem? hv)) g5) g6 g7 g8 g9)
theorem S_aload_n {i : Fin 4} (C : Cx y p s m args meth c D dA A) (hd : decode y.2.1 pc = .ok (.aload_n i, 1)) (ih : ∀ ls st sh h, kk ls st sh h → G p l e R s m args below meth c D dA A T y.2.2.1 ad0 sz0 k n (pc + 1) ls st sh h) : ∀ ls st sh h, x_ld 2 i kk ls st sh h → G p l e R s m args below meth c D dA A T y.2.2.1 ad0 sz0 k n pc ls st sh h := by
  intro ls st sh h hk ad H locs lsA g1 g2 g3 g4 g5 g6 g7 g8 g9
  obtain ⟨hx, hb, hr, hml, hown, hts, hK, hlk, hnm, hN, hA⟩ := id C
  obtain ⟨x, hv, hk⟩ := x_ld_of hk
  have hl := g3.2.2 _ _ hv (Nat.le_of_ble_eq_true rfl)
  have kn := ih _ _ _ _ hk ad H locs lsA g1 g2 g3 g4 (can_cons (g4 _ (List.mem_of_getElem? hv)) g5) g6 g7 g8 g9
  rw [List.map_cons] at kn
  by_cases hz : x ≤ 0
  · rw [em_null hz] at kn hl
    exact lv_aload_nN hx hb hd rfl hl kn
  · rw [em_ix ad (by omega)] at kn hl
    exact lv_aload_n hx hb hd rfl hl kn
theorem S_aload {i : Nat} (C : Cx y p s m args meth c D dA A) (hd : decode y.2.1 pc = .ok (.aload i, 2)) (ih : ∀ ls st sh h, kk ls st sh h → G p l e R s m args below meth c D dA A T y.2.2.1 ad0 sz0 k n (pc + 2) ls st sh h) : ∀ ls st sh h, x_ld 2 i kk ls st sh h → G p l e R s m args below meth c D dA A T y.2.2.1 ad0 sz0 k n pc ls st sh h := by
  intro ls st sh h hk ad H locs lsA g1 g2 g3 g4 g5 g6 g7 g8 g9
  obtain ⟨hx, hb, hr, hml, hown, hts, hK, hlk, hnm, hN, hA⟩ := id C
  obtain ⟨x, hv, hk⟩ := x_ld_of hk
  have hl := g3.2.2 _ _ hv (Nat.le_of_ble_eq_true rfl)
  have kn := ih _ _ _ _ hk ad H locs lsA g1 g2 g3 g4 (can_cons (g4 _ (List.mem_of_getElem? hv)) g5) g6 g7 g8 g9
  rw [List.map_cons] at kn
  by_cases hz : x ≤ 0
  · rw [em_null hz] at kn hl
    exact lv_aloadN hx hb hd hl kn
  · rw [em_ix ad (by omega)] at kn hl
    exact lv_aload hx hb hd hl kn
def asc (ad : Nat → Nat) (ls : List PV) : List (Nat × Value) := (ls.mapIdx (fun i v => (i, v))).filterMap (fun q => if q.2.1 < 4 then some (q.1, em_v ad q.2) else none)
theorem asc_mem {ad : Nat → Nat} {ls : List PV} {j : Nat} {v : PV} (h : ls[j]? = some v) (hv : v.1 < 4) : (j, em_v ad v) ∈ asc ad ls := by
  refine List.mem_filterMap.mpr ⟨(j, v), ?_, by simp [hv]⟩
  exact List.mem_of_getElem? (i := j) (by rw [List.getElem?_mapIdx, h]; rfl)
theorem lr_has {ad : Nat → Nat} {lsA : Array Slot} {nL : Nat} {ls : List PV} (g : lr ad lsA nL ls) : lv_has lsA nL (asc ad ls) := by
  refine ⟨g.1, g.2.1, fun q hq => ?_⟩
  obtain ⟨⟨j, v⟩, h1, h2⟩ := List.mem_filterMap.mp hq
  obtain ⟨i, hi⟩ := List.getElem?_of_mem h1
  rw [List.getElem?_mapIdx] at hi
  cases hl : ls[i]? with
  | none => rw [hl] at hi; cases hi
  | some v' =>
    rw [hl] at hi
    cases hi
    by_cases hv : v.1 < 4
    · rw [if_pos hv] at h2
      cases h2
      exact g.2.2 _ _ hl hv
    · rw [if_neg hv] at h2
      cases h2
theorem em_cat {ad : Nat → Nat} {v : PV} (h : v.1 ≠ 1) : (em_v ad v).category = 1 := by
  unfold em_v
  by_cases h0 : v.1 = 0
  · rw [if_pos h0]; rfl
  · rw [if_neg h0, if_neg h]
    by_cases h3 : v.1 = 3
    · rw [if_pos h3]; rfl
    · rw [if_neg h3]
      unfold rf_o
      split <;> rfl
theorem em_cat2 {ad : Nat → Nat} {v : PV} (h : v.1 = 1) : (em_v ad v).category = 2 := by
  unfold em_v
  rw [if_neg (by omega), if_pos h]; rfl
/-- no long stands right ahead -/
def ok1 (ls : List PV) (i : Nat) : Prop := match ls[i - 1]? with
  | some v => i = 0 ∨ v.1 ≠ 1
  | none => True
theorem has_lr {ad : Nat → Nat} {lsA : Array Slot} {nL : Nat} {ls : List PV} {lv : List (Nat × Value)} {i : Nat} {v : PV} (hh : lv_has lsA nL ((i, em_v ad v) :: lv.filter (fun q => !(q.1 == i) && !(q.1 + 1 == i && q.2.category == 2)))) (hs : ∀ q ∈ asc ad ls, q ∈ lv) (ho : ok1 ls i) : lr ad lsA nL (ls.set i v) := by
  refine ⟨hh.1, hh.2.1, fun j v' hj hv' => ?_⟩
  rw [List.getElem?_set] at hj
  by_cases e : i = j
  · subst e
    rw [if_pos rfl] at hj
    split at hj
    · cases hj; exact hh.2.2 _ List.mem_cons_self
    · cases hj
  · rw [if_neg e] at hj
    refine hh.2.2 (j, em_v ad v') (List.mem_cons_of_mem _ (List.mem_filter.mpr ⟨hs _ (asc_mem hj hv'), ?_⟩))
    have e2 : (j == i) = false := by simp; exact fun q => e q.symm
    simp only [e2, Bool.not_false, Bool.true_and, Bool.not_eq_true', Bool.and_eq_false_iff]
    by_cases e3 : j + 1 = i
    · right
      unfold ok1 at ho
      rw [show i - 1 = j by omega, hj] at ho
      have : v'.1 ≠ 1 := by rcases ho with q | q; omega; exact q
      rw [em_cat this]; rfl
    · left; simp; exact e3
theorem has_lr2 {ad : Nat → Nat} {lsA : Array Slot} {nL : Nat} {ls : List PV} {lv : List (Nat × Value)} {i : Nat} {v : PV} (hh : lv_has lsA nL ((i, em_v ad v) :: lv.filter (fun q => !(q.1 == i) && (!(q.1 == i + 1) && !(q.1 + 1 == i && q.2.category == 2))))) (hs : ∀ q ∈ asc ad ls, q ∈ lv) (ho : ok1 ls i) : lr ad lsA nL ((ls.set i v).set (i + 1) (9, 0)) := by
  refine ⟨hh.1, hh.2.1, fun j v' hj hv' => ?_⟩
  rw [List.getElem?_set] at hj
  by_cases e0 : i + 1 = j
  · rw [if_pos e0] at hj
    split at hj
    · cases hj; exact absurd hv' (by decide)
    · cases hj
  · rw [if_neg e0, List.getElem?_set] at hj
    by_cases e : i = j
    · subst e
      rw [if_pos rfl] at hj
      split at hj
      · cases hj; exact hh.2.2 _ List.mem_cons_self
      · cases hj
    · rw [if_neg e] at hj
      refine hh.2.2 (j, em_v ad v') (List.mem_cons_of_mem _ (List.mem_filter.mpr ⟨hs _ (asc_mem hj hv'), ?_⟩))
      have e2 : (j == i) = false := by simp; exact fun q => e q.symm
      have e4 : (j == i + 1) = false := by simp; exact fun q => e0 q.symm
      simp only [e2, e4, Bool.not_false, Bool.true_and, Bool.not_eq_true', Bool.and_eq_false_iff]
      by_cases e3 : j + 1 = i
      · right
        unfold ok1 at ho
        rw [show i - 1 = j by omega, hj] at ho
        have : v'.1 ≠ 1 := by rcases ho with q | q; omega; exact q
        rw [em_cat this]; rfl
      · left; simp; exact e3
theorem can_set {N : Nat} {l : List PV} {i : Nat} {v : PV} (h : can_l N l) (hv : can_v N v) : can_l N (l.set i v) := by
  intro x hx
  rcases List.mem_or_eq_of_mem_set hx with h1 | h1
  · exact h x h1
  · rw [h1]; exact hv
def x_st (t i : Nat) (kk : KT) : KT := fun ls st sh h => match st with
  | v :: q => (v.1 = t ∧ ok1 ls i) ∧ kk (ls.set i (t, v.2)) q sh h
  | [] => False
def x_sl (i : Nat) (kk : KT) : KT := fun ls st sh h => match st with
  | v :: q => (v.1 = 1 ∧ ok1 ls i) ∧ kk ((ls.set i (1, v.2)).set (i + 1) (9, 0)) q sh h
  | [] => False
theorem x_st_of {t i : Nat} {ls st : List PV} {sh : Shp} {h : Mem} (hk : x_st t i kk ls st sh h) : ∃ (x : Int) (q : List PV), st = (t, x) :: q ∧ ok1 ls i ∧ kk (ls.set i (t, x)) q sh h := by
  unfold x_st at hk
  split at hk
  · rename_i v q
    obtain ⟨⟨h1, h2⟩, h3⟩ := hk
    exact ⟨v.2, q, by rw [← h1], h2, h3⟩
  · exact hk.elim
theorem x_sl_of {i : Nat} {ls st : List PV} {sh : Shp} {h : Mem} (hk : x_sl i kk ls st sh h) : ∃ (x : Int) (q : List PV), st = (1, x) :: q ∧ ok1 ls i ∧ kk ((ls.set i (1, x)).set (i + 1) (9, 0)) q sh h := by
  unfold x_sl at hk
  split at hk
  · rename_i v q
    obtain ⟨⟨h1, h2⟩, h3⟩ := hk
    exact ⟨v.2, q, by rw [← h1], h2, h3⟩
  · exact hk.elim
theorem S_istore_n {i : Fin 4} (C : Cx y p s m args meth c D dA A) (hd : decode y.2.1 pc = .ok (.istore_n i, 1)) (hi : (i : Nat) < y.2.2.1) (ih : ∀ ls st sh h, kk ls st sh h → G p l e R s m args below meth c D dA A T y.2.2.1 ad0 sz0 k n (pc + 1) ls st sh h) : ∀ ls st sh h, x_st 0 i kk ls st sh h → G p l e R s m args below meth c D dA A T y.2.2.1 ad0 sz0 k n pc ls st sh h := by
  intro ls st sh h hk0 ad H locs lsA g1 g2 g3 g4 g5 g6 g7 g8 g9
  obtain ⟨hx, hb, hr, hml, hown, hts, hK, hlk, hnm, hN, hA⟩ := id C
  obtain ⟨x, q, rfl, ho, hk⟩ := x_st_of hk0
  exact lv_istore_n hx hb hd rfl (lr_has g3) hi rfl (fun lsA hl => ih _ _ _ _ hk ad H locs lsA g1 g2 (has_lr hl (fun _ z => z) ho) (can_set g4 (can_hd g5)) (can_tl g5) g6 g7 g8 g9)
theorem S_istore {i : Nat} (C : Cx y p s m args meth c D dA A) (hd : decode y.2.1 pc = .ok (.istore i, 2)) (hi : (i : Nat) < y.2.2.1) (ih : ∀ ls st sh h, kk ls st sh h → G p l e R s m args below meth c D dA A T y.2.2.1 ad0 sz0 k n (pc + 2) ls st sh h) : ∀ ls st sh h, x_st 0 i kk ls st sh h → G p l e R s m args below meth c D dA A T y.2.2.1 ad0 sz0 k n pc ls st sh h := by
  intro ls st sh h hk0 ad H locs lsA g1 g2 g3 g4 g5 g6 g7 g8 g9
  obtain ⟨hx, hb, hr, hml, hown, hts, hK, hlk, hnm, hN, hA⟩ := id C
  obtain ⟨x, q, rfl, ho, hk⟩ := x_st_of hk0
  exact lv_istore hx hb hd (lr_has g3) hi rfl (fun lsA hl => ih _ _ _ _ hk ad H locs lsA g1 g2 (has_lr hl (fun _ z => z) ho) (can_set g4 (can_hd g5)) (can_tl g5) g6 g7 g8 g9)
theorem S_lstore_n {i : Fin 4} (C : Cx y p s m args meth c D dA A) (hd : decode y.2.1 pc = .ok (.lstore_n i, 1)) (hi : (i : Nat) + 1 < y.2.2.1) (ih : ∀ ls st sh h, kk ls st sh h → G p l e R s m args below meth c D dA A T y.2.2.1 ad0 sz0 k n (pc + 1) ls st sh h) : ∀ ls st sh h, x_sl i kk ls st sh h → G p l e R s m args below meth c D dA A T y.2.2.1 ad0 sz0 k n pc ls st sh h := by
  intro ls st sh h hk0 ad H locs lsA g1 g2 g3 g4 g5 g6 g7 g8 g9
  obtain ⟨hx, hb, hr, hml, hown, hts, hK, hlk, hnm, hN, hA⟩ := id C
  obtain ⟨x, q, rfl, ho, hk⟩ := x_sl_of hk0
  exact lv_lstore_n hx hb hd rfl (lr_has g3) hi rfl (fun lsA hl => ih _ _ _ _ hk ad H locs lsA g1 g2 (has_lr2 hl (fun _ z => z) ho) (can_set (can_set g4 (can_hd g5)) (can_non (Nat.le_of_ble_eq_true rfl))) (can_tl g5) g6 g7 g8 g9)
theorem S_lstore {i : Nat} (C : Cx y p s m args meth c D dA A) (hd : decode y.2.1 pc = .ok (.lstore i, 2)) (hi : (i : Nat) + 1 < y.2.2.1) (ih : ∀ ls st sh h, kk ls st sh h → G p l e R s m args below meth c D dA A T y.2.2.1 ad0 sz0 k n (pc + 2) ls st sh h) : ∀ ls st sh h, x_sl i kk ls st sh h → G p l e R s m args below meth c D dA A T y.2.2.1 ad0 sz0 k n pc ls st sh h := by
  intro ls st sh h hk0 ad H locs lsA g1 g2 g3 g4 g5 g6 g7 g8 g9
  obtain ⟨hx, hb, hr, hml, hown, hts, hK, hlk, hnm, hN, hA⟩ := id C
  obtain ⟨x, q, rfl, ho, hk⟩ := x_sl_of hk0
  exact lv_lstore hx hb hd (lr_has g3) hi rfl (fun lsA hl => ih _ _ _ _ hk ad H locs lsA g1 g2 (has_lr2 hl (fun _ z => z) ho) (can_set (can_set g4 (can_hd g5)) (can_non (Nat.le_of_ble_eq_true rfl))) (can_tl g5) g6 g7 g8 g9)
theorem S_astore_n {i : Fin 4} (C : Cx y p s m args meth c D dA A) (hd : decode y.2.1 pc = .ok (.astore_n i, 1)) (hi : (i : Nat) < y.2.2.1) (ih : ∀ ls st sh h, kk ls st sh h → G p l e R s m args below meth c D dA A T y.2.2.1 ad0 sz0 k n (pc + 1) ls st sh h) : ∀ ls st sh h, x_st 2 i kk ls st sh h → G p l e R s m args below meth c D dA A T y.2.2.1 ad0 sz0 k n pc ls st sh h := by
  intro ls st sh h hk0 ad H locs lsA g1 g2 g3 g4 g5 g6 g7 g8 g9
  obtain ⟨hx, hb, hr, hml, hown, hts, hK, hlk, hnm, hN, hA⟩ := id C
  obtain ⟨x, q, rfl, ho, hk⟩ := x_st_of hk0
  by_cases hz : x ≤ 0
  · rw [List.map_cons, em_null hz]
    exact lv_astore_nN hx hb hd rfl (lr_has g3) hi rfl (fun lsA hl => ih _ _ _ _ hk ad H locs lsA g1 g2 (has_lr (by rw [em_null hz]; exact hl) (fun _ z => z) ho) (can_set g4 (can_hd g5)) (can_tl g5) g6 g7 g8 g9)
  · rw [List.map_cons, em_ix ad (by omega)]
    exact lv_astore_n hx hb hd rfl (lr_has g3) hi rfl (fun lsA hl => ih _ _ _ _ hk ad H locs lsA g1 g2 (has_lr (by rw [em_ix ad (by omega)]; exact hl) (fun _ z => z) ho) (can_set g4 (can_hd g5)) (can_tl g5) g6 g7 g8 g9)
theorem S_astore {i : Nat} (C : Cx y p s m args meth c D dA A) (hd : decode y.2.1 pc = .ok (.astore i, 2)) (hi : (i : Nat) < y.2.2.1) (ih : ∀ ls st sh h, kk ls st sh h → G p l e R s m args below meth c D dA A T y.2.2.1 ad0 sz0 k n (pc + 2) ls st sh h) : ∀ ls st sh h, x_st 2 i kk ls st sh h → G p l e R s m args below meth c D dA A T y.2.2.1 ad0 sz0 k n pc ls st sh h := by
  intro ls st sh h hk0 ad H locs lsA g1 g2 g3 g4 g5 g6 g7 g8 g9
  obtain ⟨hx, hb, hr, hml, hown, hts, hK, hlk, hnm, hN, hA⟩ := id C
  obtain ⟨x, q, rfl, ho, hk⟩ := x_st_of hk0
  by_cases hz : x ≤ 0
  · rw [List.map_cons, em_null hz]
    exact lv_astoreN hx hb hd (lr_has g3) hi rfl (fun lsA hl => ih _ _ _ _ hk ad H locs lsA g1 g2 (has_lr (by rw [em_null hz]; exact hl) (fun _ z => z) ho) (can_set g4 (can_hd g5)) (can_tl g5) g6 g7 g8 g9)
  · rw [List.map_cons, em_ix ad (by omega)]
    exact lv_astore hx hb hd (lr_has g3) hi rfl (fun lsA hl => ih _ _ _ _ hk ad H locs lsA g1 g2 (has_lr (by rw [em_ix ad (by omega)]; exact hl) (fun _ z => z) ho) (can_set g4 (can_hd g5)) (can_tl g5) g6 g7 g8 g9)
def x_inc (i : Nat) (v : Int) (kk : KT) : KT := fun ls st sh h => match ls[i]? with
  | some u => (u.1 = 0 ∧ ok1 ls i) ∧ kk (ls.set i (0, w32 (u.2 + v))) st sh h
  | none => False
theorem S_iinc {i : Nat} {v : Int} (C : Cx y p s m args meth c D dA A) (hd : decode y.2.1 pc = .ok (.iinc i v, 3)) (hi : i < y.2.2.1) (ih : ∀ ls st sh h, kk ls st sh h → G p l e R s m args below meth c D dA A T y.2.2.1 ad0 sz0 k n (pc + 3) ls st sh h) : ∀ ls st sh h, x_inc i v kk ls st sh h → G p l e R s m args below meth c D dA A T y.2.2.1 ad0 sz0 k n pc ls st sh h := by
  intro ls st sh h hk0 ad H locs lsA g1 g2 g3 g4 g5 g6 g7 g8 g9
  obtain ⟨hx, hb, hr, hml, hown, hts, hK, hlk, hnm, hN, hA⟩ := id C
  unfold x_inc at hk0
  split at hk0
  · rename_i u hu
    obtain ⟨⟨h1, ho⟩, hk⟩ := hk0
    have hu2 : ls[i]? = some (0, u.2) := by rw [hu, ← h1]
    have hl0 := g3.2.2 _ _ hu2 (Nat.le_of_ble_eq_true rfl)
    have hh : lv_has lsA y.2.2.1 ((i, .int (Int32.ofInt u.2)) :: asc ad ls) := ⟨g3.1, g3.2.1, fun q hq => (List.mem_cons.mp hq).elim (fun e => by rw [e]; exact hl0) ((lr_has g3).2.2 q)⟩
    exact lv_iinc (k := 0) (v := Int32.ofInt (w32 (u.2 + v))) hx hb hd hh rfl (by rw [w32_of, Int32.ofInt_add]) hi rfl (fun lsA hl => ih _ _ _ _ hk ad H locs lsA g1 g2 (has_lr hl (fun _ z => List.mem_cons_of_mem _ z) ho) (can_set g4 (can_w32 _)) g5 g6 g7 g8 g9)
  · exact hk0.elim
def x_b32 (f : Int → Int → Int) (kk : KT) : KT := fun ls st sh h => match st with
  | b :: a :: q => (a.1 = 0 ∧ b.1 = 0) ∧ kk ls ((0, f a.2 b.2) :: q) sh h
  | _ => False
theorem x_b32_of {f : Int → Int → Int} {ls st : List PV} {sh : Shp} {h : Mem} (hk : x_b32 f kk ls st sh h) : ∃ (a b : Int) (q : List PV), st = (0, b) :: (0, a) :: q ∧ kk ls ((0, f a b) :: q) sh h := by
  unfold x_b32 at hk
  split at hk
  · rename_i b a q
    obtain ⟨ta, a⟩ := a
    obtain ⟨tb, b⟩ := b
    dsimp only at hk
    obtain ⟨⟨rfl, rfl⟩, h3⟩ := hk
    exact ⟨a, b, q, rfl, h3⟩
  · exact hk.elim
def x_b64 (f : Int → Int → Int) (kk : KT) : KT := fun ls st sh h => match st with
  | b :: a :: q => (a.1 = 1 ∧ b.1 = 1) ∧ kk ls ((1, f a.2 b.2) :: q) sh h
  | _ => False
theorem x_b64_of {f : Int → Int → Int} {ls st : List PV} {sh : Shp} {h : Mem} (hk : x_b64 f kk ls st sh h) : ∃ (a b : Int) (q : List PV), st = (1, b) :: (1, a) :: q ∧ kk ls ((1, f a b) :: q) sh h := by
  unfold x_b64 at hk
  split at hk
  · rename_i b a q
    obtain ⟨ta, a⟩ := a
    obtain ⟨tb, b⟩ := b
    dsimp only at hk
    obtain ⟨⟨rfl, rfl⟩, h3⟩ := hk
    exact ⟨a, b, q, rfl, h3⟩
  · exact hk.elim
def dv32 (a b : Int) : Int := o32 (fun x y => x / y) a b
def rm32 (a b : Int) : Int := o32 (fun x y => x - x / y * y) a b
def dv64 (a b : Int) : Int := o64 (fun x y => x / y) a b
def rm64 (a b : Int) : Int := o64 (fun x y => x - x / y * y) a b
theorem o32_of (f : Int32 → Int32 → Int32) (a b : Int) : Int32.ofInt (o32 f a b) = f (Int32.ofInt a) (Int32.ofInt b) := by rw [o32, Int32.ofInt_toInt]
theorem o64_of (f : Int64 → Int64 → Int64) (a b : Int) : Int64.ofInt (o64 f a b) = f (Int64.ofInt a) (Int64.ofInt b) := by rw [o64, Int64.ofInt_toInt]
theorem S_iadd  (C : Cx y p s m args meth c D dA A) (hd : decode y.2.1 pc = .ok (.iadd, 1))  (ih : ∀ ls st sh h, kk ls st sh h → G p l e R s m args below meth c D dA A T y.2.2.1 ad0 sz0 k n (pc + 1) ls st sh h) : ∀ ls st sh h, x_b32 (fun a b => w32 (a + b)) kk ls st sh h → G p l e R s m args below meth c D dA A T y.2.2.1 ad0 sz0 k n pc ls st sh h := by
  intro ls st sh h hk0 ad H locs lsA g1 g2 g3 g4 g5 g6 g7 g8 g9
  obtain ⟨hx, hb, hr, hml, hown, hts, hK, hlk, hnm, hN, hA⟩ := id C
  obtain ⟨a, b, q, rfl, hk⟩ := x_b32_of hk0
  have kn := ih _ _ _ _ hk ad H locs lsA g1 g2 g3 g4 (can_cons (can_w32 _) (can_tl (can_tl g5))) g6 g7 g8 g9
  rw [List.map_cons, em_i, w32_of, Int32.ofInt_add] at kn
  exact lv_iadd hx hb hd kn
theorem S_isub  (C : Cx y p s m args meth c D dA A) (hd : decode y.2.1 pc = .ok (.isub, 1))  (ih : ∀ ls st sh h, kk ls st sh h → G p l e R s m args below meth c D dA A T y.2.2.1 ad0 sz0 k n (pc + 1) ls st sh h) : ∀ ls st sh h, x_b32 (fun a b => w32 (a - b)) kk ls st sh h → G p l e R s m args below meth c D dA A T y.2.2.1 ad0 sz0 k n pc ls st sh h := by
  intro ls st sh h hk0 ad H locs lsA g1 g2 g3 g4 g5 g6 g7 g8 g9
  obtain ⟨hx, hb, hr, hml, hown, hts, hK, hlk, hnm, hN, hA⟩ := id C
  obtain ⟨a, b, q, rfl, hk⟩ := x_b32_of hk0
  have kn := ih _ _ _ _ hk ad H locs lsA g1 g2 g3 g4 (can_cons (can_w32 _) (can_tl (can_tl g5))) g6 g7 g8 g9
  rw [List.map_cons, em_i, w32_of, Int32.ofInt_sub] at kn
  exact lv_isub hx hb hd kn
theorem S_imul  (C : Cx y p s m args meth c D dA A) (hd : decode y.2.1 pc = .ok (.imul, 1))  (ih : ∀ ls st sh h, kk ls st sh h → G p l e R s m args below meth c D dA A T y.2.2.1 ad0 sz0 k n (pc + 1) ls st sh h) : ∀ ls st sh h, x_b32 (fun a b => w32 (a * b)) kk ls st sh h → G p l e R s m args below meth c D dA A T y.2.2.1 ad0 sz0 k n pc ls st sh h := by
  intro ls st sh h hk0 ad H locs lsA g1 g2 g3 g4 g5 g6 g7 g8 g9
  obtain ⟨hx, hb, hr, hml, hown, hts, hK, hlk, hnm, hN, hA⟩ := id C
  obtain ⟨a, b, q, rfl, hk⟩ := x_b32_of hk0
  have kn := ih _ _ _ _ hk ad H locs lsA g1 g2 g3 g4 (can_cons (can_w32 _) (can_tl (can_tl g5))) g6 g7 g8 g9
  rw [List.map_cons, em_i, w32_of, Int32.ofInt_mul] at kn
  exact lv_imul hx hb hd kn
theorem S_iand  (C : Cx y p s m args meth c D dA A) (hd : decode y.2.1 pc = .ok (.iand, 1))  (ih : ∀ ls st sh h, kk ls st sh h → G p l e R s m args below meth c D dA A T y.2.2.1 ad0 sz0 k n (pc + 1) ls st sh h) : ∀ ls st sh h, x_b32 (o32 (fun x y => x &&& y)) kk ls st sh h → G p l e R s m args below meth c D dA A T y.2.2.1 ad0 sz0 k n pc ls st sh h := by
  intro ls st sh h hk0 ad H locs lsA g1 g2 g3 g4 g5 g6 g7 g8 g9
  obtain ⟨hx, hb, hr, hml, hown, hts, hK, hlk, hnm, hN, hA⟩ := id C
  obtain ⟨a, b, q, rfl, hk⟩ := x_b32_of hk0
  have kn := ih _ _ _ _ hk ad H locs lsA g1 g2 g3 g4 (can_cons (can_i32 _) (can_tl (can_tl g5))) g6 g7 g8 g9
  rw [List.map_cons, em_i, o32_of] at kn
  exact lv_iand hx hb hd kn
theorem S_ior  (C : Cx y p s m args meth c D dA A) (hd : decode y.2.1 pc = .ok (.ior, 1))  (ih : ∀ ls st sh h, kk ls st sh h → G p l e R s m args below meth c D dA A T y.2.2.1 ad0 sz0 k n (pc + 1) ls st sh h) : ∀ ls st sh h, x_b32 (o32 (fun x y => x ||| y)) kk ls st sh h → G p l e R s m args below meth c D dA A T y.2.2.1 ad0 sz0 k n pc ls st sh h := by
  intro ls st sh h hk0 ad H locs lsA g1 g2 g3 g4 g5 g6 g7 g8 g9
  obtain ⟨hx, hb, hr, hml, hown, hts, hK, hlk, hnm, hN, hA⟩ := id C
  obtain ⟨a, b, q, rfl, hk⟩ := x_b32_of hk0
  have kn := ih _ _ _ _ hk ad H locs lsA g1 g2 g3 g4 (can_cons (can_i32 _) (can_tl (can_tl g5))) g6 g7 g8 g9
  rw [List.map_cons, em_i, o32_of] at kn
  exact lv_ior hx hb hd kn
theorem S_ixor  (C : Cx y p s m args meth c D dA A) (hd : decode y.2.1 pc = .ok (.ixor, 1))  (ih : ∀ ls st sh h, kk ls st sh h → G p l e R s m args below meth c D dA A T y.2.2.1 ad0 sz0 k n (pc + 1) ls st sh h) : ∀ ls st sh h, x_b32 (o32 (fun x y => x ^^^ y)) kk ls st sh h → G p l e R s m args below meth c D dA A T y.2.2.1 ad0 sz0 k n pc ls st sh h := by
  intro ls st sh h hk0 ad H locs lsA g1 g2 g3 g4 g5 g6 g7 g8 g9
  obtain ⟨hx, hb, hr, hml, hown, hts, hK, hlk, hnm, hN, hA⟩ := id C
  obtain ⟨a, b, q, rfl, hk⟩ := x_b32_of hk0
  have kn := ih _ _ _ _ hk ad H locs lsA g1 g2 g3 g4 (can_cons (can_i32 _) (can_tl (can_tl g5))) g6 g7 g8 g9
  rw [List.map_cons, em_i, o32_of] at kn
  exact lv_ixor hx hb hd kn
theorem S_ishl  (C : Cx y p s m args meth c D dA A) (hd : decode y.2.1 pc = .ok (.ishl, 1))  (ih : ∀ ls st sh h, kk ls st sh h → G p l e R s m args below meth c D dA A T y.2.2.1 ad0 sz0 k n (pc + 1) ls st sh h) : ∀ ls st sh h, x_b32 (o32 (fun x y => x <<< (y &&& 31))) kk ls st sh h → G p l e R s m args below meth c D dA A T y.2.2.1 ad0 sz0 k n pc ls st sh h := by
  intro ls st sh h hk0 ad H locs lsA g1 g2 g3 g4 g5 g6 g7 g8 g9
  obtain ⟨hx, hb, hr, hml, hown, hts, hK, hlk, hnm, hN, hA⟩ := id C
  obtain ⟨a, b, q, rfl, hk⟩ := x_b32_of hk0
  have kn := ih _ _ _ _ hk ad H locs lsA g1 g2 g3 g4 (can_cons (can_i32 _) (can_tl (can_tl g5))) g6 g7 g8 g9
  rw [List.map_cons, em_i, o32_of] at kn
  exact lv_ishl hx hb hd kn
theorem S_ishr  (C : Cx y p s m args meth c D dA A) (hd : decode y.2.1 pc = .ok (.ishr, 1))  (ih : ∀ ls st sh h, kk ls st sh h → G p l e R s m args below meth c D dA A T y.2.2.1 ad0 sz0 k n (pc + 1) ls st sh h) : ∀ ls st sh h, x_b32 (o32 (fun x y => x >>> (y &&& 31))) kk ls st sh h → G p l e R s m args below meth c D dA A T y.2.2.1 ad0 sz0 k n pc ls st sh h := by
  intro ls st sh h hk0 ad H locs lsA g1 g2 g3 g4 g5 g6 g7 g8 g9
  obtain ⟨hx, hb, hr, hml, hown, hts, hK, hlk, hnm, hN, hA⟩ := id C
  obtain ⟨a, b, q, rfl, hk⟩ := x_b32_of hk0
  have kn := ih _ _ _ _ hk ad H locs lsA g1 g2 g3 g4 (can_cons (can_i32 _) (can_tl (can_tl g5))) g6 g7 g8 g9
  rw [List.map_cons, em_i, o32_of] at kn
  exact lv_ishr hx hb hd kn
def x_d32 (f : Int → Int → Int) (kk : KT) : KT := fun ls st sh h => match st with
  | b :: a :: q => ((a.1 = 0 ∧ b.1 = 0) ∧ b.2 ≠ 0) ∧ kk ls ((0, f a.2 b.2) :: q) sh h
  | _ => False
theorem x_d32_of {f : Int → Int → Int} {ls st : List PV} {sh : Shp} {h : Mem} (hk : x_d32 f kk ls st sh h) : ∃ (a b : Int) (q : List PV), st = (0, b) :: (0, a) :: q ∧ b ≠ 0 ∧ kk ls ((0, f a b) :: q) sh h := by
  unfold x_d32 at hk
  split at hk
  · rename_i b a q
    obtain ⟨ta, a⟩ := a
    obtain ⟨tb, b⟩ := b
    dsimp only at hk
    obtain ⟨⟨⟨rfl, rfl⟩, h4⟩, h3⟩ := hk
    exact ⟨a, b, q, rfl, h4, h3⟩
  · exact hk.elim
def x_d64 (f : Int → Int → Int) (kk : KT) : KT := fun ls st sh h => match st with
  | b :: a :: q => ((a.1 = 1 ∧ b.1 = 1) ∧ b.2 ≠ 0) ∧ kk ls ((1, f a.2 b.2) :: q) sh h
  | _ => False
theorem x_d64_of {f : Int → Int → Int} {ls st : List PV} {sh : Shp} {h : Mem} (hk : x_d64 f kk ls st sh h) : ∃ (a b : Int) (q : List PV), st = (1, b) :: (1, a) :: q ∧ b ≠ 0 ∧ kk ls ((1, f a b) :: q) sh h := by
  unfold x_d64 at hk
  split at hk
  · rename_i b a q
    obtain ⟨ta, a⟩ := a
    obtain ⟨tb, b⟩ := b
    dsimp only at hk
    obtain ⟨⟨⟨rfl, rfl⟩, h4⟩, h3⟩ := hk
    exact ⟨a, b, q, rfl, h4, h3⟩
  · exact hk.elim
theorem S_idiv  (C : Cx y p s m args meth c D dA A) (hd : decode y.2.1 pc = .ok (.idiv, 1))  (ih : ∀ ls st sh h, kk ls st sh h → G p l e R s m args below meth c D dA A T y.2.2.1 ad0 sz0 k n (pc + 1) ls st sh h) : ∀ ls st sh h, x_d32 dv32 kk ls st sh h → G p l e R s m args below meth c D dA A T y.2.2.1 ad0 sz0 k n pc ls st sh h := by
  intro ls st sh h hk0 ad H locs lsA g1 g2 g3 g4 g5 g6 g7 g8 g9
  obtain ⟨hx, hb, hr, hml, hown, hts, hK, hlk, hnm, hN, hA⟩ := id C
  obtain ⟨a, b, q, rfl, hne, hk⟩ := x_d32_of hk0
  have kn := ih _ _ _ _ hk ad H locs lsA g1 g2 g3 g4 (can_cons (can_i32 _) (can_tl (can_tl g5))) g6 g7 g8 g9
  rw [List.map_cons, em_i, dv32, o32_of] at kn
  have hz : ¬ Int32.ofInt b = 0 := fun q => hne ((ofInt_inj ((can_hd g5).1 rfl) (by decide)).mp q)
  exact lv_idiv hx hb hd hz kn
theorem S_irem  (C : Cx y p s m args meth c D dA A) (hd : decode y.2.1 pc = .ok (.irem, 1))  (ih : ∀ ls st sh h, kk ls st sh h → G p l e R s m args below meth c D dA A T y.2.2.1 ad0 sz0 k n (pc + 1) ls st sh h) : ∀ ls st sh h, x_d32 rm32 kk ls st sh h → G p l e R s m args below meth c D dA A T y.2.2.1 ad0 sz0 k n pc ls st sh h := by
  intro ls st sh h hk0 ad H locs lsA g1 g2 g3 g4 g5 g6 g7 g8 g9
  obtain ⟨hx, hb, hr, hml, hown, hts, hK, hlk, hnm, hN, hA⟩ := id C
  obtain ⟨a, b, q, rfl, hne, hk⟩ := x_d32_of hk0
  have kn := ih _ _ _ _ hk ad H locs lsA g1 g2 g3 g4 (can_cons (can_i32 _) (can_tl (can_tl g5))) g6 g7 g8 g9
  rw [List.map_cons, em_i, rm32, o32_of] at kn
  have hz : ¬ Int32.ofInt b = 0 := fun q => hne ((ofInt_inj ((can_hd g5).1 rfl) (by decide)).mp q)
  exact lv_irem hx hb hd hz kn
theorem S_ldiv  (C : Cx y p s m args meth c D dA A) (hd : decode y.2.1 pc = .ok (.ldiv, 1))  (ih : ∀ ls st sh h, kk ls st sh h → G p l e R s m args below meth c D dA A T y.2.2.1 ad0 sz0 k n (pc + 1) ls st sh h) : ∀ ls st sh h, x_d64 dv64 kk ls st sh h → G p l e R s m args below meth c D dA A T y.2.2.1 ad0 sz0 k n pc ls st sh h := by
  intro ls st sh h hk0 ad H locs lsA g1 g2 g3 g4 g5 g6 g7 g8 g9
  obtain ⟨hx, hb, hr, hml, hown, hts, hK, hlk, hnm, hN, hA⟩ := id C
  obtain ⟨a, b, q, rfl, hne, hk⟩ := x_d64_of hk0
  have kn := ih _ _ _ _ hk ad H locs lsA g1 g2 g3 g4 (can_cons (can_i64 _) (can_tl (can_tl g5))) g6 g7 g8 g9
  rw [List.map_cons, em_l, dv64, o64_of] at kn
  have hz : ¬ Int64.ofInt b = 0 := fun q => hne ((ofInt_inj64 ((can_hd g5).2.1 rfl) (by decide)).mp q)
  exact lv_ldiv hx hb hd hz kn
theorem S_lrem  (C : Cx y p s m args meth c D dA A) (hd : decode y.2.1 pc = .ok (.lrem, 1))  (ih : ∀ ls st sh h, kk ls st sh h → G p l e R s m args below meth c D dA A T y.2.2.1 ad0 sz0 k n (pc + 1) ls st sh h) : ∀ ls st sh h, x_d64 rm64 kk ls st sh h → G p l e R s m args below meth c D dA A T y.2.2.1 ad0 sz0 k n pc ls st sh h := by
  intro ls st sh h hk0 ad H locs lsA g1 g2 g3 g4 g5 g6 g7 g8 g9
  obtain ⟨hx, hb, hr, hml, hown, hts, hK, hlk, hnm, hN, hA⟩ := id C
  obtain ⟨a, b, q, rfl, hne, hk⟩ := x_d64_of hk0
  have kn := ih _ _ _ _ hk ad H locs lsA g1 g2 g3 g4 (can_cons (can_i64 _) (can_tl (can_tl g5))) g6 g7 g8 g9
  rw [List.map_cons, em_l, rm64, o64_of] at kn
  have hz : ¬ Int64.ofInt b = 0 := fun q => hne ((ofInt_inj64 ((can_hd g5).2.1 rfl) (by decide)).mp q)
  exact lv_lrem hx hb hd hz kn
theorem S_ladd  (C : Cx y p s m args meth c D dA A) (hd : decode y.2.1 pc = .ok (.ladd, 1))  (ih : ∀ ls st sh h, kk ls st sh h → G p l e R s m args below meth c D dA A T y.2.2.1 ad0 sz0 k n (pc + 1) ls st sh h) : ∀ ls st sh h, x_b64 (fun a b => w64 (a + b)) kk ls st sh h → G p l e R s m args below meth c D dA A T y.2.2.1 ad0 sz0 k n pc ls st sh h := by
  intro ls st sh h hk0 ad H locs lsA g1 g2 g3 g4 g5 g6 g7 g8 g9
  obtain ⟨hx, hb, hr, hml, hown, hts, hK, hlk, hnm, hN, hA⟩ := id C
  obtain ⟨a, b, q, rfl, hk⟩ := x_b64_of hk0
  have kn := ih _ _ _ _ hk ad H locs lsA g1 g2 g3 g4 (can_cons (can_w64 _) (can_tl (can_tl g5))) g6 g7 g8 g9
  rw [List.map_cons, em_l, w64_of, Int64.ofInt_add] at kn
  exact lv_ladd hx hb hd kn
theorem S_lsub  (C : Cx y p s m args meth c D dA A) (hd : decode y.2.1 pc = .ok (.lsub, 1))  (ih : ∀ ls st sh h, kk ls st sh h → G p l e R s m args below meth c D dA A T y.2.2.1 ad0 sz0 k n (pc + 1) ls st sh h) : ∀ ls st sh h, x_b64 (fun a b => w64 (a - b)) kk ls st sh h → G p l e R s m args below meth c D dA A T y.2.2.1 ad0 sz0 k n pc ls st sh h := by
  intro ls st sh h hk0 ad H locs lsA g1 g2 g3 g4 g5 g6 g7 g8 g9
  obtain ⟨hx, hb, hr, hml, hown, hts, hK, hlk, hnm, hN, hA⟩ := id C
  obtain ⟨a, b, q, rfl, hk⟩ := x_b64_of hk0
  have kn := ih _ _ _ _ hk ad H locs lsA g1 g2 g3 g4 (can_cons (can_w64 _) (can_tl (can_tl g5))) g6 g7 g8 g9
  rw [List.map_cons, em_l, w64_of, Int64.ofInt_sub] at kn
  exact lv_lsub hx hb hd kn
theorem S_lmul  (C : Cx y p s m args meth c D dA A) (hd : decode y.2.1 pc = .ok (.lmul, 1))  (ih : ∀ ls st sh h, kk ls st sh h → G p l e R s m args below meth c D dA A T y.2.2.1 ad0 sz0 k n (pc + 1) ls st sh h) : ∀ ls st sh h, x_b64 (fun a b => w64 (a * b)) kk ls st sh h → G p l e R s m args below meth c D dA A T y.2.2.1 ad0 sz0 k n pc ls st sh h := by
  intro ls st sh h hk0 ad H locs lsA g1 g2 g3 g4 g5 g6 g7 g8 g9
  obtain ⟨hx, hb, hr, hml, hown, hts, hK, hlk, hnm, hN, hA⟩ := id C
  obtain ⟨a, b, q, rfl, hk⟩ := x_b64_of hk0
  have kn := ih _ _ _ _ hk ad H locs lsA g1 g2 g3 g4 (can_cons (can_w64 _) (can_tl (can_tl g5))) g6 g7 g8 g9
  rw [List.map_cons, em_l, w64_of, Int64.ofInt_mul] at kn
  exact lv_lmul hx hb hd kn
theorem S_land  (C : Cx y p s m args meth c D dA A) (hd : decode y.2.1 pc = .ok (.land, 1))  (ih : ∀ ls st sh h, kk ls st sh h → G p l e R s m args below meth c D dA A T y.2.2.1 ad0 sz0 k n (pc + 1) ls st sh h) : ∀ ls st sh h, x_b64 (o64 (fun x y => x &&& y)) kk ls st sh h → G p l e R s m args below meth c D dA A T y.2.2.1 ad0 sz0 k n pc ls st sh h := by
  intro ls st sh h hk0 ad H locs lsA g1 g2 g3 g4 g5 g6 g7 g8 g9
  obtain ⟨hx, hb, hr, hml, hown, hts, hK, hlk, hnm, hN, hA⟩ := id C
  obtain ⟨a, b, q, rfl, hk⟩ := x_b64_of hk0
  have kn := ih _ _ _ _ hk ad H locs lsA g1 g2 g3 g4 (can_cons (can_i64 _) (can_tl (can_tl g5))) g6 g7 g8 g9
  rw [List.map_cons, em_l, o64_of] at kn
  exact lv_land hx hb hd kn
theorem S_lor  (C : Cx y p s m args meth c D dA A) (hd : decode y.2.1 pc = .ok (.lor, 1))  (ih : ∀ ls st sh h, kk ls st sh h → G p l e R s m args below meth c D dA A T y.2.2.1 ad0 sz0 k n (pc + 1) ls st sh h) : ∀ ls st sh h, x_b64 (o64 (fun x y => x ||| y)) kk ls st sh h → G p l e R s m args below meth c D dA A T y.2.2.1 ad0 sz0 k n pc ls st sh h := by
  intro ls st sh h hk0 ad H locs lsA g1 g2 g3 g4 g5 g6 g7 g8 g9
  obtain ⟨hx, hb, hr, hml, hown, hts, hK, hlk, hnm, hN, hA⟩ := id C
  obtain ⟨a, b, q, rfl, hk⟩ := x_b64_of hk0
  have kn := ih _ _ _ _ hk ad H locs lsA g1 g2 g3 g4 (can_cons (can_i64 _) (can_tl (can_tl g5))) g6 g7 g8 g9
  rw [List.map_cons, em_l, o64_of] at kn
  exact lv_lor hx hb hd kn
def sh64 (f : Int64 → Int32 → Int64) (a b : Int) : Int := (f (Int64.ofInt a) (Int32.ofInt b)).toInt
def x_s64 (f : Int → Int → Int) (kk : KT) : KT := fun ls st sh h => match st with
  | b :: a :: q => (a.1 = 1 ∧ b.1 = 0) ∧ kk ls ((1, f a.2 b.2) :: q) sh h
  | _ => False
theorem x_s64_of {f : Int → Int → Int} {ls st : List PV} {sh : Shp} {h : Mem} (hk : x_s64 f kk ls st sh h) : ∃ (a b : Int) (q : List PV), st = (0, b) :: (1, a) :: q ∧ kk ls ((1, f a b) :: q) sh h := by
  unfold x_s64 at hk
  split at hk
  · rename_i b a q
    obtain ⟨ta, a⟩ := a
    obtain ⟨tb, b⟩ := b
    dsimp only at hk
    obtain ⟨⟨rfl, rfl⟩, h3⟩ := hk
    exact ⟨a, b, q, rfl, h3⟩
  · exact hk.elim
theorem S_lshl  (C : Cx y p s m args meth c D dA A) (hd : decode y.2.1 pc = .ok (.lshl, 1))  (ih : ∀ ls st sh h, kk ls st sh h → G p l e R s m args below meth c D dA A T y.2.2.1 ad0 sz0 k n (pc + 1) ls st sh h) : ∀ ls st sh h, x_s64 (sh64 (fun x y => x <<< (y.toInt64 &&& 63))) kk ls st sh h → G p l e R s m args below meth c D dA A T y.2.2.1 ad0 sz0 k n pc ls st sh h := by
  intro ls st sh h hk0 ad H locs lsA g1 g2 g3 g4 g5 g6 g7 g8 g9
  obtain ⟨hx, hb, hr, hml, hown, hts, hK, hlk, hnm, hN, hA⟩ := id C
  obtain ⟨a, b, q, rfl, hk⟩ := x_s64_of hk0
  have kn := ih _ _ _ _ hk ad H locs lsA g1 g2 g3 g4 (can_cons (can_i64 _) (can_tl (can_tl g5))) g6 g7 g8 g9
  rw [List.map_cons, em_l, sh64, Int64.ofInt_toInt] at kn
  exact lv_lshl hx hb hd rfl kn
theorem S_lshr  (C : Cx y p s m args meth c D dA A) (hd : decode y.2.1 pc = .ok (.lshr, 1))  (ih : ∀ ls st sh h, kk ls st sh h → G p l e R s m args below meth c D dA A T y.2.2.1 ad0 sz0 k n (pc + 1) ls st sh h) : ∀ ls st sh h, x_s64 (sh64 (fun x y => x >>> (y.toInt64 &&& 63))) kk ls st sh h → G p l e R s m args below meth c D dA A T y.2.2.1 ad0 sz0 k n pc ls st sh h := by
  intro ls st sh h hk0 ad H locs lsA g1 g2 g3 g4 g5 g6 g7 g8 g9
  obtain ⟨hx, hb, hr, hml, hown, hts, hK, hlk, hnm, hN, hA⟩ := id C
  obtain ⟨a, b, q, rfl, hk⟩ := x_s64_of hk0
  have kn := ih _ _ _ _ hk ad H locs lsA g1 g2 g3 g4 (can_cons (can_i64 _) (can_tl (can_tl g5))) g6 g7 g8 g9
  rw [List.map_cons, em_l, sh64, Int64.ofInt_toInt] at kn
  exact lv_lshr hx hb hd rfl kn
theorem S_lushr  (C : Cx y p s m args meth c D dA A) (hd : decode y.2.1 pc = .ok (.lushr, 1))  (ih : ∀ ls st sh h, kk ls st sh h → G p l e R s m args below meth c D dA A T y.2.2.1 ad0 sz0 k n (pc + 1) ls st sh h) : ∀ ls st sh h, x_s64 (sh64 (fun x y => (x.toUInt64 >>> (y.toInt64.toUInt64 &&& Int64.toUInt64 63)).toInt64)) kk ls st sh h → G p l e R s m args below meth c D dA A T y.2.2.1 ad0 sz0 k n pc ls st sh h := by
  intro ls st sh h hk0 ad H locs lsA g1 g2 g3 g4 g5 g6 g7 g8 g9
  obtain ⟨hx, hb, hr, hml, hown, hts, hK, hlk, hnm, hN, hA⟩ := id C
  obtain ⟨a, b, q, rfl, hk⟩ := x_s64_of hk0
  have kn := ih _ _ _ _ hk ad H locs lsA g1 g2 g3 g4 (can_cons (can_i64 _) (can_tl (can_tl g5))) g6 g7 g8 g9
  rw [List.map_cons, em_l, sh64, Int64.ofInt_toInt] at kn
  exact lv_lushr hx hb hd rfl kn
def x_un (t u : Nat) (f : Int → Int) (kk : KT) : KT := fun ls st sh h => match st with
  | a :: q => a.1 = t ∧ kk ls ((u, f a.2) :: q) sh h
  | _ => False
theorem x_un_of {t u : Nat} {f : Int → Int} {ls st : List PV} {sh : Shp} {h : Mem} (hk : x_un t u f kk ls st sh h) : ∃ (a : Int) (q : List PV), st = (t, a) :: q ∧ kk ls ((u, f a) :: q) sh h := by
  unfold x_un at hk
  split at hk
  · rename_i a q
    obtain ⟨h1, h3⟩ := hk
    exact ⟨a.2, q, by rw [← h1], h3⟩
  · exact hk.elim
def i2c (x : Int) : Int := ((Int32.ofInt x).toUInt32 % 65536).toInt32.toInt
theorem S_ineg  (C : Cx y p s m args meth c D dA A) (hd : decode y.2.1 pc = .ok (.ineg, 1))  (ih : ∀ ls st sh h, kk ls st sh h → G p l e R s m args below meth c D dA A T y.2.2.1 ad0 sz0 k n (pc + 1) ls st sh h) : ∀ ls st sh h, x_un 0 0 (fun a => w32 (-a)) kk ls st sh h → G p l e R s m args below meth c D dA A T y.2.2.1 ad0 sz0 k n pc ls st sh h := by
  intro ls st sh h hk0 ad H locs lsA g1 g2 g3 g4 g5 g6 g7 g8 g9
  obtain ⟨hx, hb, hr, hml, hown, hts, hK, hlk, hnm, hN, hA⟩ := id C
  obtain ⟨a, q, rfl, hk⟩ := x_un_of hk0
  have kn := ih _ _ _ _ hk ad H locs lsA g1 g2 g3 g4 (can_cons (can_w32 _) (can_tl g5)) g6 g7 g8 g9
  rw [List.map_cons, em_i, w32_of, Int32.ofInt_neg] at kn
  exact lv_ineg hx hb hd kn
theorem S_i2l  (C : Cx y p s m args meth c D dA A) (hd : decode y.2.1 pc = .ok (.i2l, 1))  (ih : ∀ ls st sh h, kk ls st sh h → G p l e R s m args below meth c D dA A T y.2.2.1 ad0 sz0 k n (pc + 1) ls st sh h) : ∀ ls st sh h, x_un 0 1 (fun a => a) kk ls st sh h → G p l e R s m args below meth c D dA A T y.2.2.1 ad0 sz0 k n pc ls st sh h := by
  intro ls st sh h hk0 ad H locs lsA g1 g2 g3 g4 g5 g6 g7 g8 g9
  obtain ⟨hx, hb, hr, hml, hown, hts, hK, hlk, hnm, hN, hA⟩ := id C
  obtain ⟨a, q, rfl, hk⟩ := x_un_of hk0
  have ha := (can_hd g5).1 rfl
  have kn := ih _ _ _ _ hk ad H locs lsA g1 g2 g3 g4 (can_cons (can_lng ⟨Int.le_trans (by decide) ha.1, Int.lt_trans ha.2 (by decide)⟩) (can_tl g5)) g6 g7 g8 g9
  exact lv_i2l hx hb hd (Int64.toInt_inj.mp (by rw [Int32.toInt_toInt64, Int32.toInt_ofInt_of_le ha.1 ha.2]; exact (Int64.toInt_ofInt_of_le (Int.le_trans (by decide) ha.1) (Int.lt_trans ha.2 (by decide))).symm)) kn
theorem S_l2i  (C : Cx y p s m args meth c D dA A) (hd : decode y.2.1 pc = .ok (.l2i, 1))  (ih : ∀ ls st sh h, kk ls st sh h → G p l e R s m args below meth c D dA A T y.2.2.1 ad0 sz0 k n (pc + 1) ls st sh h) : ∀ ls st sh h, x_un 1 0 w32 kk ls st sh h → G p l e R s m args below meth c D dA A T y.2.2.1 ad0 sz0 k n pc ls st sh h := by
  intro ls st sh h hk0 ad H locs lsA g1 g2 g3 g4 g5 g6 g7 g8 g9
  obtain ⟨hx, hb, hr, hml, hown, hts, hK, hlk, hnm, hN, hA⟩ := id C
  obtain ⟨a, q, rfl, hk⟩ := x_un_of hk0
  have ha := (can_hd g5).2.1 rfl
  have kn := ih _ _ _ _ hk ad H locs lsA g1 g2 g3 g4 (can_cons (can_w32 _) (can_tl g5)) g6 g7 g8 g9
  rw [List.map_cons, em_i, w32_of] at kn
  exact lv_l2i hx hb hd (Int32.toInt_inj.mp (by rw [Int64.toInt_toInt32, Int64.toInt_ofInt_of_le ha.1 ha.2, Int32.toInt_ofInt])) kn
theorem S_i2c  (C : Cx y p s m args meth c D dA A) (hd : decode y.2.1 pc = .ok (.i2c, 1))  (ih : ∀ ls st sh h, kk ls st sh h → G p l e R s m args below meth c D dA A T y.2.2.1 ad0 sz0 k n (pc + 1) ls st sh h) : ∀ ls st sh h, x_un 0 0 i2c kk ls st sh h → G p l e R s m args below meth c D dA A T y.2.2.1 ad0 sz0 k n pc ls st sh h := by
  intro ls st sh h hk0 ad H locs lsA g1 g2 g3 g4 g5 g6 g7 g8 g9
  obtain ⟨hx, hb, hr, hml, hown, hts, hK, hlk, hnm, hN, hA⟩ := id C
  obtain ⟨a, q, rfl, hk⟩ := x_un_of hk0
  have kn := ih _ _ _ _ hk ad H locs lsA g1 g2 g3 g4 (can_cons (can_i32 _) (can_tl g5)) g6 g7 g8 g9
  rw [List.map_cons, em_i, i2c, Int32.ofInt_toInt] at kn
  exact lv_i2c hx hb hd rfl kn
def lcm (a b : Int) : Int := if b < a then 1 else if a = b then 0 else -1
def x_lcmp (kk : KT) : KT := fun ls st sh h => match st with
  | b :: a :: q => (a.1 = 1 ∧ b.1 = 1) ∧ kk ls ((0, lcm a.2 b.2) :: q) sh h
  | _ => False
theorem S_lcmp  (C : Cx y p s m args meth c D dA A) (hd : decode y.2.1 pc = .ok (.lcmp, 1))  (ih : ∀ ls st sh h, kk ls st sh h → G p l e R s m args below meth c D dA A T y.2.2.1 ad0 sz0 k n (pc + 1) ls st sh h) : ∀ ls st sh h, x_lcmp kk ls st sh h → G p l e R s m args below meth c D dA A T y.2.2.1 ad0 sz0 k n pc ls st sh h := by
  intro ls st sh h hk0 ad H locs lsA g1 g2 g3 g4 g5 g6 g7 g8 g9
  obtain ⟨hx, hb, hr, hml, hown, hts, hK, hlk, hnm, hN, hA⟩ := id C
  unfold x_lcmp at hk0
  split at hk0
  · rename_i b a q
    obtain ⟨⟨h1, h2⟩, hk⟩ := hk0
    have ca := (can_hd (can_tl g5)).2.1 h1
    have cb := (can_hd g5).2.1 h2
    have hc : can_v sh.length (0, lcm a.2 b.2) := can_int (by unfold lcm; split; decide; split <;> decide)
    have kn := ih _ _ _ _ hk ad H locs lsA g1 g2 g3 g4 (can_cons hc (can_tl (can_tl g5))) g6 g7 g8 g9
    rw [List.map_cons, em_i] at kn
    have e1 : em_v ad a = .long (Int64.ofInt a.2) := by rw [show a = (1, a.2) by rw [← h1]]; rfl
    have e2 : em_v ad b = .long (Int64.ofInt b.2) := by rw [show b = (1, b.2) by rw [← h2]]; rfl
    rw [List.map_cons, List.map_cons, e1, e2]
    refine W.lcmp hx hb hd ?_
    have e3 : lg_cmp (Int64.ofInt a.2) (Int64.ofInt b.2) = Int32.ofInt (lcm a.2 b.2) := by
      unfold lg_cmp lcm
      simp only [gt_iff_lt, ofInt_lt64 cb ca, ofInt_inj64 ca cb]
      split
      · rfl
      · split <;> rfl
    rw [e3]; exact kn
  · exact hk0.elim
def x_dup (kk : KT) : KT := fun ls st sh h => match st with
  | a :: q => a.1 ≠ 1 ∧ kk ls (a :: a :: q) sh h
  | _ => False
def x_pop (kk : KT) : KT := fun ls st sh h => match st with
  | a :: q => a.1 ≠ 1 ∧ kk ls q sh h
  | _ => False
def x_dup2 (kk : KT) : KT := fun ls st sh h => match st with
  | a :: b :: q => (a.1 ≠ 1 ∧ b.1 ≠ 1) ∧ kk ls (a :: b :: a :: b :: q) sh h
  | _ => False
theorem S_dup  (C : Cx y p s m args meth c D dA A) (hd : decode y.2.1 pc = .ok (.dup, 1))  (ih : ∀ ls st sh h, kk ls st sh h → G p l e R s m args below meth c D dA A T y.2.2.1 ad0 sz0 k n (pc + 1) ls st sh h) : ∀ ls st sh h, x_dup kk ls st sh h → G p l e R s m args below meth c D dA A T y.2.2.1 ad0 sz0 k n pc ls st sh h := by
  intro ls st sh h hk0 ad H locs lsA g1 g2 g3 g4 g5 g6 g7 g8 g9
  obtain ⟨hx, hb, hr, hml, hown, hts, hK, hlk, hnm, hN, hA⟩ := id C
  unfold x_dup at hk0
  split at hk0
  · obtain ⟨h1, hk⟩ := hk0
    exact lv_dup hx hb hd (em_cat h1) (ih _ _ _ _ hk ad H locs lsA g1 g2 g3 g4 (can_cons (can_hd g5) g5) g6 g7 g8 g9)
  · exact hk0.elim
theorem S_pop  (C : Cx y p s m args meth c D dA A) (hd : decode y.2.1 pc = .ok (.pop, 1))  (ih : ∀ ls st sh h, kk ls st sh h → G p l e R s m args below meth c D dA A T y.2.2.1 ad0 sz0 k n (pc + 1) ls st sh h) : ∀ ls st sh h, x_pop kk ls st sh h → G p l e R s m args below meth c D dA A T y.2.2.1 ad0 sz0 k n pc ls st sh h := by
  intro ls st sh h hk0 ad H locs lsA g1 g2 g3 g4 g5 g6 g7 g8 g9
  obtain ⟨hx, hb, hr, hml, hown, hts, hK, hlk, hnm, hN, hA⟩ := id C
  unfold x_pop at hk0
  split at hk0
  · obtain ⟨h1, hk⟩ := hk0
    exact lv_pop hx hb hd (em_cat h1) (ih _ _ _ _ hk ad H locs lsA g1 g2 g3 g4 (can_tl g5) g6 g7 g8 g9)
  · exact hk0.elim
theorem S_dup2  (C : Cx y p s m args meth c D dA A) (hd : decode y.2.1 pc = .ok (.dup2, 1))  (ih : ∀ ls st sh h, kk ls st sh h → G p l e R s m args below meth c D dA A T y.2.2.1 ad0 sz0 k n (pc + 1) ls st sh h) : ∀ ls st sh h, x_dup2 kk ls st sh h → G p l e R s m args below meth c D dA A T y.2.2.1 ad0 sz0 k n pc ls st sh h := by
  intro ls st sh h hk0 ad H locs lsA g1 g2 g3 g4 g5 g6 g7 g8 g9
  obtain ⟨hx, hb, hr, hml, hown, hts, hK, hlk, hnm, hN, hA⟩ := id C
  unfold x_dup2 at hk0
  split at hk0
  · obtain ⟨⟨h1, h2⟩, hk⟩ := hk0
    exact lv_dup2_11 hx hb hd (em_cat h1) (em_cat h2) (ih _ _ _ _ hk ad H locs lsA g1 g2 g3 g4 (can_cons (can_hd g5) (can_cons (can_hd (can_tl g5)) g5)) g6 g7 g8 g9)
  · exact hk0.elim
def x_if (P : Int → Prop) (kt kf : KT) : KT := fun ls st sh h => match st with
  | a :: q => a.1 = 0 ∧ (P a.2 → kt ls q sh h) ∧ (¬ P a.2 → kf ls q sh h)
  | _ => False
theorem x_if_of {P : Int → Prop} {ls st : List PV} {sh : Shp} {h : Mem} (hk : x_if P kt kf ls st sh h) : ∃ (a : Int) (q : List PV), st = (0, a) :: q ∧ (P a → kt ls q sh h) ∧ (¬ P a → kf ls q sh h) := by
  unfold x_if at hk
  split at hk
  · rename_i a q
    obtain ⟨h1, h3⟩ := hk
    exact ⟨a.2, q, by rw [← h1], h3⟩
  · exact hk.elim
def x_cmp (P : Int → Int → Prop) (kt kf : KT) : KT := fun ls st sh h => match st with
  | b :: a :: q => (a.1 = 0 ∧ b.1 = 0) ∧ (P a.2 b.2 → kt ls q sh h) ∧ (¬ P a.2 b.2 → kf ls q sh h)
  | _ => False
theorem x_cmp_of {P : Int → Int → Prop} {ls st : List PV} {sh : Shp} {h : Mem} (hk : x_cmp P kt kf ls st sh h) : ∃ (a b : Int) (q : List PV), st = (0, b) :: (0, a) :: q ∧ (P a b → kt ls q sh h) ∧ (¬ P a b → kf ls q sh h) := by
  unfold x_cmp at hk
  split at hk
  · rename_i b a q
    obtain ⟨ta, a⟩ := a
    obtain ⟨tb, b⟩ := b
    dsimp only at hk
    obtain ⟨⟨rfl, rfl⟩, h3⟩ := hk
    exact ⟨a, b, q, rfl, h3⟩
  · exact hk.elim
theorem S_ifeq {off : Int} {tgt : Nat} (C : Cx y p s m args meth c D dA A) (hd : decode y.2.1 pc = .ok (.ifCond .eq off, 3)) (ht : (pc : Int) + off = (tgt : Int)) (it : ∀ ls st sh h, kt ls st sh h → G p l e R s m args below meth c D dA A T y.2.2.1 ad0 sz0 k n tgt ls st sh h) (jf : ∀ ls st sh h, kf ls st sh h → G p l e R s m args below meth c D dA A T y.2.2.1 ad0 sz0 k n (pc + 3) ls st sh h) : ∀ ls st sh h, x_if (fun a => a = 0) kt kf ls st sh h → G p l e R s m args below meth c D dA A T y.2.2.1 ad0 sz0 k n pc ls st sh h := by
  intro ls st sh h hk0 ad H locs lsA g1 g2 g3 g4 g5 g6 g7 g8 g9
  obtain ⟨hx, hb, hr, hml, hown, hts, hK, hlk, hnm, hN, hA⟩ := id C
  obtain ⟨a, q, rfl, hk⟩ := x_if_of hk0
  have ca := (can_hd g5).1 rfl
  have g5t := can_tl g5
  have iq := ofInt_inj ca (show -2147483648 ≤ (0:Int) ∧ (0:Int) < 2147483648 by decide)
  exact lv_if_eq hx hb hd ht (fun z => it _ _ _ _ (hk.1 (iq.mp z)) ad H locs lsA g1 g2 g3 g4 g5t g6 g7 g8 g9) (fun z => jf _ _ _ _ (hk.2 (fun z2 => z (iq.mpr z2))) ad H locs lsA g1 g2 g3 g4 g5t g6 g7 g8 g9)
theorem S_iflt {off : Int} {tgt : Nat} (C : Cx y p s m args meth c D dA A) (hd : decode y.2.1 pc = .ok (.ifCond .lt off, 3)) (ht : (pc : Int) + off = (tgt : Int)) (it : ∀ ls st sh h, kt ls st sh h → G p l e R s m args below meth c D dA A T y.2.2.1 ad0 sz0 k n tgt ls st sh h) (jf : ∀ ls st sh h, kf ls st sh h → G p l e R s m args below meth c D dA A T y.2.2.1 ad0 sz0 k n (pc + 3) ls st sh h) : ∀ ls st sh h, x_if (fun a => a < 0) kt kf ls st sh h → G p l e R s m args below meth c D dA A T y.2.2.1 ad0 sz0 k n pc ls st sh h := by
  intro ls st sh h hk0 ad H locs lsA g1 g2 g3 g4 g5 g6 g7 g8 g9
  obtain ⟨hx, hb, hr, hml, hown, hts, hK, hlk, hnm, hN, hA⟩ := id C
  obtain ⟨a, q, rfl, hk⟩ := x_if_of hk0
  have ca := (can_hd g5).1 rfl
  have g5t := can_tl g5
  have iq := ofInt_lt ca (show -2147483648 ≤ (0:Int) ∧ (0:Int) < 2147483648 by decide)
  exact lv_if_lt hx hb hd ht (fun z => it _ _ _ _ (hk.1 (iq.mp z)) ad H locs lsA g1 g2 g3 g4 g5t g6 g7 g8 g9) (fun z => jf _ _ _ _ (hk.2 (fun z2 => z (iq.mpr z2))) ad H locs lsA g1 g2 g3 g4 g5t g6 g7 g8 g9)
theorem S_ifge {off : Int} {tgt : Nat} (C : Cx y p s m args meth c D dA A) (hd : decode y.2.1 pc = .ok (.ifCond .ge off, 3)) (ht : (pc : Int) + off = (tgt : Int)) (it : ∀ ls st sh h, kt ls st sh h → G p l e R s m args below meth c D dA A T y.2.2.1 ad0 sz0 k n tgt ls st sh h) (jf : ∀ ls st sh h, kf ls st sh h → G p l e R s m args below meth c D dA A T y.2.2.1 ad0 sz0 k n (pc + 3) ls st sh h) : ∀ ls st sh h, x_if (fun a => 0 ≤ a) kt kf ls st sh h → G p l e R s m args below meth c D dA A T y.2.2.1 ad0 sz0 k n pc ls st sh h := by
  intro ls st sh h hk0 ad H locs lsA g1 g2 g3 g4 g5 g6 g7 g8 g9
  obtain ⟨hx, hb, hr, hml, hown, hts, hK, hlk, hnm, hN, hA⟩ := id C
  obtain ⟨a, q, rfl, hk⟩ := x_if_of hk0
  have ca := (can_hd g5).1 rfl
  have g5t := can_tl g5
  have iq := ofInt_le (show -2147483648 ≤ (0:Int) ∧ (0:Int) < 2147483648 by decide) ca
  exact lv_if_ge hx hb hd ht (fun z => it _ _ _ _ (hk.1 (iq.mp z)) ad H locs lsA g1 g2 g3 g4 g5t g6 g7 g8 g9) (fun z => jf _ _ _ _ (hk.2 (fun z2 => z (iq.mpr z2))) ad H locs lsA g1 g2 g3 g4 g5t g6 g7 g8 g9)
theorem S_ifgt {off : Int} {tgt : Nat} (C : Cx y p s m args meth c D dA A) (hd : decode y.2.1 pc = .ok (.ifCond .gt off, 3)) (ht : (pc : Int) + off = (tgt : Int)) (it : ∀ ls st sh h, kt ls st sh h → G p l e R s m args below meth c D dA A T y.2.2.1 ad0 sz0 k n tgt ls st sh h) (jf : ∀ ls st sh h, kf ls st sh h → G p l e R s m args below meth c D dA A T y.2.2.1 ad0 sz0 k n (pc + 3) ls st sh h) : ∀ ls st sh h, x_if (fun a => 0 < a) kt kf ls st sh h → G p l e R s m args below meth c D dA A T y.2.2.1 ad0 sz0 k n pc ls st sh h := by
  intro ls st sh h hk0 ad H locs lsA g1 g2 g3 g4 g5 g6 g7 g8 g9
  obtain ⟨hx, hb, hr, hml, hown, hts, hK, hlk, hnm, hN, hA⟩ := id C
  obtain ⟨a, q, rfl, hk⟩ := x_if_of hk0
  have ca := (can_hd g5).1 rfl
  have g5t := can_tl g5
  have iq := ofInt_lt (show -2147483648 ≤ (0:Int) ∧ (0:Int) < 2147483648 by decide) ca
  exact lv_if_gt hx hb hd ht (fun z => it _ _ _ _ (hk.1 (iq.mp z)) ad H locs lsA g1 g2 g3 g4 g5t g6 g7 g8 g9) (fun z => jf _ _ _ _ (hk.2 (fun z2 => z (iq.mpr z2))) ad H locs lsA g1 g2 g3 g4 g5t g6 g7 g8 g9)
theorem S_ifle {off : Int} {tgt : Nat} (C : Cx y p s m args meth c D dA A) (hd : decode y.2.1 pc = .ok (.ifCond .le off, 3)) (ht : (pc : Int) + off = (tgt : Int)) (it : ∀ ls st sh h, kt ls st sh h → G p l e R s m args below meth c D dA A T y.2.2.1 ad0 sz0 k n tgt ls st sh h) (jf : ∀ ls st sh h, kf ls st sh h → G p l e R s m args below meth c D dA A T y.2.2.1 ad0 sz0 k n (pc + 3) ls st sh h) : ∀ ls st sh h, x_if (fun a => a ≤ 0) kt kf ls st sh h → G p l e R s m args below meth c D dA A T y.2.2.1 ad0 sz0 k n pc ls st sh h := by
  intro ls st sh h hk0 ad H locs lsA g1 g2 g3 g4 g5 g6 g7 g8 g9
  obtain ⟨hx, hb, hr, hml, hown, hts, hK, hlk, hnm, hN, hA⟩ := id C
  obtain ⟨a, q, rfl, hk⟩ := x_if_of hk0
  have ca := (can_hd g5).1 rfl
  have g5t := can_tl g5
  have iq := ofInt_le ca (show -2147483648 ≤ (0:Int) ∧ (0:Int) < 2147483648 by decide)
  exact lv_if_le hx hb hd ht (fun z => it _ _ _ _ (hk.1 (iq.mp z)) ad H locs lsA g1 g2 g3 g4 g5t g6 g7 g8 g9) (fun z => jf _ _ _ _ (hk.2 (fun z2 => z (iq.mpr z2))) ad H locs lsA g1 g2 g3 g4 g5t g6 g7 g8 g9)
theorem S_ifne {off : Int} {tgt : Nat} (C : Cx y p s m args meth c D dA A) (hd : decode y.2.1 pc = .ok (.ifCond .ne off, 3)) (ht : (pc : Int) + off = (tgt : Int)) (it : ∀ ls st sh h, kt ls st sh h → G p l e R s m args below meth c D dA A T y.2.2.1 ad0 sz0 k n tgt ls st sh h) (jf : ∀ ls st sh h, kf ls st sh h → G p l e R s m args below meth c D dA A T y.2.2.1 ad0 sz0 k n (pc + 3) ls st sh h) : ∀ ls st sh h, x_if (fun a => a = 0) kf kt ls st sh h → G p l e R s m args below meth c D dA A T y.2.2.1 ad0 sz0 k n pc ls st sh h := by
  intro ls st sh h hk0 ad H locs lsA g1 g2 g3 g4 g5 g6 g7 g8 g9
  obtain ⟨hx, hb, hr, hml, hown, hts, hK, hlk, hnm, hN, hA⟩ := id C
  obtain ⟨a, q, rfl, hk⟩ := x_if_of hk0
  have ca := (can_hd g5).1 rfl
  have g5t := can_tl g5
  have iq := ofInt_inj ca (show -2147483648 ≤ (0:Int) ∧ (0:Int) < 2147483648 by decide)
  exact lv_if_ne hx hb hd ht (fun z => it _ _ _ _ (hk.2 (fun z2 => z (iq.mpr z2))) ad H locs lsA g1 g2 g3 g4 g5t g6 g7 g8 g9) (fun z => jf _ _ _ _ (hk.1 (iq.mp z)) ad H locs lsA g1 g2 g3 g4 g5t g6 g7 g8 g9)
theorem S_cmpeq {off : Int} {tgt : Nat} (C : Cx y p s m args meth c D dA A) (hd : decode y.2.1 pc = .ok (.if_icmp .eq off, 3)) (ht : (pc : Int) + off = (tgt : Int)) (it : ∀ ls st sh h, kt ls st sh h → G p l e R s m args below meth c D dA A T y.2.2.1 ad0 sz0 k n tgt ls st sh h) (jf : ∀ ls st sh h, kf ls st sh h → G p l e R s m args below meth c D dA A T y.2.2.1 ad0 sz0 k n (pc + 3) ls st sh h) : ∀ ls st sh h, x_cmp (fun a b => a = b) kt kf ls st sh h → G p l e R s m args below meth c D dA A T y.2.2.1 ad0 sz0 k n pc ls st sh h := by
  intro ls st sh h hk0 ad H locs lsA g1 g2 g3 g4 g5 g6 g7 g8 g9
  obtain ⟨hx, hb, hr, hml, hown, hts, hK, hlk, hnm, hN, hA⟩ := id C
  obtain ⟨a, b, q, rfl, hk⟩ := x_cmp_of hk0
  have cb := (can_hd g5).1 rfl
  have ca := (can_hd (can_tl g5)).1 rfl
  have g5t := can_tl (can_tl g5)
  have iq := ofInt_inj ca cb
  exact lv_icmp_eq hx hb hd ht (fun z => it _ _ _ _ (hk.1 (iq.mp z)) ad H locs lsA g1 g2 g3 g4 g5t g6 g7 g8 g9) (fun z => jf _ _ _ _ (hk.2 (fun z2 => z (iq.mpr z2))) ad H locs lsA g1 g2 g3 g4 g5t g6 g7 g8 g9)
theorem S_cmplt {off : Int} {tgt : Nat} (C : Cx y p s m args meth c D dA A) (hd : decode y.2.1 pc = .ok (.if_icmp .lt off, 3)) (ht : (pc : Int) + off = (tgt : Int)) (it : ∀ ls st sh h, kt ls st sh h → G p l e R s m args below meth c D dA A T y.2.2.1 ad0 sz0 k n tgt ls st sh h) (jf : ∀ ls st sh h, kf ls st sh h → G p l e R s m args below meth c D dA A T y.2.2.1 ad0 sz0 k n (pc + 3) ls st sh h) : ∀ ls st sh h, x_cmp (fun a b => a < b) kt kf ls st sh h → G p l e R s m args below meth c D dA A T y.2.2.1 ad0 sz0 k n pc ls st sh h := by
  intro ls st sh h hk0 ad H locs lsA g1 g2 g3 g4 g5 g6 g7 g8 g9
  obtain ⟨hx, hb, hr, hml, hown, hts, hK, hlk, hnm, hN, hA⟩ := id C
  obtain ⟨a, b, q, rfl, hk⟩ := x_cmp_of hk0
  have cb := (can_hd g5).1 rfl
  have ca := (can_hd (can_tl g5)).1 rfl
  have g5t := can_tl (can_tl g5)
  have iq := ofInt_lt ca cb
  exact lv_icmp_lt hx hb hd ht (fun z => it _ _ _ _ (hk.1 (iq.mp z)) ad H locs lsA g1 g2 g3 g4 g5t g6 g7 g8 g9) (fun z => jf _ _ _ _ (hk.2 (fun z2 => z (iq.mpr z2))) ad H locs lsA g1 g2 g3 g4 g5t g6 g7 g8 g9)
theorem S_cmpge {off : Int} {tgt : Nat} (C : Cx y p s m args meth c D dA A) (hd : decode y.2.1 pc = .ok (.if_icmp .ge off, 3)) (ht : (pc : Int) + off = (tgt : Int)) (it : ∀ ls st sh h, kt ls st sh h → G p l e R s m args below meth c D dA A T y.2.2.1 ad0 sz0 k n tgt ls st sh h) (jf : ∀ ls st sh h, kf ls st sh h → G p l e R s m args below meth c D dA A T y.2.2.1 ad0 sz0 k n (pc + 3) ls st sh h) : ∀ ls st sh h, x_cmp (fun a b => b ≤ a) kt kf ls st sh h → G p l e R s m args below meth c D dA A T y.2.2.1 ad0 sz0 k n pc ls st sh h := by
  intro ls st sh h hk0 ad H locs lsA g1 g2 g3 g4 g5 g6 g7 g8 g9
  obtain ⟨hx, hb, hr, hml, hown, hts, hK, hlk, hnm, hN, hA⟩ := id C
  obtain ⟨a, b, q, rfl, hk⟩ := x_cmp_of hk0
  have cb := (can_hd g5).1 rfl
  have ca := (can_hd (can_tl g5)).1 rfl
  have g5t := can_tl (can_tl g5)
  have iq := ofInt_le cb ca
  exact lv_icmp_ge hx hb hd ht (fun z => it _ _ _ _ (hk.1 (iq.mp z)) ad H locs lsA g1 g2 g3 g4 g5t g6 g7 g8 g9) (fun z => jf _ _ _ _ (hk.2 (fun z2 => z (iq.mpr z2))) ad H locs lsA g1 g2 g3 g4 g5t g6 g7 g8 g9)
theorem S_cmpgt {off : Int} {tgt : Nat} (C : Cx y p s m args meth c D dA A) (hd : decode y.2.1 pc = .ok (.if_icmp .gt off, 3)) (ht : (pc : Int) + off = (tgt : Int)) (it : ∀ ls st sh h, kt ls st sh h → G p l e R s m args below meth c D dA A T y.2.2.1 ad0 sz0 k n tgt ls st sh h) (jf : ∀ ls st sh h, kf ls st sh h → G p l e R s m args below meth c D dA A T y.2.2.1 ad0 sz0 k n (pc + 3) ls st sh h) : ∀ ls st sh h, x_cmp (fun a b => b < a) kt kf ls st sh h → G p l e R s m args below meth c D dA A T y.2.2.1 ad0 sz0 k n pc ls st sh h := by
  intro ls st sh h hk0 ad H locs lsA g1 g2 g3 g4 g5 g6 g7 g8 g9
  obtain ⟨hx, hb, hr, hml, hown, hts, hK, hlk, hnm, hN, hA⟩ := id C
  obtain ⟨a, b, q, rfl, hk⟩ := x_cmp_of hk0
  have cb := (can_hd g5).1 rfl
  have ca := (can_hd (can_tl g5)).1 rfl
  have g5t := can_tl (can_tl g5)
  have iq := ofInt_lt cb ca
  exact lv_icmp_gt hx hb hd ht (fun z => it _ _ _ _ (hk.1 (iq.mp z)) ad H locs lsA g1 g2 g3 g4 g5t g6 g7 g8 g9) (fun z => jf _ _ _ _ (hk.2 (fun z2 => z (iq.mpr z2))) ad H locs lsA g1 g2 g3 g4 g5t g6 g7 g8 g9)
theorem S_cmple {off : Int} {tgt : Nat} (C : Cx y p s m args meth c D dA A) (hd : decode y.2.1 pc = .ok (.if_icmp .le off, 3)) (ht : (pc : Int) + off = (tgt : Int)) (it : ∀ ls st sh h, kt ls st sh h → G p l e R s m args below meth c D dA A T y.2.2.1 ad0 sz0 k n tgt ls st sh h) (jf : ∀ ls st sh h, kf ls st sh h → G p l e R s m args below meth c D dA A T y.2.2.1 ad0 sz0 k n (pc + 3) ls st sh h) : ∀ ls st sh h, x_cmp (fun a b => a ≤ b) kt kf ls st sh h → G p l e R s m args below meth c D dA A T y.2.2.1 ad0 sz0 k n pc ls st sh h := by
  intro ls st sh h hk0 ad H locs lsA g1 g2 g3 g4 g5 g6 g7 g8 g9
  obtain ⟨hx, hb, hr, hml, hown, hts, hK, hlk, hnm, hN, hA⟩ := id C
  obtain ⟨a, b, q, rfl, hk⟩ := x_cmp_of hk0
  have cb := (can_hd g5).1 rfl
  have ca := (can_hd (can_tl g5)).1 rfl
  have g5t := can_tl (can_tl g5)
  have iq := ofInt_le ca cb
  exact lv_icmp_le hx hb hd ht (fun z => it _ _ _ _ (hk.1 (iq.mp z)) ad H locs lsA g1 g2 g3 g4 g5t g6 g7 g8 g9) (fun z => jf _ _ _ _ (hk.2 (fun z2 => z (iq.mpr z2))) ad H locs lsA g1 g2 g3 g4 g5t g6 g7 g8 g9)
theorem S_cmpne {off : Int} {tgt : Nat} (C : Cx y p s m args meth c D dA A) (hd : decode y.2.1 pc = .ok (.if_icmp .ne off, 3)) (ht : (pc : Int) + off = (tgt : Int)) (it : ∀ ls st sh h, kt ls st sh h → G p l e R s m args below meth c D dA A T y.2.2.1 ad0 sz0 k n tgt ls st sh h) (jf : ∀ ls st sh h, kf ls st sh h → G p l e R s m args below meth c D dA A T y.2.2.1 ad0 sz0 k n (pc + 3) ls st sh h) : ∀ ls st sh h, x_cmp (fun a b => a = b) kf kt ls st sh h → G p l e R s m args below meth c D dA A T y.2.2.1 ad0 sz0 k n pc ls st sh h := by
  intro ls st sh h hk0 ad H locs lsA g1 g2 g3 g4 g5 g6 g7 g8 g9
  obtain ⟨hx, hb, hr, hml, hown, hts, hK, hlk, hnm, hN, hA⟩ := id C
  obtain ⟨a, b, q, rfl, hk⟩ := x_cmp_of hk0
  have cb := (can_hd g5).1 rfl
  have ca := (can_hd (can_tl g5)).1 rfl
  have g5t := can_tl (can_tl g5)
  have iq := ofInt_inj ca cb
  exact lv_icmp_ne hx hb hd ht (fun z => it _ _ _ _ (hk.2 (fun z2 => z (iq.mpr z2))) ad H locs lsA g1 g2 g3 g4 g5t g6 g7 g8 g9) (fun z => jf _ _ _ _ (hk.1 (iq.mp z)) ad H locs lsA g1 g2 g3 g4 g5t g6 g7 g8 g9)
theorem S_goto {off : Int} {tgt : Nat} (C : Cx y p s m args meth c D dA A) (hd : decode y.2.1 pc = .ok (.goto off, 3)) (ht : (pc : Int) + off = (tgt : Int)) (ih : ∀ ls st sh h, kk ls st sh h → G p l e R s m args below meth c D dA A T y.2.2.1 ad0 sz0 k n tgt ls st sh h) : ∀ ls st sh h, kk ls st sh h → G p l e R s m args below meth c D dA A T y.2.2.1 ad0 sz0 k n pc ls st sh h := by
  intro ls st sh h hk0 ad H locs lsA g1 g2 g3 g4 g5 g6 g7 g8 g9
  obtain ⟨hx, hb, hr, hml, hown, hts, hK, hlk, hnm, hN, hA⟩ := id C
  exact lv_goto hx hb hd ht (ih _ _ _ _ hk0 ad H locs lsA g1 g2 g3 g4 g5 g6 g7 g8 g9)
end GR

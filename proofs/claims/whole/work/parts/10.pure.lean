/-! THE PURE PICTURE: ints, longs and references are numbers; the memory is a table of numbers by cell and place; what a cell is stands in a list of shapes. -/
/-- (0, x) an int, (1, x) a long, (2, r) a reference (r <= 0: null; i + 1: the i-th cell); (3, a) the address a itself; any other first number: nothing -/
abbrev PV : Type := Nat × Int
abbrev Mem : Type := Nat → Nat → Int
abbrev Shp : Type := List (Nat × Nat)
abbrev KT : Type := List PV → List PV → Shp → Mem → Prop
abbrev MI : Type := MethodName × ByteArray × Nat × Option FieldType
def rf_o (ad : Nat → Nat) (r : Int) : Option Nat := if r ≤ 0 then none else some (ad (r.toNat - 1))
def em_v (ad : Nat → Nat) (v : PV) : Value := if v.1 = 0 then .int (Int32.ofInt v.2) else if v.1 = 1 then .long (Int64.ofInt v.2) else if v.1 = 3 then .ref v.2.toNat else va_rf (rf_o ad v.2)
def tg_of (ty : FieldType) : Nat := match ty with
  | .long => 1
  | .object _ => 2
  | .array _ => 2
  | _ => 0
def c_ty (ci : Nat) : Nat → FieldType := match ci with
  | 0 => tyX0
  | 1 => tyX1
  | 2 => tyX2
  | 3 => tyX3
  | 4 => tyX4
  | 5 => tyX5
  | 6 => tyX6
  | 7 => tyX7
  | 8 => tyX8
  | 9 => tyX9
  | 10 => tyX10
  | _ => tyX11
def c_tg (ci j : Nat) : Nat := tg_of (c_ty ci j)
def a_ty (k : Nat) : FieldType := match k with
  | 0 => .int
  | 1 => .long
  | 2 => .boolean
  | 3 => .char
  | 4 => .array .int
  | 5 => .object "DelayBounds$Curve"
  | 6 => .object "DelayBounds$Traffic"
  | _ => .object "DelayBounds$Sightings"
/-- the shape of a cell: (0 .. 7, n) an array of that kind with n places; (8 + c, n) an object of the c-th kind with n fields -/
def em_c (dA : Nat → ClassId) (ad : Nat → Nat) (kn : Nat × Nat) (f : Nat → Int) : va_E :=
  if kn.1 = 1 then .inl (dA 1, kn.2, .inr (.inl (fun i => Int64.ofInt (f i))))
  else if kn.1 < 4 then .inl (dA kn.1, kn.2, .inl (fun i => Int32.ofInt (f i)))
  else if kn.1 < 8 then .inl (dA kn.1, kn.2, .inr (.inr (.inr (.inr (fun i => rf_o ad (f i))))))
  else .inr (kn.1 - 8, (List.range kn.2).map (fun j => em_v ad (c_tg (kn.1 - 8) j, f j)))
def em_w (dA : Nat → ClassId) (ad : Nat → Nat) (sh : Shp) (h : Mem) : va_W := sh.mapIdx (fun i kn => (ad i, em_c dA ad kn (h i)))
def tysL (dA : Nat → ClassId) : List (ClassId × FieldType) := (List.range 8).map (fun i => (dA i, a_ty i))
/-- the memory with one place changed -/
def up (h : Mem) (a j : Nat) (v : Int) : Mem := fun i q => if i = a then (if q = j then v else h i q) else h i q
def can_v (N : Nat) (v : PV) : Prop := (v.1 = 0 → -2147483648 ≤ v.2 ∧ v.2 < 2147483648) ∧ (v.1 = 1 → -9223372036854775808 ≤ v.2 ∧ v.2 < 9223372036854775808) ∧ (2 ≤ v.1 ∧ v.1 ≠ 3 → v.2 ≤ N)
def s_tg (kn : Nat × Nat) (j : Nat) : Nat := if kn.1 = 1 then 1 else if kn.1 < 4 then 0 else if kn.1 < 8 then 2 else c_tg (kn.1 - 8) j
def can_m (sh : Shp) (h : Mem) : Prop := ∀ (i : Nat) (kn : Nat × Nat), sh[i]? = some kn → ∀ j, j < kn.2 → can_v sh.length (s_tg kn j, h i j)
def can_l (N : Nat) (l : List PV) : Prop := ∀ v ∈ l, can_v N v
/-- how long an array of that kind is (0: it is none) -/
def ln (sh : Shp) (kd : Nat) (r : Int) : Int := match sh[r.toNat - 1]? with
  | some kn => if 0 < r ∧ kn.1 = kd then (kn.2 : Int) else 0
  | none => 0
def nfs (ci : Nat) : Nat := (vwCl[ci]?.map (fun q => q.2.2)).getD 0
/-- an object of that kind -/
def ob (sh : Shp) (ci : Nat) (r : Int) : Prop := 0 < r ∧ sh[r.toNat - 1]? = some (8 + ci, nfs ci)
def lr (ad : Nat → Nat) (lsA : Array Slot) (nL : Nat) (ls : List PV) : Prop := lsA.size = nL ∧ lv_wf lsA ∧ ∀ (i : Nat) (v : PV), ls[i]? = some v → v.1 < 4 → lsA[i]? = some (.val (em_v ad v))
def w32 (x : Int) : Int := (Int32.ofInt x).toInt
def w64 (x : Int) : Int := (Int64.ofInt x).toInt
def o32 (f : Int32 → Int32 → Int32) (a b : Int) : Int := (f (Int32.ofInt a) (Int32.ofInt b)).toInt
def o64 (f : Int64 → Int64 → Int64) (a b : Int) : Int := (f (Int64.ofInt a) (Int64.ofInt b)).toInt
theorem em_i (ad : Nat → Nat) (x : Int) : em_v ad (0, x) = .int (Int32.ofInt x) := rfl
theorem em_l (ad : Nat → Nat) (x : Int) : em_v ad (1, x) = .long (Int64.ofInt x) := rfl
theorem em_r (ad : Nat → Nat) (x : Int) : em_v ad (2, x) = va_rf (rf_o ad x) := rfl
theorem em_ix (ad : Nat → Nat) {r : Int} (h : 0 < r) : em_v ad (2, r) = .ref (ad (r.toNat - 1)) := by
  rw [em_r, rf_o, if_neg (by omega)]; rfl
theorem em_w_at {dA : Nat → ClassId} {ad : Nat → Nat} {sh : Shp} {h : Mem} {a : Nat} {kn : Nat × Nat} (hk : sh[a]? = some kn) : (em_w dA ad sh h)[a]? = some (ad a, em_c dA ad kn (h a)) := by
  rw [em_w, List.getElem?_mapIdx, hk]; rfl
theorem em_w_set {dA : Nat → ClassId} {ad : Nat → Nat} {sh : Shp} {h : Mem} {a : Nat} {kn : Nat × Nat} (hk : sh[a]? = some kn) (g : Nat → Int) : (em_w dA ad sh h).set a (ad a, em_c dA ad kn g) = em_w dA ad sh (fun i => if i = a then g else h i) := by
  apply List.ext_getElem?
  intro i
  rw [List.getElem?_set, em_w, em_w, List.getElem?_mapIdx, List.getElem?_mapIdx]
  have hlt : a < sh.length := (List.getElem?_eq_some_iff.mp hk).1
  by_cases e : a = i
  · subst e
    rw [if_pos rfl, if_pos (by rw [List.length_mapIdx]; exact hlt), hk]
    simp
  · rw [if_neg e]
    have e2 : ¬ i = a := fun q => e q.symm
    simp [e2]
theorem up_row (h : Mem) (a j : Nat) (v : Int) : (fun i => if i = a then (fun q => if q = j then v else h a q) else h i) = up h a j v := by
  funext i q
  by_cases e : i = a
  · subst e; simp [up]
  · simp [up, e]
theorem tysL_at (dA : Nat → ClassId) {i : Nat} (h : i < 8) : (tysL dA)[i]? = some (dA i, a_ty i) := by
  rw [tysL, List.getElem?_map, List.getElem?_range h]; rfl
theorem w32_of (x : Int) : Int32.ofInt (w32 x) = Int32.ofInt x := by rw [w32, Int32.ofInt_toInt]
theorem w64_of (x : Int) : Int64.ofInt (w64 x) = Int64.ofInt x := by rw [w64, Int64.ofInt_toInt]
theorem w32_id {x : Int} (h : -2147483648 ≤ x) (h2 : x < 2147483648) : w32 x = x := Int32.toInt_ofInt_of_le h h2
theorem w64_id {x : Int} (h : -9223372036854775808 ≤ x) (h2 : x < 9223372036854775808) : w64 x = x := Int64.toInt_ofInt_of_le h h2
theorem can_i32 {N : Nat} (x : Int32) : can_v N (0, x.toInt) := ⟨fun _ => ⟨Int32.le_toInt x, Int32.toInt_lt x⟩, fun h => (by cases h), fun h => absurd h.1 (show ¬ 2 ≤ 0 by decide)⟩
theorem can_i64 {N : Nat} (x : Int64) : can_v N (1, x.toInt) := ⟨fun h => (by cases h), fun _ => ⟨Int64.le_toInt x, Int64.toInt_lt x⟩, fun h => absurd h.1 (show ¬ 2 ≤ 1 by decide)⟩
theorem can_int {N : Nat} {x : Int} (h : -2147483648 ≤ x ∧ x < 2147483648) : can_v N (0, x) := ⟨fun _ => h, fun h => (by cases h), fun h => absurd h.1 (show ¬ 2 ≤ 0 by decide)⟩
theorem can_lng {N : Nat} {x : Int} (h : -9223372036854775808 ≤ x ∧ x < 9223372036854775808) : can_v N (1, x) := ⟨fun h => (by cases h), fun _ => h, fun h => absurd h.1 (show ¬ 2 ≤ 1 by decide)⟩
theorem can_w32 {N : Nat} (x : Int) : can_v N (0, w32 x) := can_i32 _
theorem can_w64 {N : Nat} (x : Int) : can_v N (1, w64 x) := can_i64 _
theorem can_cons {N : Nat} {v : PV} {l : List PV} (h : can_v N v) (hl : can_l N l) : can_l N (v :: l) := fun w hw => (List.mem_cons.mp hw).elim (fun e => e ▸ h) (hl w)
theorem can_tl {N : Nat} {v : PV} {l : List PV} (h : can_l N (v :: l)) : can_l N l := fun w hw => h w (List.mem_cons_of_mem _ hw)
theorem can_hd {N : Nat} {v : PV} {l : List PV} (h : can_l N (v :: l)) : can_v N v := h v List.mem_cons_self
theorem can_non {N : Nat} {t : Nat} (h : 3 ≤ t) : can_v N (t, 0) := ⟨fun e => absurd e (by simp; omega), fun e => absurd e (by simp; omega), fun _ => Int.natCast_nonneg N⟩
theorem can_mono {N N' : Nat} (h : N ≤ N') {v : PV} (hv : can_v N v) : can_v N' v := ⟨hv.1, hv.2.1, fun e => Int.le_trans (hv.2.2 e) (by omega)⟩
theorem ofInt_inj {a b : Int} (ha : -2147483648 ≤ a ∧ a < 2147483648) (hb : -2147483648 ≤ b ∧ b < 2147483648) : Int32.ofInt a = Int32.ofInt b ↔ a = b := by
  constructor
  · intro h
    have h2 := congrArg Int32.toInt h
    rw [Int32.toInt_ofInt_of_le ha.1 ha.2, Int32.toInt_ofInt_of_le hb.1 hb.2] at h2
    exact h2
  · intro h; rw [h]
theorem ofInt_lt {a b : Int} (ha : -2147483648 ≤ a ∧ a < 2147483648) (hb : -2147483648 ≤ b ∧ b < 2147483648) : Int32.ofInt a < Int32.ofInt b ↔ a < b := by
  rw [Int32.lt_iff_toInt_lt, Int32.toInt_ofInt_of_le ha.1 ha.2, Int32.toInt_ofInt_of_le hb.1 hb.2]
theorem ofInt_le {a b : Int} (ha : -2147483648 ≤ a ∧ a < 2147483648) (hb : -2147483648 ≤ b ∧ b < 2147483648) : Int32.ofInt a ≤ Int32.ofInt b ↔ a ≤ b := by
  rw [Int32.le_iff_toInt_le, Int32.toInt_ofInt_of_le ha.1 ha.2, Int32.toInt_ofInt_of_le hb.1 hb.2]
theorem ofInt_lt64 {a b : Int} (ha : -9223372036854775808 ≤ a ∧ a < 9223372036854775808) (hb : -9223372036854775808 ≤ b ∧ b < 9223372036854775808) : Int64.ofInt a < Int64.ofInt b ↔ a < b := by
  rw [Int64.lt_iff_toInt_lt, Int64.toInt_ofInt_of_le ha.1 ha.2, Int64.toInt_ofInt_of_le hb.1 hb.2]
theorem ofInt_inj64 {a b : Int} (ha : -9223372036854775808 ≤ a ∧ a < 9223372036854775808) (hb : -9223372036854775808 ≤ b ∧ b < 9223372036854775808) : Int64.ofInt a = Int64.ofInt b ↔ a = b := by
  constructor
  · intro h
    have h2 := congrArg Int64.toInt h
    rw [Int64.toInt_ofInt_of_le ha.1 ha.2, Int64.toInt_ofInt_of_le hb.1 hb.2] at h2
    exact h2
  · intro h; rw [h]
/-- an index within an array -/
theorem ix_in {i : Int} {n : Nat} (h0 : 0 ≤ i) (h1 : i < n) (hi : i < 2147483648) : vp_in (Int32.ofInt i) n ∧ (Int32.ofInt i).toNatClampNeg = i.toNat := by
  refine ⟨vp_in_iff.mpr ?_, Int32.toNatClampNeg_ofInt_of_le (by omega) hi⟩
  rw [Int32.toInt_ofInt_of_le (by omega) hi]
  exact ⟨h0, h1⟩
theorem ln_at {sh : Shp} {kd : Nat} {r i : Int} (h0 : 0 ≤ i) (h : i < ln sh kd r) : 0 < r ∧ ∃ n : Nat, sh[r.toNat - 1]? = some (kd, n) ∧ i < n := by
  unfold ln at h
  split at h
  · rename_i kn hk
    split at h
    · rename_i hc
      exact ⟨hc.1, kn.2, by rw [hk, ← hc.2], h⟩
    · omega
  · omega
theorem can_m_at {sh : Shp} {h : Mem} (hc : can_m sh h) {i : Nat} {kn : Nat × Nat} (hk : sh[i]? = some kn) {j : Nat} (hj : j < kn.2) : can_v sh.length (s_tg kn j, h i j) := hc i kn hk j hj
theorem can_m_up {sh : Shp} {h : Mem} (hc : can_m sh h) {a : Nat} {kn : Nat × Nat} (hk : sh[a]? = some kn) {j : Nat} {v : Int} (hv : can_v sh.length (s_tg kn j, v)) : can_m sh (up h a j v) := by
  intro i kn' hk' q hq
  unfold up
  by_cases e : i = a
  · subst e
    rw [hk] at hk'
    cases hk'
    rw [if_pos rfl]
    by_cases e2 : q = j
    · subst e2; rw [if_pos rfl]; exact hv
    · rw [if_neg e2]; exact hc i kn hk q hq
  · rw [if_neg e]; exact hc i kn' hk' q hq

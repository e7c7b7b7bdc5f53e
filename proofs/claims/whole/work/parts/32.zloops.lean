/-! loops, locals that are forgotten, least and most -/
theorem lr_fg {ad : Nat → Nat} {lsA : Array Slot} {nL : Nat} {ls : List PV} (i : Nat) (g : lr ad lsA nL ls) : lr ad lsA nL (ls.set i (9, 0)) := by
  refine ⟨g.1, g.2.1, fun j v hj hv => ?_⟩
  rw [List.getElem?_set] at hj
  split at hj
  · split at hj
    · cases hj; exact absurd hv (by decide)
    · cases hj
  · exact g.2.2 j v hj hv
section LO
variable {l : Launch} {d K N k n pc : Nat} {y : MI} {Q : Int → Shp → Mem → Prop}
/-- what a local held may be forgotten -/
theorem V_fg1 {ls st : List PV} {sh : Shp} {h : Mem} (i : Nat) (hv : V l d K N y k n pc Q (ls.set i (9, 0)) st sh h) : V l d K N y k n pc Q ls st sh h := by
  intro p e s m args below meth c D dA A ad0 sz0 C hk hn ad H locs lsA g1 g2 g3 g4 g5 g6 g7 g8 g9
  exact hv p e s m args below meth c D dA A ad0 sz0 C hk hn ad H locs lsA g1 g2 (lr_fg i g3) (can_set g4 (can_non (Nat.le_of_ble_eq_true rfl))) g5 g6 g7 g8 g9
def fgl : List Nat → List PV → List PV
  | [], ls => ls
  | i :: r, ls => fgl r (ls.set i (9, 0))
theorem V_fg {st : List PV} {sh : Shp} {h : Mem} : ∀ (is : List Nat) {ls : List PV}, V l d K N y k n pc Q (fgl is ls) st sh h → V l d K N y k n pc Q ls st sh h
  | [], _, hv => hv
  | i :: r, _, hv => V_fg1 i (V_fg r hv)
/-- a loop that counts: each turn, and its end, out of what holds one turn further on -/
theorem V_for (L : Nat → List PV) (M : Nat → Mem) (sh : Shp) (e : Nat) (step : ∀ i, i ≤ e → (i < e → V l d K N y k n pc Q (L (i + 1)) [] sh (M (i + 1))) → V l d K N y k n pc Q (L i) [] sh (M i)) : ∀ i, i ≤ e → V l d K N y k n pc Q (L i) [] sh (M i) := by
  have key : ∀ j i, i + j = e → V l d K N y k n pc Q (L i) [] sh (M i) := by
    intro j
    induction j with
    | zero => intro i hi; exact step i (by omega) (fun z => absurd z (by omega))
    | succ j ih => intro i hi; exact step i (by omega) (fun _ => ih (i + 1) (by omega))
  exact fun i hi => key (e - i) i (by omega)
/-- a loop by an invariant and a measure -/
theorem V_wh (I : List PV → Shp → Mem → Prop) (μ : List PV → Mem → Nat) (step : ∀ ls sh h, I ls sh h → (∀ ls' sh' h', I ls' sh' h' → μ ls' h' < μ ls h → V l d K N y k n pc Q ls' [] sh' h') → V l d K N y k n pc Q ls [] sh h) : ∀ ls sh h, I ls sh h → V l d K N y k n pc Q ls [] sh h := by
  have key : ∀ m ls sh h, μ ls h < m → I ls sh h → V l d K N y k n pc Q ls [] sh h := by
    intro m
    induction m with
    | zero => intro ls sh h hm; omega
    | succ m ih => intro ls sh h hm hI; exact step ls sh h hI (fun ls' sh' h' hI' hlt => ih ls' sh' h' (by omega) hI')
  exact fun ls sh h hI => key (μ ls h + 1) ls sh h (by omega) hI
end LO
/-- the least of f 0 .. f n, the most of them -/
def mnF (f : Nat → Int) : Nat → Int
  | 0 => f 0
  | n + 1 => min (mnF f n) (f (n + 1))
def mxF (f : Nat → Int) : Nat → Int
  | 0 => f 0
  | n + 1 => max (mxF f n) (f (n + 1))
theorem mnF_b {f : Nat → Int} {a b : Int} : ∀ {n : Nat}, (∀ i, i ≤ n → a ≤ f i ∧ f i ≤ b) → a ≤ mnF f n ∧ mnF f n ≤ b
  | 0, h => h 0 (Nat.le_refl 0)
  | n + 1, h => by
    have h1 := mnF_b (f := f) (a := a) (b := b) (n := n) (fun i hi => h i (by omega))
    have h2 := h (n + 1) (Nat.le_refl _)
    unfold mnF
    omega
theorem mxF_b {f : Nat → Int} {a b : Int} : ∀ {n : Nat}, (∀ i, i ≤ n → a ≤ f i ∧ f i ≤ b) → a ≤ mxF f n ∧ mxF f n ≤ b
  | 0, h => h 0 (Nat.le_refl 0)
  | n + 1, h => by
    have h1 := mxF_b (f := f) (a := a) (b := b) (n := n) (fun i hi => h i (by omega))
    have h2 := h (n + 1) (Nat.le_refl _)
    unfold mxF
    omega
/-- a row of the memory, its first n places by f -/
def row (h : Mem) (a n : Nat) (f : Nat → Int) : Mem := fun i j => if i = a then (if j < n then f j else h i j) else h i j
theorem row_0 (h : Mem) (a : Nat) (f : Nat → Int) : row h a 0 f = h := by
  funext i j; unfold row; by_cases e : i = a <;> simp [e]
theorem row_up (h : Mem) (a n : Nat) (f : Nat → Int) : up (row h a n f) a n (f n) = row h a (n + 1) f := by
  funext i j
  unfold up row
  by_cases e : i = a
  · by_cases e2 : j = n
    · simp [e, e2]
    · by_cases e3 : j < n
      · simp [e, e2, e3, Nat.lt_succ_of_lt e3]
      · simp [e, e2, e3, show ¬ j < n + 1 by omega]
  · simp [e]
theorem row_at {h : Mem} {a n j : Nat} {f : Nat → Int} (hj : j < n) : row h a n f a j = f j := by unfold row; simp [hj]
theorem row_ne {h : Mem} {a n i : Nat} {f : Nat → Int} (hi : i ≠ a) : row h a n f i = h i := by funext j; unfold row; simp [hi]
theorem up_ne {h : Mem} {a j i : Nat} {v : Int} (hi : i ≠ a) : up h a j v i = h i := by funext q; unfold up; simp [hi]
theorem up_at {h : Mem} {a j : Nat} {v : Int} : up h a j v a j = v := by unfold up; simp
theorem up_nj {h : Mem} {a j q : Nat} {v : Int} (hq : q ≠ j) : up h a j v a q = h a q := by unfold up; simp [hq]
theorem Lay_row {h : Mem} (L : Lay h) {a n : Nat} {f : Nat → Int} (hn : noP a = true) : Lay (row h a n f) := by
  refine Lay_fr L (fun q hq => ?_)
  have h1 : q.1 ≠ a := by simpa using List.all_eq_true.mp hn q hq
  rw [row_ne h1]

/-! the class: a run's lines read -/
/-- as it was, but the tape's token and fault, and a script -/
def Fsc (sb : Nat) (h h' : Mem) : Prop := (∀ i, i ≠ 1 → i ≠ sb → i ≠ sb + 1 → i ≠ sb + 2 → h' i = h i) ∧ (∀ j, j ≤ 2 → h' 1 j = h 1 j) ∧ ∀ j, j ≠ 2 → h' sb j = h sb j
theorem Fsc.rfl {sb : Nat} {h : Mem} : Fsc sb h h := ⟨fun _ _ _ _ _ => Eq.refl _, fun _ _ => Eq.refl _, fun _ _ => Eq.refl _⟩
theorem Fsc.trans {sb : Nat} {h h1 h2 : Mem} (a : Fsc sb h h1) (b : Fsc sb h1 h2) : Fsc sb h h2 := ⟨fun i p q r u => (b.1 i p q r u).trans (a.1 i p q r u), fun j p => (b.2.1 j p).trans (a.2.1 j p), fun j p => (b.2.2 j p).trans (a.2.2 j p)⟩
theorem Fs1.sc {sb : Nat} {h h' : Mem} (hs : sb = 66 ∨ sb = 69) (f : Fs1 h h') : Fsc sb h h' := ⟨fun i p _ _ _ => f.1 i p, fun j p => f.2 j (Or.inl p), fun j _ => by rw [f.1 sb (by omega)]⟩
theorem Fsc_8 {sb : Nat} {h : Mem} {v : Int} (hs : sb = 66 ∨ sb = 69) : Fsc sb h (up h 1 8 v) := ⟨fun i p _ _ _ => up_ne p, fun j p => up_nj (by omega), fun j _ => by rw [up_ne (by omega)]⟩
theorem Fsc_a {sb a j : Nat} {h : Mem} {v : Int} (hs : sb = 66 ∨ sb = 69) (ha : a = sb + 1 ∨ a = sb + 2) : Fsc sb h (up h a j v) := ⟨fun i _ _ q r => up_ne (by omega), fun j p => by rw [up_ne (by omega)], fun j _ => by rw [up_ne (by omega)]⟩
theorem Fsc_f {sb : Nat} {h : Mem} {v : Int} (hs : sb = 66 ∨ sb = 69) : Fsc sb h (up h sb 2 v) := ⟨fun i _ q _ _ => up_ne q, fun j p => by rw [up_ne (by omega)], fun j q => up_nj q⟩
def scC (sb : Nat) : Bool := LAYL.all (fun q => if q.1 = 1 then decide (q.2.1 ≤ 2) else if q.1 = sb then !(q.2.1 == 2) else !(q.1 == sb + 1) && !(q.1 == sb + 2))
theorem Fsc.lay {sb : Nat} (hs : sb = 66 ∨ sb = 69) {h h' : Mem} (f : Fsc sb h h') (L : Lay h) : Lay h' := by
  refine Lay_fr L (fun q hq => ?_)
  have hn : scC sb = true := by rcases hs with rfl | rfl <;> decide +kernel
  have h1 := List.all_eq_true.mp hn q hq
  by_cases e : q.1 = 1
  · rw [if_pos e] at h1
    rw [e]; exact f.2.1 _ (by simpa using h1)
  · rw [if_neg e] at h1
    by_cases e2 : q.1 = sb
    · rw [if_pos e2] at h1
      rw [e2]; exact f.2.2 _ (by simpa using h1)
    · rw [if_neg e2] at h1
      simp at h1
      rw [f.1 q.1 e e2 h1.1 h1.2]
theorem Fsc.tx {sb : Nat} (hs : sb = 66 ∨ sb = 69) {h h' : Mem} {s : Nat → Int} {n : Nat} (f : Fsc sb h h') (T : TxC h s n) : TxC h' s n := by
  obtain ⟨a, b, c, e⟩ := T
  refine ⟨f.lay hs a, ⟨by rw [f.2.1 2 (by omega)]; exact b.1, by rw [f.1 2 (by decide) (by omega) (by omega) (by omega)]; exact b.2⟩, c, ?_⟩
  unfold WdC; rw [f.1 3 (by decide) (by omega) (by omega) (by omega)]; exact e
theorem CuC.fr {h h' : Mem} {s : Nat → Int} {n i : Nat} (C : CuC h s n i) (e : h' 1 = h 1) : CuC h' s n i := by
  unfold CuC TkC; rw [e]; exact C

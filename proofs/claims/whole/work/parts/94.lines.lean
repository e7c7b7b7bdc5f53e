/-! a run's lines: one of them, read at a token; (fault, place behind, flow, many) -/
noncomputable def rnL (s : Nat → Int) (n : Nat) (nm : Nat → Int) (nf : Nat) (i k : Nat) : Int × Nat × Int × Int :=
  iF (¬ isWd s n i 10 ∧ ¬ isWd s n i 11) (flt s n i 1, i, 0, 0)
    (iF (k = 40) (flt s n i 5, i, 0, 0)
      (iF (isWd s n i 10)
        (iF (isSn s n (i + 1) 59) (0, i + 2, -1, 0) (flt s n (i + 1) 1, i, 0, 0))
        (iF (¬ isNm s n (i + 1)) (flt s n (i + 1) 1, i, 0, 0)
          (iF (naF nm (tkVa s n (i + 1)) 10 nf < 0) (flt s n (i + 1) 2, i, 0, 0)
            (iF (¬ tkSo s n (i + 2) = 2) (flt s n (i + 2) 1, i, 0, 0)
              (iF (¬ (1 ≤ tkVa s n (i + 2) ∧ tkVa s n (i + 2) ≤ 9)) (flt s n (i + 2) 4, i, 0, 0)
                (iF (isSn s n (i + 3) 59) (0, i + 4, naF nm (tkVa s n (i + 1)) 10 nf, tkVa s n (i + 2)) (flt s n (i + 3) 1, i, 0, 0))))))))
/-- the first k lines: (fault, place), and the lines themselves -/
noncomputable def rnI (s : Nat → Int) (n : Nat) (nm : Nat → Int) (nf : Nat) : Nat → Nat
  | 0 => 0
  | k + 1 => (rnL s n nm nf (rnI s n nm nf k) k).2.1
/-- the first k lines are right, and no end stands before one of them -/
noncomputable def RnK (s : Nat → Int) (n : Nat) (nm : Nat → Int) (nf k : Nat) : Prop := ∀ j, j < k → tkSo s n (rnI s n nm nf j) ≠ 0 ∧ (rnL s n nm nf (rnI s n nm nf j) j).1 = 0
/-- the whole text ends so: a fault f in line k, or an end behind k lines -/
noncomputable def RnE (s : Nat → Int) (n : Nat) (nm : Nat → Int) (nf k : Nat) (f : Int) : Prop := RnK s n nm nf k ∧ ((f = 0 ∧ tkSo s n (rnI s n nm nf k) = 0) ∨ (f ≠ 0 ∧ tkSo s n (rnI s n nm nf k) ≠ 0 ∧ f = (rnL s n nm nf (rnI s n nm nf k) k).1))
theorem RnE.un {s : Nat → Int} {n : Nat} {nm : Nat → Int} {nf k k' : Nat} {f f' : Int} (a : RnE s n nm nf k f) (b : RnE s n nm nf k' f') : k = k' ∧ f = f' := by
  have lt : ∀ {k k' : Nat} {f f' : Int}, RnE s n nm nf k f → RnE s n nm nf k' f' → ¬ k < k' := fun {k k' f f'} a b h => by
    have := b.1 k h
    rcases a.2 with q | q
    · exact this.1 q.2
    · exact q.1 (by rw [q.2.2]; exact this.2)
  have e : k = k' := by
    have := lt a b
    have := lt b a
    omega
  subst e
  refine ⟨rfl, ?_⟩
  rcases a.2 with q | q <;> rcases b.2 with r | r
  · rw [q.1, r.1]
  · exact absurd q.2 r.2.1
  · exact absurd r.2 q.2.1
  · rw [q.2.2, r.2.2]

/-! a net told: what each of its lines comes to; faults are numbers, 0 is none, the first one stays -/
def orF (a b : Int) : Int := if a = 0 then b else a
theorem orF_0 {b : Int} : orF 0 b = b := if_pos rfl
theorem orF_n {a b : Int} (h : a ≠ 0) : orF a b = a := if_neg h
theorem orF_e {a b : Int} (h : a = 0) : orF a b = b := if_pos h
theorem orF_nn {a b : Int} (h : 0 ≤ a) (h' : 0 ≤ b) : 0 ≤ orF a b := by unfold orF; split <;> assumption
theorem orF_z {a b : Int} : orF a b = 0 ↔ a = 0 ∧ b = 0 := by
  unfold orF
  by_cases e : a = 0
  · rw [if_pos e]; exact ⟨fun x => ⟨e, x⟩, fun x => x.2⟩
  · rw [if_neg e]; exact ⟨fun x => absurd x e, fun x => absurd x.1 e⟩
def ru (r : Nat → Int) (j : Nat) (v : Int) : Nat → Int := fun k => if k = j then v else r k
theorem ru_at {r : Nat → Int} {j : Nat} {v : Int} : ru r j v j = v := if_pos rfl
theorem ru_ne {r : Nat → Int} {j k : Nat} {v : Int} (h : k ≠ j) : ru r j v k = r k := if_neg h
theorem naF_cg {nm nm' : Nat → Int} {v : Int} {a a' : Nat} : ∀ {m : Nat}, (∀ k, k < m → nm (a + k) = nm' (a' + k)) → naF nm v a m = naF nm' v a' m
  | 0, _ => rfl
  | m + 1, h => by
    rw [naF, naF, h m (by omega), naF_cg (m := m) (fun k hk => h k (by omega))]
section NT
variable (s : Nat → Int) (n : Nat)
noncomputable def wdU (i w : Nat) : Int := iF (isWd s n i w) 0 (flt s n i 1)
noncomputable def snU (i : Nat) (c : Int) : Int := iF (isSn s n i c) 0 (flt s n i 1)
noncomputable def nuU (i : Nat) (lo hi : Int) : Int := iF (tkSo s n i = 2) (iF (lo ≤ tkVa s n i ∧ tkVa s n i ≤ hi) 0 (flt s n i 4)) (flt s n i 1)
noncomputable def onU (i w0 m : Nat) : Int := iF (0 ≤ whF s n i w0 m) 0 (flt s n i 1)
/-- a name that is told: which, not one of B -/
noncomputable def tdU (nm : Nat → Int) (i a m : Nat) (B : Int → Prop) : Int := iF (isNm s n i) (iF (naF nm (tkVa s n i) a m < 0) (flt s n i 2) (iF (B (naF nm (tkVa s n i) a m)) (flt s n i 3) 0)) (flt s n i 1)
def knP (row nm : Nat → Int) (v : Int) : Prop := 0 ≤ naF nm v 0 (row 0).toNat ∨ 0 ≤ naF nm v 6 (row 1).toNat ∨ 0 ≤ naF nm v 10 (row 2).toNat
/-- a new name behind the word at i -/
noncomputable def nmU (row nm : Nat → Int) (many most : Int) (i : Nat) : Int := iF (many = most) (flt s n i 5) (iF (isNm s n (i + 1)) (iF (knP row nm (tkVa s n (i + 1))) (flt s n (i + 1) 3) 0) (flt s n (i + 1) 1))
/-- the values of a curve from i on: fault, how many -/
noncomputable def lwV (i m : Nat) : Int := if m = 0 then 0 else tkVa s n (i + m - 1)
noncomputable def vlF (i : Nat) : Nat → Nat → Int × Nat
  | 0, m => (0, m)
  | g + 1, m => iF (nuU s n (i + m) (lwV s n i m) 99 = 0) (iF (m = 8) (flt s n (i + m) 5, m) (iF (tkSo s n (i + m + 1) = 2) (vlF i g (m + 1)) (0, m + 1))) (nuU s n (i + m) (lwV s n i m) 99, m)
noncomputable def cvM (i : Nat) : Nat := (vlF s n (i + 3) 9 0).2
noncomputable def cvU (row nm : Nat → Int) (i : Nat) : Int := orF (orF (orF (orF (orF (orF (nmU s n row nm (row 0) 6 i) (wdU s n (i + 2) 1)) (vlF s n (i + 3) 9 0).1) (wdU s n (i + 3 + cvM s n i) 2)) (nuU s n (i + 4 + cvM s n i) 1 (cvM s n i))) (wdU s n (i + 5 + cvM s n i) 3)) (nuU s n (i + 6 + cvM s n i) (tkVa s n (i + 2 + cvM s n i) - tkVa s n (i + 3 + cvM s n i - (tkVa s n (i + 4 + cvM s n i)).toNat)) 99)
noncomputable def vlRow (row : Nat → Int) (b i m : Nat) : Nat → Int := fun k => if b ≤ k ∧ k < b + m then tkVa s n (i + (k - b)) else row k
noncomputable def cvRow (row : Nat → Int) (i : Nat) : Nat → Int := ru (ru (ru (ru (vlRow s n row (7 + 11 * (row 0).toNat) (i + 3) (cvM s n i)) (4 + 11 * (row 0).toNat) (cvM s n i)) (5 + 11 * (row 0).toNat) (tkVa s n (i + 4 + cvM s n i))) (6 + 11 * (row 0).toNat) (tkVa s n (i + 6 + cvM s n i))) 0 (row 0 + 1)
noncomputable def ndU (row nm : Nat → Int) (i : Nat) : Int := orF (orF (orF (nmU s n row nm (row 1) 4 i) (onU s n (i + 2) 12 4)) (wdU s n (i + 3) 5)) (tdU s n nm (i + 4) 0 (row 0).toNat (fun _ => False))
noncomputable def ndRow (row nm : Nat → Int) (i : Nat) : Nat → Int := ru (ru (ru row (70 + 2 * (row 1).toNat) (whF s n (i + 2) 12 4)) (71 + 2 * (row 1).toNat) (naF nm (tkVa s n (i + 4)) 0 (row 0).toNat)) 1 (row 1 + 1)
/-- the way of a flow from i on: its hops, fault, how many -/
noncomputable def hpN (nm : Nat → Int) (k i j : Nat) : Int := naF nm (tkVa s n (i + j)) 6 k
noncomputable def wyF (nm : Nat → Int) (k i : Nat) : Nat → Nat → Int × Nat
  | 0, m => (0, m)
  | g + 1, m => iF (tdU s n nm (i + m) 6 k (fun v => ∃ j, j < m ∧ hpN s n nm k i j = v) = 0) (iF (isNm s n (i + m + 1)) (wyF nm k i g (m + 1)) (0, m + 1)) (tdU s n nm (i + m) 6 k (fun v => ∃ j, j < m ∧ hpN s n nm k i j = v), m)
noncomputable def flM (row nm : Nat → Int) (i : Nat) : Nat := (wyF s n nm (row 1).toNat (i + 5) 5 0).2
noncomputable def flU (row nm : Nat → Int) (i : Nat) : Int := orF (orF (orF (orF (nmU s n row nm (row 2) 4 i) (wdU s n (i + 2) 7)) (tdU s n nm (i + 3) 0 (row 0).toNat (fun _ => False))) (wdU s n (i + 4) 8)) (wyF s n nm (row 1).toNat (i + 5) 5 0).1
noncomputable def wyRow (row nm : Nat → Int) (b k i m : Nat) : Nat → Int := fun q => if b ≤ q ∧ q < b + m then hpN s n nm k i (q - b) else row q
noncomputable def flRow (row nm : Nat → Int) (i : Nat) : Nat → Int := ru (ru (ru (wyRow s n row nm (80 + 6 * (row 2).toNat) (row 1).toNat (i + 5) (flM s n row nm i)) (78 + 6 * (row 2).toNat) (naF nm (tkVa s n (i + 3)) 0 (row 0).toNat)) (79 + 6 * (row 2).toNat) (flM s n row nm i)) 2 (row 2 + 1)
/-- the law's words so far -/
abbrev LwS : Type := (Nat → Wd) × Nat
def lad (L : LwS) (w : Wd) : LwS := (fun i => if i = L.2 then w else L.1 i, L.2 + 1)
/-- pairs held together by signs of one strength: op says which word a token is -/
noncomputable def exL (F : Nat → LwS → Int × Nat × LwS) (op : Nat → Option Nat) : Nat → Nat → LwS → Int × Nat × LwS
  | 0, i, L => (0, i, L)
  | g + 1, i, L => match op i with
    | none => (0, i, L)
    | some c => iF ((F (i + 1) L).1 = 0) (exL F op g (F (i + 1) L).2.1 (lad (F (i + 1) L).2.2 (c, 0))) ((F (i + 1) L).1, i, L)
/-- the sign of strength q at i: its word -/
noncomputable def opA (q i : Nat) : Option Nat :=
  if q = 0 then iF (isWd s n i 17) (some 9) (iF (isWd s n i 18) (some 10) none)
  else if q = 1 then iF (isSn s n i 60) (some 7) (iF (isSn s n i 61) (some 8) none)
  else if q = 2 then iF (isSn s n i 43) (some 4) (iF (isSn s n i 45) (some 5) none)
  else iF (isSn s n i 42) (some 6) none
def exG (q : Nat) : Nat := if q = 1 then 1 else 1000
/-- what signs of strength q hold together, of what F reads -/
noncomputable def prs (q : Nat) (F : Nat → LwS → Int × Nat × LwS) (i : Nat) (L : LwS) : Int × Nat × LwS := iF ((F i L).1 = 0) (exL F (opA s n q) (exG q) (F i L).2.1 (F i L).2.2) ((F i L).1, i, L)
noncomputable def whl (F : Nat → LwS → Int × Nat × LwS) : Nat → LwS → Int × Nat × LwS := prs s n 0 (prs s n 1 (prs s n 2 (prs s n 3 F)))
/-- a part, with k depths left -/
noncomputable def exP : Nat → Nat → LwS → Int × Nat × LwS
  | 0, i, L => (iF (0 ≤ whF s n i 19 4 ∨ tkSo s n i = 2 ∨ isSn s n i 40 ∨ isWd s n i 16) (flt s n i 5) (flt s n i 1), i, L)
  | k + 1, i, L => iF (isWd s n i 16) (iF ((exP k (i + 1) L).1 = 0) (0, (exP k (i + 1) L).2.1, lad (exP k (i + 1) L).2.2 (3, 0)) ((exP k (i + 1) L).1, i, L))
      (iF (isSn s n i 40) (iF (orF (whl s n (exP k) (i + 1) L).1 (snU s n (whl s n (exP k) (i + 1) L).2.1 41) = 0) (0, (whl s n (exP k) (i + 1) L).2.1 + 1, (whl s n (exP k) (i + 1) L).2.2) (orF (whl s n (exP k) (i + 1) L).1 (snU s n (whl s n (exP k) (i + 1) L).2.1 41), i, L))
        (iF (tkSo s n i = 2) (0, i + 1, lad L (1, (tkVa s n i).toNat)) (iF (0 ≤ whF s n i 19 4) (0, i + 1, lad L (2, (whF s n i 19 4).toNat)) (flt s n i 1, i, L))))
/-- all that is told so far: the row, the names, the law -/
abbrev NX : Type := (Nat → Int) × (Nat → Int) × LwS
noncomputable def lwX (X : NX) (i : Nat) : Int × Nat × NX := iF (0 ≤ X.1 3) (flt s n i 3, i, X) ((whl s n (exP s n 5) (i + 1) X.2.2).1, (whl s n (exP s n 5) (i + 1) X.2.2).2.1, (ru X.1 3 0, X.2.1, (whl s n (exP s n 5) (i + 1) X.2.2).2.2))
noncomputable def lnX (X : NX) (i : Nat) : Int × Nat × NX :=
  iF (isWd s n i 0) (cvU s n X.1 X.2.1 i, i + 7 + cvM s n i, (cvRow s n X.1 i, ru X.2.1 (X.1 0).toNat (tkVa s n (i + 1)), X.2.2))
    (iF (isWd s n i 4) (ndU s n X.1 X.2.1 i, i + 5, (ndRow s n X.1 X.2.1 i, ru X.2.1 (6 + (X.1 1).toNat) (tkVa s n (i + 1)), X.2.2))
      (iF (isWd s n i 6) (flU s n X.1 X.2.1 i, i + 5 + flM s n X.1 X.2.1 i, (flRow s n X.1 X.2.1 i, ru X.2.1 (10 + (X.1 2).toNat) (tkVa s n (i + 1)), X.2.2))
        (iF (isWd s n i 9) (lwX s n X i) (flt s n i 1, i, X))))
/-- a line with its stop -/
noncomputable def lsF (X : NX) (i : Nat) : Int := orF (lnX s n X i).1 (snU s n (lnX s n X i).2.1 59)
noncomputable def ntF : Nat → Nat → NX → Int × NX
  | 0, _, X => (0, X)
  | g + 1, i, X => iF (tkSo s n i = 0) (0, X) (iF (lsF s n X i = 0) (ntF g ((lnX s n X i).2.1 + 1) (lnX s n X i).2.2) (lsF s n X i, X))
end NT

/-! numbers -/
theorem dv32_pos {a b : Int} (ha : 0 ≤ a) (ha2 : a < 2147483648) (hb : 0 < b) (hb2 : b < 2147483648) : dv32 a b = a / b := by
  unfold dv32 o32
  have ea := Int32.toInt_ofInt_of_le (n := a) (by omega) ha2
  have eb := Int32.toInt_ofInt_of_le (n := b) (by omega) hb2
  rw [Int32.toInt_div_of_ne_right _ _ (fun z => by
    have := congrArg Int32.toInt z
    rw [eb] at this
    have h1 : (-1 : Int32).toInt = -1 := rfl
    omega), ea, eb]
  exact Int.tdiv_eq_ediv_of_nonneg ha
theorem rm32_pos {a b : Int} (ha : 0 ≤ a) (ha2 : a < 2147483648) (hb : 0 < b) (hb2 : b < 2147483648) : rm32 a b = a % b := by
  have h1 := dv32_pos ha ha2 hb hb2
  unfold dv32 o32 at h1
  unfold rm32 o32
  have ea := Int32.toInt_ofInt_of_le (n := a) (by omega) ha2
  have eb := Int32.toInt_ofInt_of_le (n := b) (by omega) hb2
  have hm := Int.emod_nonneg a (show b ≠ 0 by omega)
  have hm2 := Int.emod_lt_of_pos a hb
  have hd := Int.mul_ediv_add_emod a b
  rw [Int32.toInt_sub, Int32.toInt_mul, h1, ea, eb]
  have e2 : a / b * b = a - a % b := by rw [Int.mul_comm]; omega
  rw [e2]
  have e3 : a % b ≤ a := by have := Int.mul_nonneg (Int.le_of_lt hb) (Int.ediv_nonneg ha (Int.le_of_lt hb)); omega
  rw [show (a - a % b).bmod (2 ^ 32) = a - a % b from Int.bmod_eq_of_le (by omega) (by omega)]
  rw [show a - (a - a % b) = a % b by omega]
  exact Int.bmod_eq_of_le (by omega) (by omega)
/-- a quotient as a bound -/
theorem ediv_b {a b : Int} (ha : 0 ≤ a) (hb : 0 < b) : 0 ≤ a / b ∧ a / b ≤ a ∧ a / b * b ≤ a ∧ a < a / b * b + b := by
  have h1 := Int.ediv_nonneg ha (Int.le_of_lt hb)
  have h2 := Int.mul_ediv_add_emod a b
  have h3 := Int.emod_nonneg a (show b ≠ 0 by omega)
  have h4 := Int.emod_lt_of_pos a hb
  have h5 := Int.ediv_le_self b ha
  rw [Int.mul_comm] at h2
  exact ⟨h1, h5, by omega, by omega⟩
/-- a curve at t, out of a row of numbers -/
def vOf (nt : Nat → Int) (c t : Int) : Int := if t < nt (4 + 11 * c).toNat then nt (4 + 11 * c + 3 + t).toNat else nt (4 + 11 * c + 3 + t - ((t - nt (4 + 11 * c).toNat) / nt (4 + 11 * c + 1).toNat + 1) * nt (4 + 11 * c + 1).toNat).toNat + ((t - nt (4 + 11 * c).toNat) / nt (4 + 11 * c + 1).toNat + 1) * nt (4 + 11 * c + 2).toNat
/-- a curve as it may be -/
def CW (nt : Nat → Int) (c : Int) : Prop := (0 ≤ c ∧ c < 6) ∧ (1 ≤ nt (4 + 11 * c).toNat ∧ nt (4 + 11 * c).toNat ≤ 8) ∧ (1 ≤ nt (4 + 11 * c + 1).toNat ∧ nt (4 + 11 * c + 1).toNat ≤ nt (4 + 11 * c).toNat) ∧ (0 ≤ nt (4 + 11 * c + 2).toNat ∧ nt (4 + 11 * c + 2).toNat ≤ 99) ∧ ∀ j : Int, 0 ≤ j → j < nt (4 + 11 * c).toNat → 0 ≤ nt (4 + 11 * c + 3 + j).toNat ∧ nt (4 + 11 * c + 3 + j).toNat ≤ 99
theorem vOf_b {nt : Nat → Int} {c t : Int} (h : CW nt c) (h0 : 0 ≤ t) (h1 : t < 100000) : 0 ≤ vOf nt c t ∧ vOf nt c t ≤ 99 * t + 200 := by
  obtain ⟨hc, hl, ha, hd, hv⟩ := h
  unfold vOf
  split
  · have := hv t h0 (by assumption); omega
  · have hb := ediv_b (a := t - nt (4 + 11 * c).toNat) (b := nt (4 + 11 * c + 1).toNat) (by omega) (by omega)
    generalize (t - nt (4 + 11 * c).toNat) / nt (4 + 11 * c + 1).toNat = q at hb
    have e1 : (q + 1) * nt (4 + 11 * c + 1).toNat = q * nt (4 + 11 * c + 1).toNat + nt (4 + 11 * c + 1).toNat := by rw [Int.add_mul, Int.one_mul]
    rw [e1]
    generalize q * nt (4 + 11 * c + 1).toNat = z at hb
    have h2 := hv (t - (z + nt (4 + 11 * c + 1).toNat)) (by omega) (by omega)
    rw [show 4 + 11 * c + 3 + (t - (z + nt (4 + 11 * c + 1).toNat)) = 4 + 11 * c + 3 + t - (z + nt (4 + 11 * c + 1).toNat) by omega] at h2
    have h3 : 0 ≤ (q + 1) * nt (4 + 11 * c + 2).toNat := Int.mul_nonneg (by omega) hd.1
    have h4 : (q + 1) * nt (4 + 11 * c + 2).toNat ≤ (t + 1) * 99 := Int.mul_le_mul (by omega) hd.2 hd.1 (by omega)
    omega

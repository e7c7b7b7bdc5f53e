theorem cov_r {cs : List (Int × KT)} {lo hi : Int} (n : Nat) (he : cs.map Prod.fst = (List.range n).map (fun i : Nat => lo + (i : Int))) (hn : hi < lo + n) : ∀ a : Int, lo ≤ a → a ≤ hi → a ∈ cs.map Prod.fst := by
  intro a h1 h2
  rw [he]
  exact List.mem_map.mpr ⟨(a - lo).toNat, List.mem_range.mpr (by omega), by omega⟩
theorem sw_n {GT : Nat → KT} {tg : Int → Nat → Prop} : swo GT tg [] := trivial
theorem sw_c {GT : Nat → KT} {tg : Int → Nat → Prop} {v : Int} {kx : KT} {r : List (Int × KT)} (h : ∃ t : Nat, tg v t ∧ ∀ ls st sh h, kx ls st sh h → GT t ls st sh h) (hr : swo GT tg r) : swo GT tg ((v, kx) :: r) := ⟨h, hr⟩

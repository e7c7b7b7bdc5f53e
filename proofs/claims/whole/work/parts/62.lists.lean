/-! lists, as the units need them -/
theorem gD_cons0 {α : Type} (x : α) (l : List α) (e : α) : (x :: l).getD 0 e = x := rfl
theorem gD_app_l {α : Type} {l r : List α} {i : Nat} (e : α) (h : i < l.length) : (l ++ r).getD i e = l.getD i e := by
  rw [List.getD_eq_getElem?_getD, List.getD_eq_getElem?_getD, List.getElem?_append_left h]
theorem gD_app_r {α : Type} {l r : List α} {i : Nat} (e : α) : (l ++ r).getD (l.length + i) e = r.getD i e := by
  rw [List.getD_eq_getElem?_getD, List.getD_eq_getElem?_getD, List.getElem?_append_right (by omega), show l.length + i - l.length = i by omega]
theorem gD_app_1 {α : Type} {l : List α} {x : α} (e : α) : (l ++ [x]).getD l.length e = x := by
  have := gD_app_r (l := l) (r := [x]) (i := 0) e
  simpa using this
theorem gD_map {α β : Type} {l : List α} {i : Nat} (f : α → β) (e : α) (e' : β) (h : i < l.length) : (l.map f).getD i e' = f (l.getD i e) := by
  rw [List.getD_eq_getElem?_getD, List.getD_eq_getElem?_getD, List.getElem?_map, List.getElem?_eq_getElem h]; rfl
theorem gD_mem {α : Type} {l : List α} {i : Nat} (e : α) (h : i < l.length) : l.getD i e ∈ l := by
  rw [List.getD_eq_getElem?_getD, List.getElem?_eq_getElem h]; exact List.getElem_mem h
theorem gD_rng {m i : Nat} (e : Nat) (h : i < m) : (List.range m).getD i e = i := by
  rw [List.getD_eq_getElem?_getD, List.getElem?_range h]; rfl
theorem gD_er {α : Type} {l : List α} {p i : Nat} (e : α) : (l.eraseIdx p).getD i e = if i < p then l.getD i e else l.getD (i + 1) e := by
  rw [List.getD_eq_getElem?_getD, List.getElem?_eraseIdx]
  split
  · rw [List.getD_eq_getElem?_getD]
  · rw [List.getD_eq_getElem?_getD]
theorem gD_ext {α : Type} {l r : List α} (e : α) (hl : l.length = r.length) (h : ∀ i, i < l.length → l.getD i e = r.getD i e) : l = r := by
  apply List.ext_getElem?
  intro i
  by_cases q : i < l.length
  · have := h i q
    rw [List.getD_eq_getElem?_getD, List.getD_eq_getElem?_getD, List.getElem?_eq_getElem q, List.getElem?_eq_getElem (by omega)] at this
    rw [List.getElem?_eq_getElem q, List.getElem?_eq_getElem (by omega)]
    exact congrArg some this
  · rw [List.getElem?_eq_none (by omega), List.getElem?_eq_none (by omega)]
/-- the places below m of which p holds, in order -/
def pl (p : Nat → Bool) (m : Nat) : List Nat := (List.range m).filter p
theorem pl_s (p : Nat → Bool) (m : Nat) : pl p (m + 1) = pl p m ++ (if p m = true then [m] else []) := by
  unfold pl
  rw [List.range_succ, List.filter_append]
  congr 1
  by_cases e : p m = true
  · rw [if_pos e]; simp [e]
  · rw [if_neg e]; simp [e]
theorem pl_mem {p : Nat → Bool} {m k : Nat} : k ∈ pl p m ↔ k < m ∧ p k = true := by
  unfold pl; rw [List.mem_filter, List.mem_range]
theorem pl_len {p : Nat → Bool} {m : Nat} : (pl p m).length ≤ m := by
  have := List.length_filter_le p (List.range m)
  rw [List.length_range] at this
  exact this
theorem pl_cong {p q : Nat → Bool} {m : Nat} (h : ∀ k, k < m → p k = q k) : pl p m = pl q m := List.filter_congr (fun k hk => h k (List.mem_range.mp hk))
theorem pl_fil {p q : Nat → Bool} {m : Nat} : (pl p m).filter q = pl (fun k => p k && q k) m := by
  unfold pl; rw [List.filter_filter]
  exact List.filter_congr (fun k _ => Bool.and_comm _ _)
theorem pl_inc (p : Nat → Bool) : ∀ (m i j : Nat), i < j → j < (pl p m).length → (pl p m).getD i 0 < (pl p m).getD j 0 := by
  intro m i j hij hj
  have hp : List.Pairwise (· < ·) (pl p m) := List.Pairwise.filter p List.pairwise_lt_range
  have := List.pairwise_iff_getElem.mp hp i j (by omega) hj hij
  rw [List.getD_eq_getElem?_getD, List.getD_eq_getElem?_getD, List.getElem?_eq_getElem hj, List.getElem?_eq_getElem (by omega : i < (pl p m).length)]
  exact this
def hdI : List Nat → Int
  | [] => -1
  | x :: _ => (x : Int)
def laI (l : List Nat) : Int := hdI l.reverse
theorem hdI_app {l r : List Nat} : hdI (l ++ r) = if l = [] then hdI r else hdI l := by
  cases l with
  | nil => rfl
  | cons x l => rw [if_neg (by simp)]; rfl
theorem hdI_neg {l : List Nat} : hdI l < 0 ↔ l = [] := by
  cases l with
  | nil => exact ⟨fun _ => rfl, fun _ => by decide⟩
  | cons x l => exact ⟨fun h => absurd h (show ¬ ((x : Int) < 0) by omega), fun h => by cases h⟩
theorem hdI_g {l : List Nat} (h : l ≠ []) : hdI l = (l.getD 0 0 : Nat) := by
  cases l with
  | nil => exact absurd rfl h
  | cons x l => rfl
theorem laI_app {l : List Nat} {x : Nat} : laI (l ++ [x]) = (x : Int) := by
  unfold laI; rw [List.reverse_append]; rfl
theorem laI_g {l : List Nat} (h : l ≠ []) : laI l = (l.getD (l.length - 1) 0 : Nat) := by
  have hl : 0 < l.length := List.length_pos_iff.mpr h
  unfold laI
  rw [hdI_g (by simpa using h), List.getD_eq_getElem?_getD, List.getD_eq_getElem?_getD, List.getElem?_reverse (by omega)]
  rfl
/-- a count, place by place -/
theorem pl_cn (p : Nat → Bool) (m : Nat) : ((pl p (m + 1)).length : Int) = (pl p m).length + (if p m = true then 1 else 0) := by
  rw [pl_s, List.length_append]
  split <;> simp
/-- the first place of the least number above t -/
def fAr (x : Nat → Int) (t : Int) : Nat → Int × Int
  | 0 => (-1, 4)
  | i + 1 => if t < x i ∧ x i < (fAr x t i).2 then ((i : Int), x i) else fAr x t i
def SpA (x : Nat → Int) (m : Nat) (t r : Int) : Prop := (r = -1 ∧ ∀ j, j < m → ¬ t < x j) ∨ ∃ i : Nat, i < m ∧ r = (i : Int) ∧ t < x i ∧ (∀ j, j < m → t < x j → x i ≤ x j) ∧ ∀ j, j < i → x j ≠ x i
theorem fAr_s {x : Nat → Int} {t : Int} : ∀ {m : Nat}, (∀ j, j < m → x j < 4) → ((fAr x t m).1 = -1 ∧ (fAr x t m).2 = 4 ∧ ∀ j, j < m → ¬ t < x j) ∨ ∃ i : Nat, i < m ∧ (fAr x t m).1 = (i : Int) ∧ (fAr x t m).2 = x i ∧ t < x i ∧ (∀ j, j < m → t < x j → x i ≤ x j) ∧ ∀ j, j < i → x j ≠ x i
  | 0, _ => Or.inl ⟨rfl, rfl, fun j q => absurd q (Nat.not_lt_zero j)⟩
  | m + 1, h => by
    have ih := fAr_s (x := x) (t := t) (m := m) (fun j hj => h j (by omega))
    have h4 := h m (by omega)
    rw [show fAr x t (m + 1) = if t < x m ∧ x m < (fAr x t m).2 then ((m : Int), x m) else fAr x t m from rfl]
    rcases ih with ⟨a, b, c⟩ | ⟨i, a, b, c, e, f, g⟩
    · by_cases q : t < x m
      · rw [if_pos ⟨q, by omega⟩]
        refine Or.inr ⟨m, by omega, rfl, rfl, q, fun j hj ht => ?_, fun j hj he => ?_⟩
        · by_cases e : j = m
          · subst e; exact Int.le_refl _
          · exact absurd ht (c j (by omega))
        · exact c j hj (by rw [he]; exact q)
      · rw [if_neg (fun z => q z.1)]
        refine Or.inl ⟨a, b, fun j hj => ?_⟩
        by_cases e : j = m
        · subst e; exact q
        · exact c j (by omega)
    · by_cases q : t < x m ∧ x m < (fAr x t m).2
      · rw [if_pos q]
        refine Or.inr ⟨m, by omega, rfl, rfl, q.1, fun j hj ht => ?_, fun j hj he => ?_⟩
        · by_cases e : j = m
          · subst e; exact Int.le_refl _
          · have := f j (by omega) ht; omega
        · have := f j hj (by rw [he]; exact q.1); omega
      · rw [if_neg q]
        refine Or.inr ⟨i, by omega, b, c, e, fun j hj ht => ?_, g⟩
        by_cases e2 : j = m
        · subst e2; omega
        · exact f j (by omega) ht
theorem fAr_sp {x : Nat → Int} {t : Int} {m : Nat} (h : ∀ j, j < m → x j < 4) : SpA x m t (fAr x t m).1 := by
  rcases fAr_s (t := t) h with ⟨a, b, c⟩ | ⟨i, a, b, c, e, f, g⟩
  · exact Or.inl ⟨a, c⟩
  · exact Or.inr ⟨i, a, b, e, f, g⟩
/-- which place is served next, by the node's kind, the flows of those that wait, and whose turn it was -/
def pkP (kind : Int) (x : Nat → Int) (m : Nat) (t : Int) : Int := if kind = 0 then (m : Int) - 1 else if kind = 1 then (fAr x (-1) m).1 else if kind = 3 then (if (fAr x t m).1 = -1 then (fAr x (-1) m).1 else (fAr x t m).1) else 0
theorem fAr_b {x : Nat → Int} {t : Int} {m : Nat} (h : ∀ j, j < m → x j < 4) : -1 ≤ (fAr x t m).1 ∧ (fAr x t m).1 < m := by
  rcases fAr_s (t := t) h with ⟨a, b, c⟩ | ⟨i, a, b, c, e, f, g⟩ <;> omega
theorem pkP_b {kind : Int} {x : Nat → Int} {m : Nat} {t : Int} (hm : 0 < m) (h : ∀ j, j < m → 0 ≤ x j ∧ x j < 4) : 0 ≤ pkP kind x m t ∧ pkP kind x m t < m := by
  have hb := fAr_b (t := t) (fun j hj => (h j hj).2)
  have hb2 := fAr_b (t := -1) (fun j hj => (h j hj).2)
  have h0 : 0 ≤ (fAr x (-1) m).1 := by
    rcases fAr_s (t := -1) (fun j hj => (h j hj).2) with ⟨a, b, c⟩ | ⟨i, a, b, c, e, f, g⟩
    · have := c 0 hm
      have := h 0 hm
      omega
    · omega
  unfold pkP
  (repeat' split) <;> omega
theorem fAr_c {x y : Nat → Int} {t : Int} : ∀ {m : Nat}, (∀ j, j < m → x j = y j) → fAr x t m = fAr y t m
  | 0, _ => rfl
  | m + 1, h => by
    rw [show fAr x t (m + 1) = if t < x m ∧ x m < (fAr x t m).2 then ((m : Int), x m) else fAr x t m from rfl, show fAr y t (m + 1) = if t < y m ∧ y m < (fAr y t m).2 then ((m : Int), y m) else fAr y t m from rfl, fAr_c (fun j hj => h j (by omega)), h m (by omega)]
theorem pkP_c {kind : Int} {x y : Nat → Int} {m : Nat} {t : Int} (h : ∀ j, j < m → x j = y j) : pkP kind x m t = pkP kind y m t := by
  unfold pkP; rw [fAr_c h, fAr_c h]
/-- those served of a list of places, in order, and those left -/
def sel (kind : Int) (fl : Nat → Nat) : Nat → Int → List Nat → List Nat × List Nat
  | 0, _, I => ([], I)
  | q + 1, t, I => if I = [] then ([], []) else
    let p := (pkP kind (fun j => (fl (I.getD j 0) : Int)) I.length t).toNat
    let r := sel kind fl q (fl (I.getD p 0) : Int) (I.eraseIdx p)
    (I.getD p 0 :: r.1, r.2)
theorem er_len {α : Type} {l : List α} {p : Nat} (h : p < l.length) : (l.eraseIdx p).length + 1 = l.length := by
  rw [List.length_eraseIdx, if_pos h]; omega
theorem er_mem {l : List Nat} {p x : Nat} (h : x ∈ l.eraseIdx p) : x ∈ l := List.mem_of_mem_eraseIdx h
/-- a list without doubles: taking out a place is taking out what is there -/
theorem er_fil : ∀ {l : List Nat} {p : Nat}, l.Nodup → p < l.length → l.eraseIdx p = l.filter (fun k => !(k == l.getD p 0))
  | [], _, _, h => absurd h (Nat.not_lt_zero _)
  | x :: l, 0, hd, _ => by
    have hn := List.nodup_cons.mp hd
    rw [List.eraseIdx_cons_zero, gD_cons0, List.filter_cons]
    rw [if_neg (by simp)]
    symm
    apply List.filter_eq_self.mpr
    intro k hk
    have : k ≠ x := fun e => hn.1 (by rw [← e]; exact hk)
    simp [this]
  | x :: l, p + 1, hd, h => by
    have hn := List.nodup_cons.mp hd
    have hp : p < l.length := by simpa using h
    have ih := er_fil (l := l) (p := p) hn.2 hp
    rw [List.eraseIdx_cons_succ, show (x :: l).getD (p + 1) 0 = l.getD p 0 from rfl, List.filter_cons]
    have hx : x ≠ l.getD p 0 := fun e => hn.1 (by rw [e]; exact gD_mem 0 hp)
    rw [if_pos (by simp only [Bool.not_eq_true', beq_eq_false_iff_ne]; exact hx), ih]
theorem pl_nd (p : Nat → Bool) (m : Nat) : (pl p m).Nodup := List.Nodup.sublist List.filter_sublist List.nodup_range
/-! units and all that came of them, as one picture -/
/-- a unit: its flow, its hop, when it was born -/
abbrev Un : Type := Nat × Nat × Nat
/-- time, units, for how long busy, gone, lost, latest, put -/
abbrev TS : Type := Nat × List Un × (Nat → Int) × (Nat → Int) × (Nat → Int) × (Nat → Int) × (Nat → Nat → Int)
def uA (us : List Un) (k : Nat) : Un := us.getD k (0, 0, 0)
def tmT (T : TS) : Nat := T.1
def usT (T : TS) : List Un := T.2.1
def bzT (T : TS) : Nat → Int := T.2.2.1
def gnT (T : TS) : Nat → Int := T.2.2.2.1
def lsT (T : TS) : Nat → Int := T.2.2.2.2.1
def ltT (T : TS) : Nat → Int := T.2.2.2.2.2.1
def ptT (T : TS) : Nat → Nat → Int := T.2.2.2.2.2.2
def enc (u : Un) : Int := (u.1 : Int) * 64 + (u.2.2 : Int)
/-- which units are at a node -/
def atU (nt : Nat → Int) (us : List Un) (n : Nat) : Nat → Bool := fun k => decide (nd nt (uA us k).1 (uA us k).2.1 = (n : Int))
def ixs (nt : Nat → Int) (us : List Un) (n : Nat) : List Nat := pl (atU nt us n) us.length
def UW (nt : Nat → Int) (tm : Nat) (u : Un) : Prop := (u.1 : Int) < nt 2 ∧ (u.2.1 : Int) < hp nt u.1 ∧ u.2.2 ≤ tm
def TW (nt : Nat → Int) (T : TS) : Prop := tmT T ≤ 60 ∧ (usT T).length ≤ 40 ∧ (∀ k, k < (usT T).length → UW nt (tmT T) (uA (usT T) k)) ∧ (∀ n, n < 4 → 0 ≤ bzT T n ∧ bzT T n ≤ (tmT T : Int)) ∧ ∀ n, n < 4 → ixs nt (usT T) n = [] → bzT T n = 0
/-- the units alone -/
def TX (nt : Nat → Int) (T : TS) : Prop := tmT T ≤ 60 ∧ (usT T).length ≤ 40 ∧ (∀ k, k < (usT T).length → UW nt (tmT T) (uA (usT T) k)) ∧ True
theorem TW.tx {nt : Nat → Int} {T : TS} (W : TW nt T) : TX nt T := ⟨W.1, W.2.1, W.2.2.1, trivial⟩
/-- the reference's row from b on -/
def RS (s : Nat → Int) (b : Nat) (T : TS) : Prop := (s b = (tmT T : Int) ∧ s (b + 1) = ((usT T).length : Int)) ∧ (∀ k, k < (usT T).length → s (b + 2 + 3 * k) = ((uA (usT T) k).1 : Int) ∧ s (b + 3 + 3 * k) = ((uA (usT T) k).2.1 : Int) ∧ s (b + 4 + 3 * k) = ((uA (usT T) k).2.2 : Int)) ∧ (∀ n, n < 4 → s (b + 122 + n) = bzT T n) ∧ (∀ f, f < 4 → s (b + 126 + f) = gnT T f ∧ s (b + 130 + f) = lsT T f ∧ s (b + 134 + f) = ltT T f) ∧ ∀ f t, f < 4 → t ≤ 60 → s (b + 138 + 61 * f + t) = ptT T f t
/-- how many a node may serve now -/
def quo (nt : Nat → Int) (bz : Nat → Int) (n : Nat) : Int := vOf nt (cu nt n) (bz n + 1) - vOf nt (cu nt n) (bz n)
/-- served at a node, left there -/
def slN (nt : Nat → Int) (us : List Un) (bz : Nat → Int) (n : Nat) : List Nat × List Nat := sel (kd nt n) (fun k => (uA us k).1) (quo nt bz n).toNat (-1) (ixs nt us n)
/-- served at the first n nodes -/
def slS (nt : Nat → Int) (us : List Un) (bz : Nat → Int) : Nat → List Nat
  | 0 => []
  | n + 1 => slS nt us bz n ++ (slN nt us bz n).1
/-- a unit that was served goes on, or is gone -/
def mvS (nt : Nat → Int) (tm : Nat) (X : List Un × (Nat → Int) × (Nat → Int) × Int) (u : Un) : List Un × (Nat → Int) × (Nat → Int) × Int :=
  if ((u.2.1 : Int) + 1) < hp nt u.1 then (X.1 ++ [(u.1, u.2.1 + 1, u.2.2)], X.2) else (X.1, fun i => if i = u.1 then w32 (X.2.1 i + 1) else X.2.1 i, fun i => if i = u.1 then max (X.2.2.1 i) ((tm : Int) + 1 - (u.2.2 : Int)) else X.2.2.1 i, X.2.2.2 + 1)
def lft0 (us : List Un) (S : List Nat) : List Un := (pl (fun k => !(S.contains k)) us.length).map (uA us)
def mvR (nt : Nat → Int) (T : TS) (S : List Nat) : Nat → List Un × (Nat → Int) × (Nat → Int) × Int
  | 0 => (lft0 (usT T) S, gnT T, ltT T, 0)
  | i + 1 => mvS nt (tmT T) (mvR nt T S i) (uA (usT T) (S.getD i 0))
def slA (nt : Nat → Int) (T : TS) : List Nat := slS nt (usT T) (bzT T) (nt 1).toNat
def mvd (nt : Nat → Int) (T : TS) : List Un × (Nat → Int) × (Nat → Int) × Int := mvR nt T (slA nt T) (slA nt T).length
def bzN (nt : Nat → Int) (T : TS) : Nat → Int := fun n => if (n : Int) < nt 1 then (if (slN nt (usT T) (bzT T) n).2 = [] then 0 else bzT T n + 1) else bzT T n
/-- a tick -/
def tkT (nt : Nat → Int) (T : TS) : TS := (tmT T + 1, (mvd nt T).1, bzN nt T, (mvd nt T).2.1, lsT T, (mvd nt T).2.2.1, ptT T)
def tkG (nt : Nat → Int) (T : TS) : Int := (mvd nt T).2.2.2
/-- one is put; many are -/
def pu1 (nt : Nat → Int) (P : Nat → Wd) (n f : Nat) (X : TS × Int) : TS × Int :=
  if lvF P n ((ixs nt (usT X.1) (nd nt f 0).toNat).length : Int) ((usT X.1).length : Int) (f : Int) (tmT X.1 : Int) = 0
  then ((tmT X.1, usT X.1 ++ [(f, 0, tmT X.1)], bzT X.1, gnT X.1, lsT X.1, ltT X.1, ptT X.1), X.2 + 1)
  else ((tmT X.1, usT X.1, bzT X.1, gnT X.1, fun i => if i = f then w32 (lsT X.1 i + 1) else lsT X.1 i, ltT X.1, ptT X.1), X.2)
def puN (nt : Nat → Int) (P : Nat → Wd) (n f : Nat) (T : TS) : Nat → TS × Int
  | 0 => (T, 0)
  | k + 1 => pu1 nt P n f (puN nt P n f T k)
def ptP (T : TS) (f : Nat) (many : Int) : TS := (tmT T, usT T, bzT T, gnT T, lsT T, ltT T, fun i t => if i = f ∧ t = tmT T then w32 (ptT T i t + many) else ptT T i t)

/-! arraycopy; a call among nest mates -/
section GX
variable {p : Program} {l : Launch} {e : Env} {s : State} {m : MethodId} {args : Array Value} {below : List Frame} {meth : Method} {c : Code} {D : va_G} {dA : Nat → ClassId} {A : Nat → Prop} {T : State → Prop} {y : MI} {ad0 : Nat → Nat} {sz0 k n pc : Nat} {kk kt kf : KT} {d K N K1 N1 : Nat} {y1 : MI}
/-- n places of cell a, from sp on, come into cell b, from dp on -/
def cpy (h : Mem) (a b sp dp n : Nat) : Mem := fun i j => if i = b then (if dp ≤ j ∧ j < dp + n then h a (sp + (j - dp)) else h i j) else h i j
def x_copy (kk : KT) : KT := fun ls st sh h => match st with
  | nn :: dp :: b :: sp :: a :: q => ((nn.1 = 0 ∧ dp.1 = 0 ∧ b.1 = 2 ∧ sp.1 = 0 ∧ a.1 = 2) ∧ 0 < nn.2 ∧ 0 ≤ dp.2 ∧ 0 ≤ sp.2 ∧ sp.2 + nn.2 ≤ ln sh 0 a.2 ∧ dp.2 + nn.2 ≤ ln sh 0 b.2 ∧ ct q ≤ 8) ∧ kk ls q sh (cpy h (a.2.toNat - 1) (b.2.toNat - 1) sp.2.toNat dp.2.toNat nn.2.toNat)
  | _ => False
theorem w_copy : Cond.native arraycopyName ∈ tables_1 ∧ Cond.static arraycopyName ∈ tables_1 ∧ Cond.initialized "java/lang/System" ∈ tables_1 := ⟨by decide +kernel, by decide +kernel, by decide +kernel⟩
theorem nfw : nativeFrameWords "java/lang/System" "arraycopy" 5 ≤ 40 := by decide +kernel
theorem S_copy {idx : Nat} (C : Cx y p s m args meth c D dA A) (hd : decode y.2.1 pc = .ok (.invokestatic idx, 3)) (hl : Cond.methodLink y.1.cls idx arraycopyName ∈ tables_1) (hk : k ≤ K) (hn : n ≤ N) (ih : ∀ ls st sh h, kk ls st sh h → G p l e (rmV (d + 1) K N) s m args below meth c D dA A T y.2.2.1 ad0 sz0 k n (pc + 3) ls st sh h) : ∀ ls st sh h, x_copy kk ls st sh h → G p l e (rmV (d + 1) K N) s m args below meth c D dA A T y.2.2.1 ad0 sz0 k n pc ls st sh h := by
  intro ls st sh h hk0 ad H locs lsA g1 g2 g3 g4 g5 g6 g7 g8 g9
  obtain ⟨hx, hb, hr, hml, hown, hts, hK, hlk, hnm, hN, hA⟩ := id C
  unfold x_copy at hk0
  split at hk0
  · rename_i nn dp b sp a q
    obtain ⟨tn, nn⟩ := nn
    obtain ⟨td, dp⟩ := dp
    obtain ⟨tb, b⟩ := b
    obtain ⟨ts, sp⟩ := sp
    obtain ⟨ta, a⟩ := a
    dsimp only at hk0
    obtain ⟨⟨⟨rfl, rfl, rfl, rfl, rfl⟩, h1, h2, h3, h4, h5, h6⟩, hk1⟩ := hk0
    have cn := (can_hd g5).1 rfl
    have cd := (can_hd (can_tl g5)).1 rfl
    have cs := (can_hd (can_tl (can_tl (can_tl g5)))).1 rfl
    dsimp only at cn cd cs
    obtain ⟨a0, na, hsa, hla⟩ := ln_at (i := sp + nn - 1) (by omega) (show sp + nn - 1 < ln sh 0 a by omega)
    obtain ⟨b0, nb, hsb, hlb⟩ := ln_at (i := dp + nn - 1) (by omega) (show dp + nn - 1 < ln sh 0 b by omega)
    have en : (Int32.ofInt nn).toNatClampNeg = nn.toNat := Int32.toNatClampNeg_ofInt_of_le cn.1 cn.2
    have ed : (Int32.ofInt dp).toNatClampNeg = dp.toNat := Int32.toNatClampNeg_ofInt_of_le cd.1 cd.2
    have es : (Int32.ofInt sp).toNatClampNeg = sp.toNat := Int32.toNatClampNeg_ofInt_of_le cs.1 cs.2
    have z0 : -2147483648 ≤ (0:Int) ∧ (0:Int) < 2147483648 := by decide
    rw [List.map_cons, List.map_cons, List.map_cons, List.map_cons, List.map_cons, em_ix ad a0, em_ix ad b0]
    refine va_copyi (ty := .int) hx hb (hml.trans g3.1.symm) hown (hts _ (in_g hl rfl)) (hts _ (in_g w_copy.1 rfl)) (hts _ (in_g w_copy.2.1 rfl)) (hts _ (in_g w_copy.2.2 rfl)) hK g7 g8 g9 (a.toNat - 1) (b.toNat - 1) 0 0 (em_w_at hsa) (em_w_at hsb) (tysL_at dA (Nat.le_of_ble_eq_true rfl)) (tysL_at dA (Nat.le_of_ble_eq_true rfl)) rfl (fun z => absurd ((ofInt_lt cs z0).mp z) (by omega)) (fun z => absurd ((ofInt_lt cd z0).mp z) (by omega)) (fun z => absurd ((ofInt_lt cn z0).mp z) (by omega)) (by rw [es, en]; omega) (by rw [ed, en]; omega) (fun _ _ => rfl) (by show 1 ≤ d + 1; omega) (by rw [ct_of]; have := nfw; show ct q + (nativeFrameWords "java/lang/System" "arraycopy" 5 + 11) ≤ 64 * (d + 1); omega) hd (fun H1 locs1 hP hD hS => ?_)
    rw [es, ed, en] at hP hD
    have ec : (.inl (dA 0, nb, .inl (va_cpy (fun i => Int32.ofInt (h (a.toNat - 1) i)) (fun i => Int32.ofInt (h (b.toNat - 1) i)) sp.toNat dp.toNat nn.toNat)) : va_E) = em_c dA ad (0, nb) (fun j => if dp.toNat ≤ j ∧ j < dp.toNat + nn.toNat then h (a.toNat - 1) (sp.toNat + (j - dp.toNat)) else h (b.toNat - 1) j) := by
      rw [em_c, if_neg (show ¬ (0:Nat) = 1 by decide), if_pos (show (0:Nat) < 4 by decide)]
      refine congrArg (fun z => (Sum.inl (dA 0, nb, Sum.inl z) : va_E)) (funext fun j => ?_)
      by_cases e : dp.toNat ≤ j ∧ j < dp.toNat + nn.toNat
      · rw [pk_cpy_in e.1 e.2, if_pos e]
      · rw [pk_cpy_out (by omega), if_neg e]
    have eu : (fun i => if i = b.toNat - 1 then (fun j => if dp.toNat ≤ j ∧ j < dp.toNat + nn.toNat then h (a.toNat - 1) (sp.toNat + (j - dp.toNat)) else h (b.toNat - 1) j) else h i) = cpy h (a.toNat - 1) (b.toNat - 1) sp.toNat dp.toNat nn.toNat := by
      funext i j
      by_cases e : i = b.toNat - 1
      · subst e; simp [cpy]
      · simp [cpy, e]
    rw [ec, em_w_set hsb, eu] at hP hD
    have g6u : can_m sh (cpy h (a.toNat - 1) (b.toNat - 1) sp.toNat dp.toNat nn.toNat) := by
      intro i kn hi j hj
      unfold cpy
      by_cases e : i = b.toNat - 1
      · subst e
        rw [hsb] at hi
        cases hi
        rw [if_pos rfl]
        by_cases e2 : dp.toNat ≤ j ∧ j < dp.toNat + nn.toNat
        · rw [if_pos e2]
          exact g6 (a.toNat - 1) (0, na) hsa (sp.toNat + (j - dp.toNat)) (by show _ < na; omega)
        · rw [if_neg e2]; exact g6 _ _ hsb j hj
      · rw [if_neg e]; exact g6 i kn hi j hj
    exact ih _ _ _ _ hk1 ad H1 locs1 lsA g1 g2 g3 g4 (can_tl (can_tl (can_tl (can_tl (can_tl g5))))) g6u hP hD hS
  · exact hk0.elim
theorem S_invN {idx np : Nat} {host : String} (C : Cx y p s m args meth c D dA A) (hd : decode y.2.1 pc = .ok (.invokestatic idx, 3)) (hm : MOkS y1 np) (hl : Cond.methodLinkNest y.1.cls idx y1.1 host ∈ lw_nest) (hk : k + K1 ≤ K) (hn : n + N1 ≤ N) (ih : ∀ ls st sh h, kk ls st sh h → G p l e (rmV (d + 1) K N) s m args below meth c D dA A T y.2.2.1 ad0 sz0 (k + K1) (n + N1) (pc + 3) ls st sh h) :
    ∀ ls st sh h, x_inv rcs y1.2.2.1 np (fun a sh h Q => V l d K1 N1 y1 0 0 0 Q (ent y1.2.2.1 a) [] sh h) (rt_n y1.2.2.2) kk ls st sh h → G p l e (rmV (d + 1) K N) s m args below meth c D dA A T y.2.2.1 ad0 sz0 k n pc ls st sh h := by
  intro ls st sh h hk0 ad H locs lsA g1 g2 g3 g4 g5 g6 g7 g8 g9
  obtain ⟨hx, hb, hr, hml, hown, hts, hK, hlk, hnm, hN, hA⟩ := id C
  obtain ⟨a, q, rfl, hlen, hct, hel, hrc, hv⟩ := x_inv_of hk0
  obtain ⟨⟨hcode, hini, hpl, hnh, hmx⟩, hsta⟩ := hm
  obtain ⟨ca, cq⟩ := can_rev g5
  have hM := V.met hv hpl hel ca g6 D dA ad H.size
  have hcw : va_CN (rmV (d + 1) K N) s args y.1.cls idx y1.1 host y1.2.1 y1.2.2.1 y1.2.2.2 (wsY y1) (rmV d K1 N1) K1 N1 np := va_cnB np hts (good_ws hcode) rfl rfl rfl (hN.1 _ hl) (hts _ (in_g hini rfl)) hnh ⟨Nat.le_refl _, by show 8 + (y1.2.2.1 + 11) + 64 * d ≤ 64 * (d + 1); omega⟩
  have hrun := va_runSN (l := l) (e := e) (below := below) (meth := meth) (locs := locs) (cells := k) (slots := n) (As := a.map (em_v ad)) (rest := q.map (em_v ad)) (g := F0 m pc lsA (a.reverse.map (em_v ad) ++ q.map (em_v ad))) (H := H) ⟨hx, hb, hml, hown, hts⟩ hM ⟨hcw, hts _ (in_g hsta rfl), trivial⟩ ⟨pV_blind, fun U hU hW => ⟨rfl, by rw [hU], by rw [hU]; exact g7, va_K.moved hW.alike hK, g8.weaken (fun _ _ _ _ => trivial), Nx.warm hW hN⟩⟩ rfl (by rw [List.length_map]; exact hlen) g3.1 (by show _ = _; rw [List.map_reverse]) (by show 2 * 0 + _ ≤ 8; rw [ct_of]; omega) hd ⟨hk, hn⟩
  rw [List.map_append]
  exact call_go C g1 g2 g3 g4 cq g8 g9 hrun (fun r sh' h' hQ => ih _ _ _ _ hQ)
end GX

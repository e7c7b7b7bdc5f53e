/-! reasoning over the pure picture -/
theorem V.mono {l : Launch} {d K N : Nat} {y : MI} {k n pc : Nat} {Q Q' : Int → Shp → Mem → Prop} {ls st : List PV} {sh : Shp} {h : Mem} (hv : V l d K N y k n pc Q ls st sh h) (hq : ∀ r sh h, Q r sh h → Q' r sh h) : V l d K N y k n pc Q' ls st sh h := by
  intro p e s m args below meth c D dA A ad0 sz0 C hk hn ad H locs lsA g1 g2 g3 g4 g5 g6 g7 g8 g9 TT hT X
  obtain ⟨t, h1, o, h2, h3, ⟨⟨r, sh', h', ad', ho, hQ, hr⟩, hF⟩, h4⟩ := hv p e s m args below meth c D dA A ad0 sz0 C hk hn ad H locs lsA g1 g2 g3 g4 g5 g6 g7 g8 g9 TT hT X
  exact ⟨t, h1, o, h2, h3, ⟨⟨r, sh', h', ad', ho, hq _ _ _ hQ, hr⟩, hF⟩, h4⟩
/-- just this answer, these shapes, this memory -/
def Rt (r0 : Int) (sh0 : Shp) (h0 : Mem) : Int → Shp → Mem → Prop := fun r sh h => r = r0 ∧ sh = sh0 ∧ h = h0
theorem Cl.app {l : Launch} {d : Nat} {y : MI} {a : List PV} {sh : Shp} {h : Mem} {r0 : Int} {sh0 : Shp} {h0 : Mem} {Q : Int → Shp → Mem → Prop} (hc : Cl l d y a sh h (Rt r0 sh0 h0)) (hq : Q r0 sh0 h0) : Cl l d y a sh h Q := V.mono hc (fun r sh h q => by obtain ⟨rfl, rfl, rfl⟩ := q; exact hq)
theorem Cl.imp {l : Launch} {d : Nat} {y : MI} {a : List PV} {sh : Shp} {h : Mem} {Q Q' : Int → Shp → Mem → Prop} (hc : Cl l d y a sh h Q) (hq : ∀ r sh h, Q r sh h → Q' r sh h) : Cl l d y a sh h Q' := V.mono hc hq
/-- a truth as a number -/
def bi (p : Prop) [Decidable p] : Int := if p then 1 else 0
theorem bi_0 {p : Prop} [Decidable p] : (bi p = 0) = ¬ p := by unfold bi; split <;> simp_all
theorem bi_b {p : Prop} [Decidable p] : 0 ≤ bi p ∧ bi p ≤ 1 := by unfold bi; split <;> decide
theorem bi_t {p : Prop} [Decidable p] (h : p) : bi p = 1 := if_pos h
theorem bi_f {p : Prop} [Decidable p] (h : ¬ p) : bi p = 0 := if_neg h
theorem Rt_mk {r r0 : Int} {sh0 : Shp} {h0 : Mem} (e : r = r0) : Rt r0 sh0 h0 r sh0 h0 := ⟨e, rfl, rfl⟩
theorem Rt_mk3 {r r0 : Int} {sh sh0 : Shp} {h h0 : Mem} (e : r = r0) (e2 : sh = sh0) (e3 : h = h0) : Rt r0 sh0 h0 r sh h := ⟨e, e2, e3⟩

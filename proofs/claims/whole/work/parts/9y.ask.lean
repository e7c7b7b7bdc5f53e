/-! the questions: each side answers, and all holds on -/
section ASK
variable {l : Launch} {h : Mem} {nb sb : Nat} {T : TS} {P : Nat → Wd} {pn : Nat} {X : (Nat → Int) × Nat}
theorem INVd.lay (I : INVd h nb sb T P pn X) : Lay h := I.1.1
theorem INVd.td (I : INVd h nb sb T P pn X) : Td h nb := I.1.2.1
theorem INVd.sd (I : INVd h nb sb T P pn X) : SdR h sb := I.1.2.2.2.1
theorem INVd.rn (I : INVd h nb sb T P pn X) : RN h nb := I.2.1.1.1
theorem INVd.wn (I : INVd h nb sb T P pn X) : WN (h 220) := I.2.1.1.2.1
theorem INVd.mo (I : INVd h nb sb T P pn X) : Mono (h 220) := I.2.1.1.2.2
theorem INVd.lwr (I : INVd h nb sb T P pn X) : LwR h P pn := I.2.1.2.2.1
theorem INVd.lwc (I : INVd h nb sb T P pn X) : LwC h nb P pn := I.2.1.2.2.2
theorem INVd.cx (I : INVd h nb sb T P pn X) : CX h nb := ⟨I.lay, I.td, I.rn, I.wn, I.2.2.1.1⟩
theorem INVd.tr (I : INVd h nb sb T P pn X) : TrC h := I.2.2.1.2
theorem INVd.rs (I : INVd h nb sb T P pn X) : RS (h 226) 0 T := I.2.2.2.2.1.1
theorem INVd.cs (I : INVd h nb sb T P pn X) : CS h 72 T := I.2.2.2.2.1.2.1
theorem INVd.tw (I : INVd h nb sb T P pn X) : TW (h 220) T := I.2.2.2.2.1.2.2
theorem INVd.sc (I : INVd h nb sb T P pn X) : ScR h sb := I.2.2.2.2.2.1.1
theorem INVd.ln (I : INVd h nb sb T P pn X) : LnW (h 220) (h 223) := I.2.2.2.2.2.1.2
theorem INVd.sn (I : INVd h nb sb T P pn X) : SnR h 116 (h 226) := I.2.2.2.2.2.2.1.1
theorem INVd.se (I : INVd h nb sb T P pn X) : SeW (h 226) := I.2.2.2.2.2.2.1.2
theorem INVd.mk (I : INVd h nb sb T P pn X) : MkR h := I.2.2.2.2.2.2.2
def QC (h : Mem) (nb sb : Nat) (T : TS) (P : Nat → Wd) (pn : Nat) (X : (Nat → Int) × Nat) (r0 : Int) : Int → Shp → Mem → Prop := fun r sh' h' => r = r0 ∧ sh' = SHP ∧ INVd h' nb sb T P pn X ∧ ∀ i, 214 ≤ i → h' i = h i
def QM (nb sb : Nat) (T : TS) (P : Nat → Wd) (pn : Nat) (X : (Nat → Int) × Nat) (r0 : Int) : Int → Shp → Mem → Prop := fun r sh' h' => r = r0 ∧ sh' = SHP ∧ INVd h' nb sb T P pn X
theorem qc_Rt (I : INVd h nb sb T P pn X) {d : Nat} {y : MI} {a : List PV} {r0 : Int} (c : Cl l d y a SHP h (Rt r0 SHP h)) : Cl l d y a SHP h (QC h nb sb T P pn X r0) := Cl.app c ⟨rfl, rfl, I, fun _ _ => rfl⟩
theorem qc_Rk (I : INVd h nb sb T P pn X) {d : Nat} {y : MI} {a : List PV} {r0 : Int} (c : Cl l d y a SHP h (Rk r0 h nb)) : Cl l d y a SHP h (QC h nb sb T P pn X r0) := by
  refine Cl.imp c (fun r sh' h' q => ?_)
  obtain ⟨q1, q2, F, C⟩ := q
  have hi : ∀ i, 214 ≤ i → h' i = h i := fun i hi => F.1 i (fun x => by
    have hn : (175 :: SKc).all (fun i => decide (i < 214)) = true := by decide +kernel
    have := List.all_eq_true.mp hn i x
    simp at this; omega)
  exact ⟨q1, q2, I.cl (F.lay I.lay) (fun i a _ => F.1 i (skc_lo (by omega))) (fun i a b => F.1 i (skc_lo (by omega))) hi C (I.tr.fr (F.1 210 (by decide)) (F.1 220 (by decide))), hi⟩
theorem qc_Ru (I : INVd h nb sb T P pn X) {d : Nat} {y : MI} {a : List PV} {r0 : Int} (c : Cl l d y a SHP h (Ru r0 h nb)) : Cl l d y a SHP h (QC h nb sb T P pn X r0) := by
  refine Cl.imp c (fun r sh' h' q => ?_)
  obtain ⟨q1, q2, F, C, Tc⟩ := q
  have hi : ∀ i, 214 ≤ i → h' i = h i := fun i hi => F.1 i (by omega) (fun x => by
    have hn : (175 :: SKc).all (fun i => decide (i < 214)) = true := by decide +kernel
    have := List.all_eq_true.mp hn i x
    simp at this; omega)
  exact ⟨q1, q2, I.cl (F.lay I.lay) (fun i a _ => F.1 i (by omega) (skc_lo (by omega))) (fun i a b => F.1 i (by omega) (skc_lo (by omega))) hi C Tc, hi⟩
theorem qc_Rf (I : INVd h nb sb T P pn X) {d : Nat} {y : MI} {a : List PV} {r0 : Int} {cs : List Nat} (hc : cs.all (fun i => decide (211 ≤ i ∧ i ≤ 213)) = true) (c : Cl l d y a SHP h (Rf r0 cs h)) : Cl l d y a SHP h (QC h nb sb T P pn X r0) := by
  refine Cl.imp c (fun r sh' h' q => ?_)
  obtain ⟨q1, q2, F⟩ := q
  have fr : ∀ i, i < 211 ∨ 214 ≤ i → h' i = h i := fun i hi => F i (fun x => by
    have := List.all_eq_true.mp hc i x
    simp at this; omega)
  have L : Lay h' := by
    refine Lay_fr I.lay (fun q hq => ?_)
    have hn : LAYL.all (fun q => decide (q.1 < 211 ∨ 214 ≤ q.1)) = true := by decide +kernel
    rw [fr q.1 (of_decide_eq_true (List.all_eq_true.mp hn q hq))]
  have A : Agr (h 220) (h' 220) := ⟨I.wn, fun j _ => by rw [fr 220 (by decide)]⟩
  exact ⟨q1, q2, I.cl L (fun i a _ => fr i (by omega)) (fun i a b => fr i (by omega)) (fun i a => fr i (by omega)) (Cch_ag I.2.2.1.1 A (fun i a b => fr i (by omega))) (I.tr.fr (fr 210 (by decide)) (fr 220 (by decide))), fun i hi => fr i (by omega)⟩
theorem qc_Fj (I : INVd h nb sb T P pn X) {d : Nat} {y : MI} {a : List PV} {r0 : Int} (c : Cl l d y a SHP h (fun r sh' h' => r = r0 ∧ sh' = SHP ∧ Fj nb h h')) : Cl l d y a SHP h (QC h nb sb T P pn X r0) := by
  refine Cl.imp c (fun r sh' h' q => ?_)
  obtain ⟨q1, q2, L, F⟩ := q
  have hn := I.td.1
  have A : Agr (h 220) (h' 220) := ⟨I.wn, fun j _ => by rw [F 220 (by decide) (by omega)]⟩
  exact ⟨q1, q2, I.cl L (fun i a b => F i (by omega) b) (fun i a b => F i (by omega) (by omega)) (fun i a => F i (by omega) (by omega)) (Cch_ag I.2.2.1.1 A (fun i a b => F i (by omega) (by omega))) (I.tr.fr (F 210 (by decide) (by omega)) (F 220 (by decide) (by omega))), fun i hi => F i (by omega) (by omega)⟩
theorem qm_0 (I : INVd h nb sb T P pn X) {v : Int} : INVd (up h 214 0 v) nb sb T P pn X := I.rf (up_lay0 (Or.inl rfl) I.lay) (fun i a => up_ne (by omega)) (up_nj (by decide)) (up_ne (by decide)) (fun i a b => up_ne (by omega)) (fun j _ => by rw [up_ne (by decide)]) (up_ne (by decide))
theorem qm_Rt (I : INVd h nb sb T P pn X) {d : Nat} {y : MI} {a : List PV} {r0 v : Int} (c : Cl l d y a SHP h (Rt r0 SHP (up h 214 0 v))) : Cl l d y a SHP h (QM nb sb T P pn X r0) := Cl.app c ⟨rfl, rfl, qm_0 I⟩
theorem qm_Rq (I : INVd h nb sb T P pn X) {d : Nat} {y : MI} {a : List PV} {r0 : Int} (c : Cl l d y a SHP h (Rq r0 h)) : Cl l d y a SHP h (QM nb sb T P pn X r0) := by
  refine Cl.imp c (fun r sh' h' q => ?_)
  obtain ⟨q1, q2, F⟩ := q
  have lo : ∀ i, i < 214 → h' i = h i := fun i hi => F.1 i (fun x => by
    have hn : (214 :: SCc).all (fun i => decide (214 ≤ i)) = true := by decide +kernel
    have := List.all_eq_true.mp hn i x
    simp at this; omega)
  refine ⟨q1, q2, I.rf (F.lay I.lay) lo (F.2 2 (by decide)) (F.1 215 (by decide)) (fun i a b => ?_) (fun j _ => by rw [F.1 226 (by decide)]) (F.1 227 (by decide))⟩
  rcases (show i = 219 ∨ i = 220 ∨ i = 221 ∨ i = 222 ∨ i = 223 by omega) with rfl | rfl | rfl | rfl | rfl <;> exact F.1 _ (by decide)
theorem qm_Fr (I : INVd h nb sb T P pn X) {d : Nat} {y : MI} {a : List PV} {r0 v : Int} {cs : List Nat} (hc : cs.all (fun i => decide (228 ≤ i ∧ i ≤ 236)) = true) (c : Cl l d y a SHP h (fun r sh' h' => r = r0 ∧ sh' = SHP ∧ Fr cs (up h 214 0 v) h')) : Cl l d y a SHP h (QM nb sb T P pn X r0) := by
  refine Cl.imp c (fun r sh' h' q => ?_)
  obtain ⟨q1, q2, F⟩ := q
  have I0 := qm_0 I (v := v)
  have fr : ∀ i, i < 228 → h' i = up h 214 0 v i := fun i hi => F i (fun x => by
    have := List.all_eq_true.mp hc i x
    simp at this; omega)
  have L : Lay h' := by
    refine Lay_fr I0.lay (fun q hq => ?_)
    have hn : LAYL.all (fun q => decide (q.1 < 228)) = true := by decide +kernel
    rw [fr q.1 (of_decide_eq_true (List.all_eq_true.mp hn q hq))]
  exact ⟨q1, q2, I0.rf L (fun i a => fr i (by omega)) (by rw [fr 214 (by decide)]) (fr 215 (by decide)) (fun i a b => fr i (by omega)) (fun j _ => by rw [fr 226 (by decide)]) (fr 227 (by decide))⟩
theorem qm_Fz (I : INVd h nb sb T P pn X) {d : Nat} {y : MI} {a : List PV} {r0 : Int} (c : Cl l d y a SHP h (fun r sh' h' => r = r0 ∧ sh' = SHP ∧ Fz 1221 h h')) : Cl l d y a SHP h (QM nb sb T P pn X r0) := by
  refine Cl.imp c (fun r sh' h' q => ?_)
  obtain ⟨q1, q2, F⟩ := q
  have lo : ∀ i, i < 214 → h' i = h i := fun i hi => F.1 i (fun x => by
    have hn : (214 :: 226 :: SCc).all (fun i => decide (214 ≤ i)) = true := by decide +kernel
    have := List.all_eq_true.mp hn i x
    simp at this; omega)
  refine ⟨q1, q2, I.rf (F.lay I.lay) lo (F.2.1 2 (by decide)) (F.1 215 (by decide)) (fun i a b => ?_) (fun j hj => F.2.2 j (Or.inl hj)) (F.1 227 (by decide))⟩
  rcases (show i = 219 ∨ i = 220 ∨ i = 221 ∨ i = 222 ∨ i = 223 by omega) with rfl | rfl | rfl | rfl | rfl <;> exact F.1 _ (by decide)
theorem qm_Fw (I : INVd h nb sb T P pn X) {d : Nat} {y : MI} {a : List PV} {r0 : Int} (c : Cl l d y a SHP h (fun r sh' h' => r = r0 ∧ sh' = SHP ∧ Fw 1221 h h')) : Cl l d y a SHP h (QM nb sb T P pn X r0) := qm_Fz I (Cl.imp c (fun r sh' h' q => ⟨q.1, q.2.1, q.2.2.z⟩))
end ASK

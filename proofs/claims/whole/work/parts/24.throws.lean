/-! the exception that is thrown, and caught -/
def nsee : String := "java/util/NoSuchElementException"
def nsN : List String := ["java/lang/RuntimeException", "java/lang/Exception"]
def lw_xn : List Cond := [.declares (Bundle.init0 "java/lang/RuntimeException"), .declares (Bundle.init0 "java/lang/Exception"), .declares (Bundle.init0 Bundle.tN), .castable nsee nsee]
theorem xn_1 : ∀ w ∈ (vx_at0 RX10 232 nsee nsN).filter (fun w => !goodWord w), w ∈ lw_xn := by decide +kernel
theorem xn_2 : ∀ w ∈ (vx_at0 RX10 232 nsee nsN).filter goodWord, w ∈ tables_1 := by decide +kernel
theorem xn_3 : ∀ w ∈ lw_xn, w ∈ tables_1 ∧ w.onTables = true := by decide +kernel
theorem xn_4 : ∀ w ∈ Cond.classLink RX10 230 nsee :: Cond.initialized nsee :: vx_at0 RX10 232 nsee nsN, vx_ot w = true := by decide +kernel
theorem xn_5 : Cond.classLink RX10 230 nsee ∈ tables_1 ∧ Cond.initialized nsee ∈ tables_1 := ⟨by decide +kernel, by decide +kernel⟩
/-- what a throw needs of the start -/
def Zx (A : Nat → Prop) (s : State) (H : Heap) : Prop := (∀ w ∈ lw_xn, va_Nw w s) ∧ vx_Zq Bundle.tN "UNASSIGNED_STACK" Bundle.steD A s H ∧ vx_Zq Bundle.tN "SUPPRESSED_SENTINEL" Bundle.listD A s H
theorem Zx.warm {A : Nat → Prop} {s U : State} {H : Heap} (hW : s.WarmedH U.vm) (h : Zx A s H) : Zx A U H := by
  refine ⟨fun w hw => ?_, h.2.1.moved hW.alike, h.2.2.moved hW.alike⟩
  have h1 := h.1 w hw
  simp only [lw_xn, List.mem_cons, List.not_mem_nil, or_false] at hw
  rcases hw with rfl | rfl | rfl | rfl
  · exact va_Nw.warmD hW h1
  · exact va_Nw.warmD hW h1
  · exact va_Nw.warmD hW h1
  · exact va_Nw.warmC hW h1
theorem Zx.kept {A : Nat → Prop} {s : State} {H H1 : Heap} (h : Zx A s H) (hq : ∀ a : Nat, a < H.size → ¬ A a → H1[a]? = H[a]?) : Zx A s H1 := ⟨h.1, h.2.1.kept hq, h.2.2.kept hq⟩
theorem Zx.narrow {A B : Nat → Prop} {s : State} {H : Heap} (h : Zx A s H) (hAB : ∀ q, B q → A q) : Zx B s H := ⟨h.1, h.2.1.narrow hAB, h.2.2.narrow hAB⟩
/-- what is behind a throw -/
def xV (D : va_G) (dA : Nat → ClassId) (A : Nat → Prop) (ad0 : Nat → Nat) (sz0 : Nat) (X : Shp → Mem → Prop) : String → State → State → Prop := fun E st t =>
  E = nsee ∧ (∃ (sh : Shp) (h : Mem) (ad : Nat → Nat), X sh h ∧ can_m sh h ∧ sz0 ≤ sh.length ∧ (∀ i, i < sz0 → ad i = ad0 i) ∧ va_P D vwCl (em_w dA ad sh h) t.heap ∧ va_D A (em_w dA ad sh h)) ∧ va_F A st t
/-- as V, of a method that may throw: then X holds -/
def VX (l : Launch) (d K N : Nat) (y : MI) (k n pc : Nat) (Q : Int → Shp → Mem → Prop) (X : Shp → Mem → Prop) : KT := fun ls st sh h =>
  ∀ (p : Program) (e : Env) (s : State) (m : MethodId) (args : Array Value) (below : List Frame) (meth : Method) (c : Code) (D : va_G) (dA : Nat → ClassId) (A : Nat → Prop) (ad0 : Nat → Nat) (sz0 : Nat), Cx y p s m args meth c D dA A → (∀ x ∈ c.exceptionTable.toList, False) → Zx A s s.heap → l.stackTraces = false → k ≤ K → n ≤ N →
    G p l e (rmV d K N) s m args below meth c D dA A (vx_MQ below (qV D dA A ad0 sz0 Q y.2.2.2) (xV D dA A ad0 sz0 X) args s K N A) y.2.2.1 ad0 sz0 k n pc ls st sh h
section GT
variable {p : Program} {l : Launch} {e : Env} {s : State} {m : MethodId} {args : Array Value} {below : List Frame} {meth : Method} {c : Code} {D : va_G} {dA : Nat → ClassId} {A : Nat → Prop} {T : State → Prop} {y : MI} {ad0 : Nat → Nat} {sz0 k n pc : Nat} {kk kt kf : KT} {d K N K1 N1 : Nat} {y1 : MI}
theorem G_vx {R : Room} {Qc : Array Value → State → Outcome → State → Prop} {XC : String → State → State → Prop} {F : Addr → Prop} {ls st : List PV} {sh : Shp} {h : Mem} {nL : Nat} (g : G p l e R s m args below meth c D dA A (MQ below Qc args s K N F) nL ad0 sz0 k n pc ls st sh h) : G p l e R s m args below meth c D dA A (vx_MQ below Qc XC args s K N F) nL ad0 sz0 k n pc ls st sh h :=
  fun ad H locs lsA g1 g2 g3 g4 g5 g6 g7 g8 g9 => vx_ret (g ad H locs lsA g1 g2 g3 g4 g5 g6 g7 g8 g9)
def x_thr (X : Shp → Mem → Prop) : KT := fun _ st sh h => ct st ≤ 8 ∧ X sh h
theorem S_thr {X : Shp → Mem → Prop} {Q : Int → Shp → Mem → Prop} (C : Cx y p s m args meth c D dA A) (hy : y.1.cls = RX10) (hE : ∀ x ∈ c.exceptionTable.toList, False) (hZ : Zx A s s.heap) (hl : l.stackTraces = false)
    (d0 : decode y.2.1 pc = .ok (.new 230, 3)) (d3 : decode y.2.1 (pc + 3) = .ok (.dup, 1)) (d4 : decode y.2.1 (pc + 4) = .ok (.invokespecial 232, 3)) (d7 : decode y.2.1 (pc + 7) = .ok (.athrow, 1)) (hk : k + 1 ≤ K) (hn : n + 6 ≤ N) :
    ∀ ls st sh h, x_thr X ls st sh h → G p l e (rmV (d + 6) K N) s m args below meth c D dA A (vx_MQ below (qV D dA A ad0 sz0 Q y.2.2.2) (xV D dA A ad0 sz0 X) args s K N A) y.2.2.1 ad0 sz0 k n pc ls st sh h := by
  intro ls st sh h hk0 ad H locs lsA g1 g2 g3 g4 g5 g6 g7 g8 g9
  obtain ⟨hx, hb, hr, hml, hown, hts, hK, hlk, hnm, hN, hA⟩ := id C
  rw [hy] at hown
  have hat : ∀ w ∈ vx_at0 RX10 232 nsee nsN, w.before args s = true := vx_hat (B := lw_xn) (fun w hw => hts w (in_g (xn_2 w hw) (List.mem_filter.mp hw).2)) xn_1 (fun w hw => va_Nw.use (xn_3 w hw).2 (hZ.1 w hw))
  refine vx_throw0 (names := nsN) (cls := nsee) hx hb hl hown (by decide +kernel) (by decide +kernel) (hts _ (in_g xn_5.1 rfl)) (hts _ (in_g xn_5.2 rfl)) hat xn_4 hZ.2.1 hZ.2.2 g9 (g3.1.trans hml.symm) d0 d3 d4 d7 (fun x hx => (hE x hx).elim) (by show 5 < d + 6; omega) (by rw [ct_of]; show ct st + (13 * 3 + 42) ≤ 64 * (d + 6); have := hk0.1; omega) hk hn hlk (fun t hal hsz hkp => ?_) g9.2.2 hk hn
  refine ⟨rfl, ⟨sh, h, ad, hk0.2, g6, g2, g1, fun i q hq => (g7 i q hq).kept (hkp q.1 (g7 i q hq).lt), g8⟩, Nat.le_trans g9.1 hsz, fun q h1 h2 => ?_⟩
  rw [hkp q (Nat.lt_of_lt_of_le h1 g9.1)]
  exact g9.2.1 q h1 h2
end GT

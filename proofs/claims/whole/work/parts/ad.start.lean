/-! the claim out of the law's walk -/
def R_law : String := "DelayBoundsLaw"
def lw_P (b : Addr) (xs : List Int32) (args : Array Value) (s : State) : Prop := args = #[.ref b] ∧ s.IntsAt b xs ∧ xs.length ≤ 3584 ∧ (Jvm.Cond.and given_1 narrow_1).before args s = true
def lw_Q (_ : Array Value) (s : State) (o : Outcome) (t : State) : Prop := o = .returned (some (.int 1)) ∧ Framed s o t [] 601024 7293033
def lw_Z (below : List Frame) (a : Array Value) (s : State) : State → Prop := fun t => ∃ o, t.status = .running ∧ Ended t below o ∧ lw_Q a s o t
def lw_At (p : Program) (s : State) (m : MethodId) (meth : Method) (c : Code) (b L : Nat) (xs : Nat → Int32) : Prop :=
  p.tables.exec = Jvm.exec ∧ c.code = code ∧ meth.sig.returnType = ret ∧ c.maxLocals = 7 ∧ s.vm.findClass R_law = some m.cls ∧ (∀ w ∈ lw_tbl, w.before #[Value.ref b] s = true) ∧ va_X b L xs s s.heap ∧ b < s.heap.size ∧ meth.locks = false ∧ (Jvm.Cond.and given_1 narrow_1).before #[Value.ref b] s = true
theorem arr_ty {s : State} {args : Array Value} {ty : FieldType} (h : (Cond.arrayClass ty).before args s = true) : ∃ (cA : ClassId) (kA : Class) (comp : ClassId), s.vm.findClass ("[" ++ ty.toString) = some cA ∧ s.vm.classes[cA]? = some kA ∧ kA.kind = .array comp ty := Cond.arrayClass_spec h
theorem arr_in : Cond.arrayClass .int ∈ lw_tbl ∧ Cond.arrayClass .long ∈ lw_tbl ∧ Cond.arrayClass .boolean ∈ lw_tbl ∧ Cond.arrayClass .char ∈ lw_tbl := ⟨by decide +kernel, by decide +kernel, by decide +kernel, by decide +kernel⟩
theorem arr_ov {s : State} {args : Array Value} {C : String} (h : (Cond.arrayOver (.object C)).before args s = true) : ∃ (cA : ClassId) (kA : Class) (comp : ClassId), s.vm.classes[cA]? = some kA ∧ kA.kind = .array comp (.object C) ∧ s.vm.findClass C = some comp ∧ s.vm.findClass ("[" ++ (FieldType.object C).toString) = some cA := by
  obtain ⟨comp, c, k, h1, h2, h3, h4, h5⟩ := Cond.arrayOver_spec h
  exact ⟨c, k, comp, h3, h4, h1, h5⟩
theorem arr_oi {s : State} {args : Array Value} (h : (Cond.arrayOver (.array .int)).before args s = true) : ∃ (cA : ClassId) (kA : Class) (comp : ClassId), s.vm.findClass ("[" ++ (FieldType.array .int).toString) = some cA ∧ s.vm.classes[cA]? = some kA ∧ kA.kind = .array comp (.array .int) := by
  simp only [Cond.before, Cond.holds, Cond.value] at h
  have h := beq_iff_eq.mp h
  obtain ⟨comp, h1, h⟩ := Option.bind_eq_some_iff.mp h
  obtain ⟨c, h2, h⟩ := Option.bind_eq_some_iff.mp h
  obtain ⟨k, h3, h⟩ := Option.map_eq_some_iff.mp h
  split at h
  · rename_i cp ty hk
    rw [Bool.and_eq_true] at h
    have e1 := of_decide_eq_true h.1
    have e2 := of_decide_eq_true h.2
    exact ⟨c, k, cp, e2, h3, by rw [hk, e1]⟩
  · exact absurd h (by decide)
theorem nst_ok : (∀ w ∈ lw_nest, w ∈ lw_tbl) ∧ (∀ w ∈ lw_nest, w.onTables = true) ∧ (∀ w ∈ lw_xn, w ∈ lw_tbl) ∧ (∀ w ∈ lw_xn, w.onTables = true) ∧ (∀ ty ∈ lw_over, Cond.arrayOver ty ∈ lw_tbl) := ⟨by decide +kernel, by decide +kernel, by decide +kernel, by decide +kernel, by decide +kernel⟩
theorem rm_ok : (rmV 1000 601024 7293033).frames ≤ room_1.frames ∧ (rmV 1000 601024 7293033).locals ≤ room_1.locals ∧ (rmV 1000 601024 7293033).cells ≤ room_1.cells ∧ (rmV 1000 601024 7293033).slots ≤ room_1.slots := by decide
theorem zq_ok : Cond.laysStatic Bundle.tN "UNASSIGNED_STACK" Bundle.steD ∈ lw_tbl ∧ Cond.initialized Bundle.tN ∈ lw_tbl ∧ Cond.laysStatic Bundle.tN "SUPPRESSED_SENTINEL" Bundle.listD ∈ lw_tbl := ⟨by decide +kernel, by decide +kernel, by decide +kernel⟩
theorem axc {α β : Type} {r : α → β → Prop} (h : ∀ x, ∃ y, r x y) : ∃ f : α → β, ∀ x, r x (f x) := ⟨fun x => Classical.choose (h x), fun x => Classical.choose_spec (h x)⟩
theorem st_cl {s : State} {b : Nat} (hts : ∀ w ∈ lw_tbl, w.before #[Value.ref b] s = true) : ∃ f : Nat → ClassId × (Nat → Nat), ∀ k, ∀ q, vwCl[k]? = some q → u_Kn s q.1 q.2.1 q.2.2 (f k).1 (f k).2 := by
  have htg : ∀ w ∈ lw_g, w.before #[Value.ref b] s = true := fun w hw => hts w (List.mem_filter.mp hw).1
  have ok : ∀ {C : String} {T : u_T} {N n : Nat}, (∀ w ∈ u_ws C T N, w ∈ lw_g) → (Cond.instantiable C n).before #[Value.ref b] s = true → ∃ y : ClassId × (Nat → Nat), u_Kn s C T N y.1 y.2 := fun hin hi => by
    obtain ⟨a, i, h⟩ := u_known htg hin hi
    exact ⟨(a, i), h⟩
  have cs : ∀ {C : String} {T : u_T} {N k : Nat}, vwCl[k]? = some (C, T, N) → (∃ y : ClassId × (Nat → Nat), u_Kn s C T N y.1 y.2) → ∃ y : ClassId × (Nat → Nat), ∀ q, vwCl[k]? = some q → u_Kn s q.1 q.2.1 q.2.2 y.1 y.2 := fun hk hy => by
    obtain ⟨y, hy⟩ := hy
    refine ⟨y, fun q hq => ?_⟩
    rw [hk] at hq
    cases hq
    exact hy
  refine axc (r := fun (k : Nat) (y : ClassId × (Nat → Nat)) => ∀ q : vw_C, vwCl[k]? = some q → u_Kn s q.1 q.2.1 q.2.2 y.1 y.2) (fun k => ?_)
  match k with
  | 0 => exact cs rfl (ok in_X0 (hts (.instantiable RX0 4) (by decide +kernel)))
  | 1 => exact cs rfl (ok in_X1 (hts (.instantiable RX1 3) (by decide +kernel)))
  | 2 => exact cs rfl (ok in_X2 (hts (.instantiable RX2 1) (by decide +kernel)))
  | 3 => exact cs rfl (ok in_X3 (hts (.instantiable RX3 15) (by decide +kernel)))
  | 4 => exact cs rfl (ok in_X4 (hts (.instantiable RX4 3) (by decide +kernel)))
  | 5 => exact cs rfl (ok in_X5 (hts (.instantiable RX5 3) (by decide +kernel)))
  | 6 => exact cs rfl (ok in_X6 (hts (.instantiable RX6 9) (by decide +kernel)))
  | 7 => exact cs rfl (ok in_X7 (hts (.instantiable RX7 4) (by decide +kernel)))
  | 8 => exact cs rfl (ok in_X8 (hts (.instantiable RX8 9) (by decide +kernel)))
  | 9 => exact cs rfl (ok in_X9 (hts (.instantiable RX9 11) (by decide +kernel)))
  | 10 => exact cs rfl (ok in_X10 (hts (.instantiable RX10 17) (by decide +kernel)))
  | 11 => exact cs rfl (ok in_X11 (hts (.instantiable RX11 33) (by decide +kernel)))
  | k + 12 => exact ⟨(0, fun _ => 0), fun q hq => absurd hq (by simp [vwCl])⟩
theorem st_ar {s : State} {b : Nat} (hts : ∀ w ∈ lw_tbl, w.before #[Value.ref b] s = true) : ∃ dA : Nat → ClassId, ∀ k, k < 8 → ArrOfT s (dA k) (a_ty k) ∧ va_RA s (dA k) (a_ty k) := by
  refine axc (r := fun k (c : ClassId) => k < 8 → ArrOfT s c (a_ty k) ∧ va_RA s c (a_ty k)) (fun k => ?_)
  have pr : ∀ {ty : FieldType}, Cond.arrayClass ty ∈ lw_tbl → (∀ cA : ClassId, s.vm.findClass ("[" ++ ty.toString) = some cA → va_RA s cA ty) → ∃ c : ClassId, ArrOfT s c ty ∧ va_RA s c ty := fun hm hra => by
    obtain ⟨cA, kA, comp, h1, h2, h3⟩ := arr_ty (hts _ hm)
    exact ⟨cA, fun N z => ⟨fun k h => (by cases h), kA, h2, comp, h3⟩, hra _ h1⟩
  have po : ∀ {C : String}, FieldType.object C ∈ lw_over → ∃ c : ClassId, ArrOfT s c (.object C) ∧ va_RA s c (.object C) := fun hm => by
    obtain ⟨cA, kA, comp, h1, h2, h3, h4⟩ := arr_ov (hts _ (nst_ok.2.2.2.2 _ hm))
    exact ⟨cA, fun N z => ⟨fun k h => (by cases h), kA, h1, comp, h2⟩, ⟨kA, comp, h1, h2, h3, h4⟩⟩
  match k with
  | 0 => obtain ⟨c, h⟩ := pr arr_in.1 (fun _ h => h); exact ⟨c, fun _ => h⟩
  | 1 => obtain ⟨c, h⟩ := pr arr_in.2.1 (fun _ h => h); exact ⟨c, fun _ => h⟩
  | 2 => obtain ⟨c, h⟩ := pr arr_in.2.2.1 (fun _ h => h); exact ⟨c, fun _ => h⟩
  | 3 => obtain ⟨c, h⟩ := pr arr_in.2.2.2 (fun _ h => h); exact ⟨c, fun _ => h⟩
  | 4 =>
    obtain ⟨cA, kA, comp, h1, h2, h3⟩ := arr_oi (hts _ (nst_ok.2.2.2.2 (.array .int) (by decide +kernel)))
    exact ⟨cA, fun _ => ⟨fun N z => ⟨fun k h => (by cases h), kA, h2, comp, h3⟩, h1⟩⟩
  | 5 => obtain ⟨c, h⟩ := po (C := "DelayBounds$Curve") (by decide +kernel); exact ⟨c, fun _ => h⟩
  | 6 => obtain ⟨c, h⟩ := po (C := "DelayBounds$Traffic") (by decide +kernel); exact ⟨c, fun _ => h⟩
  | 7 => obtain ⟨c, h⟩ := po (C := "DelayBounds$Sightings") (by decide +kernel); exact ⟨c, fun _ => h⟩
  | k + 8 => exact ⟨0, fun h => absurd h (by omega)⟩
def tpM : Term := .string "DelayBounds$Tape" 19
theorem tp_fl : (Cond.exactly tpM "java/lang/String" ∈ flatC (Jvm.Cond.and given_1 narrow_1) ∧ Cond.eq (.field tpM "java/lang/String" "coder" "B") (.int 0) ∈ flatC (Jvm.Cond.and given_1 narrow_1)) ∧ (Cond.arrayOf (.field tpM "java/lang/String" "value" "[B") .byte ∈ flatC (Jvm.Cond.and given_1 narrow_1) ∧ Cond.eq (.length (.field tpM "java/lang/String" "value" "[B")) (.int (Int32.ofNat 118)) ∈ flatC (Jvm.Cond.and given_1 narrow_1)) := by decide +kernel
theorem tp_el : ∀ j : Nat, j < 118 → Cond.eq (.elem (.field tpM "java/lang/String" "value" "[B") (.int (Int32.ofNat j))) (.int (tpB.getD j 0)) ∈ flatC (Jvm.Cond.and given_1 narrow_1) := by decide +kernel
theorem tp_st : (Cond.eq (.static RJ0 "COMPACT_STRINGS" "Z") (.int 1) ∈ flatC (Jvm.Cond.and given_1 narrow_1) ∧ Cond.isRef (.static RJ3 "SIOOBE_FORMATTER" "Ljava/util/function/BiFunction;") ∈ flatC (Jvm.Cond.and given_1 narrow_1)) ∧ (Cond.isRef (.static Bundle.tN "UNASSIGNED_STACK" Bundle.steD) ∈ flatC (Jvm.Cond.and given_1 narrow_1) ∧ Cond.isRef (.static Bundle.tN "SUPPRESSED_SENTINEL" Bundle.listD) ∈ flatC (Jvm.Cond.and given_1 narrow_1)) := by decide +kernel
theorem tp_tb : (Cond.stringRef RX8 19 tpT ∈ lw_tbl ∧ Cond.laysStatic RJ0 "COMPACT_STRINGS" "Z" ∈ lw_tbl ∧ Cond.initialized RJ0 ∈ lw_tbl) ∧ Cond.laysStatic RJ3 "SIOOBE_FORMATTER" "Ljava/util/function/BiFunction;" ∈ lw_tbl ∧ Cond.initialized RJ3 ∈ lw_tbl := by decide +kernel
theorem st_str {s : State} {b : Nat} (hts : ∀ w ∈ lw_tbl, w.before #[Value.ref b] s = true) (hgv : (Jvm.Cond.and given_1 narrow_1).before #[Value.ref b] s = true) : ∃ (ak av : Nat) (af : Option Nat), Sx ak av af (fun q => s.heap.size ≤ q) s s.heap := by
  have hf := flat_of_before _ hgv
  have hA : ∀ a : Nat, a < s.heap.size → ¬ (fun q : Nat => s.heap.size ≤ q) a := fun a h => Nat.not_le.mpr h
  have z0 : ∀ i : Nat, i < 1 → i = 0 := fun i h => by omega
  have y1 : ∀ i : Nat, i < 1 → ([118] : List Nat).getD i 0 < 2 ^ 31 := fun i hi => by
    obtain rfl := z0 i hi
    decide
  have y2 : ∀ i : Nat, i < 1 → (Cond.eq (.length (.field tpM "java/lang/String" "value" "[B")) (.int (Int32.ofNat (([118] : List Nat).getD i 0)))).before #[Value.ref b] s = true := fun i hi => by
    obtain rfl := z0 i hi
    exact hf _ tp_fl.2.2
  have y3 : ∀ i : Nat, i < 1 → ∀ j : Nat, j < ([118] : List Nat).getD i 0 → (Cond.eq (.elem (.field tpM "java/lang/String" "value" "[B") (.int (Int32.ofNat j))) (.int ((([tpB] : List (List Int32)).getD i []).getD j 0))).before #[Value.ref b] s = true := fun i hi j hj => by
    obtain rfl := z0 i hi
    exact hf _ (tp_el j hj)
  obtain ⟨adK, adV, h1, h2⟩ := vk_Sof (args := #[Value.ref b]) (s := s) (N := 1) (tm := fun _ => tpM) (len := [118]) (byt := [tpB]) (A := fun q => s.heap.size ≤ q) y1 (fun i _ => hf _ tp_fl.1.1) (fun i _ => hf _ tp_fl.1.2) (fun i _ => hf _ tp_fl.2.1) y2 y3 (fun i j hi hj hij => absurd ((z0 i hi).trans (z0 j hj).symm) hij) hA
  have hc : va_Z RJ0 "COMPACT_STRINGS" "Z" (.int 1) (fun q => s.heap.size ≤ q) s s.heap := va_Zof (hts _ tp_tb.1.2.1) (hts _ tp_tb.1.2.2) (va_eqt (hf _ tp_st.1.1)) hA
  have hk : vk_S 1 [118] [tpB] (fun _ => adK 0) (fun _ => adV 0) (fun q => s.heap.size ≤ q) s s.heap := ⟨fun i hi => by
    have e : i = 0 := by omega
    subst e
    exact h1.1 0 hi, fun i j hi hj _ => by omega⟩
  have hr : vk_R RX8 19 tpT (adK 0) s := vk_R.of (hts _ tp_tb.1.1) (h2 0 (by decide))
  rcases va_Zqof (hts _ tp_tb.2.1) (hts _ tp_tb.2.2) (hf _ tp_st.1.2) hA with hz | ⟨t, hz⟩
  · exact ⟨adK 0, adV 0, none, hk, hr, hc, hz⟩
  · exact ⟨adK 0, adV 0, some t, hk, hr, hc, hz⟩
set_option maxHeartbeats 4000000 in
theorem whole_start {p : Program} {e : Env} {s : State} {m : MethodId} {below : List Frame} {meth : Method} {c : Code} (l : Launch) (hst : l.stackTraces = false) {b L : Nat} {xs : Nat → Int32} (hL : L ≤ 3584) (hmn : meth.name = yL_law.name) (C0 : lw_At p s m meth c b L xs) : W p l e room_1 s m #[Value.ref b] below meth c s.heap [] 0 0 (lw_Z below #[Value.ref b] s) (entryFrame m ([Value.ref b] : List Value).toArray 7) := by
  obtain ⟨hx, hb, hr, hml, hown, hts, hX, hbl, hlocks, hgv⟩ := id C0
  have hf := flat_of_before _ hgv
  have htg : ∀ w ∈ lw_g, w.before #[Value.ref b] s = true := fun w hw => hts w (List.mem_filter.mp hw).1
  obtain ⟨f, hfc⟩ := st_cl hts
  obtain ⟨dA, hdA⟩ := st_ar hts
  obtain ⟨ak, av, af, hS⟩ := st_str hts hgv
  have hA : ∀ a : Nat, a < s.heap.size → ¬ (fun q : Nat => s.heap.size ≤ q) a := fun a h => Nat.not_le.mpr h
  have hK : va_K (fun k => (f k).1, fun k => (f k).2) vwCl (tysL dA) s := by
    refine ⟨hfc, fun k q hq => ?_⟩
    have hk : k < 8 := by
      rcases Nat.lt_or_ge k 8 with h | h
      · exact h
      · rw [List.getElem?_eq_none (by simp [tysL]; exact h)] at hq; cases hq
    rw [tysL_at dA hk] at hq
    cases hq
    exact hdA k hk
  have hN : Nx s := ⟨fun w hw => va_Nw.of (nst_ok.2.1 w hw) (hts w (nst_ok.1 w hw)), fun ty hty => by
    have h := hts _ (nst_ok.2.2.2.2 ty hty)
    simp only [Cond.before, Cond.holds, Cond.value] at h ⊢
    exact h⟩
  have hZ : Zx (fun q => s.heap.size ≤ q) s s.heap := ⟨fun w hw => va_Nw.of (nst_ok.2.2.2.1 w hw) (hts w (nst_ok.2.2.1 w hw)), vx_Zqof (hts _ zq_ok.1) (hts _ zq_ok.2.1) (hf _ tp_st.2.1) hA, vx_Zqof (hts _ zq_ok.2.2) (hts _ zq_ok.2.1) (hf _ tp_st.2.2) hA⟩
  have C : Cx (yL_law, cL_law, 7, ret) p s m #[Value.ref b] meth c (fun k => (f k).1, fun k => (f k).2) dA (fun q => s.heap.size ≤ q) := ⟨hx, hb, hr, hml, hown, htg, hK, hlocks, hmn, hN, fun _ h => h⟩
  have em : ([(3, (b : Int))] : List PV).map (em_v (fun _ => 0)) = [Value.ref b] := by rw [List.map_cons, em_3]; rfl
  have hl := lv_entry ([Value.ref b]) (n := 7) (Nat.le_of_ble_eq_true rfl)
  rw [lg_entry_eq]
  generalize (lg_sl ([Value.ref b]) ++ List.replicate (7 - (lg_sl ([Value.ref b])).length) Slot.unset).toArray = ls at hl ⊢
  rw [← em] at hl
  refine W.roomy rm_ok.1 rm_ok.2.1 rm_ok.2.2.1 rm_ok.2.2.2 ?_
  exact law_str hL (fun _ _ => 0) p e s m below meth c (fun k => (f k).1, fun k => (f k).2) dA (fun _ => 0) 0 C hS hZ hst hX hbl (Nat.zero_le _) (Nat.zero_le _) (fun _ => 0) s.heap [] ls (fun _ h => absurd h (Nat.not_lt_zero _)) (Nat.le_refl _) (ent_lr hl) (ent_can (nL := 7) (a := [(3, (b : Int))]) (can_cons can_3 (fun _ h => nomatch h))) (fun _ h => nomatch h) (fun i kn h => by simp at h) (fun k q h => by simp [em_w] at h) ⟨fun i j p q h => by simp [em_w] at h, fun k q h => by simp [em_w] at h⟩ va_S.rf

/-! the constant String of Tape(): what is known of it, the rules for it -/
def tpT : String := "curve is again adds node serves flow sends over loses tick put blind first fifo fair not and or queue here which time "
def tpB : List Int32 := [99, 117, 114, 118, 101, 32, 105, 115, 32, 97, 103, 97, 105, 110, 32, 97, 100, 100, 115, 32, 110, 111, 100, 101, 32, 115, 101, 114, 118, 101, 115, 32, 102, 108, 111, 119, 32, 115, 101, 110, 100, 115, 32, 111, 118, 101, 114, 32, 108, 111, 115, 101, 115, 32, 116, 105, 99, 107, 32, 112, 117, 116, 32, 98, 108, 105, 110, 100, 32, 102, 105, 114, 115, 116, 32, 102, 105, 102, 111, 32, 102, 97, 105, 114, 32, 110, 111, 116, 32, 97, 110, 100, 32, 111, 114, 32, 113, 117, 101, 117, 101, 32, 104, 101, 114, 101, 32, 119, 104, 105, 99, 104, 32, 116, 105, 109, 101, 32]
def RJ0 : String := "java/lang/String"
def RJ1 : String := "java/lang/StringLatin1"
def RJ3 : String := "jdk/internal/util/Preconditions"
def Sx (ak av : Nat) (af : Option Nat) (A : Nat → Prop) (s : State) (H : Heap) : Prop := vk_S 1 [118] [tpB] (fun _ => ak) (fun _ => av) A s H ∧ vk_R RX8 19 tpT ak s ∧ va_Z RJ0 "COMPACT_STRINGS" "Z" (.int 1) A s H ∧ va_Z RJ3 "SIOOBE_FORMATTER" "Ljava/util/function/BiFunction;" (va_rf af) A s H
theorem Sx.warm {ak av : Nat} {af : Option Nat} {A : Nat → Prop} {s U : State} {H : Heap} (hW : s.WarmedH U.vm) (h : Sx ak av af A s H) : Sx ak av af A U H := ⟨h.1.moved hW.alike, h.2.1.warm hW, h.2.2.1.moved hW.alike, h.2.2.2.moved hW.alike⟩
theorem Sx.kept {ak av : Nat} {af : Option Nat} {A : Nat → Prop} {s : State} {H H1 : Heap} (h : Sx ak av af A s H) (hq : ∀ a : Nat, a < H.size → ¬ A a → H1[a]? = H[a]?) : Sx ak av af A s H1 := ⟨h.1.kept hq, h.2.1, h.2.2.1.kept hq, h.2.2.2.kept hq⟩
theorem Sx.narrow {ak av : Nat} {af : Option Nat} {A B : Nat → Prop} {s : State} {H : Heap} (h : Sx ak av af A s H) (hAB : ∀ q, B q → A q) : Sx ak av af B s H := ⟨h.1.narrow hAB, h.2.1, h.2.2.1.narrow hAB, h.2.2.2.narrow hAB⟩
/-- as V, where the constant String stands -/
def VS (l : Launch) (ak av : Nat) (af : Option Nat) (d K N : Nat) (y : MI) (k n pc : Nat) (Q : Int → Shp → Mem → Prop) : KT := fun ls st sh h =>
  ∀ (p : Program) (e : Env) (s : State) (m : MethodId) (args : Array Value) (below : List Frame) (meth : Method) (c : Code) (D : va_G) (dA : Nat → ClassId) (A : Nat → Prop) (ad0 : Nat → Nat) (sz0 : Nat), Cx y p s m args meth c D dA A → Sx ak av af A s s.heap → k ≤ K → n ≤ N →
    G p l e (rmV d K N) s m args below meth c D dA A (MQ below (qV D dA A ad0 sz0 Q y.2.2.2) args s K N A) y.2.2.1 ad0 sz0 k n pc ls st sh h
theorem V.s {l : Launch} {ak av : Nat} {af : Option Nat} {d K N : Nat} {y : MI} {k n pc : Nat} {Q : Int → Shp → Mem → Prop} {ls st : List PV} {sh : Shp} {h : Mem} (v : V l d K N y k n pc Q ls st sh h) : VS l ak av af d K N y k n pc Q ls st sh h :=
  fun p e s m args below meth c D dA A ad0 sz0 C _ hk hn => v p e s m args below meth c D dA A ad0 sz0 C hk hn
def pS (ak av : Nat) (af : Option Nat) (D : va_G) (dA : Nat → ClassId) (ad : Nat → Nat) (sh : Shp) (h : Mem) (sz : Nat) (a : List PV) : Array Value → State → Prop := va_Pc (a.map (em_v ad)) (fun U => U.heap.size = sz ∧ va_P D vwCl (em_w dA ad sh h) U.heap ∧ va_K D vwCl (tysL dA) U ∧ va_D (fun _ => True) (em_w dA ad sh h) ∧ Nx U ∧ Sx ak av af (va_A (em_w dA ad sh h) sz) U U.heap)
theorem pS_blind {ak av : Nat} {af : Option Nat} {D : va_G} {dA : Nat → ClassId} {ad : Nat → Nat} {sh : Shp} {h : Mem} {sz : Nat} {a : List PV} : FrameBlind (pS ak av af D dA ad sh h sz a) := by
  intro v U g mk q
  obtain ⟨q0, q1, qP, qK, qD, qN, qS⟩ := q
  exact ⟨q0, q1, qP, va_K.moved (u := U) (U := U.calling g mk v) (Vm.Alike.refl U.vm) qK, qD, Nx.warm (s := U) (U := U.calling g mk v) (State.WarmedH.refl U) qN, Sx.warm (s := U) (U := U.calling g mk v) (State.WarmedH.refl U) qS⟩
theorem VS.met {l : Launch} {ak av : Nat} {af : Option Nat} {d K N : Nat} {y : MI} {Q : Int → Shp → Mem → Prop} {a : List PV} {sh : Shp} {h : Mem} (hv : VS l ak av af d K N y 0 0 0 Q (ent y.2.2.1 a) [] sh h) (hpl : plainName y.1.cls = true) (hlen : (ent0 a).length ≤ y.2.2.1) (hca : can_l sh.length a) (hcm : can_m sh h) (D : va_G) (dA : Nat → ClassId) (ad : Nat → Nat) (sz : Nat) :
    Met l y.1 (wsY y) (rmV d K N) (pS ak av af D dA ad sh h sz a) (qV D dA (va_A (em_w dA ad sh h) sz) ad sh.length Q y.2.2.2) K N (va_A (em_w dA ad sh h) sz) := by
  refine Met.ofW (cc := y.2.1) (maxL := y.2.2.1) (ret := y.2.2.2) hpl rfl ?_
  intro p e s m args below meth c s₁ B hml hv0
  obtain ⟨rfl, hsz, hP, hK, hD0, hN, hS⟩ := hv0
  have hts := atoms_spec (ws := wsY y) B.pre
  subst hsz
  have hD := hD0.self (sz := s.heap.size)
  have C : Cx y p s m (a.map (em_v ad)).toArray meth c D dA (va_A (em_w dA ad sh h) s.heap.size) := ⟨B.exec, B.bytes, B.returns, hml, findClass_of_methodNamed B.named, fun w hw => hts w (List.mem_cons_of_mem _ hw), hK, B.notSynchronized, (name_of_methodNamed B.named B.method).1, hN, fun q h => Or.inr h⟩
  have hl := lv_entry (a.map (em_v ad)) (n := y.2.2.1) (by rw [ent0_len]; exact hlen)
  rw [lg_entry_eq]
  generalize (lg_sl (a.map (em_v ad)) ++ List.replicate (y.2.2.1 - (lg_sl (a.map (em_v ad))).length) Slot.unset).toArray = ls at hl ⊢
  exact hv p e s m _ below meth c D dA _ ad sh.length C hS (Nat.zero_le _) (Nat.zero_le _) ad s.heap [] ls (fun _ _ => rfl) (Nat.le_refl _) (ent_lr hl) (ent_can hca) (fun _ h => nomatch h) hcm hP hD va_S.rf
section GS
variable {p : Program} {l : Launch} {e : Env} {R : Room} {s : State} {m : MethodId} {args : Array Value} {below : List Frame} {meth : Method} {c : Code} {D : va_G} {dA : Nat → ClassId} {A : Nat → Prop} {T : State → Prop} {y : MI} {ad0 : Nat → Nat} {sz0 k n pc : Nat} {kk kt kf : KT} {d K N K1 N1 : Nat} {y1 : MI} {ak av : Nat} {af : Option Nat} {Q : Int → Shp → Mem → Prop}
theorem em_3 (ad : Nat → Nat) (x : Nat) : em_v ad (3, (x : Int)) = .ref x := by
  show Value.ref (x : Int).toNat = .ref x
  rw [Int.toNat_natCast]
theorem can_3 {M : Nat} {x : Int} : can_v M (3, x) := ⟨fun e => absurd (show (3 : Nat) = 0 from e) (by decide), fun e => absurd (show (3 : Nat) = 1 from e) (by decide), fun e => absurd rfl e.2⟩
def x_3c (x : Nat) (kk : KT) : KT := fun ls st sh h => kk ls ((3, (x : Int)) :: st) sh h
def fvP (af : Option Nat) : PV := match af with
  | none => (2, 0)
  | some q => (3, (q : Int))
theorem em_f (ad : Nat → Nat) (af : Option Nat) : em_v ad (fvP af) = va_rf af := by
  cases af with
  | none => rfl
  | some q => exact em_3 ad q
theorem can_f {M : Nat} (af : Option Nat) : can_v M (fvP af) := by
  cases af with
  | none => exact ⟨fun e => absurd (show (2 : Nat) = 0 from e) (by decide), fun e => absurd (show (2 : Nat) = 1 from e) (by decide), fun _ => Int.natCast_nonneg M⟩
  | some q => exact can_3
def x_fv (af : Option Nat) (kk : KT) : KT := fun ls st sh h => kk ls (fvP af :: st) sh h
def x_3f (x : Nat) (v : PV) (kk : KT) : KT := fun ls st sh h => match st with
  | a :: q => (a.1 = 3 ∧ a.2 = x) ∧ kk ls (v :: q) sh h
  | _ => False
def x_3i (av : Nat) (kk : KT) : KT := fun ls st sh h => match st with
  | i :: a :: q => ((i.1 = 0 ∧ a.1 = 3 ∧ a.2 = av) ∧ 0 ≤ i.2 ∧ i.2 < 118) ∧ kk ls ((0, (tpB.getD i.2.toNat 0).toInt) :: q) sh h
  | _ => False
theorem S_ldcS (C : Cx y p s m args meth c D dA A) (hS : Sx ak av af A s s.heap) (hy : y.1.cls = RX8) (hd : decode y.2.1 pc = .ok (.ldc 19, 2)) (ih : ∀ ls st sh h, kk ls st sh h → G p l e R s m args below meth c D dA A T y.2.2.1 ad0 sz0 k n (pc + 2) ls st sh h) : ∀ ls st sh h, x_3c ak kk ls st sh h → G p l e R s m args below meth c D dA A T y.2.2.1 ad0 sz0 k n pc ls st sh h := by
  intro ls st sh h hk ad H locs lsA g1 g2 g3 g4 g5 g6 g7 g8 g9
  obtain ⟨hx, hb, hr, hml, hown, hts, hK, hlk, hnm, hN, hA⟩ := id C
  have kn := ih _ _ _ _ hk ad H locs lsA g1 g2 g3 g4 (can_cons can_3 g5) g6 g7 g8 g9
  rw [List.map_cons, em_3] at kn
  exact va_ldcS hx hb (hy ▸ hown) hS.2.1 hd kn
theorem S_gsC (C : Cx y p s m args meth c D dA A) (hS : Sx ak av af A s s.heap) (hy : y.1.cls = RJ0) (hd : decode y.2.1 pc = .ok (.getstatic 38, 3)) (ih : ∀ ls st sh h, kk ls st sh h → G p l e R s m args below meth c D dA A T y.2.2.1 ad0 sz0 k n (pc + 3) ls st sh h) : ∀ ls st sh h, x_ic 1 kk ls st sh h → G p l e R s m args below meth c D dA A T y.2.2.1 ad0 sz0 k n pc ls st sh h := by
  intro ls st sh h hk ad H locs lsA g1 g2 g3 g4 g5 g6 g7 g8 g9
  obtain ⟨hx, hb, hr, hml, hown, hts, hK, hlk, hnm, hN, hA⟩ := id C
  have kn := ih _ _ _ _ hk ad H locs lsA g1 g2 g3 g4 (can_cons (can_int (by decide)) g5) g6 g7 g8 g9
  exact va_gets (ref := RJ0) hx hb hS.2.2.1 g9 (hy ▸ hown) (hts _ (in_g (mt_1 (List.mem_of_getElem? (i := 47) (by decide +kernel))) rfl)) (fun _ z => z) hd kn
theorem S_gsF (C : Cx y p s m args meth c D dA A) (hS : Sx ak av af A s s.heap) (hy : y.1.cls = RJ0) (hd : decode y.2.1 pc = .ok (.getstatic 1053, 3)) (ih : ∀ ls st sh h, kk ls st sh h → G p l e R s m args below meth c D dA A T y.2.2.1 ad0 sz0 k n (pc + 3) ls st sh h) : ∀ ls st sh h, x_fv af kk ls st sh h → G p l e R s m args below meth c D dA A T y.2.2.1 ad0 sz0 k n pc ls st sh h := by
  intro ls st sh h hk ad H locs lsA g1 g2 g3 g4 g5 g6 g7 g8 g9
  obtain ⟨hx, hb, hr, hml, hown, hts, hK, hlk, hnm, hN, hA⟩ := id C
  have kn := ih _ _ _ _ hk ad H locs lsA g1 g2 g3 g4 (can_cons (can_f af) g5) g6 g7 g8 g9
  rw [List.map_cons, em_f] at kn
  exact va_gets (ref := RJ3) hx hb hS.2.2.2 g9 (hy ▸ hown) (hts _ (in_g (mt_1 (List.mem_of_getElem? (i := 63) (by decide +kernel))) rfl)) (fun _ z => z) hd kn
theorem S_gfV (C : Cx y p s m args meth c D dA A) (hS : Sx ak av af A s s.heap) (hy : y.1.cls = RJ0) (hd : decode y.2.1 pc = .ok (.getfield 9, 3)) (ih : ∀ ls st sh h, kk ls st sh h → G p l e R s m args below meth c D dA A T y.2.2.1 ad0 sz0 k n (pc + 3) ls st sh h) : ∀ ls st sh h, x_3f ak (3, (av : Int)) kk ls st sh h → G p l e R s m args below meth c D dA A T y.2.2.1 ad0 sz0 k n pc ls st sh h := by
  intro ls st sh h hk0 ad H locs lsA g1 g2 g3 g4 g5 g6 g7 g8 g9
  obtain ⟨hx, hb, hr, hml, hown, hts, hK, hlk, hnm, hN, hA⟩ := id C
  unfold x_3f at hk0
  split at hk0
  · rename_i a q
    obtain ⟨ta, a⟩ := a
    dsimp only at hk0
    obtain ⟨⟨rfl, rfl⟩, hk⟩ := hk0
    have kn := ih _ _ _ _ hk ad H locs lsA g1 g2 g3 g4 (can_cons can_3 (can_tl g5)) g6 g7 g8 g9
    rw [List.map_cons, em_3] at kn
    rw [List.map_cons, em_3]
    exact vk_getf (ref := RJ0) hx hb (hS.1.1 0 (by decide)).2.2.1 g9 (hy ▸ hown) (hts _ (in_g (mt_8 (List.mem_of_getElem? (i := 126) (by decide +kernel))) rfl)) (fun _ z => z) hd kn
  · exact hk0.elim
theorem S_gfC (C : Cx y p s m args meth c D dA A) (hS : Sx ak av af A s s.heap) (hy : y.1.cls = RJ0) (hd : decode y.2.1 pc = .ok (.getfield 15, 3)) (ih : ∀ ls st sh h, kk ls st sh h → G p l e R s m args below meth c D dA A T y.2.2.1 ad0 sz0 k n (pc + 3) ls st sh h) : ∀ ls st sh h, x_3f ak (0, 0) kk ls st sh h → G p l e R s m args below meth c D dA A T y.2.2.1 ad0 sz0 k n pc ls st sh h := by
  intro ls st sh h hk0 ad H locs lsA g1 g2 g3 g4 g5 g6 g7 g8 g9
  obtain ⟨hx, hb, hr, hml, hown, hts, hK, hlk, hnm, hN, hA⟩ := id C
  unfold x_3f at hk0
  split at hk0
  · rename_i a q
    obtain ⟨ta, a⟩ := a
    dsimp only at hk0
    obtain ⟨⟨rfl, rfl⟩, hk⟩ := hk0
    have kn := ih _ _ _ _ hk ad H locs lsA g1 g2 g3 g4 (can_cons (can_int (by decide)) (can_tl g5)) g6 g7 g8 g9
    rw [List.map_cons, em_3]
    exact vk_getf (ref := RJ0) hx hb (hS.1.1 0 (by decide)).2.1 g9 (hy ▸ hown) (hts _ (in_g (mt_8 (List.mem_of_getElem? (i := 127) (by decide +kernel))) rfl)) (fun _ z => z) hd kn
  · exact hk0.elim
theorem S_blen (C : Cx y p s m args meth c D dA A) (hS : Sx ak av af A s s.heap) (hd : decode y.2.1 pc = .ok (.arraylength, 1)) (ih : ∀ ls st sh h, kk ls st sh h → G p l e R s m args below meth c D dA A T y.2.2.1 ad0 sz0 k n (pc + 1) ls st sh h) : ∀ ls st sh h, x_3f av (0, 118) kk ls st sh h → G p l e R s m args below meth c D dA A T y.2.2.1 ad0 sz0 k n pc ls st sh h := by
  intro ls st sh h hk0 ad H locs lsA g1 g2 g3 g4 g5 g6 g7 g8 g9
  obtain ⟨hx, hb, hr, hml, hown, hts, hK, hlk, hnm, hN, hA⟩ := id C
  unfold x_3f at hk0
  split at hk0
  · rename_i a q
    obtain ⟨ta, a⟩ := a
    dsimp only at hk0
    obtain ⟨⟨rfl, rfl⟩, hk⟩ := hk0
    have kn := ih _ _ _ _ hk ad H locs lsA g1 g2 g3 g4 (can_cons (can_int (by decide)) (can_tl g5)) g6 g7 g8 g9
    rw [List.map_cons, em_3]
    exact va_tlen (v := Int32.ofInt 118) hx hb (hS.1.1 0 (by decide)).2.2.2 g9 rfl hd kn
  · exact hk0.elim
theorem S_bld (C : Cx y p s m args meth c D dA A) (hS : Sx ak av af A s s.heap) (hd : decode y.2.1 pc = .ok (.baload, 1)) (ih : ∀ ls st sh h, kk ls st sh h → G p l e R s m args below meth c D dA A T y.2.2.1 ad0 sz0 k n (pc + 1) ls st sh h) : ∀ ls st sh h, x_3i av kk ls st sh h → G p l e R s m args below meth c D dA A T y.2.2.1 ad0 sz0 k n pc ls st sh h := by
  intro ls st sh h hk0 ad H locs lsA g1 g2 g3 g4 g5 g6 g7 g8 g9
  obtain ⟨hx, hb, hr, hml, hown, hts, hK, hlk, hnm, hN, hA⟩ := id C
  unfold x_3i at hk0
  split at hk0
  · rename_i i a q
    obtain ⟨ti, i⟩ := i
    obtain ⟨ta, a⟩ := a
    dsimp only at hk0
    obtain ⟨⟨⟨rfl, rfl, rfl⟩, hi0, hi1⟩, hk⟩ := hk0
    have ci := (can_hd g5).1 rfl
    have hix := ix_in (n := 118) hi0 hi1 ci.2
    have kn := ih _ _ _ _ hk ad H locs lsA g1 g2 g3 g4 (can_cons (can_i32 _) (can_tl (can_tl g5))) g6 g7 g8 g9
    rw [List.map_cons, em_i, Int32.ofInt_toInt] at kn
    rw [List.map_cons, List.map_cons, em_3, em_i]
    exact va_tb hx hb (hS.1.1 0 (by decide)).2.2.2 g9 hix.1 (by rw [hix.2]; rfl) hd kn
  · exact hk0.elim
theorem S_nret {ty : FieldType} (C : Cx y p s m args meth c D dA A) (hd : decode y.2.1 pc = .ok (.ireturn, 1)) (hret : y.2.2.2 = some ty) (hty : ty = .char ∨ ty = .byte) (hk : k ≤ K) (hn : n ≤ N) : ∀ ls st sh h, x_iret (fun r => narrow ty (.int (Int32.ofInt r)) = .int (Int32.ofInt r)) Q ls st sh h → G p l e R s m args below meth c D dA A (MQ below (qV D dA A ad0 sz0 Q y.2.2.2) args s K N A) y.2.2.1 ad0 sz0 k n pc ls st sh h := by
  intro ls st sh h hk0 ad H locs lsA g1 g2 g3 g4 g5 g6 g7 g8 g9
  obtain ⟨hx, hb, hr, hml, hown, hts, hK, hlk, hnm, hN, hA⟩ := id C
  unfold x_iret at hk0
  split at hk0
  · rename_i v
    obtain ⟨tv, r⟩ := v
    dsimp only at hk0
    obtain ⟨⟨rfl, hnz⟩, hQ⟩ := hk0
    refine W.widen hk hn ?_
    exact W.zret (v := Int32.ofInt r) hx hb (hr.trans hret) hnz (fun t ht hW => ⟨⟨r, sh, h, ad, by rw [hret]; rcases hty with rfl | rfl <;> rfl, hQ, by rw [hret]; rcases hty with rfl | rfl <;> exact (can_hd g5).1 rfl, g6, g2, g1, by rw [ht]; exact g7, g8⟩, g9.F ht⟩) g9.2.2 hd hlk
  · exact hk0.elim
def rc3 (ak : Nat) (a : List PV) (_ : Shp) : Prop := match a with
  | v :: _ => v.1 = 3 ∧ v.2 = ak
  | [] => False
def MOkT (y1 : MI) (np : Nat) : Prop := MOk y1 np ∧ Cond.instanceMethod y1.1 ∈ tables_1 ∧ Cond.selects y1.1.cls y1.1 y1.1 ∈ lw_g ∧ y1.1.cls = RJ0
theorem S_invVS {idx np : Nat} (C : Cx y p s m args meth c D dA A) (hS : Sx ak av af A s s.heap) (hd : decode y.2.1 pc = .ok (.invokevirtual idx, 3)) (hm : MOkT y1 np) (hl : Cond.methodLink y.1.cls idx y1.1 ∈ tables_1) (hk : k + K1 ≤ K) (hn : n + N1 ≤ N) (ih : ∀ ls st sh h, kk ls st sh h → G p l e (rmV (d + 1) K N) s m args below meth c D dA A T y.2.2.1 ad0 sz0 (k + K1) (n + N1) (pc + 3) ls st sh h) :
    ∀ ls st sh h, x_inv (rc3 ak) y1.2.2.1 (np + 1) (fun a sh h Q => VS l ak av af d K1 N1 y1 0 0 0 Q (ent y1.2.2.1 a) [] sh h) (rt_n y1.2.2.2) kk ls st sh h → G p l e (rmV (d + 1) K N) s m args below meth c D dA A T y.2.2.1 ad0 sz0 k n pc ls st sh h := by
  intro ls st sh h hk0 ad H locs lsA g1 g2 g3 g4 g5 g6 g7 g8 g9
  obtain ⟨hx, hb, hr, hml, hown, hts, hK, hlk, hnm, hN, hA⟩ := id C
  obtain ⟨a, q, rfl, hlen, hct, hel, hrc, hv⟩ := x_inv_of hk0
  obtain ⟨⟨hcode, hini, hpl, hnh, hmx⟩, hins, hsel, hvc⟩ := hm
  obtain ⟨ca, cq⟩ := can_rev g5
  have hF : ∀ q, va_A (em_w dA ad sh h) H.size q → A q := by
    intro q hq
    rcases hq with ⟨i, x, hi⟩ | hq
    · exact g8.2 i _ hi
    · exact hA q (Nat.le_trans g9.1 hq)
  have hS1 : Sx ak av af (va_A (em_w dA ad sh h) H.size) s H := (hS.kept g9.2.1).narrow hF
  match a, hrc with
  | v :: As, hrc =>
    obtain ⟨tv, r⟩ := v
    obtain ⟨rfl, rfl⟩ : tv = 3 ∧ r = ak := hrc
    have hM := VS.met hv hpl hel ca g6 D dA ad H.size
    have hcw : CallW (rmV (d + 1) K N) s args y.1.cls y1.1.cls idx y1.1 y1.2.1 y1.2.2.1 y1.2.2.2 (wsY y1) (rmV d K1 N1) K1 N1 np := ⟨callB_of np hts (good_ws hcode) rfl rfl rfl (hts _ (in_g hini rfl)) (hts _ (in_g hl rfl)) hnh ⟨Nat.le_refl _, by show 8 + (y1.2.2.1 + 11) + 64 * d ≤ 64 * (d + 1); omega⟩, hts _ (in_g hins rfl), hts _ hsel⟩
    have hrv := vk_recv hS.1 (show 0 < 1 by decide) g9
    have hrv : ∃ cell : Cell, H[ak]? = some cell ∧ cell.vm.isStatics = false ∧ s.vm.findClass y1.1.cls = some cell.cls := by rw [hvc]; exact hrv
    have hrun := va_runV (l := l) (e := e) (below := below) (meth := meth) (locs := locs) (cells := k) (slots := n) (As := As.map (em_v ad)) (rest := q.map (em_v ad)) (g := F0 m pc lsA (((3, (ak : Int)) :: As).reverse.map (em_v ad) ++ q.map (em_v ad))) (H := H) (b := ak) ⟨hx, hb, hml, hown, hts⟩ hM hcw ⟨pS_blind, hrv, fun U hU hW => ⟨by rw [List.map_cons, em_3], by rw [hU], by rw [hU]; exact g7, va_K.moved hW.alike hK, g8.weaken (fun _ _ _ _ => trivial), Nx.warm hW hN, by rw [hU]; exact Sx.warm hW hS1⟩⟩ rfl (by rw [List.length_map]; simpa using hlen) g3.1 (by show _ = _; rw [List.reverse_cons, List.map_append, List.map_reverse, List.append_assoc, List.map_cons, List.map_nil, em_3]; rfl) (by show 2 * 0 + _ ≤ 8; rw [ct_of]; omega) hd ⟨hk, hn⟩
    rw [List.map_append]
    exact call_go C g1 g2 g3 g4 cq g8 g9 hrun (fun r sh' h' hQ => ih _ _ _ _ hQ)
theorem S_invSS {idx np : Nat} (C : Cx y p s m args meth c D dA A) (hS : Sx ak av af A s s.heap) (hd : decode y.2.1 pc = .ok (.invokestatic idx, 3)) (hm : MOkS y1 np) (hl : Cond.methodLink y.1.cls idx y1.1 ∈ tables_1) (hk : k + K1 ≤ K) (hn : n + N1 ≤ N) (ih : ∀ ls st sh h, kk ls st sh h → G p l e (rmV (d + 1) K N) s m args below meth c D dA A T y.2.2.1 ad0 sz0 (k + K1) (n + N1) (pc + 3) ls st sh h) :
    ∀ ls st sh h, x_inv rcs y1.2.2.1 np (fun a sh h Q => VS l ak av af d K1 N1 y1 0 0 0 Q (ent y1.2.2.1 a) [] sh h) (rt_n y1.2.2.2) kk ls st sh h → G p l e (rmV (d + 1) K N) s m args below meth c D dA A T y.2.2.1 ad0 sz0 k n pc ls st sh h := by
  intro ls st sh h hk0 ad H locs lsA g1 g2 g3 g4 g5 g6 g7 g8 g9
  obtain ⟨hx, hb, hr, hml, hown, hts, hK, hlk, hnm, hN, hA⟩ := id C
  obtain ⟨a, q, rfl, hlen, hct, hel, hrc, hv⟩ := x_inv_of hk0
  obtain ⟨⟨hcode, hini, hpl, hnh, hmx⟩, hsta⟩ := hm
  obtain ⟨ca, cq⟩ := can_rev g5
  have hF : ∀ q, va_A (em_w dA ad sh h) H.size q → A q := by
    intro q hq
    rcases hq with ⟨i, x, hi⟩ | hq
    · exact g8.2 i _ hi
    · exact hA q (Nat.le_trans g9.1 hq)
  have hS1 : Sx ak av af (va_A (em_w dA ad sh h) H.size) s H := (hS.kept g9.2.1).narrow hF
  have hM := VS.met hv hpl hel ca g6 D dA ad H.size
  have hcw : CallB (rmV (d + 1) K N) s args y.1.cls idx y1.1 y1.2.1 y1.2.2.1 y1.2.2.2 (wsY y1) (rmV d K1 N1) K1 N1 np := callB_of np hts (good_ws hcode) rfl rfl rfl (hts _ (in_g hini rfl)) (hts _ (in_g hl rfl)) hnh ⟨Nat.le_refl _, by show 8 + (y1.2.2.1 + 11) + 64 * d ≤ 64 * (d + 1); omega⟩
  have hrun := va_runS (l := l) (e := e) (below := below) (meth := meth) (locs := locs) (cells := k) (slots := n) (As := a.map (em_v ad)) (rest := q.map (em_v ad)) (g := F0 m pc lsA (a.reverse.map (em_v ad) ++ q.map (em_v ad))) (H := H) ⟨hx, hb, hml, hown, hts⟩ hM ⟨hcw, hts _ (in_g hsta rfl)⟩ ⟨pS_blind, fun U hU hW => ⟨rfl, by rw [hU], by rw [hU]; exact g7, va_K.moved hW.alike hK, g8.weaken (fun _ _ _ _ => trivial), Nx.warm hW hN, by rw [hU]; exact Sx.warm hW hS1⟩⟩ rfl (by rw [List.length_map]; exact hlen) g3.1 (by show _ = _; rw [List.map_reverse]) (by show 2 * 0 + _ ≤ 8; rw [ct_of]; omega) hd ⟨hk, hn⟩
  rw [List.map_append]
  exact call_go C g1 g2 g3 g4 cq g8 g9 hrun (fun r sh' h' hQ => ih _ _ _ _ hQ)
theorem S_invIS {idx np : Nat} (C : Cx y p s m args meth c D dA A) (hS : Sx ak av af A s s.heap) (hd : decode y.2.1 pc = .ok (.invokespecial idx, 3)) (hm : MOk y1 np) (hret : y1.2.2.2 = none) (hnam : y1.1.name = "<init>") (hins : Cond.instanceMethod y1.1 ∈ tables_1) (hl : Cond.methodLink y.1.cls idx y1.1 ∈ tables_1) (hk : k + K1 ≤ K) (hn : n + N1 ≤ N) (ih : ∀ ls st sh h, kk ls st sh h → G p l e (rmV (d + 1) K N) s m args below meth c D dA A T y.2.2.1 ad0 sz0 (k + K1) (n + N1) (pc + 3) ls st sh h) :
    ∀ ls st sh h, x_inv rcI y1.2.2.1 (np + 1) (fun a sh h Q => VS l ak av af d K1 N1 y1 0 0 0 Q (ent y1.2.2.1 a) [] sh h) 0 kk ls st sh h → G p l e (rmV (d + 1) K N) s m args below meth c D dA A T y.2.2.1 ad0 sz0 k n pc ls st sh h := by
  obtain ⟨y1n, y1c, y1m, y1r⟩ := y1
  dsimp only at hret
  subst hret
  intro ls st sh h hk0 ad H locs lsA g1 g2 g3 g4 g5 g6 g7 g8 g9
  obtain ⟨hx, hb, hr, hml, hown, hts, hK, hlk, hnm, hN, hA⟩ := id C
  obtain ⟨a, q, rfl, hlen, hct, hel, hrc, hv⟩ := x_inv_of hk0
  obtain ⟨hcode, hini, hpl, hnh, hmx⟩ := hm
  obtain ⟨ca, cq⟩ := can_rev g5
  have hF : ∀ q, va_A (em_w dA ad sh h) H.size q → A q := by
    intro q hq
    rcases hq with ⟨i, x, hi⟩ | hq
    · exact g8.2 i _ hi
    · exact hA q (Nat.le_trans g9.1 hq)
  have hS1 : Sx ak av af (va_A (em_w dA ad sh h) H.size) s H := (hS.kept g9.2.1).narrow hF
  match a, hrc with
  | v :: As, hrc =>
    obtain ⟨tv, r⟩ := v
    obtain ⟨rfl, h0⟩ : tv = 2 ∧ 0 < r := hrc
    have hM := VS.met hv hpl hel ca g6 D dA ad H.size
    have hcw : CallB (rmV (d + 1) K N) s args y.1.cls idx y1n y1c y1m none (wsY (y1n, y1c, y1m, none)) (rmV d K1 N1) K1 N1 np := callB_of np hts (good_ws hcode) rfl rfl rfl (hts _ (in_g hini rfl)) (hts _ (in_g hl rfl)) hnh ⟨Nat.le_refl _, by show 8 + (y1m + 11) + 64 * d ≤ 64 * (d + 1); dsimp only at hmx; omega⟩
    have hrun := va_runI (l := l) (e := e) (below := below) (meth := meth) (locs := locs) (cells := k) (slots := n) (As := As.map (em_v ad)) (rest := q.map (em_v ad)) (g := F0 m pc lsA (((2, r) :: As).reverse.map (em_v ad) ++ q.map (em_v ad))) (H := H) (b := ad (r.toNat - 1)) ⟨hx, hb, hml, hown, hts⟩ hM ⟨hcw, hnam, hts _ (in_g hins rfl)⟩ ⟨pS_blind, fun U hU hW => ⟨by rw [List.map_cons, em_ix ad h0], by rw [hU], by rw [hU]; exact g7, va_K.moved hW.alike hK, g8.weaken (fun _ _ _ _ => trivial), Nx.warm hW hN, by rw [hU]; exact Sx.warm hW hS1⟩⟩ rfl (by rw [List.length_map]; simpa using hlen) g3.1 (by show _ = _; rw [List.reverse_cons, List.map_append, List.map_reverse, List.append_assoc, List.map_cons, List.map_nil, em_ix ad h0]; rfl) (by show 2 * 0 + _ ≤ 8; rw [ct_of]; omega) hd ⟨hk, hn⟩
    rw [List.map_append]
    exact call_go C g1 g2 g3 g4 cq g8 g9 hrun (fun r sh' h' hQ => ih _ _ _ _ hQ)
end GS

/-! the law: the script, the room, methods that catch -/
theorem W.roomy {p : Program} {l : Launch} {e : Env} {R R' : Room} {s : State} {m : MethodId} {args : Array Value} {below : List Frame} {meth : Method} {c : Code} {H : Heap} {locs : List Loc} {cells slots : Nat} {Q : State → Prop} {g : JFrame} (h1 : R'.frames ≤ R.frames) (h2 : R'.locals ≤ R.locals) (h3 : R'.cells ≤ R.cells) (h4 : R'.slots ≤ R.slots) (k : W p l e R' s m args below meth c H locs cells slots Q g) : W p l e R s m args below meth c H locs cells slots Q g := by
  intro T hT X
  refine k T hT { X with room := ?_ }
  have h := X.room
  simp only [State.hasRoom, Bool.and_eq_true, decide_eq_true_eq] at h ⊢
  obtain ⟨⟨⟨⟨a1, a2, a3, a4, a5, a6⟩, a7⟩, a8⟩, a9⟩ := h
  exact ⟨⟨⟨⟨by omega, by omega, by omega, by omega, by omega, a6⟩, by omega⟩, by omega⟩, a9⟩
/-- as V, of a method with a table of handlers -/
def VH (l : Launch) (d K N : Nat) (y : MI) (hh : List (Nat × Nat × Nat × Nat)) (k n pc : Nat) (Q : Int → Shp → Mem → Prop) : KT := fun ls st sh h =>
  ∀ (p : Program) (e : Env) (s : State) (m : MethodId) (args : Array Value) (below : List Frame) (meth : Method) (c : Code) (D : va_G) (dA : Nat → ClassId) (A : Nat → Prop) (ad0 : Nat → Nat) (sz0 : Nat), Cx y p s m args meth c D dA A → c.exceptionTable.toList = tableOf hh → Zx A s s.heap → l.stackTraces = false → k ≤ K → n ≤ N →
    G p l e (rmV d K N) s m args below meth c D dA A (MQ below (qV D dA A ad0 sz0 Q y.2.2.2) args s K N A) y.2.2.1 ad0 sz0 k n pc ls st sh h
abbrev wsH (y : MI) (hh : List (Nat × Nat × Nat × Nat)) : List Cond := Cond.codeWith y.1 y.2.1 y.2.2.1 y.2.2.2 hh :: lw_g
theorem VH.met {l : Launch} {d K N : Nat} {y : MI} {hh : List (Nat × Nat × Nat × Nat)} {Q : Int → Shp → Mem → Prop} {a : List PV} {sh : Shp} {h : Mem} (hl : l.stackTraces = false) (hv : VH l d K N y hh 0 0 0 Q (ent y.2.2.1 a) [] sh h) (hpl : plainName y.1.cls = true) (hlen : (ent0 a).length ≤ y.2.2.1) (hca : can_l sh.length a) (hcm : can_m sh h) (D : va_G) (dA : Nat → ClassId) (ad : Nat → Nat) (sz : Nat) :
    Met l y.1 (wsH y hh) (rmV d K N) (pX D dA ad sh h sz a) (qV D dA (va_A (em_w dA ad sh h) sz) ad sh.length Q y.2.2.2) K N (va_A (em_w dA ad sh h) sz) := by
  refine va_MetW (cc := y.2.1) (maxL := y.2.2.1) (ret := y.2.2.2) (hh := hh) hpl rfl ?_
  intro p e s m args below meth c s₁ B hml hv0
  obtain ⟨rfl, hsz, hP, hK, hD0, hN, hZ⟩ := hv0
  have hts := atoms_spec (ws := wsH y hh) B.pre
  subst hsz
  have hD := hD0.self (sz := s.heap.size)
  have C : Cx y p s m (a.map (em_v ad)).toArray meth c D dA (va_A (em_w dA ad sh h) s.heap.size) := ⟨B.exec, B.bytes, B.returns, hml, findClass_of_methodNamed B.named, fun w hw => hts w (List.mem_cons_of_mem _ hw), hK, B.notSynchronized, (name_of_methodNamed B.named B.method).1, hN, fun q h => Or.inr h⟩
  have hlv := lv_entry (a.map (em_v ad)) (n := y.2.2.1) (by rw [ent0_len]; exact hlen)
  rw [lg_entry_eq]
  generalize (lg_sl (a.map (em_v ad)) ++ List.replicate (y.2.2.1 - (lg_sl (a.map (em_v ad))).length) Slot.unset).toArray = ls at hlv ⊢
  exact hv p e s m _ below meth c D dA _ ad sh.length C (vx_table (x := y.1) B (hts _ List.mem_cons_self)) hZ hl (Nat.zero_le _) (Nat.zero_le _) ad s.heap [] ls (fun _ _ => rfl) (Nat.le_refl _) (ent_lr hlv) (ent_can hca) (fun _ h => nomatch h) hcm hP hD va_S.rf
/-- from the law's entry on: the script of L ints xs stands at the address b -/
def VL (l : Launch) (b L : Nat) (xs : Nat → Int32) (k n pc : Nat) : KT := fun ls st sh h =>
  ∀ (p : Program) (e : Env) (s : State) (m : MethodId) (below : List Frame) (meth : Method) (c : Code) (D : va_G) (dA : Nat → ClassId) (ad0 : Nat → Nat) (sz0 : Nat), Cx (yL_law, cL_law, 7, ret) p s m #[Value.ref b] meth c D dA (fun q => s.heap.size ≤ q) → Zx (fun q => s.heap.size ≤ q) s s.heap → l.stackTraces = false → va_X b L xs s s.heap → b < s.heap.size → k ≤ 601024 → n ≤ 7293033 →
    G p l e (rmV 1000 601024 7293033) s m #[Value.ref b] below meth c D dA (fun q => s.heap.size ≤ q) (fun t => ∃ o, t.status = .running ∧ Ended t below o ∧ o = .returned (some (.int 1)) ∧ Framed s o t [] 601024 7293033) 7 ad0 sz0 k n pc ls st sh h
section GL
variable {p : Program} {l : Launch} {e : Env} {R : Room} {s : State} {m : MethodId} {args : Array Value} {below : List Frame} {meth : Method} {c : Code} {D : va_G} {dA : Nat → ClassId} {A : Nat → Prop} {T : State → Prop} {y : MI} {ad0 : Nat → Nat} {sz0 k n pc : Nat} {kk kx : KT} {d K N K1 N1 : Nat} {y1 : MI}
theorem S_aload3 {i : Fin 4} (C : Cx y p s m args meth c D dA A) (hd : decode y.2.1 pc = .ok (.aload_n i, 1)) (ih : ∀ ls st sh h, kk ls st sh h → G p l e R s m args below meth c D dA A T y.2.2.1 ad0 sz0 k n (pc + 1) ls st sh h) : ∀ ls st sh h, x_ld 3 i kk ls st sh h → G p l e R s m args below meth c D dA A T y.2.2.1 ad0 sz0 k n pc ls st sh h := by
  intro ls st sh h hk ad H locs lsA g1 g2 g3 g4 g5 g6 g7 g8 g9
  obtain ⟨hx, hb, hr, hml, hown, hts, hK, hlk, hnm, hN, hA⟩ := id C
  obtain ⟨x, hv, hk⟩ := x_ld_of hk
  exact lv_aload_n hx hb hd rfl (g3.2.2 _ _ hv (Nat.le_of_ble_eq_true rfl)) (ih _ _ _ _ hk ad H locs lsA g1 g2 g3 g4 (can_cons (g4 _ (List.mem_of_getElem? hv)) g5) g6 g7 g8 g9)
/-- a place of the script, its length -/
def x_sld (b L : Nat) (xs : Nat → Int32) (kk : KT) : KT := fun ls st sh h => match st with
  | i :: a :: q => ((i.1 = 0 ∧ a.1 = 3 ∧ a.2 = b) ∧ 0 ≤ i.2 ∧ i.2 < L) ∧ kk ls ((0, (xs i.2.toNat).toInt) :: q) sh h
  | _ => False
def x_slen (b L : Nat) (kk : KT) : KT := fun ls st sh h => match st with
  | a :: q => ((a.1 = 3 ∧ a.2 = b) ∧ L < 2147483648) ∧ kk ls ((0, (L : Int)) :: q) sh h
  | _ => False
theorem S_sld {b L : Nat} {xs : Nat → Int32} (C : Cx y p s m args meth c D dA A) (hX : va_X b L xs s s.heap) (hbl : b < s.heap.size) (hbA : ¬ A b) (hd : decode y.2.1 pc = .ok (.iaload, 1)) (ih : ∀ ls st sh h, kk ls st sh h → G p l e R s m args below meth c D dA A T y.2.2.1 ad0 sz0 k n (pc + 1) ls st sh h) : ∀ ls st sh h, x_sld b L xs kk ls st sh h → G p l e R s m args below meth c D dA A T y.2.2.1 ad0 sz0 k n pc ls st sh h := by
  intro ls st sh h hk0 ad H locs lsA g1 g2 g3 g4 g5 g6 g7 g8 g9
  obtain ⟨hx, hb, hr, hml, hown, hts, hK, hlk, hnm, hN, hA⟩ := id C
  unfold x_sld at hk0
  split at hk0
  · rename_i i a q
    obtain ⟨ti, i⟩ := i
    obtain ⟨ta, a⟩ := a
    dsimp only at hk0
    obtain ⟨⟨⟨rfl, rfl, rfl⟩, hi0, hi1⟩, hk⟩ := hk0
    have ci := (can_hd g5).1 rfl
    have hix := ix_in hi0 hi1 ci.2
    have kn := ih _ _ _ _ hk ad H locs lsA g1 g2 g3 g4 (can_cons (can_i32 _) (can_tl (can_tl g5))) g6 g7 g8 g9
    rw [List.map_cons, em_i, Int32.ofInt_toInt, ← hix.2] at kn
    have kn2 := va_sld hx hb hX hbl hbA g9 hix.1 hd kn
    exact kn2
  · exact hk0.elim
theorem S_slen {b L : Nat} {xs : Nat → Int32} (C : Cx y p s m args meth c D dA A) (hX : va_X b L xs s s.heap) (hbl : b < s.heap.size) (hbA : ¬ A b) (hd : decode y.2.1 pc = .ok (.arraylength, 1)) (ih : ∀ ls st sh h, kk ls st sh h → G p l e R s m args below meth c D dA A T y.2.2.1 ad0 sz0 k n (pc + 1) ls st sh h) : ∀ ls st sh h, x_slen b L kk ls st sh h → G p l e R s m args below meth c D dA A T y.2.2.1 ad0 sz0 k n pc ls st sh h := by
  intro ls st sh h hk0 ad H locs lsA g1 g2 g3 g4 g5 g6 g7 g8 g9
  obtain ⟨hx, hb, hr, hml, hown, hts, hK, hlk, hnm, hN, hA⟩ := id C
  unfold x_slen at hk0
  split at hk0
  · rename_i a q
    obtain ⟨ta, a⟩ := a
    dsimp only at hk0
    obtain ⟨⟨⟨rfl, rfl⟩, hL⟩, hk⟩ := hk0
    have kn := ih _ _ _ _ hk ad H locs lsA g1 g2 g3 g4 (can_cons (can_int ⟨by omega, by omega⟩) (can_tl g5)) g6 g7 g8 g9
    have kn2 := va_slen hx hb hX hbl hbA g9 hd kn
    exact kn2
  · exact hk0.elim
def MOkH (y1 : MI) (hh : List (Nat × Nat × Nat × Nat)) (np : Nat) : Prop := (Cond.codeWith y1.1 y1.2.1 y1.2.2.1 y1.2.2.2 hh ∈ tables_1 ∧ Cond.initialized y1.1.cls ∈ tables_1 ∧ plainName y1.1.cls = true ∧ (y1.1.cls ≠ "java/lang/invoke/MethodHandle" ∧ y1.1.cls ≠ "java/lang/invoke/VarHandle" ∧ (parseMethodDescriptor y1.1.desc).map (fun d => d.parameters.length) = some np) ∧ y1.2.2.1 ≤ 45) ∧ Cond.static y1.1 ∈ tables_1
theorem good_wsH {y1 : MI} {hh : List (Nat × Nat × Nat × Nat)} (hc : Cond.codeWith y1.1 y1.2.1 y1.2.2.1 y1.2.2.2 hh ∈ tables_1) : GoodIn lw_g (wsH y1 hh) := by
  intro w hw
  rcases List.mem_cons.mp hw with rfl | h
  · exact ⟨in_g hc rfl, Or.inl rfl⟩
  · exact ⟨h, good_of_word (List.mem_filter.mp h).2⟩
theorem S_invH {idx np : Nat} {hh : List (Nat × Nat × Nat × Nat)} (C : Cx y p s m args meth c D dA A) (hZ : Zx A s s.heap) (hlt : l.stackTraces = false) (hd : decode y.2.1 pc = .ok (.invokestatic idx, 3)) (hm : MOkH y1 hh np) (hl : Cond.methodLink y.1.cls idx y1.1 ∈ tables_1) (hk : k + K1 ≤ K) (hn : n + N1 ≤ N) (ih : ∀ ls st sh h, kk ls st sh h → G p l e (rmV (d + 1) K N) s m args below meth c D dA A T y.2.2.1 ad0 sz0 (k + K1) (n + N1) (pc + 3) ls st sh h) :
    ∀ ls st sh h, x_inv rcs y1.2.2.1 np (fun a sh h Q => VH l d K1 N1 y1 hh 0 0 0 Q (ent y1.2.2.1 a) [] sh h) (rt_n y1.2.2.2) kk ls st sh h → G p l e (rmV (d + 1) K N) s m args below meth c D dA A T y.2.2.1 ad0 sz0 k n pc ls st sh h := by
  intro ls st sh h hk0 ad H locs lsA g1 g2 g3 g4 g5 g6 g7 g8 g9
  obtain ⟨hx, hb, hr, hml, hown, hts, hK, hlk, hnm, hN, hA⟩ := id C
  obtain ⟨a, q, rfl, hlen, hct, hel, hrc, hv⟩ := x_inv_of hk0
  obtain ⟨⟨hcode, hini, hpl, hnh, hmx⟩, hsta⟩ := hm
  obtain ⟨ca, cq⟩ := can_rev g5
  have hF : ∀ q, va_A (em_w dA ad sh h) H.size q → A q := by
    intro q hq
    rcases hq with ⟨i, x, hi⟩ | hq
    · exact g8.2 i _ hi
    · exact hA q (Nat.le_trans g9.1 hq)
  have hZ1 : Zx (va_A (em_w dA ad sh h) H.size) s H := (hZ.kept g9.2.1).narrow hF
  have hM := VH.met hlt hv hpl hel ca g6 D dA ad H.size
  have hcw : vx_CSW (rmV (d + 1) K N) s args y.1.cls idx y1.1 y1.2.1 y1.2.2.1 y1.2.2.2 hh (wsH y1 hh) (rmV d K1 N1) K1 N1 np := ⟨⟨rfl, rfl, Nat.le_refl _, by show 8 + (y1.2.2.1 + 11) + 64 * d ≤ 64 * (d + 1); omega, pay_in hts (good_wsH hcode), List.mem_cons_self⟩, hts _ (in_g hcode rfl), hts _ (in_g hini rfl), ⟨hnh.1, hnh.2.1⟩, fun sig hsg => by have h2 := hnh.2.2; rw [hsg] at h2; exact (Option.some.inj h2).symm, hts _ (in_g hl rfl), hts _ (in_g hsta rfl)⟩
  have hrun := vx_runSW (l := l) (e := e) (below := below) (meth := meth) (locs := locs) (cells := k) (slots := n) (As := a.map (em_v ad)) (rest := q.map (em_v ad)) (g := F0 m pc lsA (a.reverse.map (em_v ad) ++ q.map (em_v ad))) (H := H) ⟨hx, hb, hml, hown, hts⟩ hM hcw ⟨pX_blind, fun U hU hW => ⟨rfl, by rw [hU], by rw [hU]; exact g7, va_K.moved hW.alike hK, g8.weaken (fun _ _ _ _ => trivial), Nx.warm hW hN, by rw [hU]; exact Zx.warm hW hZ1⟩⟩ rfl (by rw [List.length_map]; exact hlen) g3.1 (by show _ = _; rw [List.map_reverse]) (by show 2 * 0 + _ ≤ 8; rw [ct_of]; omega) hd ⟨hk, hn⟩
  rw [List.map_append]
  exact call_go C g1 g2 g3 g4 cq g8 g9 hrun (fun r sh' h' hQ => ih _ _ _ _ hQ)
/-- the law's end, with 1 -/
def x_law1 : KT := fun _ st _ _ => st = [(0, 1)]
theorem S_law1 {b : Nat} (C : Cx (yL_law, cL_law, 7, ret) p s m #[Value.ref b] meth c D dA (fun q => s.heap.size ≤ q)) (hd : decode cL_law pc = .ok (.ireturn, 1)) (hk : k ≤ 601024) (hn : n ≤ 7293033) : ∀ ls st sh h, x_law1 ls st sh h → G p l e R s m #[Value.ref b] below meth c D dA (fun q => s.heap.size ≤ q) (fun t => ∃ o, t.status = .running ∧ Ended t below o ∧ o = .returned (some (.int 1)) ∧ Framed s o t [] 601024 7293033) 7 ad0 sz0 k n pc ls st sh h := by
  intro ls st sh h hk0 ad H locs lsA g1 g2 g3 g4 g5 g6 g7 g8 g9
  obtain ⟨hx, hb, hr, hml, hown, hts, hK, hlk, hnm, hN, hA⟩ := id C
  unfold x_law1 at hk0
  subst hk0
  refine va_forget (fun q hq => g9.2.2 q hq) ?_
  refine W.widen hk hn ?_
  show W p l e R s m #[Value.ref b] below meth c H [] 601024 7293033 _ (F0 m pc lsA [.int 1])
  intro T hT X
  obtain ⟨fs, hret, hrun, hended, hW, hframe⟩ := X.leave (v := some (.int 1)) (hlocks := hlk) (fun h => by rw [hr] at h; cases h)
  have hmeth' : T.vm.method? m = some meth := X.method'
  refine ⟨T.setFrames fs, ?_, .returned (some (.int 1)), hrun, hended, rfl, ⟨_, rfl⟩, hW, hframe⟩
  have hb : c.code = cL_law := hb
  have hr : meth.sig.returnType = ret := hr
  jvm_step X.here [X.here.top, hx, hb, hd, hmeth', hr, ret, narrow_b1]
  (try refine ⟨rfl, ?_⟩); (try refine ⟨rfl, ?_⟩)
  first | (intro acts; rw [hret _ acts rfl rfl rfl]) | rw [hret _ _ rfl rfl rfl]
  exact Steps.refl _
end GL
section GN
variable {p : Program} {l : Launch} {e : Env} {s : State} {m : MethodId} {args : Array Value} {below : List Frame} {meth : Method} {c : Code} {D : va_G} {dA : Nat → ClassId} {A : Nat → Prop} {T : State → Prop} {y : MI} {ad0 : Nat → Nat} {sz0 k n pc : Nat} {kk kx : KT} {d K N K1 N1 : Nat} {y1 : MI}
theorem S_invXn {idx np ci hpc : Nat} {i : Fin 4} {pre : List ExceptionTableEntry} {xe : ExceptionTableEntry} {suf : List ExceptionTableEntry} (C : Cx y p s m args meth c D dA A) (hZ : Zx A s s.heap) (hlt : l.stackTraces = false) (hd : decode y.2.1 pc = .ok (.invokevirtual idx, 3)) (hm : MOkV y1 np ci) (hl : Cond.methodLink y.1.cls idx y1.1 ∈ tables_1)
    (htab : c.exceptionTable.toList = xe :: suf) (hcov : covers xe pc = true) (hct0 : xe.catchType ≠ 0) (hcl : Cond.classLink y.1.cls xe.catchType nsee ∈ tables_1) (hhp : xe.handlerPc = hpc) (hda : decode y.2.1 hpc = .ok (.astore_n i, 1)) (hi : (i : Nat) < y.2.2.1) (hk : k + K1 ≤ K) (hn : n + N1 ≤ N)
    (ih : ∀ ls st sh h, kk ls st sh h → G p l e (rmV (d + 1) K N) s m args below meth c D dA A T y.2.2.1 ad0 sz0 (k + K1) (n + N1) (pc + 3) ls st sh h) (ix : ∀ ls st sh h, kx ls st sh h → G p l e (rmV (d + 1) K N) s m args below meth c D dA A T y.2.2.1 ad0 sz0 (k + K1) (n + N1) (hpc + 1) ls st sh h) :
    ∀ ls st sh h, x_invX ci y1.2.2.1 np i (fun a sh h Q X => VX l d K1 N1 y1 0 0 0 Q X (ent y1.2.2.1 a) [] sh h) (rt_n y1.2.2.2) kk kx ls st sh h → G p l e (rmV (d + 1) K N) s m args below meth c D dA A T y.2.2.1 ad0 sz0 k n pc ls st sh h := by
  intro ls st0 sh h hk0 ad H locs lsA g1 g2 g3 g4 g5 g6 g7 g8 g9
  obtain ⟨hx, hb, hr, hml, hown, hts, hK, hlk, hnm, hN, hA⟩ := id C
  obtain ⟨⟨⟨p1, p2, p3, p4⟩, hok⟩, hv⟩ := hk0
  obtain ⟨⟨hcode, hini, hpl, hnh, hmx⟩, hins, hsel, vq, hvq, hvc⟩ := hm
  have est : st0 = (st0.take (np + 1)).reverse.reverse ++ st0.drop (np + 1) := by rw [List.reverse_reverse, List.take_append_drop]
  have elen : (st0.take (np + 1)).reverse.length = np + 1 := by rw [List.length_reverse, List.length_take]; omega
  generalize (st0.take (np + 1)).reverse = a at hv p3 p4 est elen
  generalize st0.drop (np + 1) = q at hv p2 est
  subst est
  obtain ⟨ca, cq⟩ := can_rev g5
  match a, p4 with
  | v :: As, hrc =>
    obtain ⟨tv, r⟩ := v
    obtain ⟨rfl, h0, hs⟩ : tv = 2 ∧ 0 < r ∧ sh[r.toNat - 1]? = some (8 + ci, nfs ci) := hrc
    have hF : ∀ q, va_A (em_w dA ad sh h) H.size q → A q := by
      intro q hq
      rcases hq with ⟨i, x, hi⟩ | hq
      · exact g8.2 i _ hi
      · exact hA q (Nat.le_trans g9.1 hq)
    have hZ1 : Zx (va_A (em_w dA ad sh h) H.size) s H := (hZ.kept g9.2.1).narrow hF
    have hM := VX.met hlt hv hpl p3 ca g6 D dA ad H.size
    have hcw : CallW (rmV (d + 1) K N) s args y.1.cls y1.1.cls idx y1.1 y1.2.1 y1.2.2.1 y1.2.2.2 (wsY y1) (rmV d K1 N1) K1 N1 np := ⟨callB_of np hts (good_ws hcode) rfl rfl rfl (hts _ (in_g hini rfl)) (hts _ (in_g hl rfl)) hnh ⟨Nat.le_refl _, by show 8 + (y1.2.2.1 + 11) + 64 * d ≤ 64 * (d + 1); omega⟩, hts _ (in_g hins rfl), hts _ hsel⟩
    have hrv := va_recv hK g7 hvq (em_w_ob hs)
    rw [hvc] at hrv
    have hrun := vx_runV (l := l) (e := e) (below := below) (meth := meth) (locs := locs) (cells := k) (slots := n) (As := As.map (em_v ad)) (rest := q.map (em_v ad)) (g := F0 m pc lsA (((2, r) :: As).reverse.map (em_v ad) ++ q.map (em_v ad))) (H := H) (b := ad (r.toNat - 1)) ⟨hx, hb, hml, hown, hts⟩ hM hcw ⟨pX_blind, hrv, fun U hU hW => ⟨by rw [List.map_cons, em_ix ad h0], by rw [hU], by rw [hU]; exact g7, va_K.moved hW.alike hK, g8.weaken (fun _ _ _ _ => trivial), Nx.warm hW hN, by rw [hU]; exact Zx.warm hW hZ1⟩⟩ rfl (by rw [List.length_map]; simpa using elen) g3.1 (by show _ = _; rw [List.reverse_cons, List.map_append, List.map_reverse, List.append_assoc, List.map_cons, List.map_nil, em_ix ad h0]; rfl) (by show 2 * 0 + _ ≤ 8; rw [ct_of]; omega) hd ⟨hk, hn⟩
    rw [List.map_append]
    intro TT hT XX
    rcases hrun TT hT XX with ⟨v, st₀, t, T', L, e0, X', hL, e1, e2, ⟨⟨rr, sh', h', ad', ho, hQ, hrc, hcm, hsz, had, hP, hD⟩, hz, hkp⟩, stp⟩ | ⟨qe, st₀, t, T', L, E, ce, e0, X', hL, e1, e2, ⟨rfl, ⟨sh', h', ad', hQ, hcm, hsz, had, hP, hD⟩, hz, hkp⟩, hce, hcv, hclE, stp⟩
    · cases ho
      rw [e0] at hz hkp
      have hS1 : va_S A s.heap T'.heap (locs ++ L) := ⟨Nat.le_trans g9.1 (by rw [e1]; exact hz), fun q h1 h2 => by rw [e1, hkp q (Nat.lt_of_lt_of_le h1 g9.1) (fun z => h2 (hF q z))]; exact g9.2.1 q h1 h2, fun q hq => by
        rcases List.mem_append.mp hq with h | h
        · exact g9.2.2 q h
        · exact hF _ (hL q h)⟩
      have kn := ih _ _ _ _ hQ ad' T'.heap (locs ++ L) lsA (fun i hi => by rw [had i (Nat.lt_of_lt_of_le hi g2)]; exact g1 i hi) (Nat.le_trans g2 hsz) (lr_ad had g3 g4) (fun v hv => can_mono hsz (g4 v hv)) (rt_can hrc (fun v hv => can_mono hsz (cq v hv))) hcm (by rw [e1]; exact hP) (hD.weaken (fun _ q _ z => hF q.1 z)) hS1
      rw [← rt_map, map_ad had cq] at kn
      obtain ⟨t2, a1, b1⟩ := kn T' rfl X'
      exact ⟨t2, stp t2 a1, b1⟩
    · rw [e0] at hz hkp
      have hS1 : va_S A s.heap T'.heap (locs ++ L) := ⟨Nat.le_trans g9.1 (by rw [e1]; exact hz), fun q h1 h2 => by rw [e1, hkp q (Nat.lt_of_lt_of_le h1 g9.1) (fun z => h2 (hF q z))]; exact g9.2.1 q h1 h2, fun q hq => by
        rcases List.mem_append.mp hq with h | h
        · exact g9.2.2 q h
        · exact hF _ (hL q h)⟩
      have kw : vx_W p l e (rmV (d + 1) K N) s m args below meth c T'.heap (locs ++ L) (k + K1) (n + N1) T (F0 m pc lsA (q.map (em_v ad))) qe := by
        refine vx_catch hown [] xe suf htab (fun _ z => nomatch z) hcov hct0 (hts _ (in_g hcl rfl)) (va_Nw.use (xn_3 _ (by decide)).2 (hZ.1 (.castable nsee nsee) (by decide))) (by rw [e1]; exact hce) hcv hclE ?_
        rw [hhp]
        refine lv_astore_n hx hb hda rfl (lr_has (lr_ad had g3 g4)) hi rfl (fun lsB hlB => ?_)
        exact ix _ _ _ _ hQ ad' T'.heap (locs ++ L) lsB (fun i hi => by rw [had i (Nat.lt_of_lt_of_le hi g2)]; exact g1 i hi) (Nat.le_trans g2 hsz) (has_lr9 hlB (fun _ z => z) hok) (can_set (fun v hv => can_mono hsz (g4 v hv)) (can_non (Nat.le_of_ble_eq_true rfl))) (fun _ z => nomatch z) hcm (by rw [e1]; exact hP) (hD.weaken (fun _ q _ z => hF q.1 z)) hS1
      obtain ⟨t2, a1, b1⟩ := kw T' rfl X'
      exact ⟨t2, stp.trans a1, b1⟩
end GN

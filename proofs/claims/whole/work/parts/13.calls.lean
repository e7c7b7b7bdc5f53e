/-! A METHOD OVER THE PURE PICTURE, its end, its call -/
def rt_v (ret : Option FieldType) (r : Int) : Option Value := match ret with
  | none => none
  | some .long => some (.long (Int64.ofInt r))
  | some _ => some (.int (Int32.ofInt r))
def rt_c (ret : Option FieldType) (r : Int) : Prop := match ret with
  | none => True
  | some .long => -9223372036854775808 ≤ r ∧ r < 9223372036854775808
  | some _ => -2147483648 ≤ r ∧ r < 2147483648
/-- what is behind a method: its answer, and the picture -/
def qV (D : va_G) (dA : Nat → ClassId) (A : Nat → Prop) (ad0 : Nat → Nat) (sz0 : Nat) (Q : Int → Shp → Mem → Prop) (ret : Option FieldType) : Array Value → State → Outcome → State → Prop := fun _ st oc t =>
  (∃ (r : Int) (sh : Shp) (h : Mem) (ad : Nat → Nat), oc = .returned (rt_v ret r) ∧ Q r sh h ∧ rt_c ret r ∧ can_m sh h ∧ sz0 ≤ sh.length ∧ (∀ i, i < sz0 → ad i = ad0 i) ∧ va_P D vwCl (em_w dA ad sh h) t.heap ∧ va_D A (em_w dA ad sh h)) ∧ va_F A st t
def rmV (d K N : Nat) : Room := { frames := d, cells := K, slots := N, locals := 64 * d }
/-- THE METHOD y, at pc, with locals, stack, shapes and memory, comes to its end with an answer and a picture of which Q holds; d calls deep at most, making K cells of N places at most (k and n of them made) -/
def V (l : Launch) (d K N : Nat) (y : MI) (k n pc : Nat) (Q : Int → Shp → Mem → Prop) : KT := fun ls st sh h =>
  ∀ (p : Program) (e : Env) (s : State) (m : MethodId) (args : Array Value) (below : List Frame) (meth : Method) (c : Code) (D : va_G) (dA : Nat → ClassId) (A : Nat → Prop) (ad0 : Nat → Nat) (sz0 : Nat), Cx y p s m args meth c D dA A → k ≤ K → n ≤ N →
    G p l e (rmV d K N) s m args below meth c D dA A (MQ below (qV D dA A ad0 sz0 Q y.2.2.2) args s K N A) y.2.2.1 ad0 sz0 k n pc ls st sh h
def ent0 : List PV → List PV
  | [] => []
  | v :: r => if v.1 = 1 then v :: (9, 0) :: ent0 r else v :: ent0 r
/-- the locals at a method's entry -/
def ent (nL : Nat) (a : List PV) : List PV := ent0 a ++ List.replicate (nL - (ent0 a).length) (9, 0)
theorem ent0_len (ad : Nat → Nat) : ∀ a : List PV, (lg_sl (a.map (em_v ad))).length = (ent0 a).length
  | [] => rfl
  | v :: r => by
    have ih := ent0_len ad r
    unfold lg_sl at ih ⊢
    rw [List.map_cons, List.flatMap_cons, List.length_append, ih]
    by_cases e : v.1 = 1
    · rw [em_cat2 e, ent0, if_pos e]; simp; omega
    · rw [em_cat e, ent0, if_neg e]; simp; omega
theorem ent0_in (ad : Nat → Nat) : ∀ (a : List PV) (i0 j : Nat) (v : PV), (ent0 a)[j]? = some v → v.1 < 4 → (i0 + j, em_v ad v) ∈ lv_args i0 (a.map (em_v ad))
  | [], _, _, _, h, _ => by simp [ent0] at h
  | u :: r, i0, j, v, h, hv => by
    rw [ent0] at h
    rw [List.map_cons, lv_args]
    by_cases e : u.1 = 1
    · rw [if_pos e] at h
      rw [em_cat2 e, if_pos rfl]
      match j, h with
      | 0, h => cases h; exact List.mem_cons_self
      | 1, h => cases h; exact absurd hv (by decide)
      | j + 2, h =>
        have := ent0_in ad r (i0 + 2) j v (by simpa using h) hv
        rw [show i0 + (j + 2) = i0 + 2 + j by omega]
        exact List.mem_cons_of_mem _ this
    · rw [if_neg e] at h
      rw [em_cat e, if_neg (by decide)]
      match j, h with
      | 0, h => cases h; exact List.mem_cons_self
      | j + 1, h =>
        have := ent0_in ad r (i0 + 1) j v (by simpa using h) hv
        rw [show i0 + (j + 1) = i0 + 1 + j by omega]
        exact List.mem_cons_of_mem _ this
theorem ent_lr {ad : Nat → Nat} {lsA : Array Slot} {nL : Nat} {a : List PV} (h : lv_has lsA nL (lv_args 0 (a.map (em_v ad)))) : lr ad lsA nL (ent nL a) := by
  refine ⟨h.1, h.2.1, fun i v hi hv => ?_⟩
  unfold ent at hi
  rw [List.getElem?_append] at hi
  split at hi
  · have := h.2.2 _ (ent0_in ad a 0 i v hi hv)
    simpa using this
  · rw [List.getElem?_replicate] at hi
    split at hi
    · cases hi; exact absurd hv (by decide)
    · cases hi
theorem ent0_can {N : Nat} : ∀ {a : List PV}, can_l N a → can_l N (ent0 a)
  | [], _ => fun _ h => by simp [ent0] at h
  | v :: r, h => by
    rw [ent0]
    split
    · exact can_cons (can_hd h) (can_cons (can_non (Nat.le_of_ble_eq_true rfl)) (ent0_can (can_tl h)))
    · exact can_cons (can_hd h) (ent0_can (can_tl h))
theorem ent_can {N nL : Nat} {a : List PV} (h : can_l N a) : can_l N (ent nL a) := by
  intro v hv
  rcases List.mem_append.mp hv with q | q
  · exact ent0_can h v q
  · rw [List.eq_of_mem_replicate q]; exact can_non (Nat.le_of_ble_eq_true rfl)
abbrev wsY (y : MI) : List Cond := Cond.code y.1 y.2.1 y.2.2.1 y.2.2.2 :: lw_g
def pV (D : va_G) (dA : Nat → ClassId) (ad : Nat → Nat) (sh : Shp) (h : Mem) (sz : Nat) (a : List PV) : Array Value → State → Prop := va_Pc (a.map (em_v ad)) (fun U => U.heap.size = sz ∧ va_P D vwCl (em_w dA ad sh h) U.heap ∧ va_K D vwCl (tysL dA) U ∧ va_D (fun _ => True) (em_w dA ad sh h) ∧ Nx U)
theorem V.met {l : Launch} {d K N : Nat} {y : MI} {Q : Int → Shp → Mem → Prop} {a : List PV} {sh : Shp} {h : Mem} (hv : V l d K N y 0 0 0 Q (ent y.2.2.1 a) [] sh h) (hpl : plainName y.1.cls = true) (hlen : (ent0 a).length ≤ y.2.2.1) (hca : can_l sh.length a) (hcm : can_m sh h) (D : va_G) (dA : Nat → ClassId) (ad : Nat → Nat) (sz : Nat) :
    Met l y.1 (wsY y) (rmV d K N) (pV D dA ad sh h sz a) (qV D dA (va_A (em_w dA ad sh h) sz) ad sh.length Q y.2.2.2) K N (va_A (em_w dA ad sh h) sz) := by
  refine Met.ofW (cc := y.2.1) (maxL := y.2.2.1) (ret := y.2.2.2) hpl rfl ?_
  intro p e s m args below meth c s₁ B hml hv0
  obtain ⟨rfl, hsz, hP, hK, hD0, hN⟩ := hv0
  have hts := atoms_spec (ws := wsY y) B.pre
  subst hsz
  have hD := hD0.self (sz := s.heap.size)
  have C : Cx y p s m (a.map (em_v ad)).toArray meth c D dA (va_A (em_w dA ad sh h) s.heap.size) := ⟨B.exec, B.bytes, B.returns, hml, findClass_of_methodNamed B.named, fun w hw => hts w (List.mem_cons_of_mem _ hw), hK, B.notSynchronized, (name_of_methodNamed B.named B.method).1, hN, fun q h => Or.inr h⟩
  have hl := lv_entry (a.map (em_v ad)) (n := y.2.2.1) (by rw [ent0_len]; exact hlen)
  rw [lg_entry_eq]
  generalize (lg_sl (a.map (em_v ad)) ++ List.replicate (y.2.2.1 - (lg_sl (a.map (em_v ad))).length) Slot.unset).toArray = ls at hl ⊢
  exact hv p e s m _ below meth c D dA _ ad sh.length C (Nat.zero_le _) (Nat.zero_le _) ad s.heap [] ls (fun _ _ => rfl) (Nat.le_refl _) (ent_lr hl) (ent_can hca) (fun _ h => nomatch h) hcm hP hD va_S.rf
theorem pV_blind {D : va_G} {dA : Nat → ClassId} {ad : Nat → Nat} {sh : Shp} {h : Mem} {sz : Nat} {a : List PV} : FrameBlind (pV D dA ad sh h sz a) := by
  intro v U g mk q
  obtain ⟨q0, q1, qP, qK, qD, qN⟩ := q
  exact ⟨q0, q1, qP, va_K.moved (u := U) (U := U.calling g mk v) (Vm.Alike.refl U.vm) qK, qD, Nx.warm (s := U) (U := U.calling g mk v) (State.WarmedH.refl U) qN⟩
theorem em_v_ad {ad ad' : Nat → Nat} {N : Nat} (h : ∀ i, i < N → ad' i = ad i) {v : PV} (hv : can_v N v) : em_v ad' v = em_v ad v := by
  unfold em_v
  by_cases e0 : v.1 = 0
  · rw [if_pos e0, if_pos e0]
  · rw [if_neg e0, if_neg e0]
    by_cases e1 : v.1 = 1
    · rw [if_pos e1, if_pos e1]
    · rw [if_neg e1, if_neg e1]
      by_cases e3 : v.1 = 3
      · rw [if_pos e3, if_pos e3]
      · rw [if_neg e3, if_neg e3]
        unfold rf_o
        have h2 := hv.2.2 (by omega)
        by_cases e2 : v.2 ≤ 0
        · rw [if_pos e2, if_pos e2]
        · rw [if_neg e2, if_neg e2, h _ (by omega)]
theorem lr_ad {ad ad' : Nat → Nat} {N nL : Nat} {lsA : Array Slot} {ls : List PV} (h : ∀ i, i < N → ad' i = ad i) (hl : lr ad lsA nL ls) (hc : can_l N ls) : lr ad' lsA nL ls := ⟨hl.1, hl.2.1, fun i v hi hv => by rw [em_v_ad h (hc v (List.mem_of_getElem? hi))]; exact hl.2.2 i v hi hv⟩
/-- how many words values are -/
def ct : List PV → Nat
  | [] => 0
  | v :: r => (if v.1 = 1 then 2 else 1) + ct r
theorem ct_of (ad : Nat → Nat) : ∀ l : List PV, ((l.map (em_v ad)).map fun v => v.category).sum = ct l
  | [] => rfl
  | v :: r => by
    rw [List.map_cons, List.map_cons, List.sum_cons, ct_of ad r, ct]
    by_cases e : v.1 = 1
    · rw [em_cat2 e, if_pos e]
    · rw [em_cat e, if_neg e]
/-- the answer on the stack: 0 none, 1 an int, 2 a long -/
def pu (rt : Nat) (r : Int) (st : List PV) : List PV := if rt = 0 then st else if rt = 1 then (0, r) :: st else (1, r) :: st
def rt_n (ret : Option FieldType) : Nat := match ret with
  | none => 0
  | some .long => 2
  | some _ => 1
/-- a call: its place's arguments, what holds of the callee, what comes behind -/
def Cl (l : Launch) (d : Nat) (y : MI) (a : List PV) (sh : Shp) (h : Mem) (Q : Int → Shp → Mem → Prop) : Prop := V l d 0 0 y 0 0 0 Q (ent y.2.2.1 a) [] sh h
def x_inv (rc : List PV → Shp → Prop) (nL na : Nat) (cl : List PV → Shp → Mem → (Int → Shp → Mem → Prop) → Prop) (rt : Nat) (kk : KT) : KT := fun ls st sh h =>
  (na ≤ st.length ∧ ct (st.drop na) ≤ 8 ∧ (ent0 (st.take na).reverse).length ≤ nL ∧ rc (st.take na).reverse sh) ∧ cl (st.take na).reverse sh h (fun r sh' h' => kk ls (pu rt r (st.drop na)) sh' h')
theorem x_inv_of {rc : List PV → Shp → Prop} {nL na : Nat} {cl : List PV → Shp → Mem → (Int → Shp → Mem → Prop) → Prop} {rt : Nat} {kk : KT} {ls st : List PV} {sh : Shp} {h : Mem} (hk : x_inv rc nL na cl rt kk ls st sh h) : ∃ (a q : List PV), st = a.reverse ++ q ∧ a.length = na ∧ ct q ≤ 8 ∧ (ent0 a).length ≤ nL ∧ rc a sh ∧ cl a sh h (fun r sh' h' => kk ls (pu rt r q) sh' h') := by
  obtain ⟨⟨h1, h2, h3, h4⟩, h5⟩ := hk
  refine ⟨(st.take na).reverse, st.drop na, by rw [List.reverse_reverse, List.take_append_drop], by rw [List.length_reverse, List.length_take]; omega, h2, h3, h4, h5⟩
section GC
variable {p : Program} {l : Launch} {e : Env} {s : State} {m : MethodId} {args : Array Value} {below : List Frame} {meth : Method} {c : Code} {D : va_G} {dA : Nat → ClassId} {A : Nat → Prop} {T : State → Prop} {y : MI} {ad0 : Nat → Nat} {sz0 k n pc : Nat} {kk kt kf : KT} {d K N K1 N1 : Nat} {y1 : MI}
theorem can_rev {M : Nat} {a q : List PV} (h : can_l M (a.reverse ++ q)) : can_l M a ∧ can_l M q := ⟨fun v hv => h v (List.mem_append_left _ (List.mem_reverse.mpr hv)), fun v hv => h v (List.mem_append_right _ hv)⟩
theorem rt_can {M : Nat} {ret : Option FieldType} {r : Int} {q : List PV} (h : rt_c ret r) (hq : can_l M q) : can_l M (pu (rt_n ret) r q) := by
  unfold rt_c at h
  unfold rt_n pu
  split at h
  · simpa using hq
  · simpa using can_cons (can_lng h) hq
  · rename_i ty hty
    cases ty <;> first | exact absurd rfl hty | (simpa using can_cons (can_int h) hq)
theorem rt_map {ad : Nat → Nat} {ret : Option FieldType} {r : Int} {q : List PV} : (rt_v ret r).toList ++ q.map (em_v ad) = (pu (rt_n ret) r q).map (em_v ad) := by
  cases ret with
  | none => rfl
  | some ty => cases ty <;> rfl
/-- behind a call -/
theorem call_go {R : Room} (C : Cx y p s m args meth c D dA A) {ls q : List PV} {sh : Shp} {h : Mem} {ad : Nat → Nat} {H : Heap} {locs : List Loc} {lsA : Array Slot} {st0 : List Value} (g1 : ∀ i, i < sz0 → ad i = ad0 i) (g2 : sz0 ≤ sh.length) (g3 : lr ad lsA y.2.2.1 ls) (g4 : can_l sh.length ls) (hq : can_l sh.length q) (g8 : va_D A (em_w dA ad sh h)) (g9 : va_S A s.heap H locs)
    {Qf : Int → Shp → Mem → Prop} {ret : Option FieldType} {aa : Array Value}
    (hrun : va_Run p l e R s m args below meth c H locs k n K1 N1 (F0 m pc lsA st0) (q.map (em_v ad)) (qV D dA (va_A (em_w dA ad sh h) H.size) ad sh.length Qf ret aa) (va_A (em_w dA ad sh h) H.size))
    (ih : ∀ r sh' h', Qf r sh' h' → G p l e R s m args below meth c D dA A T y.2.2.1 ad0 sz0 (k + K1) (n + N1) (pc + 3) ls (pu (rt_n ret) r q) sh' h') : W p l e R s m args below meth c H locs k n T (F0 m pc lsA st0) := by
  obtain ⟨hx, hb, hr, hml, hown, hts, hK, hlk, hnm, hN, hA⟩ := id C
  have hF : ∀ q, va_A (em_w dA ad sh h) H.size q → A q := by
    intro q hq
    rcases hq with ⟨i, x, hi⟩ | hq
    · exact g8.2 i _ hi
    · exact hA q (Nat.le_trans g9.1 hq)
  intro TT hT X
  obtain ⟨v, st₀, t, T', L, h0, X', hL, e1, e2, ⟨⟨r, sh', h', ad', ho, hQ, hrc, hcm, hsz, had, hP, hD⟩, hz, hkp⟩, stp⟩ := hrun TT hT X
  cases ho
  rw [h0] at hz hkp
  have hS1 : va_S A s.heap T'.heap (locs ++ L) := ⟨Nat.le_trans g9.1 (by rw [e1]; exact hz), fun q h1 h2 => by rw [e1, hkp q (Nat.lt_of_lt_of_le h1 g9.1) (fun z => h2 (hF q z))]; exact g9.2.1 q h1 h2, fun q hq => by
    rcases List.mem_append.mp hq with h | h
    · exact g9.2.2 q h
    · exact hF _ (hL q h)⟩
  have kn := ih r sh' h' hQ ad' T'.heap (locs ++ L) lsA (fun i hi => by rw [had i (Nat.lt_of_lt_of_le hi g2)]; exact g1 i hi) (Nat.le_trans g2 hsz) (lr_ad had g3 g4) (fun v hv => can_mono hsz (g4 v hv)) (rt_can hrc (fun v hv => can_mono hsz (hq v hv))) hcm (by rw [e1]; exact hP) (hD.weaken (fun _ q _ z => hF q.1 z)) hS1
  rw [← rt_map, show q.map (em_v ad') = q.map (em_v ad) from List.map_congr_left fun v hv => em_v_ad had (hq v hv)] at kn
  obtain ⟨t2, a1, b1⟩ := kn T' rfl X'
  exact ⟨t2, stp t2 a1, b1⟩
theorem good_ws {y1 : MI} (hc : Cond.code y1.1 y1.2.1 y1.2.2.1 y1.2.2.2 ∈ tables_1) : GoodIn lw_g (wsY y1) := by
  intro w hw
  rcases List.mem_cons.mp hw with rfl | h
  · exact ⟨in_g hc rfl, Or.inl rfl⟩
  · exact ⟨h, good_of_word (List.mem_filter.mp h).2⟩
/-- a method that the tables know -/
def MOk (y1 : MI) (np : Nat) : Prop := Cond.code y1.1 y1.2.1 y1.2.2.1 y1.2.2.2 ∈ tables_1 ∧ Cond.initialized y1.1.cls ∈ tables_1 ∧ plainName y1.1.cls = true ∧ (y1.1.cls ≠ "java/lang/invoke/MethodHandle" ∧ y1.1.cls ≠ "java/lang/invoke/VarHandle" ∧ (parseMethodDescriptor y1.1.desc).map (fun d => d.parameters.length) = some np) ∧ y1.2.2.1 ≤ 45
def MOkV (y1 : MI) (np ci : Nat) : Prop := MOk y1 np ∧ Cond.instanceMethod y1.1 ∈ tables_1 ∧ Cond.selects y1.1.cls y1.1 y1.1 ∈ lw_g ∧ ∃ q : vw_C, vwCl[ci]? = some q ∧ q.1 = y1.1.cls
def MOkS (y1 : MI) (np : Nat) : Prop := MOk y1 np ∧ Cond.static y1.1 ∈ tables_1
/-- the receiver -/
def rcv (ci : Nat) (a : List PV) (sh : Shp) : Prop := match a with
  | v :: _ => v.1 = 2 ∧ ob sh ci v.2
  | [] => False
def rcs (_ : List PV) (_ : Shp) : Prop := True
theorem S_invV {idx np ci : Nat} (C : Cx y p s m args meth c D dA A) (hd : decode y.2.1 pc = .ok (.invokevirtual idx, 3)) (hm : MOkV y1 np ci) (hl : Cond.methodLink y.1.cls idx y1.1 ∈ tables_1) (hk : k + K1 ≤ K) (hn : n + N1 ≤ N) (ih : ∀ ls st sh h, kk ls st sh h → G p l e (rmV (d + 1) K N) s m args below meth c D dA A T y.2.2.1 ad0 sz0 (k + K1) (n + N1) (pc + 3) ls st sh h) :
    ∀ ls st sh h, x_inv (rcv ci) y1.2.2.1 (np + 1) (fun a sh h Q => V l d K1 N1 y1 0 0 0 Q (ent y1.2.2.1 a) [] sh h) (rt_n y1.2.2.2) kk ls st sh h → G p l e (rmV (d + 1) K N) s m args below meth c D dA A T y.2.2.1 ad0 sz0 k n pc ls st sh h := by
  intro ls st sh h hk0 ad H locs lsA g1 g2 g3 g4 g5 g6 g7 g8 g9
  obtain ⟨hx, hb, hr, hml, hown, hts, hK, hlk, hnm, hN, hA⟩ := id C
  obtain ⟨a, q, rfl, hlen, hct, hel, hrc, hv⟩ := x_inv_of hk0
  obtain ⟨⟨hcode, hini, hpl, hnh, hmx⟩, hins, hsel, vq, hvq, hvc⟩ := hm
  obtain ⟨ca, cq⟩ := can_rev g5
  match a, hrc with
  | v :: As, hrc =>
    obtain ⟨tv, r⟩ := v
    obtain ⟨rfl, h0, hs⟩ : tv = 2 ∧ 0 < r ∧ sh[r.toNat - 1]? = some (8 + ci, nfs ci) := hrc
    have hM := V.met hv hpl hel ca g6 D dA ad H.size
    have hcw : CallW (rmV (d + 1) K N) s args y.1.cls y1.1.cls idx y1.1 y1.2.1 y1.2.2.1 y1.2.2.2 (wsY y1) (rmV d K1 N1) K1 N1 np := ⟨callB_of np hts (good_ws hcode) rfl rfl rfl (hts _ (in_g hini rfl)) (hts _ (in_g hl rfl)) hnh ⟨Nat.le_refl _, by show 8 + (y1.2.2.1 + 11) + 64 * d ≤ 64 * (d + 1); omega⟩, hts _ (in_g hins rfl), hts _ hsel⟩
    have hrv := va_recv hK g7 hvq (em_w_ob hs)
    rw [hvc] at hrv
    have hrun := va_runV (l := l) (e := e) (below := below) (meth := meth) (locs := locs) (cells := k) (slots := n) (As := As.map (em_v ad)) (rest := q.map (em_v ad)) (g := F0 m pc lsA (((2, r) :: As).reverse.map (em_v ad) ++ q.map (em_v ad))) (H := H) (b := ad (r.toNat - 1)) ⟨hx, hb, hml, hown, hts⟩ hM hcw ⟨pV_blind, hrv, fun U hU hW => ⟨by rw [List.map_cons, em_ix ad h0], by rw [hU], by rw [hU]; exact g7, va_K.moved hW.alike hK, g8.weaken (fun _ _ _ _ => trivial), Nx.warm hW hN⟩⟩ rfl (by rw [List.length_map]; simpa using hlen) g3.1 (by show _ = _; rw [List.reverse_cons, List.map_append, List.map_reverse, List.append_assoc, List.map_cons, List.map_nil, em_ix ad h0]; rfl) (by show 2 * 0 + _ ≤ 8; rw [ct_of]; omega) hd ⟨hk, hn⟩
    rw [List.map_append]
    exact call_go C g1 g2 g3 g4 cq g8 g9 hrun (fun r sh' h' hQ => ih _ _ _ _ hQ)
theorem S_invS {idx np : Nat} (C : Cx y p s m args meth c D dA A) (hd : decode y.2.1 pc = .ok (.invokestatic idx, 3)) (hm : MOkS y1 np) (hl : Cond.methodLink y.1.cls idx y1.1 ∈ tables_1) (hk : k + K1 ≤ K) (hn : n + N1 ≤ N) (ih : ∀ ls st sh h, kk ls st sh h → G p l e (rmV (d + 1) K N) s m args below meth c D dA A T y.2.2.1 ad0 sz0 (k + K1) (n + N1) (pc + 3) ls st sh h) :
    ∀ ls st sh h, x_inv rcs y1.2.2.1 np (fun a sh h Q => V l d K1 N1 y1 0 0 0 Q (ent y1.2.2.1 a) [] sh h) (rt_n y1.2.2.2) kk ls st sh h → G p l e (rmV (d + 1) K N) s m args below meth c D dA A T y.2.2.1 ad0 sz0 k n pc ls st sh h := by
  intro ls st sh h hk0 ad H locs lsA g1 g2 g3 g4 g5 g6 g7 g8 g9
  obtain ⟨hx, hb, hr, hml, hown, hts, hK, hlk, hnm, hN, hA⟩ := id C
  obtain ⟨a, q, rfl, hlen, hct, hel, hrc, hv⟩ := x_inv_of hk0
  obtain ⟨⟨hcode, hini, hpl, hnh, hmx⟩, hsta⟩ := hm
  obtain ⟨ca, cq⟩ := can_rev g5
  have hM := V.met hv hpl hel ca g6 D dA ad H.size
  have hcw : CallB (rmV (d + 1) K N) s args y.1.cls idx y1.1 y1.2.1 y1.2.2.1 y1.2.2.2 (wsY y1) (rmV d K1 N1) K1 N1 np := callB_of np hts (good_ws hcode) rfl rfl rfl (hts _ (in_g hini rfl)) (hts _ (in_g hl rfl)) hnh ⟨Nat.le_refl _, by show 8 + (y1.2.2.1 + 11) + 64 * d ≤ 64 * (d + 1); omega⟩
  have hrun := va_runS (l := l) (e := e) (below := below) (meth := meth) (locs := locs) (cells := k) (slots := n) (As := a.map (em_v ad)) (rest := q.map (em_v ad)) (g := F0 m pc lsA (a.reverse.map (em_v ad) ++ q.map (em_v ad))) (H := H) ⟨hx, hb, hml, hown, hts⟩ hM ⟨hcw, hts _ (in_g hsta rfl)⟩ ⟨pV_blind, fun U hU hW => ⟨rfl, by rw [hU], by rw [hU]; exact g7, va_K.moved hW.alike hK, g8.weaken (fun _ _ _ _ => trivial), Nx.warm hW hN⟩⟩ rfl (by rw [List.length_map]; exact hlen) g3.1 (by show _ = _; rw [List.map_reverse]) (by show 2 * 0 + _ ≤ 8; rw [ct_of]; omega) hd ⟨hk, hn⟩
  rw [List.map_append]
  exact call_go C g1 g2 g3 g4 cq g8 g9 hrun (fun r sh' h' hQ => ih _ _ _ _ hQ)
end GC

/-! a method that catches -/
def pX (D : va_G) (dA : Nat → ClassId) (ad : Nat → Nat) (sh : Shp) (h : Mem) (sz : Nat) (a : List PV) : Array Value → State → Prop := va_Pc (a.map (em_v ad)) (fun U => U.heap.size = sz ∧ va_P D vwCl (em_w dA ad sh h) U.heap ∧ va_K D vwCl (tysL dA) U ∧ va_D (fun _ => True) (em_w dA ad sh h) ∧ Nx U ∧ Zx (va_A (em_w dA ad sh h) sz) U U.heap)
theorem pX_blind {D : va_G} {dA : Nat → ClassId} {ad : Nat → Nat} {sh : Shp} {h : Mem} {sz : Nat} {a : List PV} : FrameBlind (pX D dA ad sh h sz a) := by
  intro v U g mk q
  obtain ⟨q0, q1, qP, qK, qD, qN, qZ⟩ := q
  exact ⟨q0, q1, qP, va_K.moved (u := U) (U := U.calling g mk v) (Vm.Alike.refl U.vm) qK, qD, Nx.warm (s := U) (U := U.calling g mk v) (State.WarmedH.refl U) qN, Zx.warm (s := U) (U := U.calling g mk v) (State.WarmedH.refl U) qZ⟩
theorem VX.met {l : Launch} {d K N : Nat} {y : MI} {Q : Int → Shp → Mem → Prop} {X : Shp → Mem → Prop} {a : List PV} {sh : Shp} {h : Mem} (hl : l.stackTraces = false) (hv : VX l d K N y 0 0 0 Q X (ent y.2.2.1 a) [] sh h) (hpl : plainName y.1.cls = true) (hlen : (ent0 a).length ≤ y.2.2.1) (hca : can_l sh.length a) (hcm : can_m sh h) (D : va_G) (dA : Nat → ClassId) (ad : Nat → Nat) (sz : Nat) :
    vx_Met l y.1 (wsY y) (rmV d K N) (pX D dA ad sh h sz a) (qV D dA (va_A (em_w dA ad sh h) sz) ad sh.length Q y.2.2.2) (xV D dA (va_A (em_w dA ad sh h) sz) ad sh.length X) K N (va_A (em_w dA ad sh h) sz) := by
  refine vx_ofW (cc := y.2.1) (maxL := y.2.2.1) (ret := y.2.2.2) hpl rfl ?_
  intro p e s m args below meth c s₁ B hml hE hv0
  obtain ⟨rfl, hsz, hP, hK, hD0, hN, hZ⟩ := hv0
  have hts := atoms_spec (ws := wsY y) B.pre
  subst hsz
  have hD := hD0.self (sz := s.heap.size)
  have C : Cx y p s m (a.map (em_v ad)).toArray meth c D dA (va_A (em_w dA ad sh h) s.heap.size) := ⟨B.exec, B.bytes, B.returns, hml, findClass_of_methodNamed B.named, fun w hw => hts w (List.mem_cons_of_mem _ hw), hK, B.notSynchronized, (name_of_methodNamed B.named B.method).1, hN, fun q h => Or.inr h⟩
  have hlv := lv_entry (a.map (em_v ad)) (n := y.2.2.1) (by rw [ent0_len]; exact hlen)
  rw [lg_entry_eq]
  generalize (lg_sl (a.map (em_v ad)) ++ List.replicate (y.2.2.1 - (lg_sl (a.map (em_v ad))).length) Slot.unset).toArray = ls at hlv ⊢
  exact hv p e s m _ below meth c D dA _ ad sh.length C hE hZ hl (Nat.zero_le _) (Nat.zero_le _) ad s.heap [] ls (fun _ _ => rfl) (Nat.le_refl _) (ent_lr hlv) (ent_can hca) (fun _ h => nomatch h) hcm hP hD va_S.rf
theorem has_lr9 {ad : Nat → Nat} {lsA : Array Slot} {nL : Nat} {ls : List PV} {lv : List (Nat × Value)} {i : Nat} {w : Value} (hh : lv_has lsA nL ((i, w) :: lv.filter (fun q => !(q.1 == i) && !(q.1 + 1 == i && q.2.category == 2)))) (hs : ∀ q ∈ asc ad ls, q ∈ lv) (ho : ok1 ls i) : lr ad lsA nL (ls.set i (9, 0)) := by
  refine ⟨hh.1, hh.2.1, fun j v' hj hv' => ?_⟩
  rw [List.getElem?_set] at hj
  by_cases e : i = j
  · subst e
    rw [if_pos rfl] at hj
    split at hj
    · cases hj; exact absurd hv' (by decide)
    · cases hj
  · rw [if_neg e] at hj
    refine hh.2.2 (j, em_v ad v') (List.mem_cons_of_mem _ (List.mem_filter.mpr ⟨hs _ (asc_mem hj hv'), ?_⟩))
    have e2 : (j == i) = false := by simp; exact fun q => e q.symm
    simp only [e2, Bool.not_false, Bool.true_and, Bool.not_eq_true', Bool.and_eq_false_iff]
    by_cases e3 : j + 1 = i
    · right
      unfold ok1 at ho
      rw [show i - 1 = j by omega, hj] at ho
      have : v'.1 ≠ 1 := by rcases ho with q | q; omega; exact q
      rw [em_cat this]; rfl
    · left; simp; exact e3
section GH
variable {p : Program} {l : Launch} {e : Env} {s : State} {m : MethodId} {args : Array Value} {below : List Frame} {meth : Method} {c : Code} {D : va_G} {dA : Nat → ClassId} {A : Nat → Prop} {T : State → Prop} {y : MI} {ad0 : Nat → Nat} {sz0 k n pc : Nat} {kk kx : KT} {d K N K1 N1 : Nat} {y1 : MI}
/-- a call that may throw, caught in the same method: the exception goes into local i, of which nothing is told -/
def x_invX (ci nL np i : Nat) (cl : List PV → Shp → Mem → (Int → Shp → Mem → Prop) → (Shp → Mem → Prop) → Prop) (rt : Nat) (kk kx : KT) : KT := fun ls st sh h =>
  ((np + 1 ≤ st.length ∧ ct (st.drop (np + 1)) ≤ 8 ∧ (ent0 (st.take (np + 1)).reverse).length ≤ nL ∧ rcv ci (st.take (np + 1)).reverse sh) ∧ ok1 ls i) ∧ cl (st.take (np + 1)).reverse sh h (fun r sh' h' => kk ls (pu rt r (st.drop (np + 1))) sh' h') (fun sh' h' => kx (ls.set i (9, 0)) [] sh' h')
theorem S_invX {idx np ci i hpc : Nat} {pre : List ExceptionTableEntry} {xe : ExceptionTableEntry} {suf : List ExceptionTableEntry} (C : Cx y p s m args meth c D dA A) (hZ : Zx A s s.heap) (hlt : l.stackTraces = false) (hd : decode y.2.1 pc = .ok (.invokevirtual idx, 3)) (hm : MOkV y1 np ci) (hl : Cond.methodLink y.1.cls idx y1.1 ∈ tables_1)
    (htab : c.exceptionTable.toList = xe :: suf) (hcov : covers xe pc = true) (hct0 : xe.catchType ≠ 0) (hcl : Cond.classLink y.1.cls xe.catchType nsee ∈ tables_1) (hhp : xe.handlerPc = hpc) (hda : decode y.2.1 hpc = .ok (.astore i, 2)) (hi : i < y.2.2.1) (hk : k + K1 ≤ K) (hn : n + N1 ≤ N)
    (ih : ∀ ls st sh h, kk ls st sh h → G p l e (rmV (d + 1) K N) s m args below meth c D dA A T y.2.2.1 ad0 sz0 (k + K1) (n + N1) (pc + 3) ls st sh h) (ix : ∀ ls st sh h, kx ls st sh h → G p l e (rmV (d + 1) K N) s m args below meth c D dA A T y.2.2.1 ad0 sz0 (k + K1) (n + N1) (hpc + 2) ls st sh h) :
    ∀ ls st sh h, x_invX ci y1.2.2.1 np i (fun a sh h Q X => VX l d K1 N1 y1 0 0 0 Q X (ent y1.2.2.1 a) [] sh h) (rt_n y1.2.2.2) kk kx ls st sh h → G p l e (rmV (d + 1) K N) s m args below meth c D dA A T y.2.2.1 ad0 sz0 k n pc ls st sh h := by
  intro ls st0 sh h hk0 ad H locs lsA g1 g2 g3 g4 g5 g6 g7 g8 g9
  obtain ⟨hx, hb, hr, hml, hown, hts, hK, hlk, hnm, hN, hA⟩ := id C
  obtain ⟨⟨⟨p1, p2, p3, p4⟩, hok⟩, hv⟩ := hk0
  obtain ⟨⟨hcode, hini, hpl, hnh, hmx⟩, hins, hsel, vq, hvq, hvc⟩ := hm
  have est : st0 = (st0.take (np + 1)).reverse.reverse ++ st0.drop (np + 1) := by rw [List.reverse_reverse, List.take_append_drop]
  have elen : (st0.take (np + 1)).reverse.length = np + 1 := by rw [List.length_reverse, List.length_take]; omega
  generalize (st0.take (np + 1)).reverse = a at hv p3 p4 est elen
  generalize st0.drop (np + 1) = q at hv p2 est
  subst est
  obtain ⟨ca, cq⟩ := can_rev g5
  match a, p4 with
  | v :: As, hrc =>
    obtain ⟨tv, r⟩ := v
    obtain ⟨rfl, h0, hs⟩ : tv = 2 ∧ 0 < r ∧ sh[r.toNat - 1]? = some (8 + ci, nfs ci) := hrc
    have hF : ∀ q, va_A (em_w dA ad sh h) H.size q → A q := by
      intro q hq
      rcases hq with ⟨i, x, hi⟩ | hq
      · exact g8.2 i _ hi
      · exact hA q (Nat.le_trans g9.1 hq)
    have hZ1 : Zx (va_A (em_w dA ad sh h) H.size) s H := (hZ.kept g9.2.1).narrow hF
    have hM := VX.met hlt hv hpl p3 ca g6 D dA ad H.size
    have hcw : CallW (rmV (d + 1) K N) s args y.1.cls y1.1.cls idx y1.1 y1.2.1 y1.2.2.1 y1.2.2.2 (wsY y1) (rmV d K1 N1) K1 N1 np := ⟨callB_of np hts (good_ws hcode) rfl rfl rfl (hts _ (in_g hini rfl)) (hts _ (in_g hl rfl)) hnh ⟨Nat.le_refl _, by show 8 + (y1.2.2.1 + 11) + 64 * d ≤ 64 * (d + 1); omega⟩, hts _ (in_g hins rfl), hts _ hsel⟩
    have hrv := va_recv hK g7 hvq (em_w_ob hs)
    rw [hvc] at hrv
    have hrun := vx_runV (l := l) (e := e) (below := below) (meth := meth) (locs := locs) (cells := k) (slots := n) (As := As.map (em_v ad)) (rest := q.map (em_v ad)) (g := F0 m pc lsA (((2, r) :: As).reverse.map (em_v ad) ++ q.map (em_v ad))) (H := H) (b := ad (r.toNat - 1)) ⟨hx, hb, hml, hown, hts⟩ hM hcw ⟨pX_blind, hrv, fun U hU hW => ⟨by rw [List.map_cons, em_ix ad h0], by rw [hU], by rw [hU]; exact g7, va_K.moved hW.alike hK, g8.weaken (fun _ _ _ _ => trivial), Nx.warm hW hN, by rw [hU]; exact Zx.warm hW hZ1⟩⟩ rfl (by rw [List.length_map]; simpa using elen) g3.1 (by show _ = _; rw [List.reverse_cons, List.map_append, List.map_reverse, List.append_assoc, List.map_cons, List.map_nil, em_ix ad h0]; rfl) (by show 2 * 0 + _ ≤ 8; rw [ct_of]; omega) hd ⟨hk, hn⟩
    rw [List.map_append]
    intro TT hT XX
    rcases hrun TT hT XX with ⟨v, st₀, t, T', L, e0, X', hL, e1, e2, ⟨⟨rr, sh', h', ad', ho, hQ, hrc, hcm, hsz, had, hP, hD⟩, hz, hkp⟩, stp⟩ | ⟨qe, st₀, t, T', L, E, ce, e0, X', hL, e1, e2, ⟨rfl, ⟨sh', h', ad', hQ, hcm, hsz, had, hP, hD⟩, hz, hkp⟩, hce, hcv, hclE, stp⟩
    · cases ho
      rw [e0] at hz hkp
      have hS1 : va_S A s.heap T'.heap (locs ++ L) := ⟨Nat.le_trans g9.1 (by rw [e1]; exact hz), fun q h1 h2 => by rw [e1, hkp q (Nat.lt_of_lt_of_le h1 g9.1) (fun z => h2 (hF q z))]; exact g9.2.1 q h1 h2, fun q hq => by
        rcases List.mem_append.mp hq with h | h
        · exact g9.2.2 q h
        · exact hF _ (hL q h)⟩
      have kn := ih _ _ _ _ hQ ad' T'.heap (locs ++ L) lsA (fun i hi => by rw [had i (Nat.lt_of_lt_of_le hi g2)]; exact g1 i hi) (Nat.le_trans g2 hsz) (lr_ad had g3 g4) (fun v hv => can_mono hsz (g4 v hv)) (rt_can hrc (fun v hv => can_mono hsz (cq v hv))) hcm (by rw [e1]; exact hP) (hD.weaken (fun _ q _ z => hF q.1 z)) hS1
      rw [← rt_map, map_ad had cq] at kn
      obtain ⟨t2, a1, b1⟩ := kn T' rfl X'
      exact ⟨t2, stp t2 a1, b1⟩
    · rw [e0] at hz hkp
      have hS1 : va_S A s.heap T'.heap (locs ++ L) := ⟨Nat.le_trans g9.1 (by rw [e1]; exact hz), fun q h1 h2 => by rw [e1, hkp q (Nat.lt_of_lt_of_le h1 g9.1) (fun z => h2 (hF q z))]; exact g9.2.1 q h1 h2, fun q hq => by
        rcases List.mem_append.mp hq with h | h
        · exact g9.2.2 q h
        · exact hF _ (hL q h)⟩
      have kw : vx_W p l e (rmV (d + 1) K N) s m args below meth c T'.heap (locs ++ L) (k + K1) (n + N1) T (F0 m pc lsA (q.map (em_v ad))) qe := by
        refine vx_catch hown [] xe suf htab (fun _ z => nomatch z) hcov hct0 (hts _ (in_g hcl rfl)) (va_Nw.use (xn_3 _ (by decide)).2 (hZ.1 (.castable nsee nsee) (by decide))) (by rw [e1]; exact hce) hcv hclE ?_
        rw [hhp]
        refine lv_astore hx hb hda (lr_has (lr_ad had g3 g4)) hi rfl (fun lsB hlB => ?_)
        exact ix _ _ _ _ hQ ad' T'.heap (locs ++ L) lsB (fun i hi => by rw [had i (Nat.lt_of_lt_of_le hi g2)]; exact g1 i hi) (Nat.le_trans g2 hsz) (has_lr9 hlB (fun _ z => z) hok) (can_set (fun v hv => can_mono hsz (g4 v hv)) (can_non (Nat.le_of_ble_eq_true rfl))) (fun _ z => nomatch z) hcm (by rw [e1]; exact hP) (hD.weaken (fun _ q _ z => hF q.1 z)) hS1
      obtain ⟨t2, a1, b1⟩ := kw T' rfl X'
      exact ⟨t2, stp.trans a1, b1⟩
end GH

/-! CALLS -/
theorem xW_good {w : Cond} (h : w ∈ xW) : (w.onTables && w.keeps) = true ∨ ∃ ty, w = .arrayClass ty := good_of_word (List.mem_filter.mp h).2
theorem xW_goodIn {ws : List Cond} (h : ∀ w ∈ ws, w ∈ xW) : GoodIn xW ws := fun w hw => ⟨h w hw, xW_good (h w hw)⟩
abbrev xCode (M : xM) : Cond := .code (xNm M) (xBy M) (xMl M) (xRt M)
theorem xws_in {M : xM} (h : xCode M ∈ xW) : ∀ w ∈ xws M, w ∈ xW := fun w hw => by
  rcases List.mem_cons.mp hw with rfl | hw
  · exact h
  · exact hw
/-- a call: what the callee does, then what follows -/
theorem Go.call {G : xG} {M M' : xM} {pc pc' : Nat} {L : xL} {S S0 A : List Value} {h : xH} {P P1 : Option Value → xH → Prop} (e : pc + 3 = pc') (hC : Ca G M' A h P1) (k : ∀ v h1, P1 v h1 → Go G M pc' L (v.toList ++ S) h1 P)
    (f : ∀ (v : Option Value) (h1 : xH), Mx G M' A h v h1 → ∀ (p : Program) (e : Env) (R : Room) (s : State) (m : MethodId) (args : Array Value) (below : List Frame) (meth : Method) (c : Code) (H : Heap) (locs : List Loc) (cells slots : Nat) (ls : Array Slot), xCx G M p R s m args meth c → xHp G h H → xS G H locs → xLs G M L ls → cells + (h1.1.1 - h.1.1) ≤ R.cells → slots + (h1.1.2 - h.1.2) ≤ R.slots →
      va_Run p (gL G) e R s m args below meth c H locs cells slots (h1.1.1 - h.1.1) (h1.1.2 - h.1.2) (F0 m pc ls (S0.map (xv G))) (S.map (xv G)) (xQc G v h1 (A.map (xv G)).toArray) (xOut G)) : Go G M pc L S0 h P := by
  obtain ⟨v1, h1, hP1, hM⟩ := hC
  obtain ⟨v, h', hP, hm, hE⟩ := k v1 h1 hP1
  have hm1 := hM.1
  refine ⟨v, h', hP, ⟨by omega, by omega⟩, fun p e0 R s m args below meth c H locs cells slots Cf Sf Q ls C hH hS hL e1 e2 r1 r2 hEnd => ?_⟩
  subst e
  have hr := f v1 h1 hM p e0 R s m args below meth c H locs cells slots ls C hH hS hL (by omega) (by omega)
  intro T hT X
  obtain ⟨v2, st₀, t, T', L', h0, X', hL', g1, g2, hq, st⟩ := hr T hT X
  obtain ⟨hv, hHt, hLo⟩ := hq
  have hv2 : v2 = v1.map (xv G) := Outcome.returned.inj hv
  subst hv2
  have hHT : xHp G h1 T'.heap := by rw [g1]; exact hHt
  have hST : xS G T'.heap (locs ++ L') := by
    rw [g1]
    refine ⟨hLo.1, hLo.2, fun q hq => ?_⟩
    rcases List.mem_append.mp hq with h9 | h9
    · exact hS.2.2 q h9
    · exact hL' q h9
  have w := hE p e0 R s m args below meth c T'.heap (locs ++ L') (cells + (h1.1.1 - h.1.1)) (slots + (h1.1.2 - h.1.2)) Cf Sf Q ls C hHT hST hL (by omega) (by omega) r1 r2 hEnd
  have hst : ((v1.toList ++ S).map (xv G)) = (v1.map (xv G)).toList ++ S.map (xv G) := by cases v1 <;> rfl
  rw [hst] at w
  obtain ⟨t2, a1, b1⟩ := w T' rfl X'
  exact ⟨t2, st t2 a1, b1⟩
theorem xPc_blind (G : xG) (A : List Value) (h : xH) : FrameBlind (xPc G A h) := fun a U g mk q => ⟨q.1, q.2.1, q.2.2.1, xKn.warm (s := U) (U := U.calling g mk a) ((State.WarmedH.refl U)) q.2.2.2⟩
theorem xcat_map (G : xG) (S : List Value) : ((S.map (xv G)).map fun v => v.category) = S.map fun v => v.category := by
  rw [List.map_map]
  exact List.map_congr_left (fun v _ => xv_cat G v)
/-- what every call wants: the callee's code, its level, the number of its parameters -/
def xCl0 (M M' : xM) (n : Nat) : Prop := Cond.initialized (xOwn M') ∈ xW ∧ xCode M' ∈ xW ∧ ((xNm M').cls ≠ "java/lang/invoke/MethodHandle" ∧ (xNm M').cls ≠ "java/lang/invoke/VarHandle" ∧ (parseMethodDescriptor (xNm M').desc).map (fun d => d.parameters.length) = some n) ∧ xLv M' + 1 ≤ xLv M ∧ xMl M' ≤ 100
theorem xPre {G : xG} {M : xM} {A : List Value} {h : xH} {p : Program} {R : Room} {s : State} {m : MethodId} {args : Array Value} {meth : Method} {c : Code} {H : Heap} {locs : List Loc} (X : xCx G M p R s m args meth c) (hH : xHp G h H) (hS : xS G H locs) : ∀ U : State, U.heap = H → s.WarmedH U.vm → xPc G A h (A.map (xv G)).toArray U :=
  fun U hU hW => ⟨rfl, by rw [hU]; exact hH, by rw [hU]; exact ⟨hS.1, hS.2.1⟩, xKn.warm hW X.2.2.2.2.2.2.1⟩
def xCv (M : xM) (index : Nat) (M' : xM) (n : Nat) : Prop := Cond.methodLink (xOwn M) index (xNm M') ∈ xW ∧ Cond.instanceMethod (xNm M') ∈ xW ∧ Cond.selects (xOwn M') (xNm M') (xNm M') ∈ xW ∧ xCl0 M M' n
theorem go_invV {G : xG} {M M' : xM} {pc pc' : Nat} {L : xL} {S S0 As : List Value} {h : xH} {P P1 : Option Value → xH → Prop} {index n a ci N : Nat} {T : u_T} {fs : List Value} (d : decode (xBy M) pc = .ok (.invokevirtual index, 3)) (e : pc + 3 = pc') (q : xCv M index M' n) (hc : vwCl[ci]? = some (xOwn M', T, N)) (hh : h.2 a = some (.inr (ci, fs))) (hs : As.reverse ++ .ref a :: S = S0) (hA : As.length = n) (hW : (S.map fun v => v.category).sum ≤ 8) (hC : Ca G M' (.ref a :: As) h P1) (k : ∀ v h1, P1 v h1 → Go G M pc' L (v.toList ++ S) h1 P) : Go G M pc L S0 h P := by
  obtain ⟨w1, w2, w3, w4, w5, w6, w7, w8⟩ := q
  refine Go.call e hC k (fun v h1 hM p e0 R s m args below meth c H locs cells slots ls X hH hS hL r1 r2 => ?_)
  have hR := X.2.2.2.2.2.2.2
  refine va_runV (As := As.map (xv G)) (b := gB G + a) ⟨X.1, X.2.1, X.2.2.1, X.2.2.2.1, X.2.2.2.2.1⟩ hM.2
    (cwV (C := xOwn M') n X.2.2.2.2.1 (xW_goodIn (ws := wsV (xOwn M) index (xOwn M') (xNm M') (xws M')) (fun w hw => ?_)) rfl rfl rfl ⟨rfl, w6⟩ ⟨Nat.le_trans w7 hR.1, ?_⟩)
    ⟨xPc_blind G _ h, va_recv X.2.2.2.2.2.2.1.1 (go_ialoadG hH hh) hc (q0 := 0) rfl, fun U hU hW => xPre (A := .ref a :: As) X hH hS U hU hW⟩ rfl ?_ hL.1 ?_ (lv_room (by rw [xcat_map]; exact hW)) d ⟨r1, r2⟩
  · simp only [wsV, List.cons_append, List.nil_append, List.mem_cons] at hw
    rcases hw with rfl | rfl | rfl | rfl | hw
    · exact w1
    · exact w2
    · exact w3
    · exact w4
    · exact xws_in w5 w hw
  · show 8 + (xMl M' + 11) + 200 * xLv M' ≤ R.locals
    have := hR.2
    omega
  · rw [List.length_map]; exact hA
  · show S0.map (xv G) = _
    rw [← hs, List.map_append, List.map_reverse]
    rfl
def xCs (M : xM) (index : Nat) (M' : xM) (n : Nat) : Prop := Cond.methodLink (xOwn M) index (xNm M') ∈ xW ∧ Cond.static (xNm M') ∈ xW ∧ xCl0 M M' n
theorem go_invS {G : xG} {M M' : xM} {pc pc' : Nat} {L : xL} {S S0 As : List Value} {h : xH} {P P1 : Option Value → xH → Prop} {index n : Nat} (d : decode (xBy M) pc = .ok (.invokestatic index, 3)) (e : pc + 3 = pc') (q : xCs M index M' n) (hs : As.reverse ++ S = S0) (hA : As.length = n) (hW : (S.map fun v => v.category).sum ≤ 8) (hC : Ca G M' As h P1) (k : ∀ v h1, P1 v h1 → Go G M pc' L (v.toList ++ S) h1 P) : Go G M pc L S0 h P := by
  obtain ⟨w1, w2, w4, w5, w6, w7, w8⟩ := q
  refine Go.call e hC k (fun v h1 hM p e0 R s m args below meth c H locs cells slots ls X hH hS hL r1 r2 => ?_)
  have hR := X.2.2.2.2.2.2.2
  refine va_runS (As := As.map (xv G)) ⟨X.1, X.2.1, X.2.2.1, X.2.2.2.1, X.2.2.2.2.1⟩ hM.2
    (va_cwS n X.2.2.2.2.1 (xW_goodIn (ws := va_wsS (xOwn M) index (xNm M') (xws M')) (fun w hw => ?_)) rfl rfl rfl w6 ⟨Nat.le_trans w7 hR.1, ?_⟩)
    ⟨xPc_blind G _ h, fun U hU hW => xPre (A := As) X hH hS U hU hW⟩ rfl ?_ hL.1 ?_ (lv_room (by rw [xcat_map]; exact hW)) d ⟨r1, r2⟩
  · simp only [va_wsS, List.cons_append, List.nil_append, List.mem_cons] at hw
    rcases hw with rfl | rfl | rfl | hw
    · exact w1
    · exact w2
    · exact w4
    · exact xws_in w5 w hw
  · show 8 + (xMl M' + 11) + 200 * xLv M' ≤ R.locals
    have := hR.2
    omega
  · rw [List.length_map]; exact hA
  · show S0.map (xv G) = _
    rw [← hs, List.map_append, List.map_reverse]
def xCi (M : xM) (index : Nat) (M' : xM) (n : Nat) : Prop := Cond.methodLink (xOwn M) index (xNm M') ∈ xW ∧ Cond.instanceMethod (xNm M') ∈ xW ∧ ((xNm M').name = "<init>" ∧ xRt M' = none) ∧ xCl0 M M' n
theorem go_invI {G : xG} {M M' : xM} {pc pc' : Nat} {L : xL} {S S0 As : List Value} {h : xH} {P P1 : Option Value → xH → Prop} {index n a : Nat} (d : decode (xBy M) pc = .ok (.invokespecial index, 3)) (e : pc + 3 = pc') (q : xCi M index M' n) (hs : As.reverse ++ .ref a :: S = S0) (hA : As.length = n) (hW : (S.map fun v => v.category).sum ≤ 8) (hC : Ca G M' (.ref a :: As) h P1) (k : ∀ v h1, P1 v h1 → Go G M pc' L (v.toList ++ S) h1 P) : Go G M pc L S0 h P := by
  obtain ⟨w1, w2, ⟨w3, w9⟩, w4, w5, w6, w7, w8⟩ := q
  refine Go.call e hC k (fun v h1 hM p e0 R s m args below meth c H locs cells slots ls X hH hS hL r1 r2 => ?_)
  have hR := X.2.2.2.2.2.2.2
  have hts := X.2.2.2.2.1
  refine va_runI (As := As.map (xv G)) (b := gB G + a) ⟨X.1, X.2.1, X.2.2.1, X.2.2.2.1, X.2.2.2.2.1⟩ hM.2
    (cwI (bytes := xBy M') (maxL := xMl M') (ws' := xW) n hts (xW_goodIn (ws := xws M') (xws_in w5)) (by rw [xws, w9]) rfl rfl (hts _ w4) (hts _ w1) (hts _ w2) w3 w6 ⟨Nat.le_trans w7 hR.1, ?_⟩)
    ⟨xPc_blind G _ h, fun U hU hW => xPre (A := .ref a :: As) X hH hS U hU hW⟩ rfl ?_ hL.1 ?_ (lv_room (by rw [xcat_map]; exact hW)) d ⟨r1, r2⟩
  · show 8 + (xMl M' + 11) + 200 * xLv M' ≤ R.locals
    have := hR.2
    omega
  · rw [List.length_map]; exact hA
  · show S0.map (xv G) = _
    rw [← hs, List.map_append, List.map_reverse]
    rfl
def xCsN (M : xM) (index : Nat) (M' : xM) (n : Nat) : Prop := (∃ host, Cond.methodLinkNest (xOwn M) index (xNm M') host ∈ xN) ∧ Cond.static (xNm M') ∈ xW ∧ xCl0 M M' n
theorem go_invSN {G : xG} {M M' : xM} {pc pc' : Nat} {L : xL} {S S0 As : List Value} {h : xH} {P P1 : Option Value → xH → Prop} {index n : Nat} (d : decode (xBy M) pc = .ok (.invokestatic index, 3)) (e : pc + 3 = pc') (q : xCsN M index M' n) (hs : As.reverse ++ S = S0) (hA : As.length = n) (hW : (S.map fun v => v.category).sum ≤ 8) (hC : Ca G M' As h P1) (k : ∀ v h1, P1 v h1 → Go G M pc' L (v.toList ++ S) h1 P) : Go G M pc L S0 h P := by
  obtain ⟨⟨host, w1⟩, w2, w4, w5, w6, w7, w8⟩ := q
  refine Go.call e hC k (fun v h1 hM p e0 R s m args below meth c H locs cells slots ls X hH hS hL r1 r2 => ?_)
  have hR := X.2.2.2.2.2.2.2
  have hts := X.2.2.2.2.1
  refine va_runSN (As := As.map (xv G)) ⟨X.1, X.2.1, X.2.2.1, X.2.2.2.1, X.2.2.2.2.1⟩ hM.2
    ⟨va_cnB (host := host) (bytes := xBy M') (maxL := xMl M') (ret := xRt M') (ws' := xW) n hts (xW_goodIn (ws := xws M') (xws_in w5)) rfl rfl rfl (X.2.2.2.2.2.2.1.2.1 _ w1) (hts _ w4) w6 ⟨Nat.le_trans w7 hR.1, ?_⟩, hts _ w2, trivial⟩
    ⟨xPc_blind G _ h, fun U hU hW => xPre (A := As) X hH hS U hU hW⟩ rfl ?_ hL.1 ?_ (lv_room (by rw [xcat_map]; exact hW)) d ⟨r1, r2⟩
  · show 8 + (xMl M' + 11) + 200 * xLv M' ≤ R.locals
    have := hR.2
    omega
  · rw [List.length_map]; exact hA
  · show S0.map (xv G) = _
    rw [← hs, List.map_append, List.map_reverse]
def xCiN (M : xM) (index : Nat) (M' : xM) (n : Nat) : Prop := (∃ host, Cond.methodLinkNest (xOwn M) index (xNm M') host ∈ xN) ∧ Cond.instanceMethod (xNm M') ∈ xW ∧ ((xNm M').name = "<init>" ∧ xRt M' = none) ∧ xCl0 M M' n
theorem go_invIN {G : xG} {M M' : xM} {pc pc' : Nat} {L : xL} {S S0 As : List Value} {h : xH} {P P1 : Option Value → xH → Prop} {index n a : Nat} (d : decode (xBy M) pc = .ok (.invokespecial index, 3)) (e : pc + 3 = pc') (q : xCiN M index M' n) (hs : As.reverse ++ .ref a :: S = S0) (hA : As.length = n) (hW : (S.map fun v => v.category).sum ≤ 8) (hC : Ca G M' (.ref a :: As) h P1) (k : ∀ v h1, P1 v h1 → Go G M pc' L (v.toList ++ S) h1 P) : Go G M pc L S0 h P := by
  obtain ⟨⟨host, w1⟩, w2, ⟨w3, w9⟩, w4, w5, w6, w7, w8⟩ := q
  refine Go.call e hC k (fun v h1 hM p e0 R s m args below meth c H locs cells slots ls X hH hS hL r1 r2 => ?_)
  have hR := X.2.2.2.2.2.2.2
  have hts := X.2.2.2.2.1
  refine va_runIN (As := As.map (xv G)) (b := gB G + a) ⟨X.1, X.2.1, X.2.2.1, X.2.2.2.1, X.2.2.2.2.1⟩ hM.2
    ⟨va_cnB (host := host) (bytes := xBy M') (maxL := xMl M') (ret := none) (ws' := xW) n hts (xW_goodIn (ws := xws M') (xws_in w5)) (by rw [xws, w9]) rfl rfl (X.2.2.2.2.2.2.1.2.1 _ w1) (hts _ w4) w6 ⟨Nat.le_trans w7 hR.1, ?_⟩, w3, hts _ w2⟩
    ⟨xPc_blind G _ h, fun U hU hW => xPre (A := .ref a :: As) X hH hS U hU hW⟩ rfl ?_ hL.1 ?_ (lv_room (by rw [xcat_map]; exact hW)) d ⟨r1, r2⟩
  · show 8 + (xMl M' + 11) + 200 * xLv M' ≤ R.locals
    have := hR.2
    omega
  · rw [List.length_map]; exact hA
  · show S0.map (xv G) = _
    rw [← hs, List.map_append, List.map_reverse]
    rfl
/-- Object's constructor -/
theorem go_objInit {G : xG} {M : xM} {pc pc' : Nat} {L : xL} {S : List Value} {h : xH} {P : Option Value → xH → Prop} {index a : Nat} (d : decode (xBy M) pc = .ok (.invokespecial index, 3)) (e : pc + 3 = pc') (w1 : Cond.methodLink (xOwn M) index objectInit ∈ xW) (w2 : Cond.instanceMethod objectInit ∈ xW) (w3 : Cond.code objectInit ⟨#[0xb1]⟩ 1 none ∈ xW) (hv : 1 ≤ xLv M) (hW : (S.map fun v => v.category).sum ≤ 8) (k : Go G M pc' L S h P) : Go G M pc L (.ref a :: S) h P :=
  k.go (fun p e0 R s m args below meth c H locs cells slots Q ls X hH hS hL w => by
    subst e
    have hts := X.2.2.2.2.1
    have hR := X.2.2.2.2.2.2.2
    refine W.objInit X.1 X.2.1 X.2.2.2.1 (hts _ w1) (hts _ w2) (hts _ w3) rfl (hL.1.trans X.2.2.1.symm) (a := gB G + a) (rest := S.map (xv G)) rfl d (Nat.le_trans hv hR.1) ?_ (w _ hL)
    have h8 := lv_room (m := m) (pc := pc) (ls := ls) (rest := (Value.ref a :: S).map (xv G)) (st := S.map (xv G)) (by rw [xcat_map]; exact hW)
    have := hR.2
    omega)

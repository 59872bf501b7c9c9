/-! CALLS -/
theorem xW_good {w : Cond} (h : w ∈ xW) : (w.onTables && w.keeps) = true ∨ ∃ ty, w = .arrayClass ty := good_of_word (List.mem_filter.mp h).2
theorem xW_goodIn {ws : List Cond} (h : ∀ w ∈ ws, w ∈ xW) : GoodIn xW ws := fun w hw => ⟨h w hw, xW_good (h w hw)⟩
abbrev xCode (M : xM) : Cond := .code (xNm M) (xBy M) (xMl M) (xRt M)
theorem xws_in {M : xM} (h : xCode M ∈ xW) : ∀ w ∈ xws M, w ∈ xW := fun w hw => by
  rcases List.mem_cons.mp hw with rfl | hw
  · exact h
  · exact hw
/-- a call: what the callee does, then what follows -/
theorem Go.call {G : xG} {M M' : xM} {pc pc' : Nat} {L : xL} {S S0 A : List Value} {h : xH} {P P1 : Option Value → xH → Prop} (e : pc + 3 = pc') (hC : Ca G M' A h P1) (k : ∀ v h1, P1 v h1 → Go G M pc' L (v.toList ++ S) h1 P)
    (f : ∀ (v : Option Value) (h1 : xH), Mx G M' A h v h1 → ∀ (p : Program) (e : Env) (R : Room) (s : State) (m : MethodId) (args : Array Value) (below : List Frame) (meth : Method) (c : Code) (H : Heap) (locs : List Loc) (cells slots : Nat) (ls : Array Slot), xCx G M p R s m args meth c → xHp G h H → xS G H locs → xLs G M L ls → cells + (h1.1.1 - h.1.1) ≤ R.cells → slots + (h1.1.2 - h.1.2) ≤ R.slots →
      va_Run p (gL G) e R s m args below meth c H locs cells slots (h1.1.1 - h.1.1) (h1.1.2 - h.1.2) (F0 m pc ls (S0.map (xv G))) (S.map (xv G)) (xQc G v h1 (A.map (xv G)).toArray) (xOut G)) : Go G M pc L S0 h P := by
  obtain ⟨v1, h1, hP1, hM⟩ := hC
  obtain ⟨v, h', hP, hm, hE⟩ := k v1 h1 hP1
  have hm1 := hM.1
  refine ⟨v, h', hP, ⟨by omega, by omega⟩, fun p e0 R s m args below meth c H locs cells slots Cf Sf Q ls C hH hS hL e1 e2 r1 r2 hEnd => ?_⟩
  subst e
  have hr := f v1 h1 hM p e0 R s m args below meth c H locs cells slots ls C hH hS hL (by omega) (by omega)
  intro T hT X
  obtain ⟨v2, st₀, t, T', L', h0, X', hL', g1, g2, hq, st⟩ := hr T hT X
  obtain ⟨hv, hHt, hLo⟩ := hq
  have hv2 : v2 = v1.map (xv G) := Outcome.returned.inj hv
  subst hv2
  have hHT : xHp G h1 T'.heap := by rw [g1]; exact hHt
  have hST : xS G T'.heap (locs ++ L') := by
    rw [g1]
    refine ⟨hLo.1, hLo.2, fun q hq => ?_⟩
    rcases List.mem_append.mp hq with h9 | h9
    · exact hS.2.2 q h9
    · exact hL' q h9
  have w := hE p e0 R s m args below meth c T'.heap (locs ++ L') (cells + (h1.1.1 - h.1.1)) (slots + (h1.1.2 - h.1.2)) Cf Sf Q ls C hHT hST hL (by omega) (by omega) r1 r2 hEnd
  have hst : ((v1.toList ++ S).map (xv G)) = (v1.map (xv G)).toList ++ S.map (xv G) := by cases v1 <;> rfl
  rw [hst] at w
  obtain ⟨t2, a1, b1⟩ := w T' rfl X'
  exact ⟨t2, st t2 a1, b1⟩
theorem xPc_blind (G : xG) (A : List Value) (h : xH) : FrameBlind (xPc G A h) := fun a U g mk q => ⟨q.1, q.2.1, q.2.2.1, xKn.warm (s := U) (U := U.calling g mk a) ((State.WarmedH.refl U)) q.2.2.2⟩

/-! Math.max, Math.min: the kit's own rows (java/lang/Math has natives of its own, so no contract by its code) -/
def imin (a b : Int32) : Int32 := if b < a then b else a
def imax (a b : Int32) : Int32 := if a < b then b else a
def lmin (a b : Int64) : Int64 := if b < a then b else a
def lmax (a b : Int64) : Int64 := if b < a then a else b
/-- a step that leaves the heap, with what is left of the room -/
theorem Go.go2 {G : xG} {M : xM} {pc pc2 : Nat} {L L2 : xL} {S S2 : List Value} {h : xH} {P : Option Value → xH → Prop} (k : Go G M pc2 L2 S2 h P)
    (f : ∀ (p : Program) (e : Env) (R : Room) (s : State) (m : MethodId) (args : Array Value) (below : List Frame) (meth : Method) (c : Code) (H : Heap) (locs : List Loc) (cells slots : Nat) (Q : State → Prop) (ls : Array Slot), xCx G M p R s m args meth c → xHp G h H → xS G H locs → xLs G M L ls → cells ≤ R.cells → slots ≤ R.slots →
      (∀ ls2 : Array Slot, xLs G M L2 ls2 → W p (gL G) e R s m args below meth c H locs cells slots Q (F0 m pc2 ls2 (S2.map (xv G)))) → W p (gL G) e R s m args below meth c H locs cells slots Q (F0 m pc ls (S.map (xv G)))) : Go G M pc L S h P := by
  obtain ⟨v, h', hP, hm, hE⟩ := k
  refine ⟨v, h', hP, hm, fun p e R s m args below meth c H locs cells slots Cf Sf Q ls C hH hS hL e1 e2 r1 r2 hEnd => ?_⟩
  exact f p e R s m args below meth c H locs cells slots Q ls C hH hS hL (by omega) (by omega) (fun ls2 hL2 => hE p e R s m args below meth c H locs cells slots Cf Sf Q ls2 C hH hS hL2 e1 e2 r1 r2 hEnd)
theorem xRoom {G : xG} {M : xM} {p : Program} {R : Room} {s : State} {m : MethodId} {args : Array Value} {meth : Method} {c : Code} {S : List Value} (X : xCx G M p R s m args meth c) (hv : 1 ≤ xLv M) (hW : (S.map fun v => v.category).sum ≤ 8) : 1 ≤ R.frames ∧ ((S.map (xv G)).map fun v => v.category).sum + 15 ≤ R.locals := by
  have hR := X.2.2.2.2.2.2.2
  rw [xcat_map]
  exact ⟨Nat.le_trans hv hR.1, by have := hR.2; omega⟩
theorem go_mmax {G : xG} {M : xM} {pc pc' : Nat} {L : xL} {S : List Value} {h : xH} {P : Option Value → xH → Prop} {index : Nat} {x y : Int32} (d : decode (xBy M) pc = .ok (.invokestatic index, 3)) (e : pc + 3 = pc') (q : xCs M index mJ9_max_7cf53 2) (hW : (S.map fun v => v.category).sum ≤ 8) (k : Go G M pc' L (.int (imax x y) :: S) h P) : Go G M pc L (.int y :: .int x :: S) h P := by
  obtain ⟨w1, w2, w3, w4, w5, w6, w7⟩ := q
  refine k.go2 (fun p e0 R s m args below meth c H locs cells slots Q ls X hH hS hL r1 r2 w => ?_)
  subst e
  have hts := X.2.2.2.2.1
  obtain ⟨f1, f2⟩ := xRoom (S := S) X (by omega) hW
  exact va_mmax X.1 X.2.1 (X.2.2.1.trans hL.1.symm) X.2.2.2.1 (hts _ w1) (hts _ w2) (hts _ w3) (hts _ w4) f1 (by omega) r1 r2 d (w _ hL)
theorem go_mmin {G : xG} {M : xM} {pc pc' : Nat} {L : xL} {S : List Value} {h : xH} {P : Option Value → xH → Prop} {index : Nat} {x y : Int32} (d : decode (xBy M) pc = .ok (.invokestatic index, 3)) (e : pc + 3 = pc') (q : xCs M index mJ9_min_7cf53 2) (hW : (S.map fun v => v.category).sum ≤ 8) (k : Go G M pc' L (.int (imin x y) :: S) h P) : Go G M pc L (.int y :: .int x :: S) h P := by
  obtain ⟨w1, w2, w3, w4, w5, w6, w7⟩ := q
  refine k.go2 (fun p e0 R s m args below meth c H locs cells slots Q ls X hH hS hL r1 r2 w => ?_)
  subst e
  have hts := X.2.2.2.2.1
  obtain ⟨f1, f2⟩ := xRoom (S := S) X (by omega) hW
  exact va_mmin X.1 X.2.1 (X.2.2.1.trans hL.1.symm) X.2.2.2.1 (hts _ w1) (hts _ w2) (hts _ w3) (hts _ w4) f1 (by omega) r1 r2 d (w _ hL)
theorem go_mlmax {G : xG} {M : xM} {pc pc' : Nat} {L : xL} {S : List Value} {h : xH} {P : Option Value → xH → Prop} {index : Nat} {x y : Int64} (d : decode (xBy M) pc = .ok (.invokestatic index, 3)) (e : pc + 3 = pc') (q : xCs M index mJ9_max_f86c9 2) (hW : (S.map fun v => v.category).sum ≤ 8) (k : Go G M pc' L (.long (lmax x y) :: S) h P) : Go G M pc L (.long y :: .long x :: S) h P := by
  obtain ⟨w1, w2, w3, w4, w5, w6, w7⟩ := q
  refine k.go2 (fun p e0 R s m args below meth c H locs cells slots Q ls X hH hS hL r1 r2 w => ?_)
  subst e
  have hts := X.2.2.2.2.1
  obtain ⟨f1, f2⟩ := xRoom (S := S) X (by omega) hW
  exact va_mmax_long X.1 X.2.1 (X.2.2.1.trans hL.1.symm) X.2.2.2.1 (hts _ w1) (hts _ w2) (hts _ w3) (hts _ w4) f1 (by omega) r1 r2 d (w _ hL)
theorem go_mlmin {G : xG} {M : xM} {pc pc' : Nat} {L : xL} {S : List Value} {h : xH} {P : Option Value → xH → Prop} {index : Nat} {x y : Int64} (d : decode (xBy M) pc = .ok (.invokestatic index, 3)) (e : pc + 3 = pc') (q : xCs M index mJ9_min_f86c9 2) (hW : (S.map fun v => v.category).sum ≤ 8) (k : Go G M pc' L (.long (lmin x y) :: S) h P) : Go G M pc L (.long y :: .long x :: S) h P := by
  obtain ⟨w1, w2, w3, w4, w5, w6, w7⟩ := q
  refine k.go2 (fun p e0 R s m args below meth c H locs cells slots Q ls X hH hS hL r1 r2 w => ?_)
  subst e
  have hts := X.2.2.2.2.1
  obtain ⟨f1, f2⟩ := xRoom (S := S) X (by omega) hW
  exact va_mmin_long X.1 X.2.1 (X.2.2.1.trans hL.1.symm) X.2.2.2.1 (hts _ w1) (hts _ w2) (hts _ w3) (hts _ w4) f1 (by omega) r1 r2 d (w _ hL)

/-! RULES OVER NATURAL NUMBERS: indexes and counters as nI n -/
theorem go_iaddN {G : xG} {M : xM} {pc pc' : Nat} {L : xL} {S : List Value} {h : xH} {P : Option Value → xH → Prop} {a b : Nat} (d : decode (xBy M) pc = .ok (.iadd, 1)) (e : pc + 1 = pc') (k : Go G M pc' L (.int (nI (a + b)) :: S) h P) : Go G M pc L (.int (nI b) :: .int (nI a) :: S) h P := by
  refine go_iadd d e ?_
  rw [nI_add]
  exact k
theorem go_isubN {G : xG} {M : xM} {pc pc' : Nat} {L : xL} {S : List Value} {h : xH} {P : Option Value → xH → Prop} {a b : Nat} (d : decode (xBy M) pc = .ok (.isub, 1)) (e : pc + 1 = pc') (hab : b ≤ a) (k : Go G M pc' L (.int (nI (a - b)) :: S) h P) : Go G M pc L (.int (nI b) :: .int (nI a) :: S) h P := by
  refine go_isub d e ?_
  rw [pk_sub hab]
  exact k
theorem go_iincN {G : xG} {M : xM} {pc pc' : Nat} {L : xL} {S : List Value} {h : xH} {P : Option Value → xH → Prop} {L' : xL} {i x : Nat} {n : Int} (k : Nat) (d : decode (xBy M) pc = .ok (.iinc i n, 3)) (e : pc + 3 = pc') (hl : L[i]? = some (some (.int (nI x)))) (hv : Int32.ofInt n = nI k) (hn : i < xMl M) (hs : xs1 (.int (nI (x + k))) i L = L') (kk : Go G M pc' L' S h P) : Go G M pc L S h P :=
  go_iinc d e hl (by rw [hv, nI_add]) hn hs kk
theorem go_ialoadN {G : xG} {M : xM} {pc pc' : Nat} {L : xL} {S : List Value} {h : xH} {P : Option Value → xH → Prop} {a n i : Nat} {f : Nat → Int32} (d : decode (xBy M) pc = .ok (.iaload, 1)) (e : pc + 1 = pc') (hh : h.2 a = some (.inl (0, n, .inl f))) (hn : n < 2 ^ 31) (hi : i < n) (k : Go G M pc' L (.int (f i) :: S) h P) : Go G M pc L (.int (nI i) :: .ref a :: S) h P := by
  refine go_iaload d e hh (vp_in_nI hi hn) ?_
  rw [nI_clamp (by omega)]
  exact k
theorem go_baloadN {G : xG} {M : xM} {pc pc' : Nat} {L : xL} {S : List Value} {h : xH} {P : Option Value → xH → Prop} {a n i : Nat} {f : Nat → Int32} (d : decode (xBy M) pc = .ok (.baload, 1)) (e : pc + 1 = pc') (hh : h.2 a = some (.inl (1, n, .inl f))) (hn : n < 2 ^ 31) (hi : i < n) (k : Go G M pc' L (.int (f i) :: S) h P) : Go G M pc L (.int (nI i) :: .ref a :: S) h P := by
  refine go_baload d e hh (vp_in_nI hi hn) ?_
  rw [nI_clamp (by omega)]
  exact k
theorem go_zaloadN {G : xG} {M : xM} {pc pc' : Nat} {L : xL} {S : List Value} {h : xH} {P : Option Value → xH → Prop} {a n i : Nat} {f : Nat → Int32} (d : decode (xBy M) pc = .ok (.baload, 1)) (e : pc + 1 = pc') (hh : h.2 a = some (.inl (3, n, .inl f))) (hn : n < 2 ^ 31) (hi : i < n) (k : Go G M pc' L (.int (f i) :: S) h P) : Go G M pc L (.int (nI i) :: .ref a :: S) h P := by
  refine go_zaload d e hh (vp_in_nI hi hn) ?_
  rw [nI_clamp (by omega)]
  exact k
theorem go_laloadN {G : xG} {M : xM} {pc pc' : Nat} {L : xL} {S : List Value} {h : xH} {P : Option Value → xH → Prop} {a n i : Nat} {f : Nat → Int64} (d : decode (xBy M) pc = .ok (.laload, 1)) (e : pc + 1 = pc') (hh : h.2 a = some (.inl (2, n, .inr (.inl f)))) (hn : n < 2 ^ 31) (hi : i < n) (k : Go G M pc' L (.long (f i) :: S) h P) : Go G M pc L (.int (nI i) :: .ref a :: S) h P := by
  refine go_laload d e hh (vp_in_nI hi hn) ?_
  rw [nI_clamp (by omega)]
  exact k
theorem go_aaloadN {G : xG} {M : xM} {pc pc' : Nat} {L : xL} {S : List Value} {h : xH} {P : Option Value → xH → Prop} {a n t i : Nat} {f : Nat → Option Nat} (d : decode (xBy M) pc = .ok (.aaload, 1)) (e : pc + 1 = pc') (ht : 4 ≤ t ∧ t < 8) (hh : h.2 a = some (.inl (t, n, .inr (.inr (.inr (.inr f)))))) (hn : n < 2 ^ 31) (hi : i < n) (k : Go G M pc' L (va_rf (f i) :: S) h P) : Go G M pc L (.int (nI i) :: .ref a :: S) h P := by
  refine go_aaload d e ht hh (vp_in_nI hi hn) ?_
  rw [nI_clamp (by omega)]
  exact k
theorem go_aaloadR {G : xG} {M : xM} {pc pc' : Nat} {L : xL} {S : List Value} {h : xH} {P : Option Value → xH → Prop} {a n t i b : Nat} {f : Nat → Option Nat} (d : decode (xBy M) pc = .ok (.aaload, 1)) (e : pc + 1 = pc') (ht : 4 ≤ t ∧ t < 8) (hh : h.2 a = some (.inl (t, n, .inr (.inr (.inr (.inr f)))))) (hn : n < 2 ^ 31) (hi : i < n) (hb : f i = some b) (k : Go G M pc' L (.ref b :: S) h P) : Go G M pc L (.int (nI i) :: .ref a :: S) h P := by
  refine go_aaloadN d e ht hh hn hi ?_
  rw [hb]
  exact k
theorem go_iastoreN {G : xG} {M : xM} {pc pc' : Nat} {L : xL} {S : List Value} {h : xH} {P : Option Value → xH → Prop} {a n i : Nat} {f : Nat → Int32} {x : Int32} (d : decode (xBy M) pc = .ok (.iastore, 1)) (e : pc + 1 = pc') (hh : h.2 a = some (.inl (0, n, .inl f))) (hn : n < 2 ^ 31) (hi : i < n) (k : ∀ h1 : xH, h1.1 = h.1 → h1.2 a = some (.inl (0, n, .inl (upd f i x))) → xFr h h1 a → Go G M pc' L S h1 P) : Go G M pc L (.int x :: .int (nI i) :: .ref a :: S) h P :=
  go_iastoreK d e hh (vp_in_nI hi hn) (fun h1 a1 b1 c1 => k h1 a1 (by rw [b1, nI_clamp (by omega)]) c1)
theorem go_bastoreN {G : xG} {M : xM} {pc pc' : Nat} {L : xL} {S : List Value} {h : xH} {P : Option Value → xH → Prop} {a n i : Nat} {f : Nat → Int32} {x : Int32} (d : decode (xBy M) pc = .ok (.bastore, 1)) (e : pc + 1 = pc') (hh : h.2 a = some (.inl (1, n, .inl f))) (hn : n < 2 ^ 31) (hi : i < n) (k : ∀ h1 : xH, h1.1 = h.1 → h1.2 a = some (.inl (1, n, .inl (upd f i (vp_nar .byte x)))) → xFr h h1 a → Go G M pc' L S h1 P) : Go G M pc L (.int x :: .int (nI i) :: .ref a :: S) h P :=
  go_bastoreK d e hh (vp_in_nI hi hn) (fun h1 a1 b1 c1 => k h1 a1 (by rw [b1, nI_clamp (by omega)]) c1)
theorem go_zastoreN {G : xG} {M : xM} {pc pc' : Nat} {L : xL} {S : List Value} {h : xH} {P : Option Value → xH → Prop} {a n i : Nat} {f : Nat → Int32} {x : Int32} (d : decode (xBy M) pc = .ok (.bastore, 1)) (e : pc + 1 = pc') (hh : h.2 a = some (.inl (3, n, .inl f))) (hn : n < 2 ^ 31) (hi : i < n) (k : ∀ h1 : xH, h1.1 = h.1 → h1.2 a = some (.inl (3, n, .inl (upd f i (vp_nar .boolean x)))) → xFr h h1 a → Go G M pc' L S h1 P) : Go G M pc L (.int x :: .int (nI i) :: .ref a :: S) h P :=
  go_zastoreK d e hh (vp_in_nI hi hn) (fun h1 a1 b1 c1 => k h1 a1 (by rw [b1, nI_clamp (by omega)]) c1)
theorem go_lastoreN {G : xG} {M : xM} {pc pc' : Nat} {L : xL} {S : List Value} {h : xH} {P : Option Value → xH → Prop} {a n i : Nat} {f : Nat → Int64} {x : Int64} (d : decode (xBy M) pc = .ok (.lastore, 1)) (e : pc + 1 = pc') (hh : h.2 a = some (.inl (2, n, .inr (.inl f)))) (hn : n < 2 ^ 31) (hi : i < n) (k : ∀ h1 : xH, h1.1 = h.1 → h1.2 a = some (.inl (2, n, .inr (.inl (vp_updL f i x)))) → xFr h h1 a → Go G M pc' L S h1 P) : Go G M pc L (.long x :: .int (nI i) :: .ref a :: S) h P :=
  go_lastoreK d e hh (vp_in_nI hi hn) (fun h1 a1 b1 c1 => k h1 a1 (by rw [b1, nI_clamp (by omega)]) c1)
theorem go_icmpN_eq {G : xG} {M : xM} {pc pc' : Nat} {L : xL} {S : List Value} {h : xH} {P : Option Value → xH → Prop} {a b : Nat} {off : Int} {tgt : Nat} (d : decode (xBy M) pc = .ok (.if_icmp .eq off, 3)) (ht : (pc : Int) + off = (tgt : Int)) (e : pc + 3 = pc') (ha : a < 2 ^ 31) (hb : b < 2 ^ 31) (kt : a = b → Go G M tgt L S h P) (kf : a ≠ b → Go G M pc' L S h P) : Go G M pc L (.int (nI b) :: .int (nI a) :: S) h P :=
  go_icmp_eq d ht e (fun q => kt ((nI_eq ha hb).mp q)) (fun q => kf (fun z => q ((nI_eq ha hb).mpr z)))
theorem go_icmpN_ne {G : xG} {M : xM} {pc pc' : Nat} {L : xL} {S : List Value} {h : xH} {P : Option Value → xH → Prop} {a b : Nat} {off : Int} {tgt : Nat} (d : decode (xBy M) pc = .ok (.if_icmp .ne off, 3)) (ht : (pc : Int) + off = (tgt : Int)) (e : pc + 3 = pc') (ha : a < 2 ^ 31) (hb : b < 2 ^ 31) (kt : a ≠ b → Go G M tgt L S h P) (kf : a = b → Go G M pc' L S h P) : Go G M pc L (.int (nI b) :: .int (nI a) :: S) h P :=
  go_icmp_ne d ht e (fun q => kt (fun z => q ((nI_eq ha hb).mpr z))) (fun q => kf ((nI_eq ha hb).mp q))
theorem go_icmpN_lt {G : xG} {M : xM} {pc pc' : Nat} {L : xL} {S : List Value} {h : xH} {P : Option Value → xH → Prop} {a b : Nat} {off : Int} {tgt : Nat} (d : decode (xBy M) pc = .ok (.if_icmp .lt off, 3)) (ht : (pc : Int) + off = (tgt : Int)) (e : pc + 3 = pc') (ha : a < 2 ^ 31) (hb : b < 2 ^ 31) (kt : a < b → Go G M tgt L S h P) (kf : b ≤ a → Go G M pc' L S h P) : Go G M pc L (.int (nI b) :: .int (nI a) :: S) h P :=
  go_icmp_lt d ht e (fun q => kt ((nI_ltI ha hb).mp q)) (fun q => kf ((nI_leI hb ha).mp (Int32.not_lt.mp q)))
theorem go_icmpN_ge {G : xG} {M : xM} {pc pc' : Nat} {L : xL} {S : List Value} {h : xH} {P : Option Value → xH → Prop} {a b : Nat} {off : Int} {tgt : Nat} (d : decode (xBy M) pc = .ok (.if_icmp .ge off, 3)) (ht : (pc : Int) + off = (tgt : Int)) (e : pc + 3 = pc') (ha : a < 2 ^ 31) (hb : b < 2 ^ 31) (kt : b ≤ a → Go G M tgt L S h P) (kf : a < b → Go G M pc' L S h P) : Go G M pc L (.int (nI b) :: .int (nI a) :: S) h P :=
  go_icmp_ge d ht e (fun q => kt ((nI_leI hb ha).mp q)) (fun q => kf ((nI_ltI ha hb).mp (Int32.not_le.mp q)))
theorem go_icmpN_gt {G : xG} {M : xM} {pc pc' : Nat} {L : xL} {S : List Value} {h : xH} {P : Option Value → xH → Prop} {a b : Nat} {off : Int} {tgt : Nat} (d : decode (xBy M) pc = .ok (.if_icmp .gt off, 3)) (ht : (pc : Int) + off = (tgt : Int)) (e : pc + 3 = pc') (ha : a < 2 ^ 31) (hb : b < 2 ^ 31) (kt : b < a → Go G M tgt L S h P) (kf : a ≤ b → Go G M pc' L S h P) : Go G M pc L (.int (nI b) :: .int (nI a) :: S) h P :=
  go_icmp_gt d ht e (fun q => kt ((nI_ltI hb ha).mp q)) (fun q => kf ((nI_leI ha hb).mp (Int32.not_lt.mp q)))
theorem go_icmpN_le {G : xG} {M : xM} {pc pc' : Nat} {L : xL} {S : List Value} {h : xH} {P : Option Value → xH → Prop} {a b : Nat} {off : Int} {tgt : Nat} (d : decode (xBy M) pc = .ok (.if_icmp .le off, 3)) (ht : (pc : Int) + off = (tgt : Int)) (e : pc + 3 = pc') (ha : a < 2 ^ 31) (hb : b < 2 ^ 31) (kt : a ≤ b → Go G M tgt L S h P) (kf : b < a → Go G M pc' L S h P) : Go G M pc L (.int (nI b) :: .int (nI a) :: S) h P :=
  go_icmp_le d ht e (fun q => kt ((nI_leI ha hb).mp q)) (fun q => kf ((nI_ltI hb ha).mp (Int32.not_le.mp q)))

/-! the state that a heap of fresh objects holds -/
def hI (h : xH) (a k : Nat) : Int32 := match h.2 a with
  | some (.inl (_, _, .inl f)) => f k
  | some (.inr (_, fs)) => (match fs[k]? with | some (.int v) => v | _ => 0)
  | _ => 0
def hJ (h : xH) (a k : Nat) : Int64 := match h.2 a with
  | some (.inl (_, _, .inr (.inl f))) => f k
  | some (.inr (_, fs)) => (match fs[k]? with | some (.long v) => v | _ => 0)
  | _ => 0
def hR (h : xH) (a k : Nat) : Option Nat := match h.2 a with
  | some (.inl (_, _, .inr (.inr (.inr (.inr f))))) => f k
  | some (.inr (_, fs)) => (match fs[k]? with | some (.ref v) => some v | _ => none)
  | _ => none
def sgH (h : xH) : xσ := (hI h, hJ h, hR h)
theorem aI {h : xH} {a t n : Nat} {f : Nat → Int32} (e : h.2 a = some (.inl (t, n, .inl f))) (ht : ¬ t = 2) (h4 : t < 4) (q : xTy a = .inl (t, n)) : h.2 a = some (xCell (sgH h) a) := by
  have e1 : sI (sgH h) a = f := by funext k; simp [sI, sgH, hI, e]
  rw [xCell, q, e]
  show _ = some (Sum.inl (t, xArr (sgH h) a t n))
  rw [xArr, if_neg ht, if_pos h4, e1]
theorem aJ {h : xH} {a n : Nat} {f : Nat → Int64} (e : h.2 a = some (.inl (2, n, .inr (.inl f)))) (q : xTy a = .inl (2, n)) : h.2 a = some (xCell (sgH h) a) := by
  have e1 : sJ (sgH h) a = f := by funext k; simp [sJ, sgH, hJ, e]
  rw [xCell, q, e]
  show _ = some (Sum.inl (2, xArr (sgH h) a 2 n))
  rw [xArr, if_pos rfl, e1]
theorem aR {h : xH} {a t n : Nat} {f : Nat → Option Nat} (e : h.2 a = some (.inl (t, n, .inr (.inr (.inr (.inr f)))))) (ht : ¬ t = 2) (h4 : ¬ t < 4) (q : xTy a = .inl (t, n)) : h.2 a = some (xCell (sgH h) a) := by
  have e1 : sR (sgH h) a = f := by funext k; simp [sR, sgH, hR, e]
  rw [xCell, q, e]
  show _ = some (Sum.inl (t, xArr (sgH h) a t n))
  rw [xArr, if_neg ht, if_neg h4, e1]
theorem aO {h : xH} {a s : Nat} {fs : List Value} (e : h.2 a = some (.inr (s, fs))) (q : xTy a = .inr s) (hf : mkF (fldV (sgH h) a s) (xNf s) = fs) : h.2 a = some (xCell (sgH h) a) := by
  rw [xCell, q, e, ← hf]
/-- a field that is a number -/
theorem fI {h : xH} {a s k : Nat} {fs : List Value} {v : Int32} (e : h.2 a = some (.inr (s, fs))) (hv : fs[k]? = some (.int v)) : sI (sgH h) a k = v := by simp [sI, sgH, hI, e, hv]
theorem fJ {h : xH} {a s k : Nat} {fs : List Value} {v : Int64} (e : h.2 a = some (.inr (s, fs))) (hv : fs[k]? = some (.long v)) : sJ (sgH h) a k = v := by simp [sJ, sgH, hJ, e, hv]
theorem fR {h : xH} {a s k b : Nat} {fs : List Value} (e : h.2 a = some (.inr (s, fs))) (hv : fs[k]? = some (.ref b)) : sR (sgH h) a k = some b := by simp [sR, sgH, hR, e, hv]
theorem oS {h : xH} {n a : Nat} {kind size rc tl x0 y0 x1 y1 ho : Int32} {xs ys rs il : Nat → Int32} (g : okS n a) (k : CSh h a kind size rc tl x0 y0 x1 y1 ho xs ys rs il) : ∀ j, j < 5 → h.2 (a + j) = some (xCell (sgH h) (a + j)) := by
  obtain ⟨k0, k1, k2, k3, k4⟩ := k
  intro j hj
  rcases (show j = 0 ∨ j = 1 ∨ j = 2 ∨ j = 3 ∨ j = 4 by omega) with rfl | rfl | rfl | rfl | rfl
  · refine aO k0 g.at.1 ?_
    have e : mkF (fldV (sgH h) a 6) (xNf 6) = [.int (sI (sgH h) a 0), .int (sI (sgH h) a 1), .int (sI (sgH h) a 2), .int (sI (sgH h) a 3), .int (sI (sgH h) a 4), .int (sI (sgH h) a 5), .int (sI (sgH h) a 6), .int (sI (sgH h) a 7), .int (sI (sgH h) a 8), .ref (a + 1), .ref (a + 2), .ref (a + 3), .ref (a + 4)] := rfl
    rw [Nat.add_zero, e, fI k0 (k := 0) rfl, fI k0 (k := 1) rfl, fI k0 (k := 2) rfl, fI k0 (k := 3) rfl, fI k0 (k := 4) rfl, fI k0 (k := 5) rfl, fI k0 (k := 6) rfl, fI k0 (k := 7) rfl, fI k0 (k := 8) rfl]
  · exact aI k1 (by decide) (by decide) g.x.1
  · exact aI k2 (by decide) (by decide) g.y.1
  · exact aI k3 (by decide) (by decide) g.r.1
  · exact aI k4 (by decide) (by decide) g.l.1
theorem oM {h : xH} {a : Nat} {id kind pl ri : Int32} {en xs ys : Nat → Int32} (g : okM a) (k : MSh h a id kind pl ri en xs ys) : ∀ j, j < 4 → h.2 (a + j) = some (xCell (sgH h) (a + j)) := by
  obtain ⟨k0, k1, k2, k3⟩ := k
  intro j hj
  rcases (show j = 0 ∨ j = 1 ∨ j = 2 ∨ j = 3 by omega) with rfl | rfl | rfl | rfl
  · refine aO k0 (g.ty 0 (by omega)).1 ?_
    have e : mkF (fldV (sgH h) a 11) (xNf 11) = [.int (sI (sgH h) a 0), .int (sI (sgH h) a 1), .int (sI (sgH h) a 2), .int (sI (sgH h) a 3), .ref (a + 1), .ref (a + 2), .ref (a + 3)] := rfl
    rw [Nat.add_zero, e, fI k0 (k := 0) rfl, fI k0 (k := 1) rfl, fI k0 (k := 2) rfl, fI k0 (k := 3) rfl]
  · exact aI k1 (by decide) (by decide) (g.ty 1 (by omega)).1
  · exact aI k2 (by decide) (by decide) (g.ty 2 (by omega)).1
  · exact aI k3 (by decide) (by decide) (g.ty 3 (by omega)).1
theorem oE {h : xH} {a : Nat} {nu de : Nat → Int64} (g : okE a) (k : MDi h a nu de) : ∀ j, j < 3 → h.2 (a + j) = some (xCell (sgH h) (a + j)) := by
  obtain ⟨k0, k1, k2⟩ := k
  intro j hj
  rcases (show j = 0 ∨ j = 1 ∨ j = 2 by omega) with rfl | rfl | rfl
  · exact aO k0 (g.ty 0 (by omega)).1 rfl
  · exact aJ k1 (g.ty 1 (by omega)).1
  · exact aJ k2 (g.ty 2 (by omega)).1
theorem sys_cells {h : xH} (hC : CIn h) : ∀ a, a < 233 → h.2 a = some (xCell (sgH h) a) := by
  obtain ⟨k0, ⟨k1, k2⟩, ⟨k3, k4, k5⟩, ⟨k10, k11, k12, k13, k14, k15, k16, k17⟩, ⟨k18, k19, k24, k25, k26⟩, ⟨k27, k28, k29⟩, ⟨g, k30, k31⟩, k231, k232⟩ := hC
  intro a ha
  by_cases c1 : 31 ≤ a ∧ a < 231
  · obtain ⟨i, rfl⟩ : ∃ i, a = 31 + i := ⟨a - 31, by omega⟩
    have hd := (k31 i (by omega)).2
    refine aO hd (by rw [xTy, if_pos (by omega), xTs, if_pos (by omega)]) ?_
    have e : mkF (fldV (sgH h) (31 + i) 2) (xNf 2) = [.long (sJ (sgH h) (31 + i) 0), .long (sJ (sgH h) (31 + i) 1), .long (sJ (sgH h) (31 + i) 2)] := rfl
    rw [e, fJ hd (k := 0) rfl, fJ hd (k := 1) rfl, fJ hd (k := 2) rfl]
  · by_cases c2 : 5 ≤ a ∧ a < 10
    · obtain ⟨i, rfl⟩ : ∃ i, a = 5 + i := ⟨a - 5, by omega⟩
      exact oS (n := 10) ⟨by omega, Or.inl rfl⟩ k5 i (by omega)
    · by_cases c3 : 19 ≤ a ∧ a < 24
      · obtain ⟨i, rfl⟩ : ∃ i, a = 19 + i := ⟨a - 19, by omega⟩
        exact oS (n := 24) ⟨by omega, Or.inr (Or.inl rfl)⟩ k19 i (by omega)
      · rcases (show a = 0 ∨ a = 1 ∨ a = 2 ∨ a = 3 ∨ a = 4 ∨ a = 10 ∨ a = 11 ∨ a = 12 ∨ a = 13 ∨ a = 14 ∨ a = 15 ∨ a = 16 ∨ a = 17 ∨ a = 18 ∨ a = 24 ∨ a = 25 ∨ a = 26 ∨ a = 27 ∨ a = 28 ∨ a = 29 ∨ a = 30 ∨ a = 231 ∨ a = 232 by omega) with rfl | rfl | rfl | rfl | rfl | rfl | rfl | rfl | rfl | rfl | rfl | rfl | rfl | rfl | rfl | rfl | rfl | rfl | rfl | rfl | rfl | rfl | rfl
        · refine aO k0 rfl ?_
          have e : mkF (fldV (sgH h) 0 9) (xNf 9) = [.ref 1, .ref 3, .ref 10, .ref 27, .ref 29, .ref 30, .ref 231, .ref 232, .int (sI (sgH h) 0 8), .int (sI (sgH h) 0 9), .int (sI (sgH h) 0 10)] := rfl
          rw [e, fI k0 (k := 8) rfl, fI k0 (k := 9) rfl, fI k0 (k := 10) rfl]
        · refine aO k1 rfl ?_
          have e : mkF (fldV (sgH h) 1 8) (xNf 8) = [.ref 2, .int (sI (sgH h) 1 1), .int (sI (sgH h) 1 2), .int (sI (sgH h) 1 3), .int (sI (sgH h) 1 4), .int (sI (sgH h) 1 5)] := rfl
          rw [e, fI k1 (k := 1) rfl, fI k1 (k := 2) rfl, fI k1 (k := 3) rfl, fI k1 (k := 4) rfl, fI k1 (k := 5) rfl]
        · exact aI k2 (by decide) (by decide) rfl
        · refine aO k3 rfl ?_
          have e : mkF (fldV (sgH h) 3 4) (xNf 4) = [.ref 4, .ref 5, .int (sI (sgH h) 3 2), .int (sI (sgH h) 3 3), .int (sI (sgH h) 3 4), .int (sI (sgH h) 3 5)] := rfl
          rw [e, fI k3 (k := 2) rfl, fI k3 (k := 3) rfl, fI k3 (k := 4) rfl, fI k3 (k := 5) rfl]
        · exact aI k4 (by decide) (by decide) rfl
        · refine aO k10 rfl ?_
          have e : mkF (fldV (sgH h) 10 3) (xNf 3) = [.ref 11, .ref 14, .ref 17, .int (sI (sgH h) 10 3), .int (sI (sgH h) 10 4), .int (sI (sgH h) 10 5), .int (sI (sgH h) 10 6), .int (sI (sgH h) 10 7), .int (sI (sgH h) 10 8), .int (sI (sgH h) 10 9), .int (sI (sgH h) 10 10), .int (sI (sgH h) 10 11)] := rfl
          rw [e, fI k10 (k := 3) rfl, fI k10 (k := 4) rfl, fI k10 (k := 5) rfl, fI k10 (k := 6) rfl, fI k10 (k := 7) rfl, fI k10 (k := 8) rfl, fI k10 (k := 9) rfl, fI k10 (k := 10) rfl, fI k10 (k := 11) rfl]
        · refine aO k11 rfl ?_
          have e : mkF (fldV (sgH h) 11 7) (xNf 7) = [.ref 12, .ref 13, .int (sI (sgH h) 11 2)] := rfl
          rw [e, fI k11 (k := 2) rfl]
        · exact aI k12 (by decide) (by decide) rfl
        · exact aR k13 (by decide) (by decide) rfl
        · refine aO k14 rfl ?_
          have e : mkF (fldV (sgH h) 14 7) (xNf 7) = [.ref 15, .ref 16, .int (sI (sgH h) 14 2)] := rfl
          rw [e, fI k14 (k := 2) rfl]
        · exact aI k15 (by decide) (by decide) rfl
        · exact aR k16 (by decide) (by decide) rfl
        · exact aR k17 (by decide) (by decide) rfl
        · refine aO k18 rfl ?_
          have e : mkF (fldV (sgH h) 18 1) (xNf 1) = [va_rf (sR (sgH h) 18 0), .int (sI (sgH h) 18 1), .int (sI (sgH h) 18 2), .int (sI (sgH h) 18 3), .int (sI (sgH h) 18 4), .int (sI (sgH h) 18 5), .int (sI (sgH h) 18 6), .ref 24, .ref 25, .ref 26, .int (sI (sgH h) 18 10), .int (sI (sgH h) 18 11), .int (sI (sgH h) 18 12), .int (sI (sgH h) 18 13)] := rfl
          rw [e, fR k18 (k := 0) rfl, fI k18 (k := 1) rfl, fI k18 (k := 2) rfl, fI k18 (k := 3) rfl, fI k18 (k := 4) rfl, fI k18 (k := 5) rfl, fI k18 (k := 6) rfl, fI k18 (k := 10) rfl, fI k18 (k := 11) rfl, fI k18 (k := 12) rfl, fI k18 (k := 13) rfl]
          rfl
        · exact aJ k24 rfl
        · exact aJ k25 rfl
        · exact aI k26 (by decide) (by decide) rfl
        · exact aO k27 rfl rfl
        · exact aI k28 (by decide) (by decide) rfl
        · exact aO k29 rfl rfl
        · exact aR k30 (by decide) (by decide) rfl
        · exact aI k231 (by decide) (by decide) rfl
        · exact aI k232 (by decide) (by decide) rfl
theorem mod_cells {h : xH} (hM : MIn h) : ∀ a, 233 ≤ a → a < 2476 → h.2 a = some (xCell (sgH h) a) := by
  obtain ⟨⟨F, hF, ⟨F0, F1, F2, F3, F14, F15, F23, F24, F25, F26, F27, F28, F29, F30, F31, F39, F43, F49, F52, F53, F54, F55⟩, ⟨F32, F33, F34, F35, F36, F37, F38, F40, F41, F42, F44, F45, F46, F47, F48, F4, F5, F6, F7, F8, F9, F13, F16, F17, F18, F19, F22, F50, F51, F56, F57, F10, F11, F12, F20, F21⟩⟩, ⟨a34, a35, a36, a37, a38, a39, a40⟩, ⟨s41, s45, a49, s50, s53, s56, ⟨f59, ⟨s59, s60⟩, e59⟩, ⟨f61, ⟨s61, s62⟩, e61⟩⟩, ⟨a63, a64, s65, a69, s70, a75⟩, f74, a74, e74⟩ := hM
  intro a h1 h2
  by_cases c1 : 261 ≤ a ∧ a < 1061
  · obtain ⟨i, j, hj, hi, rfl⟩ : ∃ i j, j < 4 ∧ i < 200 ∧ a = 259 + 2 + 4 * i + j := ⟨(a - 261) / 4, (a - 261) % 4, by omega, by omega, by omega⟩
    exact oM (Or.inr (Or.inr (Or.inl ⟨by omega, by omega, by omega⟩))) (e59 i hi).2 j hj
  by_cases c2 : 1063 ≤ a ∧ a < 1863
  · obtain ⟨i, j, hj, hi, rfl⟩ : ∃ i j, j < 4 ∧ i < 200 ∧ a = 1061 + 2 + 4 * i + j := ⟨(a - 1063) / 4, (a - 1063) % 4, by omega, by omega, by omega⟩
    exact oM (Or.inr (Or.inr (Or.inr (Or.inl ⟨by omega, by omega, by omega⟩)))) (e61 i hi).2 j hj
  by_cases c3 : 1876 ≤ a
  · obtain ⟨i, j, hj, hi, rfl⟩ : ∃ i j, j < 3 ∧ i < 200 ∧ a = 1876 + 3 * i + j := ⟨(a - 1876) / 3, (a - 1876) % 3, by omega, by omega, by omega⟩
    exact oE (Or.inr (Or.inr (Or.inr ⟨by omega, by omega, by omega⟩))) (e74 i hi).2 j hj
  by_cases c4 : 241 ≤ a ∧ a < 245
  · obtain ⟨j, hj, rfl⟩ : ∃ j, j < 4 ∧ a = 241 + j := ⟨a - 241, by omega, by omega⟩
    exact oM (by decide) s41 j hj
  by_cases c5 : 245 ≤ a ∧ a < 249
  · obtain ⟨j, hj, rfl⟩ : ∃ j, j < 4 ∧ a = 245 + j := ⟨a - 245, by omega, by omega⟩
    exact oM (by decide) s45 j hj
  by_cases c6 : 250 ≤ a ∧ a < 253
  · obtain ⟨j, hj, rfl⟩ : ∃ j, j < 3 ∧ a = 250 + j := ⟨a - 250, by omega, by omega⟩
    exact oE (by decide) s50 j hj
  by_cases c7 : 253 ≤ a ∧ a < 256
  · obtain ⟨j, hj, rfl⟩ : ∃ j, j < 3 ∧ a = 253 + j := ⟨a - 253, by omega, by omega⟩
    exact oE (by decide) s53 j hj
  by_cases c8 : 256 ≤ a ∧ a < 259
  · obtain ⟨j, hj, rfl⟩ : ∃ j, j < 3 ∧ a = 256 + j := ⟨a - 256, by omega, by omega⟩
    exact oE (by decide) s56 j hj
  by_cases c9 : 1865 ≤ a ∧ a < 1869
  · obtain ⟨j, hj, rfl⟩ : ∃ j, j < 4 ∧ a = 1865 + j := ⟨a - 1865, by omega, by omega⟩
    exact oM (by decide) s65 j hj
  by_cases c10 : 1870 ≤ a ∧ a < 1874
  · obtain ⟨j, hj, rfl⟩ : ∃ j, j < 4 ∧ a = 1870 + j := ⟨a - 1870, by omega, by omega⟩
    exact oM (by decide) s70 j hj
  rcases (show a = 233 ∨ a = 234 ∨ a = 235 ∨ a = 236 ∨ a = 237 ∨ a = 238 ∨ a = 239 ∨ a = 240 ∨ a = 249 ∨ a = 259 ∨ a = 260 ∨ a = 1061 ∨ a = 1062 ∨ a = 1863 ∨ a = 1864 ∨ a = 1869 ∨ a = 1874 ∨ a = 1875 by omega) with rfl | rfl | rfl | rfl | rfl | rfl | rfl | rfl | rfl | rfl | rfl | rfl | rfl | rfl | rfl | rfl | rfl | rfl
  · refine aO hF rfl ?_
    have e : mkF (fldV (sgH h) 233 13) (xNf 13) = [.ref 234, .ref 235, .ref 236, .ref 237, .int (sI (sgH h) 233 4), .int (sI (sgH h) 233 5), .int (sI (sgH h) 233 6), .int (sI (sgH h) 233 7), .int (sI (sgH h) 233 8), .int (sI (sgH h) 233 9), .long (sJ (sgH h) 233 10), .long (sJ (sgH h) 233 11), .long (sJ (sgH h) 233 12), .int (sI (sgH h) 233 13), .ref 238, .ref 239, .int (sI (sgH h) 233 16), .int (sI (sgH h) 233 17), .int (sI (sgH h) 233 18), .int (sI (sgH h) 233 19), .long (sJ (sgH h) 233 20), .long (sJ (sgH h) 233 21), .int (sI (sgH h) 233 22), .ref 240, .ref 241, .ref 245, .ref 249, .ref 250, .ref 253, .ref 256, .ref 259, .ref 1061, .int (sI (sgH h) 233 32), .int (sI (sgH h) 233 33), .int (sI (sgH h) 233 34), .int (sI (sgH h) 233 35), .int (sI (sgH h) 233 36), .int (sI (sgH h) 233 37), .int (sI (sgH h) 233 38), .ref 1863, .int (sI (sgH h) 233 40), .int (sI (sgH h) 233 41), .int (sI (sgH h) 233 42), .ref 1864, .int (sI (sgH h) 233 44), .int (sI (sgH h) 233 45), .int (sI (sgH h) 233 46), .int (sI (sgH h) 233 47), .int (sI (sgH h) 233 48), .ref 1865, .int (sI (sgH h) 233 50), .int (sI (sgH h) 233 51), .ref 1869, .ref 1870, .ref 1874, .ref 1875, .int (sI (sgH h) 233 56), .int (sI (sgH h) 233 57)] := rfl
    have e2 : mkF F 58 = [F 0, F 1, F 2, F 3, F 4, F 5, F 6, F 7, F 8, F 9, F 10, F 11, F 12, F 13, F 14, F 15, F 16, F 17, F 18, F 19, F 20, F 21, F 22, F 23, F 24, F 25, F 26, F 27, F 28, F 29, F 30, F 31, F 32, F 33, F 34, F 35, F 36, F 37, F 38, F 39, F 40, F 41, F 42, F 43, F 44, F 45, F 46, F 47, F 48, F 49, F 50, F 51, F 52, F 53, F 54, F 55, F 56, F 57] := rfl
    rw [e, e2, fI hF (k := 4) ((mkF_get F (by decide)).trans (congrArg some F4)), fI hF (k := 5) ((mkF_get F (by decide)).trans (congrArg some F5)), fI hF (k := 6) ((mkF_get F (by decide)).trans (congrArg some F6)), fI hF (k := 7) ((mkF_get F (by decide)).trans (congrArg some F7)), fI hF (k := 8) ((mkF_get F (by decide)).trans (congrArg some F8)), fI hF (k := 9) ((mkF_get F (by decide)).trans (congrArg some F9)), fJ hF (k := 10) ((mkF_get F (by decide)).trans (congrArg some F10)), fJ hF (k := 11) ((mkF_get F (by decide)).trans (congrArg some F11)), fJ hF (k := 12) ((mkF_get F (by decide)).trans (congrArg some F12)), fI hF (k := 13) ((mkF_get F (by decide)).trans (congrArg some F13)), fI hF (k := 16) ((mkF_get F (by decide)).trans (congrArg some F16)), fI hF (k := 17) ((mkF_get F (by decide)).trans (congrArg some F17)), fI hF (k := 18) ((mkF_get F (by decide)).trans (congrArg some F18)), fI hF (k := 19) ((mkF_get F (by decide)).trans (congrArg some F19)), fJ hF (k := 20) ((mkF_get F (by decide)).trans (congrArg some F20)), fJ hF (k := 21) ((mkF_get F (by decide)).trans (congrArg some F21)), fI hF (k := 22) ((mkF_get F (by decide)).trans (congrArg some F22)), fI hF (k := 32) ((mkF_get F (by decide)).trans (congrArg some F32)), fI hF (k := 33) ((mkF_get F (by decide)).trans (congrArg some F33)), fI hF (k := 34) ((mkF_get F (by decide)).trans (congrArg some F34)), fI hF (k := 35) ((mkF_get F (by decide)).trans (congrArg some F35)), fI hF (k := 36) ((mkF_get F (by decide)).trans (congrArg some F36)), fI hF (k := 37) ((mkF_get F (by decide)).trans (congrArg some F37)), fI hF (k := 38) ((mkF_get F (by decide)).trans (congrArg some F38)), fI hF (k := 40) ((mkF_get F (by decide)).trans (congrArg some F40)), fI hF (k := 41) ((mkF_get F (by decide)).trans (congrArg some F41)), fI hF (k := 42) ((mkF_get F (by decide)).trans (congrArg some F42)), fI hF (k := 44) ((mkF_get F (by decide)).trans (congrArg some F44)), fI hF (k := 45) ((mkF_get F (by decide)).trans (congrArg some F45)), fI hF (k := 46) ((mkF_get F (by decide)).trans (congrArg some F46)), fI hF (k := 47) ((mkF_get F (by decide)).trans (congrArg some F47)), fI hF (k := 48) ((mkF_get F (by decide)).trans (congrArg some F48)), fI hF (k := 50) ((mkF_get F (by decide)).trans (congrArg some F50)), fI hF (k := 51) ((mkF_get F (by decide)).trans (congrArg some F51)), fI hF (k := 56) ((mkF_get F (by decide)).trans (congrArg some F56)), fI hF (k := 57) ((mkF_get F (by decide)).trans (congrArg some F57))]
    rw [F0, F1, F2, F3, F4, F5, F6, F7, F8, F9, F10, F11, F12, F13, F14, F15, F16, F17, F18, F19, F20, F21, F22, F23, F24, F25, F26, F27, F28, F29, F30, F31, F32, F33, F34, F35, F36, F37, F38, F39, F40, F41, F42, F43, F44, F45, F46, F47, F48, F49, F50, F51, F52, F53, F54, F55, F56, F57]
  · exact aJ a34 rfl
  · exact aJ a35 rfl
  · exact aJ a36 rfl
  · exact aJ a37 rfl
  · exact aJ a38 rfl
  · exact aJ a39 rfl
  · exact aI a40 (by decide) (by decide) rfl
  · exact aI a49 (by decide) (by decide) rfl
  · refine aO s59 rfl ?_
    have e : mkF (fldV (sgH h) 259 12) (xNf 12) = [.ref 260, .int (sI (sgH h) 259 1)] := rfl
    rw [e, fI s59 (k := 1) rfl]
  · exact aR s60 (by decide) (by decide) rfl
  · refine aO s61 rfl ?_
    have e : mkF (fldV (sgH h) 1061 12) (xNf 12) = [.ref 1062, .int (sI (sgH h) 1061 1)] := rfl
    rw [e, fI s61 (k := 1) rfl]
  · exact aR s62 (by decide) (by decide) rfl
  · exact aI a63 (by decide) (by decide) rfl
  · exact aI a64 (by decide) (by decide) rfl
  · exact aI a69 (by decide) (by decide) rfl
  · exact aR a74 (by decide) (by decide) rfl
  · exact aI a75 (by decide) (by decide) rfl
theorem init_Rl {h : xH} (hz : h.1 = (2476, 103911)) (hC : CIn h) (hM : MIn h) : Rl 2476 (sgH h) h :=
  ⟨⟨Nat.le_refl _, rfl⟩, hz, fun a ha => if q : a < 233 then sys_cells hC a q else mod_cells hM a (by omega) ha⟩

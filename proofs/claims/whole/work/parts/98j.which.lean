/-! which word it is -/
def W0 : List Nat := [4, 8, 9, 10, 23, 24, 25, 26, 27, 14, 20, 21, 22]
set_option maxHeartbeats 200000 in
theorem e_skip0 {n : Nat} {σ : xσ} {T : Tp} (hT : TpS σ T) (ok : okTp T) {q : Nat} (hq : q ≤ T.1) (h : TS σ T q) : SkR n σ T q 0 W0 := by
  have k4 := kd_le T q
  unfold SkR
  rw [f_X9_skipWord, h.1]
  simp only [nIq1 (show kd T q < 2147483648 by omega)]
  by_cases h1 : kd T q = 1
  · rw [if_pos h1]
    have hn := nx_b hq
    obtain ⟨σ1, a1, a2, a3⟩ := e_advance (n := n) hT ok hn.2.1 h.2.2.1
    have ad : ∀ x : Nat, bd (f_X9_advance n σ) (fun _ s => some (nI x, s)) = some (nI x, σ1) := fun x => by rw [a1]; rfl
    rw [show (0 : Int32) = nI 0 from rfl, show xFU = 20001 from rfl]
    rw [sk_step (j' := 4) (g := 19997) (a := 0) (b := 3) hT ok hq h h1 (by decide) (by decide) (by decide) (by decide +kernel) (by decide +kernel) (by decide +kernel) (by decide +kernel), ad]
    by_cases w0 : wq T q 4
    · rw [ifP_t w0]; exact Or.inl ⟨0, 4, σ1, rfl, w0, rfl, a2, a3⟩
    rw [ifP_f w0]
    rw [sk_step (j' := 8) (g := 19992) (a := 4) (b := 8) hT ok hq h h1 (by decide) (by decide) (by decide) (by decide +kernel) (by decide +kernel) (by decide +kernel) (by decide +kernel), ad]
    by_cases w1 : wq T q 8
    · rw [ifP_t w1]; exact Or.inl ⟨1, 8, σ1, rfl, w1, rfl, a2, a3⟩
    rw [ifP_f w1]
    rw [sk_step (j' := 9) (g := 19987) (a := 9) (b := 13) hT ok hq h h1 (by decide) (by decide) (by decide) (by decide +kernel) (by decide +kernel) (by decide +kernel) (by decide +kernel), ad]
    by_cases w2 : wq T q 9
    · rw [ifP_t w2]; exact Or.inl ⟨2, 9, σ1, rfl, w2, rfl, a2, a3⟩
    rw [ifP_f w2]
    rw [sk_step (j' := 10) (g := 19982) (a := 14) (b := 18) hT ok hq h h1 (by decide) (by decide) (by decide) (by decide +kernel) (by decide +kernel) (by decide +kernel) (by decide +kernel), ad]
    by_cases w3 : wq T q 10
    · rw [ifP_t w3]; exact Or.inl ⟨3, 10, σ1, rfl, w3, rfl, a2, a3⟩
    rw [ifP_f w3]
    rw [sk_step (j' := 23) (g := 19976) (a := 19) (b := 24) hT ok hq h h1 (by decide) (by decide) (by decide) (by decide +kernel) (by decide +kernel) (by decide +kernel) (by decide +kernel), ad]
    by_cases w4 : wq T q 23
    · rw [ifP_t w4]; exact Or.inl ⟨4, 23, σ1, rfl, w4, rfl, a2, a3⟩
    rw [ifP_f w4]
    rw [sk_step (j' := 24) (g := 19969) (a := 25) (b := 31) hT ok hq h h1 (by decide) (by decide) (by decide) (by decide +kernel) (by decide +kernel) (by decide +kernel) (by decide +kernel), ad]
    by_cases w5 : wq T q 24
    · rw [ifP_t w5]; exact Or.inl ⟨5, 24, σ1, rfl, w5, rfl, a2, a3⟩
    rw [ifP_f w5]
    rw [sk_step (j' := 25) (g := 19963) (a := 32) (b := 37) hT ok hq h h1 (by decide) (by decide) (by decide) (by decide +kernel) (by decide +kernel) (by decide +kernel) (by decide +kernel), ad]
    by_cases w6 : wq T q 25
    · rw [ifP_t w6]; exact Or.inl ⟨6, 25, σ1, rfl, w6, rfl, a2, a3⟩
    rw [ifP_f w6]
    rw [sk_step (j' := 26) (g := 19958) (a := 38) (b := 42) hT ok hq h h1 (by decide) (by decide) (by decide) (by decide +kernel) (by decide +kernel) (by decide +kernel) (by decide +kernel), ad]
    by_cases w7 : wq T q 26
    · rw [ifP_t w7]; exact Or.inl ⟨7, 26, σ1, rfl, w7, rfl, a2, a3⟩
    rw [ifP_f w7]
    rw [sk_step (j' := 27) (g := 19953) (a := 43) (b := 47) hT ok hq h h1 (by decide) (by decide) (by decide) (by decide +kernel) (by decide +kernel) (by decide +kernel) (by decide +kernel), ad]
    by_cases w8 : wq T q 27
    · rw [ifP_t w8]; exact Or.inl ⟨8, 27, σ1, rfl, w8, rfl, a2, a3⟩
    rw [ifP_f w8]
    rw [sk_step (j' := 14) (g := 19948) (a := 48) (b := 52) hT ok hq h h1 (by decide) (by decide) (by decide) (by decide +kernel) (by decide +kernel) (by decide +kernel) (by decide +kernel), ad]
    by_cases w9 : wq T q 14
    · rw [ifP_t w9]; exact Or.inl ⟨9, 14, σ1, rfl, w9, rfl, a2, a3⟩
    rw [ifP_f w9]
    rw [sk_step (j' := 20) (g := 19941) (a := 53) (b := 59) hT ok hq h h1 (by decide) (by decide) (by decide) (by decide +kernel) (by decide +kernel) (by decide +kernel) (by decide +kernel), ad]
    by_cases w10 : wq T q 20
    · rw [ifP_t w10]; exact Or.inl ⟨10, 20, σ1, rfl, w10, rfl, a2, a3⟩
    rw [ifP_f w10]
    rw [sk_step (j' := 21) (g := 19936) (a := 60) (b := 64) hT ok hq h h1 (by decide) (by decide) (by decide) (by decide +kernel) (by decide +kernel) (by decide +kernel) (by decide +kernel), ad]
    by_cases w11 : wq T q 21
    · rw [ifP_t w11]; exact Or.inl ⟨11, 21, σ1, rfl, w11, rfl, a2, a3⟩
    rw [ifP_f w11]
    rw [sk_step (j' := 22) (g := 19931) (a := 65) (b := 69) hT ok hq h h1 (by decide) (by decide) (by decide) (by decide +kernel) (by decide +kernel) (by decide +kernel) (by decide +kernel), ad]
    by_cases w12 : wq T q 22
    · rw [ifP_t w12]; exact Or.inl ⟨12, 22, σ1, rfl, w12, rfl, a2, a3⟩
    rw [ifP_f w12]
    rw [sk_end (g := 19930) (by decide) (by decide) (by decide +kernel) (by decide)]
    exact Or.inr ⟨noW_c w0 (noW_c w1 (noW_c w2 (noW_c w3 (noW_c w4 (noW_c w5 (noW_c w6 (noW_c w7 (noW_c w8 (noW_c w9 (noW_c w10 (noW_c w11 (noW_c w12 (noW_0 T q))))))))))))), rfl⟩
  · rw [if_neg h1]; exact Or.inr ⟨noW_1 h1, rfl⟩
def W1 : List Nat := [5, 6, 7]
set_option maxHeartbeats 200000 in
theorem e_skip1 {n : Nat} {σ : xσ} {T : Tp} (hT : TpS σ T) (ok : okTp T) {q : Nat} (hq : q ≤ T.1) (h : TS σ T q) : SkR n σ T q 1 W1 := by
  have k4 := kd_le T q
  unfold SkR
  rw [f_X9_skipWord, h.1]
  simp only [nIq1 (show kd T q < 2147483648 by omega)]
  by_cases h1 : kd T q = 1
  · rw [if_pos h1]
    have hn := nx_b hq
    obtain ⟨σ1, a1, a2, a3⟩ := e_advance (n := n) hT ok hn.2.1 h.2.2.1
    have ad : ∀ x : Nat, bd (f_X9_advance n σ) (fun _ s => some (nI x, s)) = some (nI x, σ1) := fun x => by rw [a1]; rfl
    rw [show (0 : Int32) = nI 0 from rfl, show xFU = 20001 from rfl]
    rw [sk_step (j' := 5) (g := 19995) (a := 0) (b := 5) hT ok hq h h1 (by decide) (by decide) (by decide) (by decide +kernel) (by decide +kernel) (by decide +kernel) (by decide +kernel), ad]
    by_cases w0 : wq T q 5
    · rw [ifP_t w0]; exact Or.inl ⟨0, 5, σ1, rfl, w0, rfl, a2, a3⟩
    rw [ifP_f w0]
    rw [sk_step (j' := 6) (g := 19984) (a := 6) (b := 16) hT ok hq h h1 (by decide) (by decide) (by decide) (by decide +kernel) (by decide +kernel) (by decide +kernel) (by decide +kernel), ad]
    by_cases w1 : wq T q 6
    · rw [ifP_t w1]; exact Or.inl ⟨1, 6, σ1, rfl, w1, rfl, a2, a3⟩
    rw [ifP_f w1]
    rw [sk_step (j' := 7) (g := 19976) (a := 17) (b := 24) hT ok hq h h1 (by decide) (by decide) (by decide) (by decide +kernel) (by decide +kernel) (by decide +kernel) (by decide +kernel), ad]
    by_cases w2 : wq T q 7
    · rw [ifP_t w2]; exact Or.inl ⟨2, 7, σ1, rfl, w2, rfl, a2, a3⟩
    rw [ifP_f w2]
    rw [sk_end (g := 19975) (by decide) (by decide) (by decide +kernel) (by decide)]
    exact Or.inr ⟨noW_c w0 (noW_c w1 (noW_c w2 (noW_0 T q))), rfl⟩
  · rw [if_neg h1]; exact Or.inr ⟨noW_1 h1, rfl⟩
def W2 : List Nat := [11, 12, 13]
set_option maxHeartbeats 200000 in
theorem e_skip2 {n : Nat} {σ : xσ} {T : Tp} (hT : TpS σ T) (ok : okTp T) {q : Nat} (hq : q ≤ T.1) (h : TS σ T q) : SkR n σ T q 2 W2 := by
  have k4 := kd_le T q
  unfold SkR
  rw [f_X9_skipWord, h.1]
  simp only [nIq1 (show kd T q < 2147483648 by omega)]
  by_cases h1 : kd T q = 1
  · rw [if_pos h1]
    have hn := nx_b hq
    obtain ⟨σ1, a1, a2, a3⟩ := e_advance (n := n) hT ok hn.2.1 h.2.2.1
    have ad : ∀ x : Nat, bd (f_X9_advance n σ) (fun _ s => some (nI x, s)) = some (nI x, σ1) := fun x => by rw [a1]; rfl
    rw [show (0 : Int32) = nI 0 from rfl, show xFU = 20001 from rfl]
    rw [sk_step (j' := 11) (g := 19994) (a := 0) (b := 6) hT ok hq h h1 (by decide) (by decide) (by decide) (by decide +kernel) (by decide +kernel) (by decide +kernel) (by decide +kernel), ad]
    by_cases w0 : wq T q 11
    · rw [ifP_t w0]; exact Or.inl ⟨0, 11, σ1, rfl, w0, rfl, a2, a3⟩
    rw [ifP_f w0]
    rw [sk_step (j' := 12) (g := 19988) (a := 7) (b := 12) hT ok hq h h1 (by decide) (by decide) (by decide) (by decide +kernel) (by decide +kernel) (by decide +kernel) (by decide +kernel), ad]
    by_cases w1 : wq T q 12
    · rw [ifP_t w1]; exact Or.inl ⟨1, 12, σ1, rfl, w1, rfl, a2, a3⟩
    rw [ifP_f w1]
    rw [sk_step (j' := 13) (g := 19980) (a := 13) (b := 20) hT ok hq h h1 (by decide) (by decide) (by decide) (by decide +kernel) (by decide +kernel) (by decide +kernel) (by decide +kernel), ad]
    by_cases w2 : wq T q 13
    · rw [ifP_t w2]; exact Or.inl ⟨2, 13, σ1, rfl, w2, rfl, a2, a3⟩
    rw [ifP_f w2]
    rw [sk_end (g := 19979) (by decide) (by decide) (by decide +kernel) (by decide)]
    exact Or.inr ⟨noW_c w0 (noW_c w1 (noW_c w2 (noW_0 T q))), rfl⟩
  · rw [if_neg h1]; exact Or.inr ⟨noW_1 h1, rfl⟩
def W3 : List Nat := [15, 16, 17, 18, 19]
set_option maxHeartbeats 200000 in
theorem e_skip3 {n : Nat} {σ : xσ} {T : Tp} (hT : TpS σ T) (ok : okTp T) {q : Nat} (hq : q ≤ T.1) (h : TS σ T q) : SkR n σ T q 3 W3 := by
  have k4 := kd_le T q
  unfold SkR
  rw [f_X9_skipWord, h.1]
  simp only [nIq1 (show kd T q < 2147483648 by omega)]
  by_cases h1 : kd T q = 1
  · rw [if_pos h1]
    have hn := nx_b hq
    obtain ⟨σ1, a1, a2, a3⟩ := e_advance (n := n) hT ok hn.2.1 h.2.2.1
    have ad : ∀ x : Nat, bd (f_X9_advance n σ) (fun _ s => some (nI x, s)) = some (nI x, σ1) := fun x => by rw [a1]; rfl
    rw [show (0 : Int32) = nI 0 from rfl, show xFU = 20001 from rfl]
    rw [sk_step (j' := 15) (g := 19990) (a := 0) (b := 10) hT ok hq h h1 (by decide) (by decide) (by decide) (by decide +kernel) (by decide +kernel) (by decide +kernel) (by decide +kernel), ad]
    by_cases w0 : wq T q 15
    · rw [ifP_t w0]; exact Or.inl ⟨0, 15, σ1, rfl, w0, rfl, a2, a3⟩
    rw [ifP_f w0]
    rw [sk_step (j' := 16) (g := 19981) (a := 11) (b := 19) hT ok hq h h1 (by decide) (by decide) (by decide) (by decide +kernel) (by decide +kernel) (by decide +kernel) (by decide +kernel), ad]
    by_cases w1 : wq T q 16
    · rw [ifP_t w1]; exact Or.inl ⟨1, 16, σ1, rfl, w1, rfl, a2, a3⟩
    rw [ifP_f w1]
    rw [sk_step (j' := 17) (g := 19973) (a := 20) (b := 27) hT ok hq h h1 (by decide) (by decide) (by decide) (by decide +kernel) (by decide +kernel) (by decide +kernel) (by decide +kernel), ad]
    by_cases w2 : wq T q 17
    · rw [ifP_t w2]; exact Or.inl ⟨2, 17, σ1, rfl, w2, rfl, a2, a3⟩
    rw [ifP_f w2]
    rw [sk_step (j' := 18) (g := 19966) (a := 28) (b := 34) hT ok hq h h1 (by decide) (by decide) (by decide) (by decide +kernel) (by decide +kernel) (by decide +kernel) (by decide +kernel), ad]
    by_cases w3 : wq T q 18
    · rw [ifP_t w3]; exact Or.inl ⟨3, 18, σ1, rfl, w3, rfl, a2, a3⟩
    rw [ifP_f w3]
    rw [sk_step (j' := 19) (g := 19957) (a := 35) (b := 43) hT ok hq h h1 (by decide) (by decide) (by decide) (by decide +kernel) (by decide +kernel) (by decide +kernel) (by decide +kernel), ad]
    by_cases w4 : wq T q 19
    · rw [ifP_t w4]; exact Or.inl ⟨4, 19, σ1, rfl, w4, rfl, a2, a3⟩
    rw [ifP_f w4]
    rw [sk_end (g := 19956) (by decide) (by decide) (by decide +kernel) (by decide)]
    exact Or.inr ⟨noW_c w0 (noW_c w1 (noW_c w2 (noW_c w3 (noW_c w4 (noW_0 T q))))), rfl⟩
  · rw [if_neg h1]; exact Or.inr ⟨noW_1 h1, rfl⟩

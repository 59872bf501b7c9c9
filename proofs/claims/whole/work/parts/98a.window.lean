/-! the window's shape -/
def wnV (P Q : V2) (i : Nat) : V2 := if P.1 = Q.1 ∨ P.2 = Q.2 then (if i = 0 then P else Q) else if i = 0 then P else if i = 1 then (Q.1, P.2) else if i = 2 then Q else if i = 3 then (P.1, Q.2) else P
def wnK (P Q : V2) : Nat := if P = Q then 0 else if P.1 = Q.1 ∨ P.2 = Q.2 then 1 else 2
def wnN (P Q : V2) : Nat := if P = Q then 1 else if P.1 = Q.1 ∨ P.2 = Q.2 then 2 else 5
set_option maxHeartbeats 200000 in
theorem wn_0 (P Q : V2) : wnV P Q 0 = P := by
  unfold wnV
  split
  · rw [if_pos rfl]
  · rw [if_pos rfl]
def winC (P Q : V2) : Ct := (wnK P Q, wnN P Q, 1, wnV P Q, fun _ => wnN P Q)
set_option maxHeartbeats 200000 in
theorem wn_b {P Q : V2} (hP : bV P) (hQ : bV Q) (i : Nat) : bV (wnV P Q i) := by
  unfold wnV
  repeat' split
  · exact hP
  · exact hQ
  · exact hP
  · exact ⟨hQ.1, hP.2⟩
  · exact hQ
  · exact ⟨hP.1, hQ.2⟩
  · exact hP
set_option maxHeartbeats 200000 in
theorem wn_WF {P Q : V2} (hP : bV P) (hQ : bV Q) : WF (winC P Q) := by
  have n1 : 1 ≤ wnN P Q ∧ wnN P Q ≤ 40 := by unfold wnN; repeat' split
                                             all_goals omega
  have k1 : wnK P Q ≤ 2 := by unfold wnK; repeat' split
                              all_goals omega
  refine ⟨⟨k1, n1.1, n1.2, by show 1 ≤ 1; omega, by show 1 ≤ 8; omega⟩, fun r _ => ⟨n1.1, Nat.le_refl _⟩, fun r hr => ?_, rfl, fun i _ => wn_b hP hQ i, fun _ => rfl, fun h => ?_⟩
  · have : r + 1 < 1 := hr
    omega
  · have h' : wnK P Q = 0 := h
    show wnN P Q = 1
    unfold wnK at h'
    unfold wnN
    split at h'
    · rename_i e; rw [if_pos e]
    · split at h' <;> omega
/-! its box -/
set_option maxHeartbeats 200000 in
theorem wn_in {P Q : V2} (h1 : P.1 ≤ Q.1) (h2 : P.2 ≤ Q.2) (i : Nat) : P.1 ≤ (wnV P Q i).1 ∧ (wnV P Q i).1 ≤ Q.1 ∧ P.2 ≤ (wnV P Q i).2 ∧ (wnV P Q i).2 ≤ Q.2 := by
  unfold wnV
  repeat' split
  all_goals (try simp only)
  all_goals omega
set_option maxHeartbeats 200000 in
theorem wn_Q (P Q : V2) : ∃ i, i < wnN P Q ∧ wnV P Q i = Q := by
  unfold wnN
  by_cases e : P = Q
  · refine ⟨0, by rw [if_pos e]; omega, by rw [wn_0, e]⟩
  · rw [if_neg e]
    by_cases t : P.1 = Q.1 ∨ P.2 = Q.2
    · refine ⟨1, by rw [if_pos t]; omega, ?_⟩
      unfold wnV; rw [if_pos t, if_neg (by omega)]
    · refine ⟨2, by rw [if_neg t]; omega, ?_⟩
      unfold wnV; rw [if_neg t, if_neg (by omega), if_neg (by omega), if_pos rfl]
set_option maxHeartbeats 200000 in
theorem wn_box {P Q : V2} (h1 : P.1 ≤ Q.1) (h2 : P.2 ≤ Q.2) : x0 (winC P Q) = P.1 ∧ x1 (winC P Q) = Q.1 ∧ y0 (winC P Q) = P.2 ∧ y1 (winC P Q) = Q.2 := by
  have n1 : 1 ≤ wnN P Q := by unfold wnN; repeat' split
                              all_goals omega
  obtain ⟨j, j1, j2⟩ := wn_Q P Q
  have a0 := x_in (d := winC P Q) (e := 0) (by show 0 < wnN P Q; omega)
  have aQ := x_in (d := winC P Q) (e := j) j1
  have c0 : cV (winC P Q) 0 = P := wn_0 P Q
  have cQ : cV (winC P Q) j = Q := j2
  rw [c0] at a0
  rw [cQ] at aQ
  obtain ⟨i1, _, b1⟩ := mn_ex (fun i => (cV (winC P Q) i).1) (cN (winC P Q) - 1)
  obtain ⟨i2, _, b2⟩ := mx_ex (fun i => (cV (winC P Q) i).1) (cN (winC P Q) - 1)
  obtain ⟨i3, _, b3⟩ := mn_ex (fun i => (cV (winC P Q) i).2) (cN (winC P Q) - 1)
  obtain ⟨i4, _, b4⟩ := mx_ex (fun i => (cV (winC P Q) i).2) (cN (winC P Q) - 1)
  have e1 : x0 (winC P Q) = (wnV P Q i1).1 := b1
  have e2 : x1 (winC P Q) = (wnV P Q i2).1 := b2
  have e3 : y0 (winC P Q) = (wnV P Q i3).2 := b3
  have e4 : y1 (winC P Q) = (wnV P Q i4).2 := b4
  have w1 := wn_in h1 h2 i1
  have w2 := wn_in h1 h2 i2
  have w3 := wn_in h1 h2 i3
  have w4 := wn_in h1 h2 i4
  refine ⟨by omega, by omega, by omega, by omega⟩

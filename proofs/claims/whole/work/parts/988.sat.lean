/-! GEOMETRY: a way that is not beside a window and not to one side of it meets it -/
def inXB (P Q : V2) (D : Int) (X : V2) : Prop := D * P.1 ≤ X.1 ∧ X.1 ≤ D * Q.1 ∧ D * P.2 ≤ X.2 ∧ X.2 ≤ D * Q.2
def sgB (A B P Q : V2) : Prop := ∃ D X, 0 < D ∧ on0 (vw D X A) (vw D X B) ∧ inXB P Q D X
set_option maxHeartbeats 200000 in
theorem sid_v (A B Z : V2) : sid A B Z = (sub2 B A).1 * (Z.2 - A.2) - (sub2 B A).2 * (Z.1 - A.1) := rfl
set_option maxHeartbeats 200000 in
theorem sat0 {A B P Q : V2} (h1 : P.1 ≤ Q.1) (h2 : P.2 ≤ Q.2) (a1 : A.1 ≤ B.1) (a2 : A.2 ≤ B.2) (h : wMt A B P Q) : sgB A B P Q := by
  obtain ⟨nb, nl, nr⟩ := h
  unfold bsd at nb
  have v1 : 0 ≤ (sub2 B A).1 := by show 0 ≤ B.1 - A.1; omega
  have v2 : 0 ≤ (sub2 B A).2 := by show 0 ≤ B.2 - A.2; omega
  have e1 : (sub2 B A).1 = B.1 - A.1 := rfl
  have e2 : (sub2 B A).2 = B.2 - A.2 := rfl
  -- to the right of all corners, to the left of all
  have rt : ∀ Z : V2, P.1 ≤ Z.1 → Z.2 ≤ Q.2 → sid A B Z ≤ sid A B (P.1, Q.2) := by
    intro Z z1 z2
    rw [sid_v, sid_v]
    have m1 := Int.mul_le_mul_of_nonneg_left (show Z.2 - A.2 ≤ Q.2 - A.2 by omega) v1
    have m2 := Int.mul_le_mul_of_nonneg_left (show P.1 - A.1 ≤ Z.1 - A.1 by omega) v2
    simp only
    omega
  have lf : ∀ Z : V2, Z.1 ≤ Q.1 → P.2 ≤ Z.2 → sid A B (Q.1, P.2) ≤ sid A B Z := by
    intro Z z1 z2
    rw [sid_v, sid_v]
    have m1 := Int.mul_le_mul_of_nonneg_left (show P.2 - A.2 ≤ Z.2 - A.2 by omega) v1
    have m2 := Int.mul_le_mul_of_nonneg_left (show Z.1 - A.1 ≤ Q.1 - A.1 by omega) v2
    simp only
    omega
  have nr' : 0 ≤ sid A B (P.1, Q.2) := by
    refine Classical.byContradiction (fun n => nr ?_)
    have k1 := rt (P.1, P.2) (Int.le_refl _) h2
    have k2 := rt (Q.1, P.2) h1 h2
    have k3 := rt (Q.1, Q.2) h1 (Int.le_refl _)
    exact ⟨by omega, by omega, by omega, by omega⟩
  have nl' : sid A B (Q.1, P.2) ≤ 0 := by
    refine Classical.byContradiction (fun n => nl ?_)
    have k1 := lf (P.1, P.2) h1 (Int.le_refl _)
    have k2 := lf (P.1, Q.2) h1 h2
    have k3 := lf (Q.1, Q.2) (Int.le_refl _) h2
    exact ⟨by omega, by omega, by omega, by omega⟩
  rw [sid_v] at nr' nl'
  simp only at nr' nl'
  -- entering from below
  have low : A.2 < P.2 → (sub2 B A).2 * P.1 ≤ (sub2 B A).2 * A.1 + (P.2 - A.2) * (sub2 B A).1 → sgB A B P Q := by
    intro l k
    refine ⟨(sub2 B A).2, at2 A (sub2 B A) (sub2 B A).2 (P.2 - A.2), by omega, on_way A B (by omega) (by omega), ?_⟩
    have c : (P.2 - A.2) * (sub2 B A).1 = (sub2 B A).1 * (P.2 - A.2) := Int.mul_comm _ _
    have d : (P.2 - A.2) * (sub2 B A).2 = (sub2 B A).2 * P.2 - (sub2 B A).2 * A.2 := by rw [Int.mul_comm, Int.mul_sub]
    have m : (sub2 B A).2 * (Q.1 - A.1) = (sub2 B A).2 * Q.1 - (sub2 B A).2 * A.1 := Int.mul_sub _ _ _
    have q := Int.mul_le_mul_of_nonneg_left h2 v2
    unfold inXB at2
    simp only
    refine ⟨k, by omega, by omega, by omega⟩
  by_cases l1 : A.1 < P.1
  · by_cases k : (sub2 B A).1 * P.2 ≤ (sub2 B A).1 * A.2 + (P.1 - A.1) * (sub2 B A).2
    · refine ⟨(sub2 B A).1, at2 A (sub2 B A) (sub2 B A).1 (P.1 - A.1), by omega, on_way A B (by omega) (by omega), ?_⟩
      have c : (P.1 - A.1) * (sub2 B A).2 = (sub2 B A).2 * (P.1 - A.1) := Int.mul_comm _ _
      have d : (P.1 - A.1) * (sub2 B A).1 = (sub2 B A).1 * P.1 - (sub2 B A).1 * A.1 := by rw [Int.mul_comm, Int.mul_sub]
      have m : (sub2 B A).1 * (Q.2 - A.2) = (sub2 B A).1 * Q.2 - (sub2 B A).1 * A.2 := Int.mul_sub _ _ _
      have q := Int.mul_le_mul_of_nonneg_left h1 v1
      unfold inXB at2
      simp only
      refine ⟨by omega, by omega, k, by omega⟩
    · have p0 : 0 ≤ (P.1 - A.1) * (sub2 B A).2 := Int.mul_nonneg (by omega) v2
      have l2 : A.2 < P.2 := by
        by_cases y : A.2 < P.2
        · exact y
        · have := Int.mul_le_mul_of_nonneg_left (show P.2 ≤ A.2 by omega) v1; omega
      refine low l2 ?_
      have c : (P.2 - A.2) * (sub2 B A).1 = (sub2 B A).1 * P.2 - (sub2 B A).1 * A.2 := by rw [Int.mul_comm, Int.mul_sub]
      have d : (P.1 - A.1) * (sub2 B A).2 = (sub2 B A).2 * P.1 - (sub2 B A).2 * A.1 := by rw [Int.mul_comm, Int.mul_sub]
      omega
  · by_cases l2 : A.2 < P.2
    · refine low l2 ?_
      have m := Int.mul_le_mul_of_nonneg_left (show P.1 ≤ A.1 by omega) v2
      have p0 : 0 ≤ (P.2 - A.2) * (sub2 B A).1 := Int.mul_nonneg (by omega) v1
      omega
    · refine ⟨1, A, by omega, on0_z1 ⟨by show 1 * A.1 - A.1 = 0; omega, by show 1 * A.2 - A.2 = 0; omega⟩, ?_⟩
      unfold inXB
      omega
/-! the other way round, and upside down -/
set_option maxHeartbeats 200000 in
theorem sgB_sw {A B P Q : V2} (h : sgB B A P Q) : sgB A B P Q := by
  obtain ⟨D, X, h1, h2, h3⟩ := h
  exact ⟨D, X, h1, on0_sym h2, h3⟩
set_option maxHeartbeats 200000 in
theorem wMt_sw {A B P Q : V2} (h : wMt A B P Q) : wMt B A P Q := by
  obtain ⟨n1, n2, n3⟩ := h
  unfold bsd aLf aRt at *
  unfold wMt bsd aLf aRt
  rw [sid_rev A B, sid_rev A B, sid_rev A B, sid_rev A B]
  refine ⟨by omega, by omega, by omega⟩
def fl (a : V2) : V2 := (a.1, -a.2)
set_option maxHeartbeats 200000 in
theorem sid_fl (A B Z : V2) : sid (fl A) (fl B) (fl Z) = -sid A B Z := by unfold sid fl; grind
set_option maxHeartbeats 200000 in
theorem wMt_fl {A B P Q : V2} (h : wMt A B P Q) : wMt (fl A) (fl B) (P.1, -Q.2) (Q.1, -P.2) := by
  obtain ⟨n1, n2, n3⟩ := h
  have e1 : sid (fl A) (fl B) (P.1, -P.2) = -sid A B (P.1, P.2) := sid_fl A B (P.1, P.2)
  have e2 : sid (fl A) (fl B) (P.1, -Q.2) = -sid A B (P.1, Q.2) := sid_fl A B (P.1, Q.2)
  have e3 : sid (fl A) (fl B) (Q.1, -P.2) = -sid A B (Q.1, P.2) := sid_fl A B (Q.1, P.2)
  have e4 : sid (fl A) (fl B) (Q.1, -Q.2) = -sid A B (Q.1, Q.2) := sid_fl A B (Q.1, Q.2)
  unfold bsd aLf aRt at *
  unfold wMt bsd aLf aRt
  simp only
  rw [e1, e2, e3, e4]
  have f1 : (fl A).1 = A.1 := rfl
  have f2 : (fl A).2 = -A.2 := rfl
  have f3 : (fl B).1 = B.1 := rfl
  have f4 : (fl B).2 = -B.2 := rfl
  rw [f1, f2, f3, f4]
  refine ⟨by omega, by omega, by omega⟩
set_option maxHeartbeats 200000 in
theorem sgB_fl {A B P Q : V2} (h : sgB (fl A) (fl B) (P.1, -Q.2) (Q.1, -P.2)) : sgB A B P Q := by
  obtain ⟨D, X, h1, h2, h3⟩ := h
  refine ⟨D, fl X, h1, ?_, ?_⟩
  · have c : crs (vw D (fl X) A) (vw D (fl X) B) = -crs (vw D X (fl A)) (vw D X (fl B)) := by unfold crs vw fl; grind
    have d : dt (vw D (fl X) A) (vw D (fl X) B) = dt (vw D X (fl A)) (vw D X (fl B)) := by unfold dt vw fl; grind
    exact ⟨by rw [c, h2.1]; rfl, by rw [d]; exact h2.2⟩
  · unfold inXB fl at *
    simp only [Int.mul_neg] at *
    omega
set_option maxHeartbeats 200000 in
theorem sat {A B P Q : V2} (h1 : P.1 ≤ Q.1) (h2 : P.2 ≤ Q.2) (h : wMt A B P Q) : sgB A B P Q := by
  have main : ∀ A B : V2, A.1 ≤ B.1 → wMt A B P Q → sgB A B P Q := by
    intro A B a1 h
    by_cases a2 : A.2 ≤ B.2
    · exact sat0 h1 h2 a1 a2 h
    · exact sgB_fl (sat0 h1 (by show -Q.2 ≤ -P.2; omega) a1 (by show -A.2 ≤ -B.2; omega) (wMt_fl h))
  by_cases a1 : A.1 ≤ B.1
  · exact main A B a1 h
  · exact sgB_sw (main B A (by omega) (wMt_sw h))

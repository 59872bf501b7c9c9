/-! GEOMETRY: and the other way -/
set_option maxHeartbeats 200000 in
theorem on_ln {A B : V2} {D : Int} (hD : 0 < D) {X : V2} (h : on0 (vw D X A) (vw D X B)) : (sub2 B A).1 * (X.2 - D * A.2) - (sub2 B A).2 * (X.1 - D * A.1) = 0 := by
  have e : D * ((sub2 B A).1 * (X.2 - D * A.2) - (sub2 B A).2 * (X.1 - D * A.1)) = crs (vw D X A) (vw D X B) := by unfold crs vw sub2; grind
  rw [h.1] at e
  rcases Int.mul_eq_zero.mp e with u | u
  · omega
  · exact u
set_option maxHeartbeats 200000 in
theorem nl_of {A B P Q : V2} (h : sgB A B P Q) : ¬ aLf A B P Q := by
  obtain ⟨D, X, hD, ho, hb⟩ := h
  have l := on_ln hD ho
  unfold inXB at hb
  rintro ⟨c1, c2, c3, c4⟩
  have sc : ∀ Z : V2, D * sid A B Z = (sub2 B A).1 * (D * Z.2 - D * A.2) - (sub2 B A).2 * (D * Z.1 - D * A.1) := by intro Z; rw [sid_v]; grind
  have pos' : ∀ Z : V2, 0 < sid A B Z → 0 < (sub2 B A).1 * (D * Z.2 - D * A.2) - (sub2 B A).2 * (D * Z.1 - D * A.1) := fun Z hz => by rw [← sc]; exact Int.mul_pos hD hz
  have p1 := pos' _ c1
  have p2 := pos' _ c2
  have p3 := pos' _ c3
  have p4 := pos' _ c4
  simp only at p1 p2 p3 p4
  by_cases v1 : 0 ≤ (sub2 B A).1
  · have m1 := Int.mul_le_mul_of_nonneg_left (show D * P.2 - D * A.2 ≤ X.2 - D * A.2 by omega) v1
    by_cases v2 : 0 ≤ (sub2 B A).2
    · have m2 := Int.mul_le_mul_of_nonneg_left (show X.1 - D * A.1 ≤ D * Q.1 - D * A.1 by omega) v2
      omega
    · have m2 := Int.mul_le_mul_of_nonpos_left (show (sub2 B A).2 ≤ 0 by omega) (show D * P.1 - D * A.1 ≤ X.1 - D * A.1 by omega)
      omega
  · have m1 := Int.mul_le_mul_of_nonpos_left (show (sub2 B A).1 ≤ 0 by omega) (show X.2 - D * A.2 ≤ D * Q.2 - D * A.2 by omega)
    by_cases v2 : 0 ≤ (sub2 B A).2
    · have m2 := Int.mul_le_mul_of_nonneg_left (show X.1 - D * A.1 ≤ D * Q.1 - D * A.1 by omega) v2
      omega
    · have m2 := Int.mul_le_mul_of_nonpos_left (show (sub2 B A).2 ≤ 0 by omega) (show D * P.1 - D * A.1 ≤ X.1 - D * A.1 by omega)
      omega
set_option maxHeartbeats 200000 in
theorem btw {a b p M : Int} (hp : 0 ≤ p) (hM : p ≤ M) : M * min a b ≤ M * a + p * (b - a) ∧ M * a + p * (b - a) ≤ M * max a b := by
  have e : M * a + p * (b - a) = (M - p) * a + p * b := by grind
  have e1 : M * min a b = (M - p) * min a b + p * min a b := by rw [← Int.add_mul]; congr 1; omega
  have e2 : M * max a b = (M - p) * max a b + p * max a b := by rw [← Int.add_mul]; congr 1; omega
  rw [e, e1, e2]
  have m1 := Int.mul_le_mul_of_nonneg_left (show min a b ≤ a by omega) (show 0 ≤ M - p by omega)
  have m2 := Int.mul_le_mul_of_nonneg_left (show min a b ≤ b by omega) hp
  have m3 := Int.mul_le_mul_of_nonneg_left (show a ≤ max a b by omega) (show 0 ≤ M - p by omega)
  have m4 := Int.mul_le_mul_of_nonneg_left (show b ≤ max a b by omega) hp
  omega
set_option maxHeartbeats 200000 in
theorem nb_of {A B P Q : V2} (hne : A ≠ B) (h : sgB A B P Q) : ¬ bsd A B P Q := by
  obtain ⟨D, X, hD, ho, hb⟩ := h
  obtain ⟨N, p, n1, n2, n3, n4, _, _⟩ := par_of hne hD ho
  unfold inXB at hb
  have x1 : N * X.1 = N * D * A.1 + p * (B.1 - A.1) := congrArg Prod.fst n4
  have x2 : N * X.2 = N * D * A.2 + p * (B.2 - A.2) := congrArg Prod.snd n4
  have k1 := btw (a := A.1) (b := B.1) n2 n3
  have k2 := btw (a := A.2) (b := B.2) n2 n3
  rw [← x1, Int.mul_assoc, Int.mul_assoc] at k1
  rw [← x2, Int.mul_assoc, Int.mul_assoc] at k2
  have y1 := Int.le_of_mul_le_mul_left k1.1 n1
  have y2 := Int.le_of_mul_le_mul_left k1.2 n1
  have y3 := Int.le_of_mul_le_mul_left k2.1 n1
  have y4 := Int.le_of_mul_le_mul_left k2.2 n1
  have lt : ∀ u v : Int, D * u ≤ D * v → u ≤ v := fun u v t => Int.le_of_mul_le_mul_left t hD
  have z1 := lt _ _ (show D * min A.1 B.1 ≤ D * Q.1 by omega)
  have z2 := lt _ _ (show D * P.1 ≤ D * max A.1 B.1 by omega)
  have z3 := lt _ _ (show D * min A.2 B.2 ≤ D * Q.2 by omega)
  have z4 := lt _ _ (show D * P.2 ≤ D * max A.2 B.2 by omega)
  unfold bsd
  omega
set_option maxHeartbeats 200000 in
theorem sat_i {A B P Q : V2} (hne : A ≠ B) (h1 : P.1 ≤ Q.1) (h2 : P.2 ≤ Q.2) : wMt A B P Q ↔ sgB A B P Q := by
  refine ⟨sat h1 h2, fun h => ⟨nb_of hne h, nl_of h, fun r => nl_of (sgB_sw h : sgB B A P Q) ?_⟩⟩
  unfold aRt at r
  unfold aLf
  rw [sid_rev A B, sid_rev A B, sid_rev A B, sid_rev A B]
  omega

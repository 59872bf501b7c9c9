/-! the window's ring is simple -/
set_option maxHeartbeats 200000 in
theorem hor {D : Int} (hD : 0 < D) {X A B : V2} (h1 : A.2 = B.2) (h2 : A.1 ≠ B.1) (ho : on0 (vw D X A) (vw D X B)) : D * A.2 - X.2 = 0 := by
  have c := ho.1
  have e : crs (vw D X A) (vw D X B) = (D * A.2 - X.2) * (D * (A.1 - B.1)) := by unfold crs vw; simp only; rw [← h1]; grind
  rw [e] at c
  rcases Int.mul_eq_zero.mp c with u | u
  · exact u
  · rcases Int.mul_eq_zero.mp u with v | v <;> omega
set_option maxHeartbeats 200000 in
theorem ver {D : Int} (hD : 0 < D) {X A B : V2} (h1 : A.1 = B.1) (h2 : A.2 ≠ B.2) (ho : on0 (vw D X A) (vw D X B)) : D * A.1 - X.1 = 0 := by
  have c := ho.1
  have e : crs (vw D X A) (vw D X B) = (D * A.1 - X.1) * (D * (B.2 - A.2)) := by unfold crs vw; simp only; rw [← h1]; grind
  rw [e] at c
  rcases Int.mul_eq_zero.mp c with u | u
  · exact u
  · rcases Int.mul_eq_zero.mp u with v | v <;> omega
set_option maxHeartbeats 200000 in
theorem win_SmR {P Q : V2} (t : ¬ (P.1 = Q.1 ∨ P.2 = Q.2)) : SmR (winC P Q) 0 := by
  have e : P ≠ Q := fun y => t (Or.inl (by rw [y]))
  have nN : wnN P Q = 5 := by unfold wnN; rw [if_neg e, if_neg t]
  have s0 : sr (winC P Q) 0 = 0 := by unfold sr; rw [if_pos rfl]
  have m0 : ml (winC P Q) 0 = 4 := by unfold ml; rw [s0]; show wnN P Q - 1 - 0 = 4; omega
  have v0 : cV (winC P Q) 0 = P := wn_0 P Q
  have v1 : cV (winC P Q) 1 = (Q.1, P.2) := by show wnV P Q 1 = _; unfold wnV; rw [if_neg t, if_neg (by omega), if_pos rfl]
  have v2 : cV (winC P Q) 2 = Q := by show wnV P Q 2 = _; unfold wnV; rw [if_neg t, if_neg (by omega), if_neg (by omega), if_pos rfl]
  have v3 : cV (winC P Q) 3 = (P.1, Q.2) := by show wnV P Q 3 = _; unfold wnV; rw [if_neg t, if_neg (by omega), if_neg (by omega), if_neg (by omega), if_pos rfl]
  have v4 : cV (winC P Q) 4 = P := by show wnV P Q 4 = _; unfold wnV; rw [if_neg t, if_neg (by omega), if_neg (by omega), if_neg (by omega), if_neg (by omega)]
  show Smp (cV (winC P Q)) (sr (winC P Q) 0) (ml (winC P Q) 0)
  rw [s0, m0, Smp_i]
  refine ⟨by omega, by rw [v0]; exact v4, fun i _ hi => ?_, fun i j _ hij hj D X hD o1 o2 => ?_⟩
  · rcases (show i = 0 ∨ i = 1 ∨ i = 2 ∨ i = 3 by omega) with rfl | rfl | rfl | rfl
    · rw [v0, v1]; intro y; have k := congrArg (fun z : V2 => z.1) y; simp only at k; exact t (Or.inl k)
    · rw [v1, v2]; intro y; have k := congrArg (fun z : V2 => z.2) y; simp only at k; exact t (Or.inr k)
    · rw [v2, v3]; intro y; have k := congrArg (fun z : V2 => z.1) y; simp only at k; exact t (Or.inl k.symm)
    · rw [v3, v4]; intro y; have k := congrArg (fun z : V2 => z.2) y; simp only at k; exact t (Or.inr k.symm)
  · have E0 : on0 (rel (cV (winC P Q)) D X 0) (rel (cV (winC P Q)) D X 1) → D * P.2 - X.2 = 0 := by
      intro o
      have o' : on0 (vw D X (cV (winC P Q) 0)) (vw D X (cV (winC P Q) 1)) := o
      rw [v0, v1] at o'
      exact hor (A := P) (B := (Q.1, P.2)) hD rfl (fun y => t (Or.inl y)) o'
    have E1 : on0 (rel (cV (winC P Q)) D X 1) (rel (cV (winC P Q)) D X 2) → D * Q.1 - X.1 = 0 := by
      intro o
      have o' : on0 (vw D X (cV (winC P Q) 1)) (vw D X (cV (winC P Q) 2)) := o
      rw [v1, v2] at o'
      exact ver (A := (Q.1, P.2)) (B := Q) hD rfl (fun y => t (Or.inr y)) o'
    have E2 : on0 (rel (cV (winC P Q)) D X 2) (rel (cV (winC P Q)) D X 3) → D * Q.2 - X.2 = 0 := by
      intro o
      have o' : on0 (vw D X (cV (winC P Q) 2)) (vw D X (cV (winC P Q) 3)) := o
      rw [v2, v3] at o'
      exact hor (A := Q) (B := (P.1, Q.2)) hD rfl (fun y => t (Or.inl y.symm)) o'
    have E3 : on0 (rel (cV (winC P Q)) D X 3) (rel (cV (winC P Q)) D X 4) → D * P.1 - X.1 = 0 := by
      intro o
      have o' : on0 (vw D X (cV (winC P Q) 3)) (vw D X (cV (winC P Q) 4)) := o
      rw [v3, v4] at o'
      exact ver (A := (P.1, Q.2)) (B := P) hD rfl (fun y => t (Or.inr y.symm)) o'
    have ne : ∀ a b : Int, D * a - X.1 = 0 → D * b - X.1 = 0 → a = b := fun a b u v => Int.eq_of_mul_eq_mul_left (show D ≠ 0 by omega) (by omega)
    have ne2 : ∀ a b : Int, D * a - X.2 = 0 → D * b - X.2 = 0 → a = b := fun a b u v => Int.eq_of_mul_eq_mul_left (show D ≠ 0 by omega) (by omega)
    have z : ∀ k (p : V2), cV (winC P Q) k = p → D * p.1 - X.1 = 0 → D * p.2 - X.2 = 0 → zro (rel (cV (winC P Q)) D X k) := by
      intro k p hk a b
      show zro (vw D X (cV (winC P Q) k))
      rw [hk]; exact ⟨a, b⟩
    rcases (show (i = 0 ∧ j = 1) ∨ (i = 0 ∧ j = 2) ∨ (i = 0 ∧ j = 3) ∨ (i = 1 ∧ j = 2) ∨ (i = 1 ∧ j = 3) ∨ (i = 2 ∧ j = 3) by omega) with ⟨rfl, rfl⟩ | ⟨rfl, rfl⟩ | ⟨rfl, rfl⟩ | ⟨rfl, rfl⟩ | ⟨rfl, rfl⟩ | ⟨rfl, rfl⟩
    · exact Or.inl ⟨rfl, z 1 _ v1 (E1 o2) (E0 o1)⟩
    · exact (t (Or.inr (ne2 _ _ (E0 o1) (E2 o2)))).elim
    · exact Or.inr ⟨rfl, rfl, z 0 _ v0 (E3 o2) (E0 o1)⟩
    · exact Or.inl ⟨rfl, z 2 _ v2 (E1 o1) (E2 o2)⟩
    · exact (t (Or.inl (ne _ _ (E3 o2) (E1 o1)))).elim
    · exact Or.inl ⟨rfl, z 3 _ v3 (E3 o2) (E2 o1)⟩

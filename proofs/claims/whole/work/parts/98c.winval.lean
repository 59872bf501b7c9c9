/-! the window's shape is valid -/
set_option maxHeartbeats 200000 in
theorem One_1 {c : Ct} (h : cR c = 1) : ∀ k i g, onePc c k i g := by
  intro k
  induction k with
  | zero => intro i g; exact trivial
  | succ k ih =>
    intro i g
    rw [onePc]
    by_cases q : ∃ j, j < i ∧ cV c i = cV c j
    · rw [ifP_t q]; exact ih _ _
    · rw [ifP_f q]
      have e : cir c (cV c i) (cR c) 0 g none = some g := by
        rw [h, cir_n]
        by_cases on : onR c 0 (cV c i)
        · rw [ifP_t on, cir]
        · rw [ifP_f on, cir]
      rw [e]
      exact ih _ _
set_option maxHeartbeats 200000 in
theorem win_Val (P Q : V2) : Val (winC P Q) := by
  by_cases e : P = Q
  · left; show wnK P Q = 0; unfold wnK; rw [if_pos e]
  · right
    by_cases t : P.1 = Q.1 ∨ P.2 = Q.2
    · left
      have nN : cN (winC P Q) = 2 := by show wnN P Q = 2; unfold wnN; rw [if_neg e, if_pos t]
      refine ⟨by show wnK P Q = 1; unfold wnK; rw [if_neg e, if_pos t], by omega, fun i hi => ?_⟩
      have : i = 0 := by omega
      subst this
      show wnV P Q 0 ≠ wnV P Q 1
      rw [wn_0]
      unfold wnV
      rw [if_pos t, if_neg (by omega)]
      exact e
    · right
      refine ⟨by show wnK P Q = 2; unfold wnK; rw [if_neg e, if_neg t], fun r hr => ?_, fun r h1 h2 => ?_, One_1 rfl _ _ _⟩
      · have : r < 1 := hr
        have : r = 0 := by omega
        subst this
        exact win_SmR t
      · have : r < 1 := h2
        omega

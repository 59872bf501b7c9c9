/-! isInWindow of the system: the code. The window is from P (left, low) to Q (right, high) -/
def bsd (A B P Q : V2) : Prop := max A.1 B.1 < P.1 ∨ Q.1 < min A.1 B.1 ∨ max A.2 B.2 < P.2 ∨ Q.2 < min A.2 B.2
def aLf (A B P Q : V2) : Prop := 0 < sid A B (P.1, P.2) ∧ 0 < sid A B (P.1, Q.2) ∧ 0 < sid A B (Q.1, P.2) ∧ 0 < sid A B (Q.1, Q.2)
def aRt (A B P Q : V2) : Prop := sid A B (P.1, P.2) < 0 ∧ sid A B (P.1, Q.2) < 0 ∧ sid A B (Q.1, P.2) < 0 ∧ sid A B (Q.1, Q.2) < 0
def wMt (A B P Q : V2) : Prop := ¬ bsd A B P Q ∧ ¬ aLf A B P Q ∧ ¬ aRt A B P Q
set_option maxHeartbeats 200000 in
theorem e_win156 {n : Nat} {σ : xσ} {a : Nat} {c : Ct} (S : SH n σ a c) (F : WF c) {P Q : V2} (hP : bV P) (hQ : bV Q) {i : Nat} (hi : i + 1 < cN c) (K : Nat → Int32 → Int32 → Int32 → Int32 → Int32 → xσ → Option (Int32 × xσ)) (z : Nat) (hz : (z = 0 ∨ z = 1) ∧ (z = 1 ↔ bsd (cV c i) (cV c (i + 1)) P Q)) : b_X4_isInWindow_156 n K a (iI P.1) (iI P.2) (iI Q.1) (iI Q.2) (nI i) (nI z) σ = ifP (¬ isE c i ∧ wMt (cV c i) (cV c (i + 1)) P Q) (some (1, σ)) (K a (iI P.1) (iI P.2) (iI Q.1) (iI Q.2) (nI (i + 1)) σ) := by
  have hN := F.n
  have bA := F.b (show i < cN c by omega)
  have bB := F.b hi
  have h1 : bV (P.1, P.2) := ⟨hP.1, hP.2⟩
  have h2 : bV (P.1, Q.2) := ⟨hP.1, hQ.2⟩
  have h3 : bV (Q.1, P.2) := ⟨hQ.1, hP.2⟩
  have h4 : bV (Q.1, Q.2) := ⟨hQ.1, hQ.2⟩
  have s1 := e_sideOf (n := n) (p := (P.1, P.2)) S F hi
  have s2 := e_sideOf (n := n) (p := (P.1, Q.2)) S F hi
  have s3 := e_sideOf (n := n) (p := (Q.1, P.2)) S F hi
  have s4 := e_sideOf (n := n) (p := (Q.1, Q.2)) S F hi
  simp only at s1 s2 s3 s4
  have r1 := sid_r bA bB h1
  have r2 := sid_r bA bB h2
  have r3 := sid_r bA bB h3
  have r4 := sid_r bA bB h4
  rw [b_X4_isInWindow_156, gd_in (by omega) (by omega), nI_k (by omega), S.L (by omega), iI_64 hP.1.r, iI_64 hP.2.r, iI_64 hQ.1.r, iI_64 hQ.2.r]
  by_cases e : isE c i
  · rw [if_neg (fun y => (tf_0.mp y) e), nI_s, ifP_f (fun y => y.1 e)]
  · rw [if_pos (tf_f e)]
    by_cases b : bsd (cV c i) (cV c (i + 1)) P Q
    · have z1 := hz.2.mpr b
      rw [z1, if_neg (by decide), b_X4_isInWindow_308, nI_s, ifP_f (fun y => y.2.1 b)]
    · have z0 : z = 0 := by rcases hz.1 with y | y; exact y; exact (b (hz.2.mp y)).elim
      rw [z0, if_pos (show nI 0 = 0 from rfl), s1, bd, s2, bd, s3, bd, s4, bd]
      -- all to the right
      have rt : ∀ (x : Int32), x = tf (aLf (cV c i) (cV c (i + 1)) P Q) → b_X4_isInWindow_259 n K a (iI P.1) (iI P.2) (iI Q.1) (iI Q.2) (nI i) (jJ (sid (cV c i) (cV c (i + 1)) (P.1, P.2))) (jJ (sid (cV c i) (cV c (i + 1)) (P.1, Q.2))) (jJ (sid (cV c i) (cV c (i + 1)) (Q.1, P.2))) (jJ (sid (cV c i) (cV c (i + 1)) (Q.1, Q.2))) x σ = ifP (¬ isE c i ∧ wMt (cV c i) (cV c (i + 1)) P Q) (some (1, σ)) (K a (iI P.1) (iI P.2) (iI Q.1) (iI Q.2) (nI (i + 1)) σ) := by
        intro x hx
        have last : ∀ (y : Int32), y = tf (aRt (cV c i) (cV c (i + 1)) P Q) → b_X4_isInWindow_294 n K a (iI P.1) (iI P.2) (iI Q.1) (iI Q.2) (nI i) x y σ = ifP (¬ isE c i ∧ wMt (cV c i) (cV c (i + 1)) P Q) (some (1, σ)) (K a (iI P.1) (iI P.2) (iI Q.1) (iI Q.2) (nI (i + 1)) σ) := by
          intro y hy
          rw [b_X4_isInWindow_294, hx, hy, nI_s]
          by_cases u : aLf (cV c i) (cV c (i + 1)) P Q
          · rw [if_neg (fun t => (tf_0.mp t) u), ifP_f (fun t => t.2.2.1 u)]
          · rw [if_pos (tf_f u)]
            by_cases v : aRt (cV c i) (cV c (i + 1)) P Q
            · rw [if_neg (fun t => (tf_0.mp t) v), ifP_f (fun t => t.2.2.2 v)]
            · rw [if_pos (tf_f v), ifP_t ⟨e, b, u, v⟩]
        rw [b_X4_isInWindow_259]
        unfold aRt at last
        by_cases q1 : 0 ≤ sid (cV c i) (cV c (i + 1)) (P.1, P.2)
        · rw [if_pos ((lz_ge r1).mpr q1)]; exact last 0 (tf_f (fun t => by omega)).symm
        · rw [if_neg (fun t => q1 ((lz_ge r1).mp t))]
          by_cases q2 : 0 ≤ sid (cV c i) (cV c (i + 1)) (P.1, Q.2)
          · rw [if_pos ((lz_ge r2).mpr q2)]; exact last 0 (tf_f (fun t => by omega)).symm
          · rw [if_neg (fun t => q2 ((lz_ge r2).mp t))]
            by_cases q3 : 0 ≤ sid (cV c i) (cV c (i + 1)) (Q.1, P.2)
            · rw [if_pos ((lz_ge r3).mpr q3)]; exact last 0 (tf_f (fun t => by omega)).symm
            · rw [if_neg (fun t => q3 ((lz_ge r3).mp t))]
              by_cases q4 : 0 ≤ sid (cV c i) (cV c (i + 1)) (Q.1, Q.2)
              · rw [if_pos ((lz_ge r4).mpr q4)]; exact last 0 (tf_f (fun t => by omega)).symm
              · rw [if_neg (fun t => q4 ((lz_ge r4).mp t))]; exact last 1 (tf_t (by omega)).symm
      unfold aLf at rt
      by_cases q1 : sid (cV c i) (cV c (i + 1)) (P.1, P.2) ≤ 0
      · rw [if_pos ((lz_le r1).mpr q1)]; exact rt 0 (tf_f (fun t => by omega)).symm
      · rw [if_neg (fun t => q1 ((lz_le r1).mp t))]
        by_cases q2 : sid (cV c i) (cV c (i + 1)) (P.1, Q.2) ≤ 0
        · rw [if_pos ((lz_le r2).mpr q2)]; exact rt 0 (tf_f (fun t => by omega)).symm
        · rw [if_neg (fun t => q2 ((lz_le r2).mp t))]
          by_cases q3 : sid (cV c i) (cV c (i + 1)) (Q.1, P.2) ≤ 0
          · rw [if_pos ((lz_le r3).mpr q3)]; exact rt 0 (tf_f (fun t => by omega)).symm
          · rw [if_neg (fun t => q3 ((lz_le r3).mp t))]
            by_cases q4 : sid (cV c i) (cV c (i + 1)) (Q.1, Q.2) ≤ 0
            · rw [if_pos ((lz_le r4).mpr q4)]; exact rt 0 (tf_f (fun t => by omega)).symm
            · rw [if_neg (fun t => q4 ((lz_le r4).mp t))]; exact rt 1 (tf_t (by omega)).symm

/-! isInWindow of the system: the loop -/
set_option maxHeartbeats 200000 in
theorem l_win47 {n : Nat} {σ : xσ} {a : Nat} {c : Ct} (S : SH n σ a c) (F : WF c) (vc : Val c) {P Q : V2} (hP : bV P) (hQ : bV Q) : ∀ f i, 40 - i < f → i ≤ 40 → l_X4_isInWindow_47 n f a (iI P.1) (iI P.2) (iI Q.1) (iI Q.2) (nI i) σ = some (tf ((∃ k, i ≤ k ∧ k + 1 < cN c ∧ ¬ isE c k ∧ wMt (cV c k) (cV c (k + 1)) P Q) ∨ (cK c = 2 ∧ 0 ≤ loc c P)), σ) := by
  have hN := F.n
  have hK := F.k
  intro f
  induction f with
  | zero => intro i h; omega
  | succ f ih =>
    intro i h hi
    rw [l_X4_isInWindow_47, S.N, S.K, nI_s]
    by_cases q : i + 1 < cN c
    · have b1 := F.b (show i < cN c by omega)
      have b2 := F.b q
      have i1 : ∀ {α : Type} (y : Option α), gd (inb (nI i) 40) y = y := fun y => gd_in (by omega) (by omega)
      have i2 : ∀ {α : Type} (y : Option α), gd (inb (nI (i + 1)) 40) y = y := fun y => gd_in (by omega) (by omega)
      have x1 : sI σ (a + 1) (nI i).toNatClampNeg = iI (cV c i).1 := by rw [nI_k (by omega), S.X (by omega)]
      have y1 : sI σ (a + 2) (nI i).toNatClampNeg = iI (cV c i).2 := by rw [nI_k (by omega), S.Y (by omega)]
      have x2 : sI σ (a + 1) (nI (i + 1)).toNatClampNeg = iI (cV c (i + 1)).1 := by rw [nI_k (by omega), S.X q]
      have y2 : sI σ (a + 2) (nI (i + 1)).toNatClampNeg = iI (cV c (i + 1)).2 := by rw [nI_k (by omega), S.Y q]
      have mx1 := mx_b b1.1 b2.1
      have mn1 := mn_b b1.1 b2.1
      have mx2 := mx_b b1.2 b2.2
      have mn2 := mn_b b1.2 b2.2
      have w : ∀ z : Nat, ((z = 0 ∨ z = 1) ∧ (z = 1 ↔ bsd (cV c i) (cV c (i + 1)) P Q)) → b_X4_isInWindow_156 n (l_X4_isInWindow_47 n f) a (iI P.1) (iI P.2) (iI Q.1) (iI Q.2) (nI i) (nI z) σ = some (tf ((∃ k, i ≤ k ∧ k + 1 < cN c ∧ ¬ isE c k ∧ wMt (cV c k) (cV c (k + 1)) P Q) ∨ (cK c = 2 ∧ 0 ≤ loc c P)), σ) := by
        intro z hz
        rw [e_win156 S F hP hQ q _ z hz, ih (i + 1) (by omega) (by omega)]
        by_cases g : ¬ isE c i ∧ wMt (cV c i) (cV c (i + 1)) P Q
        · rw [ifP_t g, tf_t (Or.inl ⟨i, Nat.le_refl i, q, g⟩)]
        · rw [ifP_f g]
          congr 2
          refine tf_c ⟨fun y => ?_, fun y => ?_⟩
          · rcases y with ⟨k, a, b⟩ | y
            · exact Or.inl ⟨k, by omega, b⟩
            · exact Or.inr y
          · rcases y with ⟨k, a, b, e⟩ | y
            · have : k ≠ i := fun t => g (t ▸ e)
              exact Or.inl ⟨k, by omega, b, e⟩
            · exact Or.inr y
      have w0 := w 0
      have w1 := w 1
      rw [show nI 0 = 0 from rfl] at w0
      rw [show nI 1 = 1 from rfl] at w1
      have c1 := iI_lt mx1.r hP.1.r
      have c2 := iI_lt hQ.1.r mn1.r
      have c3 := iI_lt mx2.r hP.2.r
      have c4 := iI_le mn2.r hQ.2.r
      unfold bsd at w0 w1
      rw [if_neg (fun y => by have := (nI_e' (by omega) (by omega)).mp y; omega), i1, i2, x1, x2, y1, y2, imax_i b1.1.r b2.1.r, imin_i b1.1.r b2.1.r, imax_i b1.2.r b2.2.r, imin_i b1.2.r b2.2.r]
      by_cases q1 : max (cV c i).1 (cV c (i + 1)).1 < P.1
      · rw [if_pos (c1.mpr q1)]; exact w1 ⟨Or.inr rfl, ⟨fun _ => Or.inl q1, fun _ => rfl⟩⟩
      · rw [if_neg (fun t => q1 (c1.mp t)), i1, i2]
        by_cases q2 : Q.1 < min (cV c i).1 (cV c (i + 1)).1
        · rw [if_pos (c2.mpr q2)]; exact w1 ⟨Or.inr rfl, ⟨fun _ => Or.inr (Or.inl q2), fun _ => rfl⟩⟩
        · rw [if_neg (fun t => q2 (c2.mp t)), i1, i2]
          by_cases q3 : max (cV c i).2 (cV c (i + 1)).2 < P.2
          · rw [if_pos (c3.mpr q3)]; exact w1 ⟨Or.inr rfl, ⟨fun _ => Or.inr (Or.inr (Or.inl q3)), fun _ => rfl⟩⟩
          · rw [if_neg (fun t => q3 (c3.mp t)), i1, i2]
            by_cases q4 : min (cV c i).2 (cV c (i + 1)).2 ≤ Q.2
            · rw [if_pos (c4.mpr q4)]; exact w0 ⟨Or.inl rfl, ⟨fun t => by omega, fun t => by omega⟩⟩
            · rw [if_neg (fun t => q4 (c4.mp t))]; exact w1 ⟨Or.inr rfl, ⟨fun _ => Or.inr (Or.inr (Or.inr (by omega))), fun _ => rfl⟩⟩
    · rw [if_pos ((nI_e' (by omega) (by omega)).mpr (by omega))]
      by_cases k : cK c = 2
      · rw [if_pos (show nI (cK c) = 2 by rw [k]; rfl), e_locate S F hP (Val.cl F vc), bd]
        by_cases z : loc c P < 0
        · rw [if_pos ((loc_neg c _).mpr z), tf_f]
          rintro (⟨k, a, b, _⟩ | y) <;> omega
        · rw [if_neg (fun y => z ((loc_neg c _).mp y)), tf_t (Or.inr ⟨k, by omega⟩)]
      · rw [if_neg (fun z => k ((nIq2 (by omega)).mp z)), tf_f]
        rintro (⟨k, a, b, _⟩ | y) <;> omega
def WnS (c : Ct) (P Q : V2) : Prop := ¬ (x1 c < P.1 ∨ Q.1 < x0 c ∨ y1 c < P.2 ∨ Q.2 < y0 c) ∧ (cK c = 0 ∨ (∃ k, wy c k ∧ wMt (cV c k) (cV c (k + 1)) P Q) ∨ (cK c = 2 ∧ 0 ≤ loc c P))
set_option maxHeartbeats 200000 in
theorem e_isInWindow {n : Nat} {σ : xσ} {a : Nat} {c : Ct} (S : SH n σ a c) (F : WF c) (vc : Val c) {P Q : V2} (hP : bV P) (hQ : bV Q) : f_X4_isInWindow n a (iI P.1) (iI P.2) (iI Q.1) (iI Q.2) σ = some (tf (WnS c P Q), σ) := by
  have hK := F.k
  have hN := F.n
  obtain ⟨b1, b2, b3, b4⟩ := F.bx
  have c1 := iI_lt b3.r hP.1.r
  have c2 := iI_lt hQ.1.r b1.r
  have c3 := iI_lt b4.r hP.2.r
  have c4 := iI_le b2.r hQ.2.r
  rw [f_X4_isInWindow, gd_pos S.1, S.x0, S.x1, S.y0, S.y1, S.K]
  unfold WnS
  by_cases q1 : x1 c < P.1
  · rw [if_pos (c1.mpr q1), tf_f (fun t => t.1 (Or.inl q1))]
  · rw [if_neg (fun t => q1 (c1.mp t))]
    by_cases q2 : Q.1 < x0 c
    · rw [if_pos (c2.mpr q2), tf_f (fun t => t.1 (Or.inr (Or.inl q2)))]
    · rw [if_neg (fun t => q2 (c2.mp t))]
      by_cases q3 : y1 c < P.2
      · rw [if_pos (c3.mpr q3), tf_f (fun t => t.1 (Or.inr (Or.inr (Or.inl q3))))]
      · rw [if_neg (fun t => q3 (c3.mp t))]
        by_cases q4 : y0 c ≤ Q.2
        · have nb : ¬ (x1 c < P.1 ∨ Q.1 < x0 c ∨ y1 c < P.2 ∨ Q.2 < y0 c) := by omega
          rw [if_pos (c4.mpr q4)]
          by_cases k0 : cK c = 0
          · rw [if_pos (show nI (cK c) = 0 by rw [k0]; rfl), tf_t ⟨nb, Or.inl k0⟩]
          · have l := l_win47 (n := n) S F vc hP hQ xFU 0 (xFU_lt (by omega)) (by omega)
            rw [show nI 0 = 0 from rfl] at l
            rw [if_neg (fun z => k0 ((nIq0 (by omega)).mp z)), l]
            congr 2
            refine tf_c ⟨fun y => ⟨nb, ?_⟩, fun y => ?_⟩
            · rcases y with ⟨k, _, h1, h2, h3⟩ | y
              · exact Or.inr (Or.inl ⟨k, ⟨k0, h1, h2⟩, h3⟩)
              · exact Or.inr (Or.inr y)
            · rcases y.2 with y | ⟨k, w, h⟩ | y
              · exact (k0 y).elim
              · exact Or.inl ⟨k, by omega, w.2.1, w.2.2, h⟩
              · exact Or.inr y
        · rw [if_neg (fun t => q4 (c4.mp t)), tf_f (fun t => t.1 (Or.inr (Or.inr (Or.inr (by omega)))))]

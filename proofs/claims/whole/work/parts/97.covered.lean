/-! isWayCovered and isLineWithin of the system -/
set_option maxHeartbeats 200000 in
theorem fX_b {P Q X : V2} (h : bV X) : b30 (fX P Q X) := by unfold fX; split; exact h.2; exact h.1
set_option maxHeartbeats 200000 in
theorem mx_b {x y : Int} (hx : b30 x) (hy : b30 y) : b30 (max x y) := by unfold b30 at *; omega
set_option maxHeartbeats 200000 in
theorem mn_b {x y : Int} (hx : b30 x) (hy : b30 y) : b30 (min x y) := by unfold b30 at *; omega
set_option maxHeartbeats 200000 in
theorem rcS_b {P Q : V2} {d : Ct} (G : WF d) {j : Nat} (hj : j + 1 < cN d) {r : Int} (hr : b30 r) : b30 (rcS P Q d j r) := by
  unfold rcS
  split
  · exact mx_b (fX_b (G.b (by omega))) (fX_b (G.b hj))
  · exact hr
set_option maxHeartbeats 200000 in
theorem rcP_b {P Q : V2} {d : Ct} (G : WF d) : ∀ k j r, j + k + 1 ≤ cN d → b30 r → b30 (rcP P Q d k j r) := by
  intro k
  induction k with
  | zero => intro j r _ h; exact h
  | succ k ih => intro j r hj h; rw [rcP]; exact ih _ _ (by omega) (rcS_b G (by omega) h)
set_option maxHeartbeats 200000 in
theorem l_cov109 {n : Nat} {σ : xσ} {a b q : Nat} {c d : Ct} (S : SH n σ a c) (F : WF c) (T : SH n σ b d) (G : WF d) {i : Nat} (hi : i + 1 < cN c) (hq : ∀ j, j < cN d → sI σ q j = iI (fX (cV c i) (cV c (i + 1)) (cV d j))) (K : Nat → Int32 → Nat → Nat → Int32 → Int32 → Int32 → xσ → Option (Int32 × xσ)) {B : Int32} {R : Nat} : ∀ f j r, 40 - j < f → j + 1 ≤ cN d → b30 r → l_X6_isWayCovered_109 n K f a (nI i) b q (iI r) B (nI R) (nI j) σ = K a (nI i) b q (iI (rcP (cV c i) (cV c (i + 1)) d (cN d - 1 - j) j r)) B (nI (R + 1)) σ := by
  have hN := F.n
  have hM := G.n
  intro f
  induction f with
  | zero => intro j r h; omega
  | succ f ih =>
    intro j r h hj hr
    rw [l_X6_isWayCovered_109, T.N, nI_s, nI_s]
    by_cases z : j + 1 < cN d
    · have f1 : b30 (fX (cV c i) (cV c (i + 1)) (cV d j)) := fX_b (G.b (by omega))
      have f2 : b30 (fX (cV c i) (cV c (i + 1)) (cV d (j + 1))) := fX_b (G.b z)
      have i1 : ∀ {α : Type} (y : Option α), gd (inb (nI j) 40) y = y := fun y => gd_in (by omega) (by omega)
      have i2 : ∀ {α : Type} (y : Option α), gd (inb (nI (j + 1)) 40) y = y := fun y => gd_in (by omega) (by omega)
      have q1 : sI σ q (nI j).toNatClampNeg = iI (fX (cV c i) (cV c (i + 1)) (cV d j)) := by rw [nI_k (by omega)]; exact hq j (by omega)
      have q2 : sI σ q (nI (j + 1)).toNatClampNeg = iI (fX (cV c i) (cV c (i + 1)) (cV d (j + 1))) := by rw [nI_k (by omega)]; exact hq (j + 1) z
      rw [if_neg (fun y => by have := (nI_e' (by omega) (by omega)).mp y; omega), i1, i2, q1, q2, imin_i f1.r f2.r, imax_i f1.r f2.r, i1, i2]
      simp only [iI_lt hr.r (mn_b f1 f2).r, iI_le (mx_b f1 f2).r hr.r]
      have nx : ∀ r', b30 r' → rcS (cV c i) (cV c (i + 1)) d j r = r' → l_X6_isWayCovered_109 n K f a (nI i) b q (iI r') B (nI R) (nI (j + 1)) σ = K a (nI i) b q (iI (rcP (cV c i) (cV c (i + 1)) d (cN d - 1 - j) j r)) B (nI (R + 1)) σ := by
        intro r' hb e
        rw [ih (j + 1) r' (by omega) (by omega) hb, show cN d - 1 - j = (cN d - 1 - (j + 1)) + 1 by omega, rcP, e]
      have same : ¬ (min (fX (cV c i) (cV c (i + 1)) (cV d j)) (fX (cV c i) (cV c (i + 1)) (cV d (j + 1))) ≤ r ∧ r < max (fX (cV c i) (cV c (i + 1)) (cV d j)) (fX (cV c i) (cV c (i + 1)) (cV d (j + 1))) ∧ sid (cV c i) (cV c (i + 1)) (cV d j) = 0 ∧ sid (cV c i) (cV c (i + 1)) (cV d (j + 1)) = 0) → rcS (cV c i) (cV c (i + 1)) d j r = r := fun y => by unfold rcS; rw [if_neg y]
      by_cases u : r < min (fX (cV c i) (cV c (i + 1)) (cV d j)) (fX (cV c i) (cV c (i + 1)) (cV d (j + 1)))
      · rw [if_pos u, b_X6_isWayCovered_165, if_pos rfl, nI_s]
        exact nx r hr (same (fun y => by omega))
      · rw [if_neg u]
        by_cases v : max (fX (cV c i) (cV c (i + 1)) (cV d j)) (fX (cV c i) (cV c (i + 1)) (cV d (j + 1))) ≤ r
        · rw [if_pos v, b_X6_isWayCovered_165, if_pos rfl, nI_s]
          exact nx r hr (same (fun y => by omega))
        · have bj := G.b (show j < cN d by omega)
          have bk := G.b z
          have x1 : (sI σ (b + 1) (nI j).toNatClampNeg).toInt64 = jJ (cV d j).1 := by rw [nI_k (by omega), T.X (by omega), iI_64 bj.1.r]
          have y1 : (sI σ (b + 2) (nI j).toNatClampNeg).toInt64 = jJ (cV d j).2 := by rw [nI_k (by omega), T.Y (by omega), iI_64 bj.2.r]
          have x2 : (sI σ (b + 1) (nI (j + 1)).toNatClampNeg).toInt64 = jJ (cV d (j + 1)).1 := by rw [nI_k (by omega), T.X z, iI_64 bk.1.r]
          have y2 : (sI σ (b + 2) (nI (j + 1)).toNatClampNeg).toInt64 = jJ (cV d (j + 1)).2 := by rw [nI_k (by omega), T.Y z, iI_64 bk.2.r]
          have r1 := sid_r (F.b (show i < cN c by omega)) (F.b hi) bj
          have r2 := sid_r (F.b (show i < cN c by omega)) (F.b hi) bk
          rw [if_neg v, b_X6_isWayCovered_165, if_neg (by decide), i1, i1, x1, y1, e_sideOf S F hi, bd, nI_s]
          by_cases s1 : sid (cV c i) (cV c (i + 1)) (cV d j) = 0
          · rw [if_pos ((lz_eq r1).mpr s1), i2, i2, x2, y2, e_sideOf S F hi, bd]
            by_cases s2 : sid (cV c i) (cV c (i + 1)) (cV d (j + 1)) = 0
            · rw [if_pos ((lz_eq r2).mpr s2), i1, i2, st, q1, q2, imax_i f1.r f2.r, b_X6_isWayCovered_245, nI_s]
              exact nx _ (mx_b f1 f2) (by unfold rcS; rw [if_pos ⟨by omega, by omega, s1, s2⟩])
            · rw [if_neg (fun y => s2 ((lz_eq r2).mp y))]
              exact nx r hr (same (fun y => s2 y.2.2.2))
          · rw [if_neg (fun y => s1 ((lz_eq r1).mp y))]
            exact nx r hr (same (fun y => s1 y.2.2.1))
    · rw [if_pos ((nI_e' (by omega) (by omega)).mpr (by omega)), show cN d - 1 - j = 0 by omega, rcP]
set_option maxHeartbeats 200000 in
theorem l_cov90 {n : Nat} {σ : xσ} {a b q : Nat} {c d : Ct} (S : SH n σ a c) (F : WF c) (T : SH n σ b d) (G : WF d) {i : Nat} (hi : i + 1 < cN c) (hq : ∀ j, j < cN d → sI σ q j = iI (fX (cV c i) (cV c (i + 1)) (cV d j))) {B : Int} (hB : b30 B) : ∀ f R r, 41 - R < f → R ≤ cN d → b30 r → l_X6_isWayCovered_90 n f a (nI i) b q (iI r) (iI B) (nI R) σ = some (tf (B ≤ rcR (cV c i) (cV c (i + 1)) d B (cN d - R) r), σ) := by
  have hM := G.n
  intro f
  induction f with
  | zero => intro R r h; omega
  | succ f ih =>
    intro R r h hR hr
    rw [l_X6_isWayCovered_90, T.N]
    simp only [iI_lt hr.r hB.r, iI_le hB.r hr.r]
    have en : (if r < B then some ((0 : Int32), σ) else some (1, σ)) = some (tf (B ≤ r), σ) := by
      by_cases z : r < B
      · rw [if_pos z, tf_f (by omega)]
      · rw [if_neg z, tf_t (by omega)]
    rw [en]
    by_cases z : cN d ≤ R
    · rw [if_pos ((nI_e' (by omega) (by omega)).mpr z), show cN d - R = 0 by omega, rcR]
    · rw [if_neg (fun y => z ((nI_e' (by omega) (by omega)).mp y)), show cN d - R = (cN d - (R + 1)) + 1 by omega, rcR]
      by_cases u : B ≤ r
      · rw [if_pos u, if_pos u]
      · have l := l_cov109 (n := n) (B := iI B) (R := R) S F T G hi hq (l_X6_isWayCovered_90 n f) xFU 0 r (xFU_lt (by omega)) (by omega) hr
        rw [show nI 0 = 0 from rfl] at l
        rw [if_neg u, if_neg u, l, ih (R + 1) _ (by omega) (by omega) (rcP_b G _ _ _ (by omega) hr)]
        rfl
set_option maxHeartbeats 200000 in
theorem e_isWayCovered {n : Nat} {σ : xσ} {a b : Nat} {c d : Ct} (S : SH n σ a c) (F : WF c) (T : SH n σ b d) (G : WF d) (hl : cK d = 1) {i : Nat} (hi : i + 1 < cN c) (hne : cV c i ≠ cV c (i + 1)) : f_X6_isWayCovered n a (nI i) b σ = some (tf (¬ UnP (TC d) (cV c i) (cV c (i + 1))), σ) := by
  have hN := F.n
  have hM := G.n
  have b1 := F.b (show i < cN c by omega)
  have b2 := F.b hi
  have i1 : ∀ {α : Type} (y : Option α), gd (inb (nI i) 40) y = y := fun y => gd_in (by omega) (by omega)
  have i2 : ∀ {α : Type} (y : Option α), gd (inb (nI (i + 1)) 40) y = y := fun y => gd_in (by omega) (by omega)
  have x1 : sI σ (a + 1) (nI i).toNatClampNeg = iI (cV c i).1 := by rw [nI_k (by omega), S.X (by omega)]
  have y1 : sI σ (a + 2) (nI i).toNatClampNeg = iI (cV c i).2 := by rw [nI_k (by omega), S.Y (by omega)]
  have x2 : sI σ (a + 1) (nI (i + 1)).toNatClampNeg = iI (cV c (i + 1)).1 := by rw [nI_k (by omega), S.X hi]
  have y2 : sI σ (a + 2) (nI (i + 1)).toNatClampNeg = iI (cV c (i + 1)).2 := by rw [nI_k (by omega), S.Y hi]
  have fin : ∀ p q, (sI σ p (nI i).toNatClampNeg = iI (fX (cV c i) (cV c (i + 1)) (cV c i))) → (sI σ p (nI (i + 1)).toNatClampNeg = iI (fX (cV c i) (cV c (i + 1)) (cV c (i + 1)))) → (∀ j, j < cN d → sI σ q j = iI (fX (cV c i) (cV c (i + 1)) (cV d j))) → b_X6_isWayCovered_55 n a (nI i) b p q σ = some (tf (¬ UnP (TC d) (cV c i) (cV c (i + 1))), σ) := by
    intro p q p1 p2 hq
    have f1 : b30 (fX (cV c i) (cV c (i + 1)) (cV c i)) := fX_b b1
    have f2 : b30 (fX (cV c i) (cV c (i + 1)) (cV c (i + 1))) := fX_b b2
    have l := l_cov90 (n := n) S F T G hi hq (mx_b f1 f2) xFU 0 _ (xFU_lt (by omega)) (by omega) (mn_b f1 f2)
    rw [show nI 0 = 0 from rfl] at l
    rw [b_X6_isWayCovered_55, nI_s, i1, i2, st, i1, i2, st, p1, p2, imin_i f1.r f2.r, imax_i f1.r f2.r, l]
    congr 2
    refine tf_c ?_
    rw [Nat.sub_zero, rcR_i (by omega)]
    exact UC_i G hl hne
  rw [f_X6_isWayCovered, gd_pos S.1, gd_pos T.1, nI_s, i1, i2, x1, x2]
  have ie := iI_eq b1.1.r b2.1.r
  by_cases z : (cV c i).1 = (cV c (i + 1)).1
  · rw [if_pos (ie.mpr z), b_X6_isWayCovered_22, if_pos rfl, b_X6_isWayCovered_38, if_pos rfl]
    have e : ∀ X, fX (cV c i) (cV c (i + 1)) X = X.2 := fun X => by unfold fX; rw [if_pos z]
    exact fin _ _ (by rw [e, y1]) (by rw [e, y2]) (fun j hj => by rw [e]; exact T.Y hj)
  · rw [if_neg (fun y => z (ie.mp y)), b_X6_isWayCovered_22, if_neg (by decide), b_X6_isWayCovered_38, if_neg (by decide)]
    have e : ∀ X, fX (cV c i) (cV c (i + 1)) X = X.1 := fun X => by unfold fX; rw [if_neg z]
    exact fin _ _ (by rw [e, x1]) (by rw [e, x2]) (fun j hj => by rw [e]; exact T.X hj)
set_option maxHeartbeats 200000 in
theorem l_lw {n : Nat} {σ : xσ} {a b : Nat} {c d : Ct} (S : SH n σ a c) (F : WF c) (vc : Val c) (T : SH n σ b d) (G : WF d) (hk : cK c = 1) (hl : cK d = 1) : ∀ f i, 40 - i < f → i ≤ 40 → l_X6_isLineWithin_2 n f a b (nI i) σ = some (tf (∀ i', i ≤ i' → i' + 1 < cN c → ¬ UnP (TC d) (cV c i') (cV c (i' + 1))), σ) := by
  have hN := F.n
  intro f
  induction f with
  | zero => intro i h; omega
  | succ f ih =>
    intro i h hi
    rw [l_X6_isLineWithin_2, S.N, nI_s]
    by_cases q : i + 1 < cN c
    · rw [if_neg (fun y => by have := (nI_e' (by omega) (by omega)).mp y; omega), e_isWayCovered S F T G hl q ((Line_of vc hk).2 i q), bd]
      by_cases u : ¬ UnP (TC d) (cV c i) (cV c (i + 1))
      · rw [if_neg (fun z => (tf_0.mp z) u), ih (i + 1) (by omega) (by omega)]
        congr 2
        refine tf_c ⟨fun w i' x y => ?_, fun w i' x y => w i' (by omega) y⟩
        by_cases z : i' = i
        · subst z; exact u
        · exact w i' (by omega) y
      · rw [if_pos (tf_f u), tf_f (fun w => u (w i (Nat.le_refl i) q))]
    · rw [if_pos ((nI_e' (by omega) (by omega)).mpr (by omega)), tf_t (fun i' x y => by omega)]
set_option maxHeartbeats 200000 in
theorem e_isLineWithin {n : Nat} {σ : xσ} {a b : Nat} {c d : Ct} (S : SH n σ a c) (F : WF c) (vc : Val c) (T : SH n σ b d) (G : WF d) (hk : cK c = 1) (hl : cK d = 1) : f_X6_isLineWithin n a b σ = some (tf (¬ UnW (wy c) (cV c) (TC d)), σ) := by
  have hN := F.n
  have l := l_lw (n := n) S F vc T G hk hl xFU 0 (xFU_lt (by omega)) (by omega)
  rw [show nI 0 = 0 from rfl] at l
  rw [f_X6_isLineWithin, gd_pos S.1, gd_pos T.1, l]
  congr 2
  exact tf_c ⟨fun h ⟨i, w, u⟩ => h i (by omega) w.2.1 u, fun h i _ q u => h ⟨i, (wy_line F hk).mpr q, u⟩⟩

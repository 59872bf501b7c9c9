/-! lines: the code of both sides -/
set_option maxHeartbeats 200000 in
theorem e_isAtTip {n : Nat} {σ : xσ} {a b w : Nat} {c d x : Ct} (S : SH n σ a c) (F : WF c) (W : SH n σ w x) (H : WF x) (T : SH n σ b d) (G : WF d) (hx : cK x = 1) (hx2 : 2 ≤ cN x) {i j : Nat} (hi : i + 1 < cN c) (hj : j + 1 < cN d) : f_X6_isAtTip n a (nI i) w b (nI j) σ = some (tf (atT x (cV c i) (cV c (i + 1)) (cV d j) (cV d (j + 1))), σ) := by
  have hN := H.n
  have g0 : ∀ {α : Type} (x : Option α), gd (inb 0 40) x = x := fun x => gd_pos (by decide) x
  have sx : sI σ (w + 1) (0 : Int32).toNatClampNeg = iI (cV x 0).1 := W.X (i := 0) (by omega)
  have sy : sI σ (w + 2) (0 : Int32).toNatClampNeg = iI (cV x 0).2 := W.Y (i := 0) (by omega)
  have lx : sI σ (w + 1) (nI (cN x - 1)).toNatClampNeg = iI (cV x (cN x - 1)).1 := by rw [nI_k (by omega)]; exact W.X (by omega)
  have ly : sI σ (w + 2) (nI (cN x - 1)).toNatClampNeg = iI (cV x (cN x - 1)).2 := by rw [nI_k (by omega)]; exact W.Y (by omega)
  have gl : ∀ {α : Type} (y : Option α), gd (inb (nI (cN x - 1)) 40) y = y := fun y => gd_in (by omega) (by omega)
  have A0 := e_isOnWay (n := n) S F (p := cV x 0) hi (H.b (by omega))
  have AL := e_isOnWay (n := n) S F (p := cV x (cN x - 1)) hi (H.b (by omega))
  have B0 := e_isOnWay (n := n) T G (p := cV x 0) hj (H.b (by omega))
  have BL := e_isOnWay (n := n) T G (p := cV x (cN x - 1)) hj (H.b (by omega))
  have al := e_isAlike (n := n) (i := 0) (j := cN x - 1) W H (by omega) (by omega)
  rw [show nI 0 = 0 from rfl] at al
  have m1 : nI (cN x) - 1 = nI (cN x - 1) := nI_m (b := 1) (by omega)
  rw [f_X6_isAtTip, gd_pos S.1, gd_pos W.1, gd_pos T.1, W.N, m1, st, if_neg (fun z => by have := (nIl1 (by omega)).mp z; omega), al, bd]
  by_cases e : cV x 0 = cV x (cN x - 1)
  · rw [if_neg (fun z => (tf_0.mp z) e), tf_f (fun h => h.1.2 e)]
  · have ho : opn x := ⟨hx, e⟩
    rw [if_pos (tf_f e), g0, g0, sx, sy, A0, bd]
    have last : (gd (inb (nI (cN x - 1)) 40) (gd (inb (nI (cN x - 1)) 40) (bd (f_X4_isOnWay n a (nI i) (sI σ (w + 1) (nI (cN x - 1)).toNatClampNeg) (sI σ (w + 2) (nI (cN x - 1)).toNatClampNeg) σ) (fun v144 σ145 => if v144 = 0 then some (0, σ145) else gd (inb (nI (cN x - 1)) 40) (gd (inb (nI (cN x - 1)) 40) (bd (f_X4_isOnWay n b (nI j) (sI σ145 (w + 1) (nI (cN x - 1)).toNatClampNeg) (sI σ145 (w + 2) (nI (cN x - 1)).toNatClampNeg) σ145) (fun v152 σ153 => if v152 = 0 then some (0, σ153) else some (1, σ153)))))))) = (some (tf (onS (cV c i) (cV c (i + 1)) (cV x (cN x - 1)) ∧ onS (cV d j) (cV d (j + 1)) (cV x (cN x - 1))), σ) : Option (Int32 × xσ)) := by
      rw [gl, gl, lx, ly, AL, bd]
      by_cases u : onS (cV c i) (cV c (i + 1)) (cV x (cN x - 1))
      · rw [if_neg (fun z => (tf_0.mp z) u), gl, gl, lx, ly, BL, bd]
        by_cases v : onS (cV d j) (cV d (j + 1)) (cV x (cN x - 1))
        · rw [if_neg (fun z => (tf_0.mp z) v), tf_t ⟨u, v⟩]
        · rw [if_pos (tf_f v), tf_f (fun h => v h.2)]
      · rw [if_pos (tf_f u), tf_f (fun h => u h.1)]
    have fin1 : (¬ (onS (cV c i) (cV c (i + 1)) (cV x 0) ∧ onS (cV d j) (cV d (j + 1)) (cV x 0))) → (some (tf (onS (cV c i) (cV c (i + 1)) (cV x (cN x - 1)) ∧ onS (cV d j) (cV d (j + 1)) (cV x (cN x - 1))), σ) : Option (Int32 × xσ)) = some (tf (atT x (cV c i) (cV c (i + 1)) (cV d j) (cV d (j + 1))), σ) := by
      intro no
      congr 2
      exact tf_c ⟨fun h => ⟨ho, Or.inr h⟩, fun h => by rcases h.2 with u | u; exact (no u).elim; exact u⟩
    by_cases u : onS (cV c i) (cV c (i + 1)) (cV x 0)
    · rw [if_neg (fun z => (tf_0.mp z) u), g0, g0, sx, sy, B0, bd]
      by_cases v : onS (cV d j) (cV d (j + 1)) (cV x 0)
      · rw [if_neg (fun z => (tf_0.mp z) v), tf_t ⟨ho, Or.inl ⟨u, v⟩⟩]
      · rw [if_pos (tf_f v), last]; exact fin1 (fun h => v h.2)
    · rw [if_pos (tf_f u), last]; exact fin1 (fun h => u h.1)
set_option maxHeartbeats 200000 in
theorem l_li14 {n : Nat} {σ : xσ} {a b : Nat} {c d : Ct} (S : SH n σ a c) (F : WF c) (vc : Val c) (T : SH n σ b d) (G : WF d) (vd : Val d) (hk : cK c = 1) (hl : cK d = 1) {i : Nat} (hi : i + 1 < cN c) (K : Nat → Nat → Int32 → xσ → Option (Int32 × xσ)) : ∀ f j, 40 - j < f → j ≤ 40 → l_X6_doLineInteriorsMeet_14 n K f a b (nI i) (nI j) σ = ifP (∃ k, j ≤ k ∧ k + 1 < cN d ∧ (cnt (cV c i) (cV c (i + 1)) (cV d k) (cV d (k + 1)) = 2 ∨ (cnt (cV c i) (cV c (i + 1)) (cV d k) (cV d (k + 1)) = 1 ∧ ¬ atT c (cV c i) (cV c (i + 1)) (cV d k) (cV d (k + 1)) ∧ ¬ atT d (cV c i) (cV c (i + 1)) (cV d k) (cV d (k + 1))))) (some (1, σ)) (K a b (nI (i + 1)) σ) := by
  have hN := F.n
  have hM := G.n
  have c2 := (Line_of vc hk).1
  have d2 := (Line_of vd hl).1
  intro f
  induction f with
  | zero => intro j h; omega
  | succ f ih =>
    intro j h hj
    rw [l_X6_doLineInteriorsMeet_14, T.N, nI_s]
    by_cases q : j + 1 < cN d
    · have nx : (¬ (cnt (cV c i) (cV c (i + 1)) (cV d j) (cV d (j + 1)) = 2 ∨ (cnt (cV c i) (cV c (i + 1)) (cV d j) (cV d (j + 1)) = 1 ∧ ¬ atT c (cV c i) (cV c (i + 1)) (cV d j) (cV d (j + 1)) ∧ ¬ atT d (cV c i) (cV c (i + 1)) (cV d j) (cV d (j + 1))))) → l_X6_doLineInteriorsMeet_14 n K f a b (nI i) (nI (j + 1)) σ = ifP (∃ k, j ≤ k ∧ k + 1 < cN d ∧ (cnt (cV c i) (cV c (i + 1)) (cV d k) (cV d (k + 1)) = 2 ∨ (cnt (cV c i) (cV c (i + 1)) (cV d k) (cV d (k + 1)) = 1 ∧ ¬ atT c (cV c i) (cV c (i + 1)) (cV d k) (cV d (k + 1)) ∧ ¬ atT d (cV c i) (cV c (i + 1)) (cV d k) (cV d (k + 1))))) (some (1, σ)) (K a b (nI (i + 1)) σ) := by
        intro no
        rw [ih (j + 1) (by omega) (by omega)]
        refine ifP_c ⟨fun ⟨k, a, b, x⟩ => ⟨k, by omega, b, x⟩, fun ⟨k, a, b, x⟩ => ⟨k, ?_, b, x⟩⟩
        have : k ≠ j := fun z => no (z ▸ x)
        omega
      have hc := cnt_le (cV c i) (cV c (i + 1)) (cV d j) (cV d (j + 1))
      rw [if_neg (fun y => by have := (nI_e' (by omega) (by omega)).mp y; omega), e_countCommon S F T G hi q, bd]
      by_cases z2 : cnt (cV c i) (cV c (i + 1)) (cV d j) (cV d (j + 1)) = 2
      · rw [if_pos (show nI (cnt (cV c i) (cV c (i + 1)) (cV d j) (cV d (j + 1))) = 2 by rw [z2]; rfl), ifP_t ⟨j, Nat.le_refl j, q, Or.inl z2⟩]
      · rw [if_neg (fun y => z2 ((nIq2 (by omega)).mp y))]
        by_cases z1 : cnt (cV c i) (cV c (i + 1)) (cV d j) (cV d (j + 1)) = 1
        · rw [if_pos (show nI (cnt (cV c i) (cV c (i + 1)) (cV d j) (cV d (j + 1))) = 1 by rw [z1]; rfl), e_isAtTip S F S F T G hk c2 hi q, bd]
          by_cases u : atT c (cV c i) (cV c (i + 1)) (cV d j) (cV d (j + 1))
          · rw [if_neg (fun z => (tf_0.mp z) u)]
            exact nx (fun y => by rcases y with y | y; exact z2 y; exact y.2.1 u)
          · rw [if_pos (tf_f u), e_isAtTip T G T G S F hl d2 q hi, bd]
            have sw : atT d (cV d j) (cV d (j + 1)) (cV c i) (cV c (i + 1)) ↔ atT d (cV c i) (cV c (i + 1)) (cV d j) (cV d (j + 1)) := by
              unfold atT
              exact ⟨fun h => ⟨h.1, by rcases h.2 with t | t; exact Or.inl ⟨t.2, t.1⟩; exact Or.inr ⟨t.2, t.1⟩⟩, fun h => ⟨h.1, by rcases h.2 with t | t; exact Or.inl ⟨t.2, t.1⟩; exact Or.inr ⟨t.2, t.1⟩⟩⟩
            rw [tf_c sw]
            by_cases v : atT d (cV c i) (cV c (i + 1)) (cV d j) (cV d (j + 1))
            · rw [if_neg (fun z => (tf_0.mp z) v)]
              exact nx (fun y => by rcases y with y | y; exact z2 y; exact y.2.2 v)
            · rw [if_pos (tf_f v), ifP_t ⟨j, Nat.le_refl j, q, Or.inr ⟨z1, u, v⟩⟩]
        · rw [if_neg (fun y => z1 ((nIq1 (by omega)).mp y))]
          exact nx (fun y => by rcases y with y | y; exact z2 y; exact z1 y.1)
    · rw [if_pos ((nI_e' (by omega) (by omega)).mpr (by omega)), nI_s, ifP_f (fun ⟨k, a, b, _⟩ => by omega)]
set_option maxHeartbeats 200000 in
theorem l_li2 {n : Nat} {σ : xσ} {a b : Nat} {c d : Ct} (S : SH n σ a c) (F : WF c) (vc : Val c) (T : SH n σ b d) (G : WF d) (vd : Val d) (hk : cK c = 1) (hl : cK d = 1) : ∀ f i, 40 - i < f → i ≤ 40 → l_X6_doLineInteriorsMeet_2 n f a b (nI i) σ = some (tf (∃ i' k, i ≤ i' ∧ i' + 1 < cN c ∧ k + 1 < cN d ∧ (cnt (cV c i') (cV c (i' + 1)) (cV d k) (cV d (k + 1)) = 2 ∨ (cnt (cV c i') (cV c (i' + 1)) (cV d k) (cV d (k + 1)) = 1 ∧ ¬ atT c (cV c i') (cV c (i' + 1)) (cV d k) (cV d (k + 1)) ∧ ¬ atT d (cV c i') (cV c (i' + 1)) (cV d k) (cV d (k + 1))))), σ) := by
  have hN := F.n
  have hM := G.n
  intro f
  induction f with
  | zero => intro j h; omega
  | succ f ih =>
    intro i h hi
    rw [l_X6_doLineInteriorsMeet_2, S.N, nI_s]
    by_cases q : i + 1 < cN c
    · rw [if_neg (fun y => by have := (nI_e' (by omega) (by omega)).mp y; omega)]
      have l := l_li14 (n := n) S F vc T G vd hk hl q (l_X6_doLineInteriorsMeet_2 n f) xFU 0 (xFU_lt (by omega)) (by omega)
      rw [show nI 0 = 0 from rfl] at l
      rw [l, ih (i + 1) (by omega) (by omega)]
      by_cases g : ∃ k, 0 ≤ k ∧ k + 1 < cN d ∧ (cnt (cV c i) (cV c (i + 1)) (cV d k) (cV d (k + 1)) = 2 ∨ (cnt (cV c i) (cV c (i + 1)) (cV d k) (cV d (k + 1)) = 1 ∧ ¬ atT c (cV c i) (cV c (i + 1)) (cV d k) (cV d (k + 1)) ∧ ¬ atT d (cV c i) (cV c (i + 1)) (cV d k) (cV d (k + 1))))
      · obtain ⟨k, g1, g2, g3⟩ := id g
        rw [ifP_t g, tf_t ⟨i, k, Nat.le_refl i, q, g2, g3⟩]
      · rw [ifP_f g]
        congr 2
        refine tf_c ⟨fun ⟨i', k, a, b⟩ => ⟨i', k, by omega, b⟩, fun ⟨i', k, a, b, x, y⟩ => ⟨i', k, ?_, b, x, y⟩⟩
        have : i' ≠ i := fun z => g ⟨k, by omega, x, z ▸ y⟩
        omega
    · rw [if_pos ((nI_e' (by omega) (by omega)).mpr (by omega)), tf_f (fun ⟨i', k, a, b, _⟩ => by omega)]
set_option maxHeartbeats 200000 in
theorem e_doLineInteriorsMeet {n : Nat} {σ : xσ} {a b : Nat} {c d : Ct} (S : SH n σ a c) (F : WF c) (vc : Val c) (T : SH n σ b d) (G : WF d) (vd : Val d) (hk : cK c = 1) (hl : cK d = 1) : f_X6_doLineInteriorsMeet n a b σ = some (tf (LI c d), σ) := by
  have hN := F.n
  have l := l_li2 (n := n) S F vc T G vd hk hl xFU 0 (xFU_lt (by omega)) (by omega)
  rw [f_X6_doLineInteriorsMeet, gd_pos S.1, gd_pos T.1, ← show nI 0 = 0 from rfl, l]
  congr 2
  exact tf_c ⟨fun ⟨i, k, _, b, x, y⟩ => ⟨i, k, (wy_line F hk).mpr b, (wy_line G hl).mpr x, y⟩, fun ⟨i, k, x, y, z⟩ => ⟨i, k, by omega, x.2.1, y.2.1, z⟩⟩
/-! the reference -/
set_option maxHeartbeats 200000 in
theorem m_isEndAt {n : Nat} {σ : xσ} {a b w : Nat} {c d x : Ct} (W : MH σ w x) (H : WF x) (S : MH σ a c) (F : WF c) (T : MH σ b d) (G : WF d) {i j : Nat} (hi : i + 1 < cN c) (hj : j + 1 < cN d) : f_X14_isEndAt n w a (nI i) b (nI j) σ = some (tf (atT x (cV c i) (cV c (i + 1)) (cV d j) (cV d (j + 1))), σ) := by
  have hN := H.n
  have g0 : ∀ {α : Type} (x : Option α), gd (inb 0 40) x = x := fun x => gd_pos (by decide) x
  have sx : sI σ (w + 2) (0 : Int32).toNatClampNeg = iI (cV x 0).1 := W.X (i := 0) (by omega)
  have sy : sI σ (w + 3) (0 : Int32).toNatClampNeg = iI (cV x 0).2 := W.Y (i := 0) (by omega)
  have lx : sI σ (w + 2) (nI (cN x - 1)).toNatClampNeg = iI (cV x (cN x - 1)).1 := by rw [nI_k (by omega)]; exact W.X (by omega)
  have ly : sI σ (w + 3) (nI (cN x - 1)).toNatClampNeg = iI (cV x (cN x - 1)).2 := by rw [nI_k (by omega)]; exact W.Y (by omega)
  have gl : ∀ {α : Type} (y : Option α), gd (inb (nI (cN x - 1)) 40) y = y := fun y => gd_in (by omega) (by omega)
  have A0 := m_isOn (n := n) S F (p := cV x 0) hi (H.b (by omega))
  have AL := m_isOn (n := n) S F (p := cV x (cN x - 1)) hi (H.b (by omega))
  have B0 := m_isOn (n := n) T G (p := cV x 0) hj (H.b (by omega))
  have BL := m_isOn (n := n) T G (p := cV x (cN x - 1)) hj (H.b (by omega))
  have m1 : nI (cN x) - 1 = nI (cN x - 1) := nI_m (b := 1) (by omega)
  rw [f_X14_isEndAt, gd_pos W.1, gd_pos S.1, gd_pos T.1, W.N, m1, st, m_isOpen W H, bd]
  by_cases ho : opn x
  · rw [if_neg (fun z => (tf_0.mp z) ho), g0, g0, sx, sy, A0, bd]
    have last : (gd (inb (nI (cN x - 1)) 40) (gd (inb (nI (cN x - 1)) 40) (bd (f_X14_isOn n a (nI i) (sI σ (w + 2) (nI (cN x - 1)).toNatClampNeg) (sI σ (w + 3) (nI (cN x - 1)).toNatClampNeg) σ) (fun v144 σ145 => if v144 = 0 then some (0, σ145) else gd (inb (nI (cN x - 1)) 40) (gd (inb (nI (cN x - 1)) 40) (bd (f_X14_isOn n b (nI j) (sI σ145 (w + 2) (nI (cN x - 1)).toNatClampNeg) (sI σ145 (w + 3) (nI (cN x - 1)).toNatClampNeg) σ145) (fun v152 σ153 => if v152 = 0 then some (0, σ153) else some (1, σ153)))))))) = (some (tf (onS (cV c i) (cV c (i + 1)) (cV x (cN x - 1)) ∧ onS (cV d j) (cV d (j + 1)) (cV x (cN x - 1))), σ) : Option (Int32 × xσ)) := by
      rw [gl, gl, lx, ly, AL, bd]
      by_cases u : onS (cV c i) (cV c (i + 1)) (cV x (cN x - 1))
      · rw [if_neg (fun z => (tf_0.mp z) u), gl, gl, lx, ly, BL, bd]
        by_cases v : onS (cV d j) (cV d (j + 1)) (cV x (cN x - 1))
        · rw [if_neg (fun z => (tf_0.mp z) v), tf_t ⟨u, v⟩]
        · rw [if_pos (tf_f v), tf_f (fun h => v h.2)]
      · rw [if_pos (tf_f u), tf_f (fun h => u h.1)]
    have fin1 : (¬ (onS (cV c i) (cV c (i + 1)) (cV x 0) ∧ onS (cV d j) (cV d (j + 1)) (cV x 0))) → (some (tf (onS (cV c i) (cV c (i + 1)) (cV x (cN x - 1)) ∧ onS (cV d j) (cV d (j + 1)) (cV x (cN x - 1))), σ) : Option (Int32 × xσ)) = some (tf (atT x (cV c i) (cV c (i + 1)) (cV d j) (cV d (j + 1))), σ) := by
      intro no
      congr 2
      exact tf_c ⟨fun h => ⟨ho, Or.inr h⟩, fun h => by rcases h.2 with u | u; exact (no u).elim; exact u⟩
    by_cases u : onS (cV c i) (cV c (i + 1)) (cV x 0)
    · rw [if_neg (fun z => (tf_0.mp z) u), g0, g0, sx, sy, B0, bd]
      by_cases v : onS (cV d j) (cV d (j + 1)) (cV x 0)
      · rw [if_neg (fun z => (tf_0.mp z) v), tf_t ⟨ho, Or.inl ⟨u, v⟩⟩]
      · rw [if_pos (tf_f v), last]; exact fin1 (fun h => v h.2)
    · rw [if_pos (tf_f u), last]; exact fin1 (fun h => u h.1)
  · rw [if_pos (tf_f ho), tf_f (fun h => ho h.1)]
set_option maxHeartbeats 200000 in
theorem m_isInner {n : Nat} {σ : xσ} {a b w : Nat} {c d x : Ct} (S : MH σ a c) (F : WF c) (T : MH σ b d) (G : WF d) (W : MH σ w x) (H : WF x) {k : Nat} (hk : k < cN x) : f_X14_isInner n a b w (nI k) σ = some (tf (inn c d (cV x k)), σ) := by
  have hN := H.n
  have gl : ∀ {α : Type} (y : Option α), gd (inb (nI k) 40) y = y := fun y => gd_in (by omega) (by omega)
  have lx : sI σ (w + 2) (nI k).toNatClampNeg = iI (cV x k).1 := by rw [nI_k (by omega)]; exact W.X hk
  have ly : sI σ (w + 3) (nI k).toNatClampNeg = iI (cV x k).2 := by rw [nI_k (by omega)]; exact W.Y hk
  rw [f_X14_isInner, gd_pos S.1, gd_pos T.1, gd_pos W.1, gl, gl, lx, ly, m_locate S F (H.b hk), bd]
  unfold inn
  by_cases u : loc c (cV x k) = 1
  · rw [if_pos ((loc_one c _).mpr u), gl, gl, lx, ly, m_locate T G (H.b hk), bd]
    by_cases v : loc d (cV x k) = 1
    · rw [if_pos ((loc_one d _).mpr v), tf_t ⟨u, v⟩]
    · rw [if_neg (fun y => v ((loc_one d _).mp y)), tf_f (fun h => v h.2)]
  · rw [if_neg (fun y => u ((loc_one c _).mp y)), tf_f (fun h => u h.1)]

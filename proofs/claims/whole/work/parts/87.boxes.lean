/-! boxes, and whether two shapes have a point in common: both sides -/
def apB (c d : Ct) : Prop := x1 c < x0 d ∨ x1 d < x0 c ∨ y1 c < y0 d ∨ y1 d < y0 c
def inB (c d : Ct) : Prop := x0 d ≤ x0 c ∧ x1 c ≤ x1 d ∧ y0 d ≤ y0 c ∧ y1 c ≤ y1 d
set_option maxHeartbeats 200000 in
theorem e_isBoxApart {n : Nat} {σ : xσ} {a b : Nat} {c d : Ct} (S : SH n σ a c) (F : WF c) (T : SH n σ b d) (G : WF d) : f_X7_isBoxApart n a b σ = some (tf (apB c d), σ) := by
  obtain ⟨b1, b2, b3, b4⟩ := F.bx
  obtain ⟨d1, d2, d3, d4⟩ := G.bx
  rw [f_X7_isBoxApart, gd_pos S.1, gd_pos T.1, S.x0, S.x1, S.y0, S.y1, T.x0, T.x1, T.y0, T.y1]
  unfold apB
  simp only [iI_lt b3.r d1.r, iI_lt d3.r b1.r, iI_lt b4.r d2.r, iI_le b2.r d4.r]
  repeat' split
  all_goals first | rw [tf_f (by omega)] | rw [tf_t (by omega)]
set_option maxHeartbeats 200000 in
theorem e_isBoxWithin {n : Nat} {σ : xσ} {a b : Nat} {c d : Ct} (S : SH n σ a c) (F : WF c) (T : SH n σ b d) (G : WF d) : f_X7_isBoxWithin n a b σ = some (tf (inB c d), σ) := by
  obtain ⟨b1, b2, b3, b4⟩ := F.bx
  obtain ⟨d1, d2, d3, d4⟩ := G.bx
  rw [f_X7_isBoxWithin, gd_pos S.1, gd_pos T.1, S.x0, S.x1, S.y0, S.y1, T.x0, T.x1, T.y0, T.y1]
  unfold inB
  simp only [iI_lt b1.r d1.r, iI_lt d3.r b3.r, iI_lt b2.r d2.r, iI_lt d4.r b4.r]
  repeat' split
  all_goals first | rw [tf_f (by omega)] | rw [tf_t (by omega)]
/-- the reference's least and greatest -/
noncomputable def exT (c : Ct) (ac ls : Bool) : Nat → Int := fun k => if ls then mn (fun i => if ac then (cV c i).1 else (cV c i).2) k else mx (fun i => if ac then (cV c i).1 else (cV c i).2) k
set_option maxHeartbeats 200000 in
theorem exT_b {c : Ct} (F : WF c) (ac ls : Bool) {k : Nat} (hk : k < cN c) : b30 (exT c ac ls k) := by
  unfold exT
  have hb : ∀ i, i ≤ k → b30 (if ac then (cV c i).1 else (cV c i).2) := by
    intro i hi
    have b := F.b (show i < cN c by omega)
    cases ac
    · exact b.2
    · exact b.1
  cases ls
  · obtain ⟨i, h1, h2⟩ := mx_ex (fun i => if ac then (cV c i).1 else (cV c i).2) k
    rw [if_neg (by decide), h2]; exact hb i h1
  · obtain ⟨i, h1, h2⟩ := mn_ex (fun i => if ac then (cV c i).1 else (cV c i).2) k
    rw [if_pos rfl, h2]; exact hb i h1
set_option maxHeartbeats 200000 in
theorem l_extreme {n : Nat} {σ : xσ} {a : Nat} {c : Ct} (S : MH σ a c) (F : WF c) (ac ls : Bool) : ∀ f k, 40 - k < f → k + 1 ≤ cN c → l_X14_extreme_23 n f a (bI ac) (bI ls) (iI (exT c ac ls k)) (nI (k + 1)) σ = some (iI (exT c ac ls (cN c - 1)), σ) := by
  have hN := F.n
  intro f
  induction f with
  | zero => intro k h; omega
  | succ f ih =>
    intro k h hk
    rw [l_X14_extreme_23, S.N]
    by_cases q : cN c ≤ k + 1
    · rw [if_pos ((nI_e' (by omega) (by omega)).mpr q), show cN c - 1 = k by omega]
    · rw [if_neg (fun y => q ((nI_e' (by omega) (by omega)).mp y))]
      have step : ∀ v, v = (if ac then (cV c (k + 1)).1 else (cV c (k + 1)).2) → b_X14_extreme_53 n (l_X14_extreme_23 n f) a (bI ac) (bI ls) (iI (exT c ac ls k)) (nI (k + 1)) (iI v) σ = some (iI (exT c ac ls (cN c - 1)), σ) := by
        intro v hv
        have e0 := exT_b F ac ls (k := k) (by omega)
        have bk := F.b (show k + 1 < cN c by omega)
        have vr : b30 v := by rw [hv]; cases ac; exact bk.2; exact bk.1
        have t := ih (k + 1) (by omega) (by omega)
        rw [b_X14_extreme_53]
        cases ls
        · rw [if_pos (show bI false = 0 from rfl), b_X14_extreme_74, imax_i e0.r vr.r, nI_s, ← t]
          congr 2
          unfold exT
          rw [if_neg (by decide), if_neg (by decide), mx, hv]
        · rw [if_neg (show ¬ bI true = 0 by decide), b_X14_extreme_74, imin_i e0.r vr.r, nI_s, ← t]
          congr 2
          unfold exT
          rw [if_pos rfl, if_pos rfl, mn, hv]
      cases ac
      · rw [if_pos (show bI false = 0 from rfl), gd_in (by omega) (by omega), nI_k (by omega), S.Y (by omega)]
        exact step _ rfl
      · rw [if_neg (show ¬ bI true = 0 by decide), gd_in (by omega) (by omega), nI_k (by omega), S.X (by omega)]
        exact step _ rfl
set_option maxHeartbeats 200000 in
theorem m_extreme {n : Nat} {σ : xσ} {a : Nat} {c : Ct} (S : MH σ a c) (F : WF c) (ac ls : Bool) : f_X14_extreme n a (bI ac) (bI ls) σ = some (iI (exT c ac ls (cN c - 1)), σ) := by
  have hN := F.n
  have t := l_extreme (n := n) S F ac ls xFU 0 (xFU_lt (by omega)) (by omega)
  rw [f_X14_extreme, gd_pos S.1]
  have c0 : (0 : Int32).toNatClampNeg = 0 := rfl
  cases ac
  · rw [if_pos (show bI false = 0 from rfl), gd_pos (by decide), b_X14_extreme_19, c0, S.Y (by omega), ← t]
    cases ls <;> rfl
  · rw [if_neg (show ¬ bI true = 0 by decide), gd_pos (by decide), b_X14_extreme_19, c0, S.X (by omega), ← t]
    cases ls <;> rfl
set_option maxHeartbeats 200000 in
theorem m_areApart {n : Nat} {σ : xσ} {a b : Nat} {c d : Ct} (S : MH σ a c) (F : WF c) (T : MH σ b d) (G : WF d) (ac : Bool) : f_X14_areApart n a b (bI ac) σ = some (tf (exT c ac false (cN c - 1) < exT d ac true (cN d - 1) ∨ exT d ac false (cN d - 1) < exT c ac true (cN c - 1)), σ) := by
  have hN := F.n
  have hM := G.n
  have r1 := exT_b F ac false (k := cN c - 1) (by omega)
  have r2 := exT_b F ac true (k := cN c - 1) (by omega)
  have r3 := exT_b G ac false (k := cN d - 1) (by omega)
  have r4 := exT_b G ac true (k := cN d - 1) (by omega)
  have m1 := m_extreme (n := n) S F ac false
  have m2 := m_extreme (n := n) S F ac true
  have m3 := m_extreme (n := n) T G ac false
  have m4 := m_extreme (n := n) T G ac true
  have z0 : bI false = 0 := rfl
  have z1 : bI true = 1 := rfl
  rw [z0] at m1 m3
  rw [z1] at m2 m4
  rw [f_X14_areApart, gd_pos S.1, gd_pos T.1, m1, bd, m4, bd]
  simp only [iI_lt r1.r r4.r]
  by_cases q : exT c ac false (cN c - 1) < exT d ac true (cN d - 1)
  · rw [if_pos q, tf_t (Or.inl q)]
  · rw [if_neg q, m3, bd, m2, bd]
    simp only [iI_le r2.r r3.r]
    by_cases y : exT c ac true (cN c - 1) ≤ exT d ac false (cN d - 1)
    · rw [if_pos y, tf_f (by omega)]
    · rw [if_neg y, tf_t (by omega)]
set_option maxHeartbeats 200000 in
theorem apB_i (c d : Ct) : apB c d ↔ ((exT c true false (cN c - 1) < exT d true true (cN d - 1) ∨ exT d true false (cN d - 1) < exT c true true (cN c - 1)) ∨ (exT c false false (cN c - 1) < exT d false true (cN d - 1) ∨ exT d false false (cN d - 1) < exT c false true (cN c - 1))) := by
  unfold apB
  exact ⟨fun h => by
    rcases h with h | h | h | h
    · exact Or.inl (Or.inl h)
    · exact Or.inl (Or.inr h)
    · exact Or.inr (Or.inl h)
    · exact Or.inr (Or.inr h), fun h => by
    rcases h with (h | h) | h | h
    · exact Or.inl h
    · exact Or.inr (Or.inl h)
    · exact Or.inr (Or.inr (Or.inl h))
    · exact Or.inr (Or.inr (Or.inr h))⟩
/-! the loops over pairs of ways -/
set_option maxHeartbeats 200000 in
theorem l_lines14 {n : Nat} {σ : xσ} {a b : Nat} {c d : Ct} (S : SH n σ a c) (F : WF c) (T : SH n σ b d) (G : WF d) {i : Nat} (hi : i + 1 < cN c) (K : Nat → Nat → Int32 → xσ → Option (Int32 × xσ)) : ∀ f j, 40 - j < f → j ≤ 40 → l_X6_doLinesMeet_14 n K f a b (nI i) (nI j) σ = ifP (∃ k, j ≤ k ∧ k + 1 < cN d ∧ cnt (cV c i) (cV c (i + 1)) (cV d k) (cV d (k + 1)) ≠ 0) (some (1, σ)) (K a b (nI (i + 1)) σ) := by
  have hN := F.n
  have hM := G.n
  intro f
  induction f with
  | zero => intro j h; omega
  | succ f ih =>
    intro j h hj
    rw [l_X6_doLinesMeet_14, T.N, nI_s]
    by_cases q : j + 1 < cN d
    · rw [if_neg (fun y => by have := (nI_e' (by omega) (by omega)).mp y; omega), e_countCommon S F T G hi q, bd]
      have hc := cnt_le (cV c i) (cV c (i + 1)) (cV d j) (cV d (j + 1))
      simp (disch := omega) only [nIl0, nIe0, nIg0, nIh0, nIq0, nIl1, nIe1, nIg1, nIh1, nIq1, nIl2, nIe2, nIg2, nIh2, nIq2, nIl3, nIe3, nIg3, nIh3, nIq3, nIl4, nIe4, nIg4, nIh4, nIq4, nIl8, nIe8, nIg8, nIh8, nIq8, nIl40, nIe40, nIg40, nIh40, nIq40, nIl80, nIe80, nIg80, nIh80, nIq80, nIl200, nIe200, nIg200, nIh200, nIq200, nIm1, nIp2, nI_s]
      by_cases g : cnt (cV c i) (cV c (i + 1)) (cV d j) (cV d (j + 1)) ≤ 0
      · rw [if_pos (by omega), ih (j + 1) (by omega) (by omega)]
        refine ifP_c ⟨fun ⟨k, a, b, x⟩ => ⟨k, by omega, b, x⟩, fun ⟨k, a, b, x⟩ => ⟨k, ?_, b, x⟩⟩
        have : k ≠ j := fun z => x (by rw [z]; omega)
        omega
      · rw [if_neg (by omega), ifP_t ⟨j, Nat.le_refl j, q, by omega⟩]
    · rw [if_pos ((nI_e' (by omega) (by omega)).mpr (by omega)), nI_s, ifP_f (fun ⟨k, a, b, _⟩ => by omega)]
set_option maxHeartbeats 200000 in
theorem l_lines2 {n : Nat} {σ : xσ} {a b : Nat} {c d : Ct} (S : SH n σ a c) (F : WF c) (T : SH n σ b d) (G : WF d) : ∀ f i, 40 - i < f → i ≤ 40 → l_X6_doLinesMeet_2 n f a b (nI i) σ = some (tf (∃ i' k, i ≤ i' ∧ i' + 1 < cN c ∧ k + 1 < cN d ∧ cnt (cV c i') (cV c (i' + 1)) (cV d k) (cV d (k + 1)) ≠ 0), σ) := by
  have hN := F.n
  have hM := G.n
  intro f
  induction f with
  | zero => intro j h; omega
  | succ f ih =>
    intro i h hi
    rw [l_X6_doLinesMeet_2, S.N, nI_s]
    by_cases q : i + 1 < cN c
    · rw [if_neg (fun y => by have := (nI_e' (by omega) (by omega)).mp y; omega)]
      have l := l_lines14 (n := n) S F T G q (l_X6_doLinesMeet_2 n f) xFU 0 (xFU_lt (by omega)) (by omega)
      rw [show nI 0 = 0 from rfl] at l
      rw [l, ih (i + 1) (by omega) (by omega)]
      by_cases g : ∃ k, 0 ≤ k ∧ k + 1 < cN d ∧ cnt (cV c i) (cV c (i + 1)) (cV d k) (cV d (k + 1)) ≠ 0
      · obtain ⟨k, g1, g2, g3⟩ := id g
        rw [ifP_t g, tf_t ⟨i, k, Nat.le_refl i, q, g2, g3⟩]
      · rw [ifP_f g]
        congr 2
        refine tf_c ⟨fun ⟨i', k, a, b⟩ => ⟨i', k, by omega, b⟩, fun ⟨i', k, a, b, x, y⟩ => ⟨i', k, ?_, b, x, y⟩⟩
        have : i' ≠ i := fun z => g ⟨k, by omega, x, z ▸ y⟩
        omega
    · rw [if_pos ((nI_e' (by omega) (by omega)).mpr (by omega)), tf_f (fun ⟨i', k, a, b, _⟩ => by omega)]
set_option maxHeartbeats 200000 in
theorem e_doLinesMeet {n : Nat} {σ : xσ} {a b : Nat} {c d : Ct} (S : SH n σ a c) (F : WF c) (T : SH n σ b d) (G : WF d) (vc : Val c) (vd : Val d) (hk : cK c = 1) (hl : cK d = 1) : f_X6_doLinesMeet n a b σ = some (tf (cmW c d), σ) := by
  have hN := F.n
  have l := l_lines2 (n := n) S F T G xFU 0 (xFU_lt (by omega)) (by omega)
  rw [f_X6_doLinesMeet, gd_pos S.1, gd_pos T.1, ← show nI 0 = 0 from rfl, l]
  congr 2
  refine tf_c ⟨fun ⟨i, k, _, b, x, y⟩ => ⟨i, k, (wy_line F hk).mpr b, (wy_line G hl).mpr x, ?_⟩, fun ⟨i, k, x, y, z⟩ => ⟨i, k, by omega, (wy_line F hk).mp x, (wy_line G hl).mp y, fun w => ?_⟩⟩
  · refine Classical.byContradiction (fun n => y ((cnt_0 ((Line_of vc hk).2 i b) ((Line_of vd hl).2 k x)).mpr n))
  · exact (cnt_0 ((Line_of vc hk).2 i x.2.1) ((Line_of vd hl).2 k y.2.1)).mp w z
set_option maxHeartbeats 200000 in
theorem l_int74 {n : Nat} {σ : xσ} {a b : Nat} {c d : Ct} (S : MH σ a c) (F : WF c) (T : MH σ b d) (G : WF d) {i : Nat} (hi : i + 1 < cN c) (K : Nat → Nat → Int32 → xσ → Option (Int32 × xσ)) : ∀ f j, 40 - j < f → j ≤ 40 → l_X14_intersect_74 n K f a b (nI i) (nI j) σ = ifP (∃ k, j ≤ k ∧ wy c i ∧ wy d k ∧ cmn (cV c i) (cV c (i + 1)) (cV d k) (cV d (k + 1))) (some (1, σ)) (K a b (nI (i + 1)) σ) := by
  have hN := F.n
  have hM := G.n
  intro f
  induction f with
  | zero => intro j h; omega
  | succ f ih =>
    intro j h hj
    rw [l_X14_intersect_74, T.N, nI_s]
    by_cases q : j + 1 < cN d
    · rw [if_neg (fun y => by have := (nI_e' (by omega) (by omega)).mp y; omega), m_isWay S F (by omega), bd]
      by_cases w : wy c i
      · rw [if_neg (fun z => (tf_0.mp z) w), m_isWay T G (by omega), bd]
        have nx : (¬ (wy d j ∧ cmn (cV c i) (cV c (i + 1)) (cV d j) (cV d (j + 1)))) → l_X14_intersect_74 n K f a b (nI i) (nI (j + 1)) σ = ifP (∃ k, j ≤ k ∧ wy c i ∧ wy d k ∧ cmn (cV c i) (cV c (i + 1)) (cV d k) (cV d (k + 1))) (some (1, σ)) (K a b (nI (i + 1)) σ) := by
          intro no
          rw [ih (j + 1) (by omega) (by omega)]
          refine ifP_c ⟨fun ⟨k, a, b⟩ => ⟨k, by omega, b⟩, fun ⟨k, a, b⟩ => ⟨k, ?_, b⟩⟩
          have : k ≠ j := fun z => no (z ▸ b.2)
          omega
        by_cases v : wy d j
        · rw [if_neg (fun z => (tf_0.mp z) v), m_meet S F T G hi q, bd]
          by_cases m : mt (cV c i) (cV c (i + 1)) (cV d j) (cV d (j + 1))
          · rw [if_neg (fun z => (tf_0.mp z) m), ifP_t ⟨j, Nat.le_refl j, w, v, mt_cmn m⟩]
          · rw [if_pos (tf_f m)]
            exact nx (fun y => m (cmn_mt y.2))
        · rw [if_pos (tf_f v)]
          exact nx (fun y => v y.1)
      · rw [if_pos (tf_f w), nI_s, ifP_f (fun ⟨k, _, b, _⟩ => w b)]
    · rw [if_pos ((nI_e' (by omega) (by omega)).mpr (by omega)), nI_s, ifP_f (fun ⟨k, a, _, b, _⟩ => by have := b.2.1; omega)]
set_option maxHeartbeats 200000 in
theorem l_int62 {n : Nat} {σ : xσ} {a b : Nat} {c d : Ct} (S : MH σ a c) (F : WF c) (T : MH σ b d) (G : WF d) : ∀ f i, 40 - i < f → i ≤ 40 → l_X14_intersect_62 n f a b (nI i) σ = some (tf (∃ i' k, i ≤ i' ∧ wy c i' ∧ wy d k ∧ cmn (cV c i') (cV c (i' + 1)) (cV d k) (cV d (k + 1))), σ) := by
  have hN := F.n
  have hM := G.n
  intro f
  induction f with
  | zero => intro j h; omega
  | succ f ih =>
    intro i h hi
    rw [l_X14_intersect_62, S.N, nI_s]
    by_cases q : i + 1 < cN c
    · rw [if_neg (fun y => by have := (nI_e' (by omega) (by omega)).mp y; omega)]
      have l := l_int74 (n := n) S F T G q (l_X14_intersect_62 n f) xFU 0 (xFU_lt (by omega)) (by omega)
      rw [show nI 0 = 0 from rfl] at l
      rw [l, ih (i + 1) (by omega) (by omega)]
      by_cases g : ∃ k, 0 ≤ k ∧ wy c i ∧ wy d k ∧ cmn (cV c i) (cV c (i + 1)) (cV d k) (cV d (k + 1))
      · obtain ⟨k, g1, g2⟩ := id g
        rw [ifP_t g, tf_t ⟨i, k, Nat.le_refl i, g2⟩]
      · rw [ifP_f g]
        congr 2
        refine tf_c ⟨fun ⟨i', k, a, b⟩ => ⟨i', k, by omega, b⟩, fun ⟨i', k, a, b⟩ => ⟨i', k, ?_, b⟩⟩
        have : i' ≠ i := fun z => g ⟨k, by omega, z ▸ b⟩
        omega
    · rw [if_pos ((nI_e' (by omega) (by omega)).mpr (by omega)), tf_f (fun ⟨i', k, a, b, _⟩ => by have := b.2.1; omega)]
set_option maxHeartbeats 200000 in
theorem loc_v (c : Ct) (p : V2) : -1 ≤ loc c p ∧ loc c p ≤ 1 := by
  unfold loc ifP
  repeat' split
  all_goals decide
/-- the reference's answer -/
def Mt (c d : Ct) : Prop := ¬ apB c d ∧ mtR c d
set_option maxHeartbeats 200000 in
theorem m_intersect {n : Nat} {σ : xσ} {a b : Nat} {c d : Ct} (S : MH σ a c) (F : WF c) (T : MH σ b d) (G : WF d) : f_X14_intersect n a b σ = some (tf (Mt c d), σ) := by
  have hN := F.n
  have hM := G.n
  have a1 := m_areApart (n := n) S F T G true
  have a2 := m_areApart (n := n) S F T G false
  rw [show bI true = 1 from rfl] at a1
  rw [show bI false = 0 from rfl] at a2
  have ap := apB_i c d
  have sx : sI σ (a + 2) (0 : Int32).toNatClampNeg = iI (cV c 0).1 := S.X (i := 0) (by omega)
  have sy : sI σ (a + 3) (0 : Int32).toNatClampNeg = iI (cV c 0).2 := S.Y (i := 0) (by omega)
  have tx : sI σ (b + 2) (0 : Int32).toNatClampNeg = iI (cV d 0).1 := T.X (i := 0) (by omega)
  have ty : sI σ (b + 3) (0 : Int32).toNatClampNeg = iI (cV d 0).2 := T.Y (i := 0) (by omega)
  have g0 : ∀ {α : Type} (x : Option α), gd (inb 0 40) x = x := fun x => gd_pos (by decide) x
  rw [f_X14_intersect, gd_pos S.1, gd_pos T.1, a1, bd]
  by_cases q1 : exT c true false (cN c - 1) < exT d true true (cN d - 1) ∨ exT d true false (cN d - 1) < exT c true true (cN c - 1)
  · rw [if_neg (fun z => (tf_0.mp z) q1), tf_f (fun m => m.1 (ap.mpr (Or.inl q1)))]
  · rw [if_pos (tf_f q1), a2, bd]
    by_cases q2 : exT c false false (cN c - 1) < exT d false true (cN d - 1) ∨ exT d false false (cN d - 1) < exT c false true (cN c - 1)
    · rw [if_neg (fun z => (tf_0.mp z) q2), tf_f (fun m => m.1 (ap.mpr (Or.inr q2)))]
    · have nap : ¬ apB c d := fun y => by rcases ap.mp y with u | u; exact q1 u; exact q2 u
      have lr : ∀ (x : Ct) (p : V2), R32 (loc x p) := fun x p => by
        have := loc_v x p
        exact ⟨by omega, by omega⟩
      have z0 : (0 : Int32) = iI 0 := rfl
      rw [if_pos (tf_f q2), g0, g0, sx, sy, m_locate T G (F.b (by omega)), bd]
      have l1 : (0 : Int32) ≤ iI (loc d (cV c 0)) ↔ 0 ≤ loc d (cV c 0) := by rw [z0]; exact iI_le ⟨by decide, by decide⟩ (lr _ _)
      by_cases q3 : 0 ≤ loc d (cV c 0)
      · rw [if_pos (l1.mpr q3), tf_t ⟨nap, Or.inl q3⟩]
      · rw [if_neg (fun y => q3 (l1.mp y)), g0, g0, tx, ty, m_locate S F (G.b (by omega)), bd]
        have l2 : iI (loc c (cV d 0)) < (0 : Int32) ↔ loc c (cV d 0) < 0 := by rw [z0]; exact iI_lt (lr _ _) ⟨by decide, by decide⟩
        by_cases q4 : loc c (cV d 0) < 0
        · have l := l_int62 (n := n) S F T G xFU 0 (xFU_lt (by omega)) (by omega)
          rw [show nI 0 = 0 from rfl] at l
          rw [if_pos (l2.mpr q4), l]
          congr 2
          refine tf_c ⟨fun ⟨i, k, _, x⟩ => ⟨nap, Or.inr (Or.inr ⟨i, k, x⟩)⟩, fun m => ?_⟩
          rcases m.2 with u | u | ⟨i, k, x⟩
          · exact (q3 u).elim
          · omega
          · exact ⟨i, k, by omega, x⟩
        · rw [if_neg (fun y => q4 (l2.mp y)), tf_t ⟨nap, Or.inr (Or.inl (by omega))⟩]

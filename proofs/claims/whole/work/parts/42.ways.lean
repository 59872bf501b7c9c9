/-! two ways: what they have in common -/
abbrev apt (a b p q : V2) : Prop := max a.1 b.1 < min p.1 q.1 ∨ max p.1 q.1 < min a.1 b.1 ∨ max a.2 b.2 < min p.2 q.2 ∨ max p.2 q.2 < min a.2 b.2
def cn1 (a b p q : Int) : Nat := if max (min a b) (min p q) ≤ min (max a b) (max p q) then (if max (min a b) (min p q) = min (max a b) (max p q) then 1 else 2) else 0
def cnl (a b p q : V2) : Nat := if a.1 = b.1 then cn1 a.2 b.2 p.2 q.2 else cn1 a.1 b.1 p.1 q.1
def cnt (a b p q : V2) : Nat := if apt a b p q then 0 else if sid a b p = 0 ∧ sid a b q = 0 then cnl a b p q else
  if (0 < sid a b p ∧ 0 < sid a b q) ∨ (sid a b p < 0 ∧ sid a b q < 0) ∨ (0 < sid p q a ∧ 0 < sid p q b) ∨ (sid p q a < 0 ∧ sid p q b < 0) then 0 else 1
set_option maxHeartbeats 200000 in
theorem e_areBoxesApart {n : Nat} {σ : xσ} {a b : Nat} {c d : Ct} (S : SH n σ a c) (F : WF c) (T : SH n σ b d) (G : WF d) {i j : Nat} (hi : i + 1 < cN c) (hj : j + 1 < cN d) : f_X4_areBoxesApart n a (nI i) b (nI j) σ = some (tf (apt (cV c i) (cV c (i + 1)) (cV d j) (cV d (j + 1))), σ) := by
  have hN := F.n
  have hM := G.n
  have x1 := F.xr (show i < cN c by omega)
  have x2 := F.xr hi
  have y1 := F.yr (show i < cN c by omega)
  have y2 := F.yr hi
  have x3 := G.xr (show j < cN d by omega)
  have x4 := G.xr hj
  have y3 := G.yr (show j < cN d by omega)
  have y4 := G.yr hj
  rw [f_X4_areBoxesApart]
  simp (disch := omega) only [gd_pos S.1, gd_pos T.1, gd_in, nI_k, nI_s, S.X, S.Y, T.X, T.Y, imin_i, imax_i]
  simp (disch := omega) only [iI_lt, iI_le]
  unfold apt
  repeat' split
  all_goals first | rw [tf_f (by omega)] | rw [tf_t (by omega)]
set_option maxHeartbeats 200000 in
theorem e_countOnLine {n : Nat} {σ : xσ} {a b : Nat} {c d : Ct} (S : SH n σ a c) (F : WF c) (T : SH n σ b d) (G : WF d) {i j : Nat} (hi : i + 1 < cN c) (hj : j + 1 < cN d) : f_X4_countOnLine n a (nI i) b (nI j) σ = some (nI (cnl (cV c i) (cV c (i + 1)) (cV d j) (cV d (j + 1))), σ) := by
  have hN := F.n
  have hM := G.n
  have x1 := F.xr (show i < cN c by omega)
  have x2 := F.xr hi
  have y1 := F.yr (show i < cN c by omega)
  have y2 := F.yr hi
  have x3 := G.xr (show j < cN d by omega)
  have x4 := G.xr hj
  have y3 := G.yr (show j < cN d by omega)
  have y4 := G.yr hj
  rw [f_X4_countOnLine]
  simp (disch := omega) only [gd_pos S.1, gd_pos T.1, gd_in, nI_k, nI_s, S.X, b_X4_countOnLine_22, b_X4_countOnLine_40, b_X4_countOnLine_58, st, iI_eq]
  unfold cnl cn1
  by_cases h : (cV c i).1 = (cV c (i + 1)).1
  · simp (disch := omega) only [h, if_true, S.Y, T.Y, imin_i, imax_i, iI_le, iI_eq]
    repeat' split
    all_goals rfl
  · simp (disch := omega) only [h, if_false, S.X, T.X, imin_i, imax_i, iI_le, iI_eq, show ¬ (1 : Int32) = 0 by decide]
    repeat' split
    all_goals rfl
set_option maxHeartbeats 4000000 in
theorem e_countCommon {n : Nat} {σ : xσ} {a b : Nat} {c d : Ct} (S : SH n σ a c) (F : WF c) (T : SH n σ b d) (G : WF d) {i j : Nat} (hi : i + 1 < cN c) (hj : j + 1 < cN d) : f_X4_countCommon n a (nI i) b (nI j) σ = some (nI (cnt (cV c i) (cV c (i + 1)) (cV d j) (cV d (j + 1))), σ) := by
  have hN := F.n
  have hM := G.n
  have x1 := F.xr (show i < cN c by omega)
  have x2 := F.xr hi
  have y1 := F.yr (show i < cN c by omega)
  have y2 := F.yr hi
  have x3 := G.xr (show j < cN d by omega)
  have x4 := G.xr hj
  have y3 := G.yr (show j < cN d by omega)
  have y4 := G.yr hj
  have e1 := e_sideOf (p := cV d j) S F hi
  have e2 := e_sideOf (p := cV d (j + 1)) S F hi
  have e3 := e_sideOf (p := cV c i) T G hj
  have e4 := e_sideOf (p := cV c (i + 1)) T G hj
  have r1 := sid_r (F.b (show i < cN c by omega)) (F.b hi) (G.b (show j < cN d by omega))
  have r2 := sid_r (F.b (show i < cN c by omega)) (F.b hi) (G.b hj)
  have r3 := sid_r (G.b (show j < cN d by omega)) (G.b hj) (F.b (show i < cN c by omega))
  have r4 := sid_r (G.b (show j < cN d by omega)) (G.b hj) (F.b hi)
  rw [f_X4_countCommon]
  simp (config := {maxSteps := 1000000}) (disch := omega) only [gd_pos S.1, gd_pos T.1, gd_in, nI_k, nI_s, e_areBoxesApart S F T G hi hj, bd, S.X, S.Y, T.X, T.Y, iI_64, e1, e2, e3, e4, e_countOnLine S F T G hi hj]
  unfold cnt
  generalize sid (cV c i) (cV c (i + 1)) (cV d j) = s1 at *
  generalize sid (cV c i) (cV c (i + 1)) (cV d (j + 1)) = s2 at *
  generalize sid (cV d j) (cV d (j + 1)) (cV c i) = s3 at *
  generalize sid (cV d j) (cV d (j + 1)) (cV c (i + 1)) = s4 at *
  by_cases hA : apt (cV c i) (cV c (i + 1)) (cV d j) (cV d (j + 1))
  · rw [if_neg (tn hA), if_pos hA]; rfl
  · rw [if_pos (tf_f hA), if_neg hA]
    simp (config := {maxSteps := 1000000}) (disch := omega) only [lz_lt, lz_gt, lz_eq, lz_le, lz_ge]
    clear e1 e2 e3 e4 x1 x2 x3 x4 y1 y2 y3 y4 S T F G hN hM hi hj hA r1 r2 r3 r4
    rcases Int.lt_trichotomy s1 0 with h1 | h1 | h1 <;> rcases Int.lt_trichotomy s2 0 with h2 | h2 | h2 <;> rcases Int.lt_trichotomy s3 0 with h3 | h3 | h3 <;> rcases Int.lt_trichotomy s4 0 with h4 | h4 | h4
    all_goals (repeat (first | rw [if_pos (by omega)] | rw [if_neg (by omega)]))
    all_goals rfl
/-! one way against a row of places, by the reference -/
def sgn (z : Int) : Int := if 0 < z then 1 else if z < 0 then -1 else 0
set_option maxHeartbeats 200000 in
theorem sgn_r (z : Int) : R32 (sgn z) := by unfold sgn; repeat' split
                                            all_goals decide
set_option maxHeartbeats 200000 in
theorem m_sign {n : Nat} {σ : xσ} {z : Int} (h : R64 z) : f_X14_sign n (jJ z) σ = some (iI (sgn z), σ) := by
  rw [f_X14_sign]
  simp (disch := omega) only [lz_lt, lz_gt, lz_eq, lz_le, lz_ge]
  unfold sgn
  repeat' split
  all_goals first | rfl | (exfalso; omega)
set_option maxHeartbeats 200000 in
theorem m_cross {n : Nat} {σ : xσ} (x y z w : Int) : f_X14_cross n (jJ x) (jJ y) (jJ z) (jJ w) σ = some (jJ (x * w - y * z), σ) := by
  rw [f_X14_cross]; simp only [jJ_mul, jJ_sub]
set_option maxHeartbeats 200000 in
theorem m_dot {n : Nat} {σ : xσ} (x y z w : Int) : f_X14_dot n (jJ x) (jJ y) (jJ z) (jJ w) σ = some (jJ (x * z + y * w), σ) := by
  rw [f_X14_dot]; simp only [jJ_mul, jJ_add]
set_option maxHeartbeats 200000 in
theorem m_beginOf {n : Nat} {σ : xσ} {a : Nat} {c : Ct} (S : MH σ a c) (F : WF c) {r : Nat} (hr : r ≤ cR c) : f_X12_beginOf n a (nI r) σ = some (nI (sr c r), σ) := by
  have hR := F.r
  rw [f_X12_beginOf, gd_pos S.1]
  by_cases q : r = 0
  · subst q; rfl
  · simp (disch := omega) only [gd_in, nI_k, nI_s, nI_l', nI_e', nI_q', nIl0, nIe0, nIg0, nIh0, nIq0, nIl1, nIe1, nIg1, nIh1, nIq1, nIl2, nIe2, nIg2, nIh2, nIq2, nIl3, nIe3, nIg3, nIh3, nIq3, nIl4, nIe4, nIg4, nIh4, nIq4, nIl8, nIe8, nIg8, nIh8, nIq8, nIl40, nIe40, nIg40, nIh40, nIq40, nIl80, nIe80, nIg80, nIh80, nIq80, nIl200, nIe200, nIg200, nIh200, nIq200, nIm1, nIp2, S.E, sr, q, if_false]
set_option maxHeartbeats 200000 in
theorem m_isLike {n : Nat} {σ : xσ} {a : Nat} {c : Ct} (S : MH σ a c) (F : WF c) {i j : Nat} (hi : i < cN c) (hj : j < cN c) : f_X12_isLike n a (nI i) (nI j) σ = some (tf (cV c i = cV c j), σ) := by
  have hN := F.n
  rw [f_X12_isLike]
  simp (disch := omega) only [gd_pos S.1, gd_in, nI_k, S.X, S.Y]
  simp only [iI_eq (F.xr hi) (F.xr hj), iI_eq (F.yr hi) (F.yr hj), V2_eq]
  repeat' split
  all_goals first | rw [tf_f (by omega)] | rw [tf_t (by omega)]
set_option maxHeartbeats 200000 in
theorem l_isWay {n : Nat} {σ : xσ} {a : Nat} {c : Ct} (S : MH σ a c) (F : WF c) {i : Nat} (hi : i + 1 < cN c) : ∀ f r, 8 - r < f → r ≤ 8 → l_X12_isWay_21 n f a (nI i) (nI r) σ = some (tf (¬ ∃ k, r ≤ k ∧ k < cR c ∧ cE c k = i + 1), σ) := by
  have hN := F.n
  have hR := F.r
  intro f
  induction f with
  | zero => intro i h; omega
  | succ f ih =>
    intro r h hr
    rw [l_X12_isWay_21, S.R]
    simp (disch := omega) only [nI_e', nI_s]
    by_cases q : r < cR c
    · have := F.e q
      rw [if_neg (by omega)]
      simp (disch := omega) only [gd_in, nI_k, nI_s, nI_l', nI_e', nI_q', S.E, ih (r + 1) (by omega) (by omega)]
      by_cases w : cE c r = i + 1
      · rw [if_pos w, tf_f (fun z => z ⟨r, Nat.le_refl r, q, w⟩)]
      · rw [if_neg w]
        congr 2
        refine tf_c (not_congr ⟨fun ⟨k, a, b, d⟩ => ⟨k, by omega, b, d⟩, fun ⟨k, a, b, d⟩ => ⟨k, ?_, b, d⟩⟩)
        by_cases z : k = r
        · subst z; exact (w d).elim
        · omega
    · rw [if_pos (by omega), tf_t]
      rintro ⟨k, a, b, d⟩
      omega
/-- i is a way -/
def wy (c : Ct) (i : Nat) : Prop := cK c ≠ 0 ∧ i + 1 < cN c ∧ ¬ isE c i
set_option maxHeartbeats 200000 in
theorem m_isWay {n : Nat} {σ : xσ} {a : Nat} {c : Ct} (S : MH σ a c) (F : WF c) {i : Nat} (hi : i < 40) : f_X12_isWay n a (nI i) σ = some (tf (wy c i), σ) := by
  have hN := F.n
  have hK := F.k
  rw [f_X12_isWay, gd_pos S.1, S.K, S.N]
  simp (disch := omega) only [gd_in, nI_k, nI_s, nI_l', nI_e', nI_q', nIl0, nIe0, nIg0, nIh0, nIq0, nIl1, nIe1, nIg1, nIh1, nIq1, nIl2, nIe2, nIg2, nIh2, nIq2, nIl3, nIe3, nIg3, nIh3, nIq3, nIl4, nIe4, nIg4, nIh4, nIq4, nIl8, nIe8, nIg8, nIh8, nIq8, nIl40, nIe40, nIg40, nIh40, nIq40, nIl80, nIe80, nIg80, nIh80, nIq80, nIl200, nIe200, nIg200, nIh200, nIq200, nIm1, nIp2]
  unfold wy
  by_cases h1 : cK c = 0
  · rw [if_pos h1, tf_f (fun h => h.1 h1)]
  · rw [if_neg h1]
    by_cases h2 : i + 1 < cN c
    · rw [if_pos h2, show (0 : Int32) = nI 0 from rfl, l_isWay S F h2 xFU 0 (xFU_lt (by omega)) (by omega)]
      congr 2
      refine tf_c ⟨fun h => ⟨h1, h2, fun ⟨r, a, b⟩ => h ⟨r, by omega, a, b⟩⟩, fun h ⟨r, _, a, b⟩ => h.2.2 ⟨r, a, b⟩⟩
    · rw [if_neg h2, tf_f (fun h => h2 h.2.1)]
/-- a line with two tips -/
def opn (c : Ct) : Prop := cK c = 1 ∧ cV c 0 ≠ cV c (cN c - 1)
set_option maxHeartbeats 200000 in
theorem m_isOpen {n : Nat} {σ : xσ} {a : Nat} {c : Ct} (S : MH σ a c) (F : WF c) : f_X12_isOpen n a σ = some (tf (opn c), σ) := by
  have hN := F.n
  have hK := F.k
  rw [f_X12_isOpen, gd_pos S.1, S.K, S.N]
  simp (disch := omega) only [gd_in, nI_k, nI_s, nI_l', nI_e', nI_q', nIl0, nIe0, nIg0, nIh0, nIq0, nIl1, nIe1, nIg1, nIh1, nIq1, nIl2, nIe2, nIg2, nIh2, nIq2, nIl3, nIe3, nIg3, nIh3, nIq3, nIl4, nIe4, nIg4, nIh4, nIq4, nIl8, nIe8, nIg8, nIh8, nIq8, nIl40, nIe40, nIg40, nIh40, nIq40, nIl80, nIe80, nIg80, nIh80, nIq80, nIl200, nIe200, nIg200, nIh200, nIq200, nIm1, nIp2]
  unfold opn
  by_cases h1 : cK c = 1
  · have e := m_isLike (n := n) S F (i := 0) (j := cN c - 1) (by omega) (by omega)
    rw [if_pos h1, show f_X12_isLike n a 0 (nI (cN c - 1)) σ = _ from e, bd]
    by_cases h2 : cV c 0 = cV c (cN c - 1)
    · rw [if_neg (tn h2), tf_f (fun h => h.2 h2)]
    · rw [if_pos (tf_f h2), tf_t ⟨h1, h2⟩]
  · rw [if_neg h1, tf_f (fun h => h1 h.1)]
set_option maxHeartbeats 200000 in
theorem m_side {n : Nat} {σ : xσ} {a : Nat} {c : Ct} (S : MH σ a c) (F : WF c) {i : Nat} {p : V2} (hi : i + 1 < cN c) (hp : bV p) : f_X14_side n a (nI i) (iI p.1) (iI p.2) σ = some (iI (sgn (sid (cV c i) (cV c (i + 1)) p)), σ) := by
  have hN := F.n
  rw [f_X14_side]
  simp (disch := omega) only [gd_pos S.1, gd_in, nI_k, nI_s, S.X, S.Y]
  have p1 := hp.1.r
  have p2 := hp.2.r
  simp (disch := first | assumption | exact F.xr (by omega) | exact F.yr (by omega)) only [iI_64]
  simp only [jJ_sub, m_cross, bd]
  have h := m_sign (n := n) (σ := σ) (sid_r (F.b (show i < cN c by omega)) (F.b hi) hp)
  unfold sid at h
  rw [h]
  rfl
set_option maxHeartbeats 200000 in
theorem m_isBetween {n : Nat} {σ : xσ} {x y z : Int} (hx : R32 x) (hy : R32 y) (hz : R32 z) : f_X14_isBetween n (iI x) (iI y) (iI z) σ = some (tf (min y z ≤ x ∧ x ≤ max y z), σ) := by
  rw [f_X14_isBetween]
  simp (disch := omega) only [imin_i, imax_i, iI_lt]
  repeat' split
  all_goals first | rw [tf_f (by omega)] | rw [tf_t (by omega)]
set_option maxHeartbeats 200000 in
theorem m_isOn {n : Nat} {σ : xσ} {a : Nat} {c : Ct} (S : MH σ a c) (F : WF c) {i : Nat} {p : V2} (hi : i + 1 < cN c) (hp : bV p) : f_X14_isOn n a (nI i) (iI p.1) (iI p.2) σ = some (tf (onS (cV c i) (cV c (i + 1)) p), σ) := by
  have hN := F.n
  rw [f_X14_isOn]
  simp (disch := omega) only [gd_pos S.1, gd_in, nI_k, nI_s, S.X, S.Y]
  rw [m_isBetween hp.1.r (F.xr (by omega)) (F.xr hi), bd]
  unfold onS inBx
  by_cases h1 : min (cV c i).1 (cV c (i + 1)).1 ≤ p.1 ∧ p.1 ≤ max (cV c i).1 (cV c (i + 1)).1
  · rw [if_neg (tn h1)]
    simp (disch := omega) only [S.Y]
    rw [m_isBetween hp.2.r (F.yr (by omega)) (F.yr hi), bd]
    by_cases h2 : min (cV c i).2 (cV c (i + 1)).2 ≤ p.2 ∧ p.2 ≤ max (cV c i).2 (cV c (i + 1)).2
    · rw [if_neg (tn h2), m_side S F hi hp, bd]
      by_cases h3 : sid (cV c i) (cV c (i + 1)) p = 0
      · rw [h3, tf_t ⟨⟨h1.1, h1.2, h2⟩, rfl⟩]; rfl
      · have : ¬ iI (sgn (sid (cV c i) (cV c (i + 1)) p)) = 0 := by
          unfold sgn
          split
          · decide
          · split
            · decide
            · omega
        rw [if_neg this, tf_f (fun h => h3 h.2)]
    · rw [if_pos (tf_f h2), tf_f (fun h => h2 h.1.2.2)]
  · rw [if_pos (tf_f h1), tf_f (fun h => h1 ⟨h.1.1, h.1.2.1⟩)]
set_option maxHeartbeats 200000 in
theorem ml_isOnRing {n : Nat} {σ : xσ} {a : Nat} {c : Ct} (S : MH σ a c) (F : WF c) {r : Nat} {p : V2} (hr : r < cR c) (hp : bV p) : ∀ f i, 40 - i < f → i ≤ 40 → l_X14_isOnRing_7 n f a (nI r) (iI p.1) (iI p.2) (nI i) σ = some (tf (∃ k, i ≤ k ∧ k + 1 < cE c r ∧ onS (cV c k) (cV c (k + 1)) p), σ) := by
  have hN := F.n
  have hR := F.r
  have he := F.e hr
  intro f
  induction f with
  | zero => intro i h; omega
  | succ f ih =>
    intro i h hi
    rw [l_X14_isOnRing_7]
    simp (disch := omega) only [gd_in, nI_k, nI_s, nI_l', nI_e', nI_q', S.E]
    by_cases q : i + 1 < cE c r
    · rw [if_neg (by omega), m_isOn S F (by omega) hp, bd]
      simp only [ih (i + 1) (by omega) (by omega)]
      by_cases w : onS (cV c i) (cV c (i + 1)) p
      · rw [if_neg (tn w), tf_t ⟨i, Nat.le_refl i, q, w⟩]
      · rw [if_pos (tf_f w)]
        congr 2
        refine tf_c ⟨fun ⟨k, a, b, d⟩ => ⟨k, by omega, b, d⟩, fun ⟨k, a, b, d⟩ => ⟨k, ?_, b, d⟩⟩
        by_cases z : k = i
        · subst z; exact (w d).elim
        · omega
    · rw [if_pos (by omega), tf_f]
      rintro ⟨k, a, b, d⟩
      omega
set_option maxHeartbeats 200000 in
theorem m_isOnRing {n : Nat} {σ : xσ} {a : Nat} {c : Ct} (S : MH σ a c) (F : WF c) {r : Nat} {p : V2} (hr : r < cR c) (hp : bV p) : f_X14_isOnRing n a (nI r) (iI p.1) (iI p.2) σ = some (tf (onR c r p), σ) := by
  have hN := F.n
  have := sr_le F (show r ≤ cR c by omega)
  rw [f_X14_isOnRing, gd_pos S.1, m_beginOf S F (by omega), bd]
  exact ml_isOnRing S F hr hp xFU _ (xFU_lt (by omega)) (by omega)
/-- two ways meet, as the reference asks -/
def opp (x y : Int) : Prop := (x < 0 ∧ 0 < y) ∨ (0 < x ∧ y < 0)
def mt (a b p q : V2) : Prop := (opp (sid a b p) (sid a b q) ∧ opp (sid p q a) (sid p q b)) ∨ onS a b p ∨ onS a b q ∨ onS p q a ∨ onS p q b
set_option maxHeartbeats 200000 in
theorem sgn_c (x : Int) : (x < 0 ∧ sgn x = -1) ∨ (x = 0 ∧ sgn x = 0) ∨ (0 < x ∧ sgn x = 1) := by
  unfold sgn
  rcases Int.lt_trichotomy x 0 with h | h | h
  · rw [if_neg (by omega), if_pos h]; exact Or.inl ⟨h, rfl⟩
  · rw [if_neg (by omega), if_neg (by omega)]; exact Or.inr (Or.inl ⟨h, rfl⟩)
  · rw [if_pos h]; exact Or.inr (Or.inr ⟨h, rfl⟩)
set_option maxHeartbeats 200000 in
theorem opp_i (x y : Int) : (0 ≤ iI (sgn x) * iI (sgn y)) ↔ ¬ opp x y := by
  unfold opp
  rcases sgn_c x with ⟨h1, e1⟩ | ⟨h1, e1⟩ | ⟨h1, e1⟩ <;> rcases sgn_c y with ⟨h2, e2⟩ | ⟨h2, e2⟩ | ⟨h2, e2⟩ <;> rw [e1, e2]
  all_goals constructor
  all_goals intro h
  all_goals first | omega | decide | exact absurd h (by decide)
set_option maxHeartbeats 200000 in
theorem m_meet {n : Nat} {σ : xσ} {a b : Nat} {c d : Ct} (S : MH σ a c) (F : WF c) (T : MH σ b d) (G : WF d) {i j : Nat} (hi : i + 1 < cN c) (hj : j + 1 < cN d) : f_X14_meet n a (nI i) b (nI j) σ = some (tf (mt (cV c i) (cV c (i + 1)) (cV d j) (cV d (j + 1))), σ) := by
  have hN := F.n
  have hM := G.n
  have b1 := F.b (show i < cN c by omega)
  have b2 := F.b hi
  have b3 := G.b (show j < cN d by omega)
  have b4 := G.b hj
  rw [f_X14_meet]
  simp (disch := omega) only [gd_pos S.1, gd_pos T.1, gd_in, nI_k, nI_s, S.X, S.Y, T.X, T.Y, m_side (p := cV d j) S F hi b3, m_side (p := cV d (j + 1)) S F hi b4, m_side (p := cV c i) T G hj b1, m_side (p := cV c (i + 1)) T G hj b2, m_isOn (p := cV d j) S F hi b3, m_isOn (p := cV d (j + 1)) S F hi b4, m_isOn (p := cV c i) T G hj b1, m_isOn (p := cV c (i + 1)) T G hj b2, bd]
  unfold mt
  by_cases h1 : opp (sid (cV c i) (cV c (i + 1)) (cV d j)) (sid (cV c i) (cV c (i + 1)) (cV d (j + 1)))
  · rw [if_neg (fun z => (opp_i _ _).mp z h1)]
    by_cases h2 : opp (sid (cV d j) (cV d (j + 1)) (cV c i)) (sid (cV d j) (cV d (j + 1)) (cV c (i + 1)))
    · rw [if_neg (fun z => (opp_i _ _).mp z h2), tf_t (Or.inl ⟨h1, h2⟩)]
    · rw [if_pos ((opp_i _ _).mpr h2)]
      by_cases k1 : onS (cV c i) (cV c (i + 1)) (cV d j)
      · rw [if_neg (tn k1), tf_t (Or.inr (Or.inl k1))]
      · rw [if_pos (tf_f k1)]
        by_cases k2 : onS (cV c i) (cV c (i + 1)) (cV d (j + 1))
        · rw [if_neg (tn k2), tf_t (Or.inr (Or.inr (Or.inl k2)))]
        · rw [if_pos (tf_f k2)]
          by_cases k3 : onS (cV d j) (cV d (j + 1)) (cV c i)
          · rw [if_neg (tn k3), tf_t (Or.inr (Or.inr (Or.inr (Or.inl k3))))]
          · rw [if_pos (tf_f k3)]
            by_cases k4 : onS (cV d j) (cV d (j + 1)) (cV c (i + 1))
            · rw [if_neg (tn k4), tf_t (Or.inr (Or.inr (Or.inr (Or.inr k4))))]
            · rw [if_pos (tf_f k4), tf_f (fun h => by rcases h with h | h | h | h | h; exact h2 h.2; exact k1 h; exact k2 h; exact k3 h; exact k4 h)]
  · rw [if_pos ((opp_i _ _).mpr h1)]
    by_cases k1 : onS (cV c i) (cV c (i + 1)) (cV d j)
    · rw [if_neg (tn k1), tf_t (Or.inr (Or.inl k1))]
    · rw [if_pos (tf_f k1)]
      by_cases k2 : onS (cV c i) (cV c (i + 1)) (cV d (j + 1))
      · rw [if_neg (tn k2), tf_t (Or.inr (Or.inr (Or.inl k2)))]
      · rw [if_pos (tf_f k2)]
        by_cases k3 : onS (cV d j) (cV d (j + 1)) (cV c i)
        · rw [if_neg (tn k3), tf_t (Or.inr (Or.inr (Or.inr (Or.inl k3))))]
        · rw [if_pos (tf_f k3)]
          by_cases k4 : onS (cV d j) (cV d (j + 1)) (cV c (i + 1))
          · rw [if_neg (tn k4), tf_t (Or.inr (Or.inr (Or.inr (Or.inr k4))))]
          · rw [if_pos (tf_f k4), tf_f (fun h => by rcases h with h | h | h | h | h; exact h1 h.1; exact k1 h; exact k2 h; exact k3 h; exact k4 h)]

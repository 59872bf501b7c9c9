/-! THE PLANE: small methods of both sides as functions of the contents -/
set_option maxHeartbeats 200000 in
theorem SH.K {n : Nat} {σ : xσ} {a : Nat} {c : Ct} (S : SH n σ a c) : sI σ a 0 = nI (cK c) := S.2.1.1
set_option maxHeartbeats 200000 in
theorem SH.N {n : Nat} {σ : xσ} {a : Nat} {c : Ct} (S : SH n σ a c) : sI σ a 1 = nI (cN c) := S.2.1.2.1
set_option maxHeartbeats 200000 in
theorem SH.R {n : Nat} {σ : xσ} {a : Nat} {c : Ct} (S : SH n σ a c) : sI σ a 2 = nI (cR c) := S.2.1.2.2
set_option maxHeartbeats 200000 in
theorem SH.X {n : Nat} {σ : xσ} {a : Nat} {c : Ct} (S : SH n σ a c) {i : Nat} (hi : i < cN c) : sI σ (a + 1) i = iI (cV c i).1 := (S.2.2.2.1 i hi).1
set_option maxHeartbeats 200000 in
theorem SH.Y {n : Nat} {σ : xσ} {a : Nat} {c : Ct} (S : SH n σ a c) {i : Nat} (hi : i < cN c) : sI σ (a + 2) i = iI (cV c i).2 := (S.2.2.2.1 i hi).2.1
set_option maxHeartbeats 200000 in
theorem SH.L {n : Nat} {σ : xσ} {a : Nat} {c : Ct} (S : SH n σ a c) {i : Nat} (hi : i < cN c) : sI σ (a + 4) i = tf (isE c i) := (S.2.2.2.1 i hi).2.2
set_option maxHeartbeats 200000 in
theorem SH.E {n : Nat} {σ : xσ} {a : Nat} {c : Ct} (S : SH n σ a c) {r : Nat} (hr : r < cR c) : sI σ (a + 3) r = nI (cE c r) := S.2.2.2.2 r hr
set_option maxHeartbeats 200000 in
theorem MH.K {σ : xσ} {a : Nat} {c : Ct} (S : MH σ a c) : sI σ a 1 = nI (cK c) := S.2.1.1
set_option maxHeartbeats 200000 in
theorem MH.N {σ : xσ} {a : Nat} {c : Ct} (S : MH σ a c) : sI σ a 2 = nI (cN c) := S.2.1.2.1
set_option maxHeartbeats 200000 in
theorem MH.R {σ : xσ} {a : Nat} {c : Ct} (S : MH σ a c) : sI σ a 3 = nI (cR c) := S.2.1.2.2
set_option maxHeartbeats 200000 in
theorem MH.X {σ : xσ} {a : Nat} {c : Ct} (S : MH σ a c) {i : Nat} (hi : i < cN c) : sI σ (a + 2) i = iI (cV c i).1 := (S.2.2.1 i hi).1
set_option maxHeartbeats 200000 in
theorem MH.Y {σ : xσ} {a : Nat} {c : Ct} (S : MH σ a c) {i : Nat} (hi : i < cN c) : sI σ (a + 3) i = iI (cV c i).2 := (S.2.2.1 i hi).2
set_option maxHeartbeats 200000 in
theorem MH.E {σ : xσ} {a : Nat} {c : Ct} (S : MH σ a c) {r : Nat} (hr : r < cR c) : sI σ (a + 1) r = nI (cE c r) := S.2.2.2 r hr
set_option maxHeartbeats 200000 in
theorem WF.n {c : Ct} (F : WF c) : 1 ≤ cN c ∧ cN c ≤ 40 := ⟨F.1.2.1, F.1.2.2.1⟩
set_option maxHeartbeats 200000 in
theorem WF.r {c : Ct} (F : WF c) : 1 ≤ cR c ∧ cR c ≤ 8 := ⟨F.1.2.2.2.1, F.1.2.2.2.2⟩
set_option maxHeartbeats 200000 in
theorem WF.k {c : Ct} (F : WF c) : cK c ≤ 2 := F.1.1
set_option maxHeartbeats 200000 in
theorem WF.e {c : Ct} (F : WF c) {r : Nat} (h : r < cR c) : 1 ≤ cE c r ∧ cE c r ≤ cN c := F.2.1 r h
set_option maxHeartbeats 200000 in
theorem WF.e1 {c : Ct} (F : WF c) {r : Nat} (h : r + 1 < cR c) : cE c r < cE c (r + 1) := F.2.2.1 r h
set_option maxHeartbeats 200000 in
theorem WF.el {c : Ct} (F : WF c) : cE c (cR c - 1) = cN c := F.2.2.2.1
set_option maxHeartbeats 200000 in
theorem WF.b {c : Ct} (F : WF c) {i : Nat} (h : i < cN c) : bV (cV c i) := F.2.2.2.2.1 i h
set_option maxHeartbeats 200000 in
theorem WF.x {c : Ct} (F : WF c) {i : Nat} (h : i < cN c) : b30 (cV c i).1 := (F.b h).1
set_option maxHeartbeats 200000 in
theorem WF.y {c : Ct} (F : WF c) {i : Nat} (h : i < cN c) : b30 (cV c i).2 := (F.b h).2
set_option maxHeartbeats 200000 in
theorem WF.xr {c : Ct} (F : WF c) {i : Nat} (h : i < cN c) : R32 (cV c i).1 := (F.b h).1.r
set_option maxHeartbeats 200000 in
theorem WF.yr {c : Ct} (F : WF c) {i : Nat} (h : i < cN c) : R32 (cV c i).2 := (F.b h).2.r
def sid (a b p : V2) : Int := (b.1 - a.1) * (p.2 - a.2) - (b.2 - a.2) * (p.1 - a.1)
set_option maxHeartbeats 200000 in
theorem sid_r {a b p : V2} (ha : bV a) (hb : bV b) (hp : bV p) : R64 (sid a b p) := crs_r (b31.s hb.1 ha.1) (b31.s hp.2 ha.2) (b31.s hb.2 ha.2) (b31.s hp.1 ha.1)
def inBx (a b p : V2) : Prop := min a.1 b.1 ≤ p.1 ∧ p.1 ≤ max a.1 b.1 ∧ min a.2 b.2 ≤ p.2 ∧ p.2 ≤ max a.2 b.2
def onS (a b p : V2) : Prop := inBx a b p ∧ sid a b p = 0
set_option maxHeartbeats 200000 in
theorem V2_eq {a b : V2} : a = b ↔ a.1 = b.1 ∧ a.2 = b.2 := ⟨fun h => by rw [h]; exact ⟨rfl, rfl⟩, fun h => Prod.ext h.1 h.2⟩
set_option maxHeartbeats 200000 in
theorem e_isAlike {n : Nat} {σ : xσ} {a : Nat} {c : Ct} {i j : Nat} (S : SH n σ a c) (F : WF c) (hi : i < cN c) (hj : j < cN c) : f_X7_isAlike n a (nI i) (nI j) σ = some (tf (cV c i = cV c j), σ) := by
  have hN := F.n
  rw [f_X7_isAlike]
  simp (disch := omega) only [gd_pos S.1, gd_in, nI_k, S.X, S.Y]
  simp only [iI_eq (F.xr hi) (F.xr hj), iI_eq (F.yr hi) (F.yr hj), V2_eq]
  by_cases h1 : (cV c i).1 = (cV c j).1
  · by_cases h2 : (cV c i).2 = (cV c j).2
    · rw [if_pos h1, if_pos h2, tf_t ⟨h1, h2⟩]
    · rw [if_pos h1, if_neg h2, tf_f (fun h => h2 h.2)]
  · rw [if_neg h1, tf_f (fun h => h1 h.1)]
set_option maxHeartbeats 200000 in
theorem e_sideOf {n : Nat} {σ : xσ} {a : Nat} {c : Ct} {i : Nat} {p : V2} (S : SH n σ a c) (F : WF c) (hi : i + 1 < cN c) : f_X4_sideOf n a (nI i) (jJ p.1) (jJ p.2) σ = some (jJ (sid (cV c i) (cV c (i + 1)) p), σ) := by
  have hN := F.n
  rw [f_X4_sideOf]
  simp (disch := omega) only [gd_pos S.1, gd_in, nI_k, nI_s, S.X, S.Y, st]
  simp (disch := first | exact F.xr (by omega) | exact F.yr (by omega)) only [iI_64]
  simp only [jJ_sub, jJ_mul]
  rfl
set_option maxHeartbeats 200000 in
theorem e_isInBoxOf {n : Nat} {σ : xσ} {a : Nat} {c : Ct} {i : Nat} {p : V2} (S : SH n σ a c) (F : WF c) (hi : i + 1 < cN c) (h1 : R32 p.1) (h2 : R32 p.2) : f_X4_isInBoxOf n a (nI i) (iI p.1) (iI p.2) σ = some (tf (inBx (cV c i) (cV c (i + 1)) p), σ) := by
  have hN := F.n
  have x1 := F.xr (show i < cN c by omega)
  have x2 := F.xr hi
  have y1 := F.yr (show i < cN c by omega)
  have y2 := F.yr hi
  have z0 : b_X4_isInBoxOf_49 n a (nI i) (iI p.2) 0 σ = some (0, σ) := by rw [b_X4_isInBoxOf_49, if_pos rfl]
  have z1 : b_X4_isInBoxOf_49 n a (nI i) (iI p.2) 1 σ = some (tf (min (cV c i).2 (cV c (i + 1)).2 ≤ p.2 ∧ p.2 ≤ max (cV c i).2 (cV c (i + 1)).2), σ) := by
    rw [b_X4_isInBoxOf_49, if_neg (by decide)]
    simp (disch := omega) only [gd_in, nI_k, nI_s, S.Y]
    simp (disch := omega) only [iI_lt, iI_le]
    repeat' split
    all_goals first | rw [tf_f (by omega)] | rw [tf_t (by omega)]
  rw [f_X4_isInBoxOf]
  simp (disch := omega) only [gd_pos S.1, gd_in, nI_k, nI_s, S.X]
  simp (disch := omega) only [iI_lt, iI_le]
  by_cases yy : min (cV c i).2 (cV c (i + 1)).2 ≤ p.2 ∧ p.2 ≤ max (cV c i).2 (cV c (i + 1)).2
  · rw [tf_t yy] at z1
    rw [z0, z1]
    unfold inBx
    repeat' split
    all_goals first | rw [tf_f (by omega)] | rw [tf_t (by omega)]
  · rw [tf_f yy] at z1
    rw [z0, z1]
    unfold inBx
    repeat' split
    all_goals first | rw [tf_f (by omega)] | rw [tf_t (by omega)]
set_option maxHeartbeats 200000 in
theorem l_hasPauses {n : Nat} {σ : xσ} {a : Nat} {c : Ct} {stop : Nat} (S : SH n σ a c) (F : WF c) (hs : stop ≤ cN c) : ∀ f i, stop - i < f → i ≤ 40 → l_X0_hasPauses_2 n f a (nI stop) (nI i) σ = some (tf (∃ k, i ≤ k ∧ k + 1 < stop ∧ cV c k = cV c (k + 1)), σ) := by
  have hN := F.n
  intro f
  induction f with
  | zero => intro i h; omega
  | succ f ih =>
    intro i h hi
    rw [l_X0_hasPauses_2]
    simp (disch := omega) only [nI_s, nI_l', nI_e']
    by_cases q : i + 1 < stop
    · simp (disch := omega) only [e_isAlike S F (show i < cN c by omega) (show i + 1 < cN c by omega), bd, tf_0, ih (i + 1) (by omega) (by omega)]
      simp only [show ¬ stop ≤ i + 1 by omega, if_false]
      by_cases w : cV c i = cV c (i + 1)
      · simp only [w, not_true_eq_false, if_false]
        rw [tf_t ⟨i, Nat.le_refl i, q, w⟩]
      · simp only [w, not_false_eq_true, if_true]
        congr 2
        refine tf_c ⟨fun ⟨k, a, b, d⟩ => ⟨k, by omega, b, d⟩, fun ⟨k, a, b, d⟩ => ⟨k, ?_, b, d⟩⟩
        by_cases z : k = i
        · subst z; exact (w d).elim
        · omega
    · simp only [show stop ≤ i + 1 by omega, if_true]
      rw [tf_f]
      rintro ⟨k, a, b, d⟩
      omega

set_option maxHeartbeats 200000 in
theorem xFU_lt {k : Nat} (h : k ≤ 20000) : k < xFU := by unfold xFU; omega
set_option maxHeartbeats 200000 in
theorem e_hasPauses {n : Nat} {σ : xσ} {a : Nat} {c : Ct} (S : SH n σ a c) (F : WF c) {lo hi : Nat} (hs : hi ≤ cN c) (hl : lo ≤ 40) : f_X0_hasPauses n a (nI lo) (nI hi) σ = some (tf (∃ k, lo ≤ k ∧ k + 1 < hi ∧ cV c k = cV c (k + 1)), σ) := by
  have hN := F.n
  rw [f_X0_hasPauses, gd_pos S.1]
  exact l_hasPauses S F hs xFU lo (xFU_lt (by omega)) hl
set_option maxHeartbeats 200000 in
theorem e_isOnWay {n : Nat} {σ : xσ} {a : Nat} {c : Ct} (S : SH n σ a c) (F : WF c) {i : Nat} {p : V2} (hi : i + 1 < cN c) (hp : bV p) : f_X4_isOnWay n a (nI i) (iI p.1) (iI p.2) σ = some (tf (onS (cV c i) (cV c (i + 1)) p), σ) := by
  have hN := F.n
  rw [f_X4_isOnWay, gd_pos S.1, e_isInBoxOf S F hi hp.1.r hp.2.r, bd, iI_64 hp.1.r, iI_64 hp.2.r, e_sideOf S F hi, bd]
  simp only [lz_eq (sid_r (F.b (show i < cN c by omega)) (F.b hi) hp)]
  unfold onS
  by_cases h1 : inBx (cV c i) (cV c (i + 1)) p
  · rw [if_neg (tn h1)]
    by_cases h2 : sid (cV c i) (cV c (i + 1)) p = 0
    · rw [if_pos h2, tf_t ⟨h1, h2⟩]
    · rw [if_neg h2, tf_f (fun h => h2 h.2)]
  · rw [if_pos (tf_f h1), tf_f (fun h => h1 h.1)]
set_option maxHeartbeats 200000 in
theorem e_ringStart {n : Nat} {σ : xσ} {a : Nat} {c : Ct} (S : SH n σ a c) (F : WF c) {r : Nat} (hr : r ≤ cR c) : f_X7_ringStart n a (nI r) σ = some (nI (sr c r), σ) := by
  have hR := F.r
  rw [f_X7_ringStart, gd_pos S.1, S.R]
  by_cases q : r = 0
  · subst q; simp only [sr, if_true]; rfl
  · simp (disch := omega) only [gd_in, nI_k, nI_s, nI_l', nI_e', nI_q', nIl0, nIe0, nIg0, nIh0, nIq0, nIl1, nIe1, nIg1, nIh1, nIq1, nIl2, nIe2, nIg2, nIh2, nIq2, nIl3, nIe3, nIg3, nIh3, nIq3, nIl4, nIe4, nIg4, nIh4, nIq4, nIl8, nIe8, nIg8, nIh8, nIq8, nIl40, nIe40, nIg40, nIh40, nIq40, nIl80, nIe80, nIg80, nIh80, nIq80, nIl200, nIe200, nIg200, nIh200, nIq200, nIm1, nIp2, S.E, sr, q, if_false]
    rw [if_neg (by omega), if_pos hr]
def onR (c : Ct) (r : Nat) (p : V2) : Prop := ∃ i, sr c r ≤ i ∧ i + 1 < cE c r ∧ onS (cV c i) (cV c (i + 1)) p
set_option maxHeartbeats 200000 in
theorem l_isOnRing {n : Nat} {σ : xσ} {a : Nat} {c : Ct} (S : SH n σ a c) (F : WF c) {r : Nat} {p : V2} (hr : r < cR c) (hp : bV p) : ∀ f i, 40 - i < f → i ≤ 40 → l_X0_isOnRing_7 n f a (nI r) (iI p.1) (iI p.2) (nI i) σ = some (tf (∃ k, i ≤ k ∧ k + 1 < cE c r ∧ onS (cV c k) (cV c (k + 1)) p), σ) := by
  have hN := F.n
  have hR := F.r
  have he := F.e hr
  intro f
  induction f with
  | zero => intro i h; omega
  | succ f ih =>
    intro i h hi
    rw [l_X0_isOnRing_7]
    simp (disch := omega) only [gd_in, nI_k, nI_s, nI_l', nI_e', nI_q', S.E]
    by_cases q : i + 1 < cE c r
    · rw [if_neg (by omega), e_isOnWay S F (by omega) hp, bd]
      simp only [ih (i + 1) (by omega) (by omega)]
      by_cases w : onS (cV c i) (cV c (i + 1)) p
      · rw [if_neg (tn w), tf_t ⟨i, Nat.le_refl i, q, w⟩]
      · rw [if_pos (tf_f w)]
        congr 2
        refine tf_c ⟨fun ⟨k, a, b, d⟩ => ⟨k, by omega, b, d⟩, fun ⟨k, a, b, d⟩ => ⟨k, ?_, b, d⟩⟩
        by_cases z : k = i
        · subst z; exact (w d).elim
        · omega
    · rw [if_pos (by omega), tf_f]
      rintro ⟨k, a, b, d⟩
      omega
set_option maxHeartbeats 200000 in
theorem sr_le {c : Ct} (F : WF c) {r : Nat} (hr : r ≤ cR c) : sr c r ≤ cN c := by
  unfold sr
  split
  · have := F.n; omega
  · exact (F.e (by omega)).2
set_option maxHeartbeats 200000 in
theorem e_isOnRing {n : Nat} {σ : xσ} {a : Nat} {c : Ct} (S : SH n σ a c) (F : WF c) {r : Nat} {p : V2} (hr : r < cR c) (hp : bV p) : f_X0_isOnRing n a (nI r) (iI p.1) (iI p.2) σ = some (tf (onR c r p), σ) := by
  have hN := F.n
  have := sr_le F (show r ≤ cR c by omega)
  rw [f_X0_isOnRing, gd_pos S.1, e_ringStart S F (by omega), bd]
  exact l_isOnRing S F hr hp xFU _ (xFU_lt (by omega)) (by omega)
set_option maxHeartbeats 200000 in
theorem l_isSeenBefore {n : Nat} {σ : xσ} {a : Nat} {c : Ct} (S : SH n σ a c) (F : WF c) {i : Nat} (hi : i < cN c) : ∀ f j, 40 - j < f → j ≤ 40 → l_X0_isSeenBefore_2 n f a (nI i) (nI j) σ = some (tf (∃ k, j ≤ k ∧ k < i ∧ cV c i = cV c k), σ) := by
  have hN := F.n
  intro f
  induction f with
  | zero => intro i h; omega
  | succ f ih =>
    intro j h hj
    rw [l_X0_isSeenBefore_2]
    simp (disch := omega) only [gd_in, nI_k, nI_s, nI_l', nI_e', nI_q']
    by_cases q : j < i
    · rw [if_neg (by omega), e_isAlike S F hi (by omega), bd]
      simp only [ih (j + 1) (by omega) (by omega)]
      by_cases w : cV c i = cV c j
      · rw [if_neg (tn w), tf_t ⟨j, Nat.le_refl j, q, w⟩]
      · rw [if_pos (tf_f w)]
        congr 2
        refine tf_c ⟨fun ⟨k, a, b, d⟩ => ⟨k, by omega, b, d⟩, fun ⟨k, a, b, d⟩ => ⟨k, ?_, b, d⟩⟩
        by_cases z : k = j
        · subst z; exact (w d).elim
        · omega
    · rw [if_pos (by omega), tf_f]
      rintro ⟨k, a, b, d⟩
      omega
set_option maxHeartbeats 200000 in
theorem e_isSeenBefore {n : Nat} {σ : xσ} {a : Nat} {c : Ct} (S : SH n σ a c) (F : WF c) {i : Nat} (hi : i < cN c) : f_X0_isSeenBefore n a (nI i) σ = some (tf (∃ k, k < i ∧ cV c i = cV c k), σ) := by
  rw [f_X0_isSeenBefore, gd_pos S.1, lt0, l_isSeenBefore S F hi xFU 0 (xFU_lt (by omega)) (by omega)]
  congr 2
  exact tf_c ⟨fun ⟨k, _, b⟩ => ⟨k, b⟩, fun ⟨k, b⟩ => ⟨k, by omega, b⟩⟩

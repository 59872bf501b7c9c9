/-! simple rings: both sides -/
def rgo (c : Ct) (lo hi i j : Nat) : Prop := cnt (cV c i) (cV c (i + 1)) (cV c j) (cV c (j + 1)) ≤ (if j = i + 1 ∨ (i = lo ∧ j + 2 = hi) then 1 else 0)
set_option maxHeartbeats 200000 in
theorem cnt_le (a b p q : V2) : cnt a b p q ≤ 2 := by unfold cnt cnl cn1; repeat' split
                                                      all_goals omega
set_option maxHeartbeats 200000 in
theorem l_isRing43 {n : Nat} {σ : xσ} {a : Nat} {c : Ct} (S : SH n σ a c) (F : WF c) {lo hi i : Nat} (hh : hi ≤ cN c) (hl : lo ≤ 40) (K : Nat → Int32 → Int32 → Int32 → xσ → Option (Int32 × xσ)) : ∀ f j, 40 - j < f → j ≤ 40 → i < j → l_X0_isRing_43 n K f a (nI lo) (nI hi) (nI i) (nI j) σ = ifP (∀ k, j ≤ k → k + 1 < hi → rgo c lo hi i k) (K a (nI lo) (nI hi) (nI (i + 1)) σ) (some (0, σ)) := by
  have hN := F.n
  intro f
  induction f with
  | zero => intro j h; omega
  | succ f ih =>
    intro j h hj hij
    rw [l_X0_isRing_43]
    simp (disch := omega) only [nI_s, nIp2, nI_e', nI_q']
    by_cases q : j + 1 < hi
    · rw [if_neg (by omega)]
      have ih' := ih (j + 1) (by omega) (by omega) (by omega)
      have core : ∀ z : Nat, z = (if j = i + 1 ∨ (i = lo ∧ j + 2 = hi) then 1 else 0) → b_X0_isRing_77 n K (l_X0_isRing_43 n K f) a (nI lo) (nI hi) (nI i) (nI j) (nI z) σ = ifP (∀ k, j ≤ k → k + 1 < hi → rgo c lo hi i k) (K a (nI lo) (nI hi) (nI (i + 1)) σ) (some (0, σ)) := by
        intro z hz
        have hz1 : z = 0 ∨ z = 1 := by split at hz <;> omega
        have hc := cnt_le (cV c i) (cV c (i + 1)) (cV c j) (cV c (j + 1))
        have e : b_X0_isRing_77 n K (l_X0_isRing_43 n K f) a (nI lo) (nI hi) (nI i) (nI j) (nI z) σ = if cnt (cV c i) (cV c (i + 1)) (cV c j) (cV c (j + 1)) ≤ z then l_X0_isRing_43 n K f a (nI lo) (nI hi) (nI i) (nI (j + 1)) σ else some (0, σ) := by
          rw [b_X0_isRing_77, e_countCommon S F S F (by omega) (by omega), bd]
          rcases hz1 with rfl | rfl
          · rw [if_pos (show nI 0 = 0 from rfl), b_X0_isRing_97]
            simp (disch := omega) only [nIl0, nIe0, nIg0, nIh0, nIq0, nIl1, nIe1, nIg1, nIh1, nIq1, nIl2, nIe2, nIg2, nIh2, nIq2, nIl3, nIe3, nIg3, nIh3, nIq3, nIl4, nIe4, nIg4, nIh4, nIq4, nIl8, nIe8, nIg8, nIh8, nIq8, nIl40, nIe40, nIg40, nIh40, nIq40, nIl80, nIe80, nIg80, nIh80, nIq80, nIl200, nIe200, nIg200, nIh200, nIq200, nIm1, nIp2, nI_s]
          · rw [if_neg (by decide), b_X0_isRing_97]
            simp (disch := omega) only [nIl0, nIe0, nIg0, nIh0, nIq0, nIl1, nIe1, nIg1, nIh1, nIq1, nIl2, nIe2, nIg2, nIh2, nIq2, nIl3, nIe3, nIg3, nIh3, nIq3, nIl4, nIe4, nIg4, nIh4, nIq4, nIl8, nIe8, nIg8, nIh8, nIq8, nIl40, nIe40, nIg40, nIh40, nIq40, nIl80, nIe80, nIg80, nIh80, nIq80, nIl200, nIe200, nIg200, nIh200, nIq200, nIm1, nIp2, nI_s]
        rw [e, ih']
        by_cases g : cnt (cV c i) (cV c (i + 1)) (cV c j) (cV c (j + 1)) ≤ z
        · rw [if_pos g]
          refine ifP_c ⟨fun w k a b => ?_, fun w k a b => w k (by omega) b⟩
          by_cases z' : k = j
          · subst z'; unfold rgo; rw [← hz]; exact g
          · exact w k (by omega) b
        · rw [if_neg g, ifP_f]
          intro w
          have := w j (Nat.le_refl j) q
          unfold rgo at this
          rw [← hz] at this
          exact g this
      by_cases n1 : j = i + 1
      · rw [if_pos n1]; exact core 1 (by rw [if_pos (Or.inl n1)])
      · rw [if_neg n1]
        by_cases n2 : i = lo
        · rw [if_pos n2]
          by_cases n3 : j + 2 = hi
          · rw [if_pos n3]; exact core 1 (by rw [if_pos (Or.inr ⟨n2, n3⟩)])
          · rw [if_neg n3]; exact core 0 (by rw [if_neg (by omega)])
        · rw [if_neg n2]; exact core 0 (by rw [if_neg (by omega)])
    · rw [if_pos (by omega), ifP_t]
      intro k a b; omega
set_option maxHeartbeats 200000 in
theorem l_isRing31 {n : Nat} {σ : xσ} {a : Nat} {c : Ct} (S : SH n σ a c) (F : WF c) {lo hi : Nat} (hh : hi ≤ cN c) (hl : lo ≤ 40) : ∀ f i, 40 - i < f → i ≤ 40 → l_X0_isRing_31 n f a (nI lo) (nI hi) (nI i) σ = some (tf (∀ i', i ≤ i' → ∀ k, i' < k → k + 1 < hi → rgo c lo hi i' k), σ) := by
  have hN := F.n
  intro f
  induction f with
  | zero => intro j h; omega
  | succ f ih =>
    intro i h hi'
    rw [l_X0_isRing_31]
    simp (disch := omega) only [nI_s, nI_e', st]
    by_cases q : i + 1 < hi
    · rw [if_neg (by omega), l_isRing43 S F hh hl _ xFU (i + 1) (xFU_lt (by omega)) (by omega) (by omega), ih (i + 1) (by omega) (by omega)]
      by_cases g : ∀ k, i + 1 ≤ k → k + 1 < hi → rgo c lo hi i k
      · rw [ifP_t g]
        congr 2
        refine tf_c ⟨fun w i' a k b d => ?_, fun w i' a k b d => w i' (by omega) k b d⟩
        by_cases z : i' = i
        · subst z; exact g k (by omega) d
        · exact w i' (by omega) k b d
      · rw [ifP_f g, tf_f]
        intro w
        exact g (fun k a b => w i (Nat.le_refl i) k (by omega) b)
    · rw [if_pos (by omega), tf_t]
      intro i' a k b d; omega
/-- what the system asks of a ring -/
def isR (c : Ct) (lo hi : Nat) : Prop := 4 ≤ hi - lo ∧ cV c lo = cV c (hi - 1) ∧ (∀ k, lo ≤ k → k + 1 < hi → cV c k ≠ cV c (k + 1)) ∧ ∀ i, lo ≤ i → ∀ k, i < k → k + 1 < hi → rgo c lo hi i k
set_option maxHeartbeats 200000 in
theorem e_isRing {n : Nat} {σ : xσ} {a : Nat} {c : Ct} (S : SH n σ a c) (F : WF c) {lo hi : Nat} (hh : hi ≤ cN c) (hl : lo < hi) : f_X0_isRing n a (nI lo) (nI hi) σ = some (tf (isR c lo hi), σ) := by
  have hN := F.n
  rw [f_X0_isRing, gd_pos S.1]
  simp (disch := omega) only [nI_m, nIm1, nIl0, nIe0, nIg0, nIh0, nIq0, nIl1, nIe1, nIg1, nIh1, nIq1, nIl2, nIe2, nIg2, nIh2, nIq2, nIl3, nIe3, nIg3, nIh3, nIq3, nIl4, nIe4, nIg4, nIh4, nIq4, nIl8, nIe8, nIg8, nIh8, nIq8, nIl40, nIe40, nIg40, nIh40, nIq40, nIl80, nIe80, nIg80, nIh80, nIq80, nIl200, nIe200, nIg200, nIh200, nIq200, nIm1, nIp2]
  unfold isR
  by_cases h1 : hi - lo < 4
  · rw [if_pos h1, tf_f (fun h => by omega)]
  · rw [if_neg h1, e_isAlike S F (by omega) (by omega), bd]
    by_cases h2 : cV c lo = cV c (hi - 1)
    · rw [if_neg (tn h2), e_hasPauses S F hh (by omega), bd]
      by_cases h3 : ∃ k, lo ≤ k ∧ k + 1 < hi ∧ cV c k = cV c (k + 1)
      · rw [if_neg (tn h3), tf_f]
        rintro ⟨_, _, w, _⟩
        obtain ⟨k, a, b, d⟩ := h3
        exact w k a b d
      · rw [if_pos (tf_f h3), l_isRing31 S F hh (by omega) xFU lo (xFU_lt (by omega)) (by omega)]
        congr 2
        refine tf_c ⟨fun w => ⟨by omega, h2, fun k a b d => h3 ⟨k, a, b, d⟩, w⟩, fun w => w.2.2.2⟩
    · rw [if_pos (tf_f h2), tf_f (fun h => h2 h.2.1)]
/-- what the reference asks of two ways of a ring -/
def sgo (c : Ct) (lo m i j : Nat) : Prop := (j ≠ i + 1 → ¬ (i = 0 ∧ j = m - 1) → ¬ mt (cV c (lo + i)) (cV c (lo + i + 1)) (cV c (lo + j)) (cV c (lo + j + 1))) ∧
  (j = i + 1 → ¬ onS (cV c (lo + i)) (cV c (lo + i + 1)) (cV c (lo + j + 1)) ∧ ¬ onS (cV c (lo + j)) (cV c (lo + j + 1)) (cV c (lo + i))) ∧
  (i = 0 ∧ j = m - 1 → ¬ onS (cV c (lo + i)) (cV c (lo + i + 1)) (cV c (lo + j)) ∧ ¬ onS (cV c (lo + j)) (cV c (lo + j + 1)) (cV c (lo + i + 1)))
set_option maxHeartbeats 200000 in
theorem nI_ad (a b : Nat) : nI a + nI b = nI (a + b) := nI_add a b
set_option maxHeartbeats 200000 in
theorem ml_isSimple32 {n : Nat} {σ : xσ} {a : Nat} {c : Ct} (S : MH σ a c) (F : WF c) {lo m i : Nat} (hh : lo + m < cN c) (hm : 3 ≤ m) (hi : i < m) (K : Nat → Int32 → Int32 → Int32 → xσ → Option (Int32 × xσ)) : ∀ f j, 40 - j < f → j ≤ 40 → i < j → l_X14_isSimple_32 n K f a (nI lo) (nI m) (nI i) (nI j) σ = ifP (∀ k, j ≤ k → k < m → sgo c lo m i k) (K a (nI lo) (nI m) (nI (i + 1)) σ) (some (0, σ)) := by
  have hN := F.n
  intro f
  induction f with
  | zero => intro j h; omega
  | succ f ih =>
    intro j h hj hij
    rw [l_X14_isSimple_32]
    simp (disch := omega) only [nI_s, nI_e', nI_q']
    by_cases q : j < m
    · rw [if_neg (by omega)]
      have ih' := ih (j + 1) (by omega) (by omega) (by omega)
      have good : sgo c lo m i j → l_X14_isSimple_32 n K f a (nI lo) (nI m) (nI i) (nI (j + 1)) σ = ifP (∀ k, j ≤ k → k < m → sgo c lo m i k) (K a (nI lo) (nI m) (nI (i + 1)) σ) (some (0, σ)) := by
        intro g
        rw [ih']
        refine ifP_c ⟨fun w k a b => ?_, fun w k a b => w k (by omega) b⟩
        by_cases z' : k = j
        · subst z'; exact g
        · exact w k (by omega) b
      have bad : ¬ sgo c lo m i j → some ((0 : Int32), σ) = ifP (∀ k, j ≤ k → k < m → sgo c lo m i k) (K a (nI lo) (nI m) (nI (i + 1)) σ) (some (0, σ)) := by
        intro g
        rw [ifP_f (fun w => g (w j (Nat.le_refl j) q))]
      have b1 := F.b (show lo + i < cN c by omega)
      have b2 := F.b (show lo + i + 1 < cN c by omega)
      have b3 := F.b (show lo + j < cN c by omega)
      have b4 := F.b (show lo + j + 1 < cN c by omega)
      by_cases n1 : j = i + 1
      · rw [if_pos n1, b_X14_isSimple_52]
        simp (disch := omega) only [nIl0, nIe0, nIg0, nIh0, nIq0, nIl1, nIe1, nIg1, nIh1, nIq1, nIl2, nIe2, nIg2, nIh2, nIq2, nIl3, nIe3, nIg3, nIh3, nIq3, nIl4, nIe4, nIg4, nIh4, nIq4, nIl8, nIe8, nIg8, nIh8, nIq8, nIl40, nIe40, nIg40, nIh40, nIq40, nIl80, nIe80, nIg80, nIh80, nIq80, nIl200, nIe200, nIg200, nIh200, nIq200, nIm1, nIp2, nI_q']
        have na : ¬ (i = 0 ∧ j = m - 1) := by omega
        have e : b_X14_isSimple_72 n K (l_X14_isSimple_32 n K f) a (nI lo) (nI m) (nI i) (nI j) 1 0 σ = ifP (∀ k, j ≤ k → k < m → sgo c lo m i k) (K a (nI lo) (nI m) (nI (i + 1)) σ) (some (0, σ)) := by
          rw [b_X14_isSimple_72]
          simp (disch := omega) only [show ¬ (1 : Int32) = 0 by decide, if_false, if_true, nI_ad, nI_s, gd_in, nI_k, S.X, S.Y, m_isOn (p := cV c (lo + j + 1)) S F (show lo + i + 1 < cN c by omega) b4, m_isOn (p := cV c (lo + i)) S F (show lo + j + 1 < cN c by omega) b1, bd]
          by_cases g1 : onS (cV c (lo + i)) (cV c (lo + i + 1)) (cV c (lo + j + 1))
          · rw [if_neg (tn g1)]; exact bad (fun w => (w.2.1 n1).1 g1)
          · rw [if_pos (tf_f g1)]
            by_cases g2 : onS (cV c (lo + j)) (cV c (lo + j + 1)) (cV c (lo + i))
            · rw [if_neg (tn g2)]; exact bad (fun w => (w.2.1 n1).2 g2)
            · rw [if_pos (tf_f g2)]; exact good ⟨fun w => (w n1).elim, fun _ => ⟨g1, g2⟩, fun w => (na w).elim⟩
        by_cases n2 : i = 0
        · rw [if_pos n2, if_neg (by omega)]; exact e
        · rw [if_neg n2]; exact e
      · rw [if_neg n1, b_X14_isSimple_52]
        simp (disch := omega) only [nIl0, nIe0, nIg0, nIh0, nIq0, nIl1, nIe1, nIg1, nIh1, nIq1, nIl2, nIe2, nIg2, nIh2, nIq2, nIl3, nIe3, nIg3, nIh3, nIq3, nIl4, nIe4, nIg4, nIh4, nIq4, nIl8, nIe8, nIg8, nIh8, nIq8, nIl40, nIe40, nIg40, nIh40, nIq40, nIl80, nIe80, nIg80, nIh80, nIq80, nIl200, nIe200, nIg200, nIh200, nIq200, nIm1, nIp2, nI_q']
        have e0 : ¬ (i = 0 ∧ j = m - 1) → b_X14_isSimple_72 n K (l_X14_isSimple_32 n K f) a (nI lo) (nI m) (nI i) (nI j) 0 0 σ = ifP (∀ k, j ≤ k → k < m → sgo c lo m i k) (K a (nI lo) (nI m) (nI (i + 1)) σ) (some (0, σ)) := by
          intro na
          rw [b_X14_isSimple_72]
          simp (disch := omega) only [if_true, nI_ad, nI_s, m_meet S F S F (show lo + i + 1 < cN c by omega) (show lo + j + 1 < cN c by omega), bd]
          by_cases g1 : mt (cV c (lo + i)) (cV c (lo + i + 1)) (cV c (lo + j)) (cV c (lo + j + 1))
          · rw [if_neg (tn g1)]; exact bad (fun w => w.1 n1 na g1)
          · rw [if_pos (tf_f g1)]; exact good ⟨fun _ _ => g1, fun w => (n1 w).elim, fun w => (na w).elim⟩
        by_cases n2 : i = 0
        · rw [if_pos n2]
          by_cases n3 : j = m - 1
          · rw [if_pos n3, b_X14_isSimple_72]
            simp (disch := omega) only [show ¬ (1 : Int32) = 0 by decide, if_false, if_true, nI_ad, nI_s, gd_in, nI_k, S.X, S.Y, m_isOn (p := cV c (lo + j)) S F (show lo + i + 1 < cN c by omega) b3, m_isOn (p := cV c (lo + i + 1)) S F (show lo + j + 1 < cN c by omega) b2, bd]
            by_cases g1 : onS (cV c (lo + i)) (cV c (lo + i + 1)) (cV c (lo + j))
            · rw [if_neg (tn g1)]; exact bad (fun w => (w.2.2 ⟨n2, n3⟩).1 g1)
            · rw [if_pos (tf_f g1)]
              by_cases g2 : onS (cV c (lo + j)) (cV c (lo + j + 1)) (cV c (lo + i + 1))
              · rw [if_neg (tn g2)]; exact bad (fun w => (w.2.2 ⟨n2, n3⟩).2 g2)
              · rw [if_pos (tf_f g2)]; exact good ⟨fun _ w => (w ⟨n2, n3⟩).elim, fun w => (n1 w).elim, fun _ => ⟨g1, g2⟩⟩
          · rw [if_neg n3]; exact e0 (by omega)
        · rw [if_neg n2]; exact e0 (by omega)
    · rw [if_pos (by omega), ifP_t]
      intro k a b; omega
set_option maxHeartbeats 200000 in
theorem ml_isSimple20 {n : Nat} {σ : xσ} {a : Nat} {c : Ct} (S : MH σ a c) (F : WF c) {lo m : Nat} (hh : lo + m < cN c) (hm : 3 ≤ m) : ∀ f i, 40 - i < f → i ≤ 40 → l_X14_isSimple_20 n f a (nI lo) (nI m) (nI i) σ = some (tf (∀ i', i ≤ i' → ∀ k, i' < k → k < m → sgo c lo m i' k), σ) := by
  have hN := F.n
  intro f
  induction f with
  | zero => intro j h; omega
  | succ f ih =>
    intro i h hi'
    rw [l_X14_isSimple_20]
    simp (disch := omega) only [nI_s, nI_e', st]
    by_cases q : i < m
    · rw [if_neg (by omega), ml_isSimple32 S F hh hm q _ xFU (i + 1) (xFU_lt (by omega)) (by omega) (by omega), ih (i + 1) (by omega) (by omega)]
      by_cases g : ∀ k, i + 1 ≤ k → k < m → sgo c lo m i k
      · rw [ifP_t g]
        congr 2
        refine tf_c ⟨fun w i' a k b d => ?_, fun w i' a k b d => w i' (by omega) k b d⟩
        by_cases z : i' = i
        · subst z; exact g k (by omega) d
        · exact w i' (by omega) k b d
      · rw [ifP_f g, tf_f]
        intro w
        exact g (fun k a b => w i (Nat.le_refl i) k (by omega) b)
    · rw [if_pos (by omega), tf_t]
      intro i' a k b d; omega
set_option maxHeartbeats 200000 in
theorem m_isSimple {n : Nat} {σ : xσ} {a : Nat} {c : Ct} (S : MH σ a c) (F : WF c) {r : Nat} (hr : r < cR c) (hm : 3 ≤ ml c r) : f_X14_isSimple n a (nI r) σ = some (tf (∀ i k, i < k → k < ml c r → sgo c (sr c r) (ml c r) i k), σ) := by
  have hN := F.n
  have hR := F.r
  have he := F.e hr
  have hs := sr_lt F hr
  have hl : sr c r + ml c r < cN c := by unfold ml; omega
  rw [f_X14_isSimple, gd_pos S.1, m_beginOf S F (by omega), bd]
  simp (disch := omega) only [gd_in, nI_k, S.E, st, nI_m, nIm1]
  rw [show cE c r - sr c r - 1 = ml c r by unfold ml; omega]
  have := ml_isSimple20 (n := n) S F hl hm xFU 0 (xFU_lt (by omega)) (by omega)
  rw [show (0 : Int32) = nI 0 from rfl, this]
  congr 2
  exact tf_c ⟨fun w i k => w i (by omega) k, fun w i _ k => w i k⟩
set_option maxHeartbeats 200000 in
theorem ml_hasSteps {n : Nat} {σ : xσ} {a : Nat} {c : Ct} (S : MH σ a c) (F : WF c) (hk : cK c ≠ 0) : ∀ f i, 40 - i < f → i ≤ 40 → l_X14_hasSteps_2 n f a (nI i) σ = some (tf (∀ k, i ≤ k → wy c k → cV c k ≠ cV c (k + 1)), σ) := by
  have hN := F.n
  intro f
  induction f with
  | zero => intro j h; omega
  | succ f ih =>
    intro i h hi
    rw [l_X14_hasSteps_2, S.N]
    simp (disch := omega) only [nI_s, nI_e']
    by_cases q : i + 1 < cN c
    · rw [if_neg (by omega), m_isWay S F (by omega), bd, ih (i + 1) (by omega) (by omega)]
      have st' : (wy c i → cV c i ≠ cV c (i + 1)) → some (tf (∀ k, i + 1 ≤ k → wy c k → cV c k ≠ cV c (k + 1)), σ) = some (tf (∀ k, i ≤ k → wy c k → cV c k ≠ cV c (k + 1)), σ) := by
        intro g
        congr 2
        refine tf_c ⟨fun w k a b => ?_, fun w k a b => w k (by omega) b⟩
        by_cases z : k = i
        · subst z; exact g b
        · exact w k (by omega) b
      by_cases w : wy c i
      · rw [if_neg (tn w), m_isLike S F (by omega) q, bd]
        by_cases v : cV c i = cV c (i + 1)
        · rw [if_neg (tn v), tf_f (fun g => g i (Nat.le_refl i) w v)]
        · rw [if_pos (tf_f v)]
          simp only [ih (i + 1) (by omega) (by omega)]
          exact st' (fun _ => v)
      · rw [if_pos (tf_f w)]
        exact st' (fun g => (w g).elim)
    · rw [if_pos (by omega), tf_t]
      intro k a b
      have := b.2.1; omega
set_option maxHeartbeats 200000 in
theorem m_hasSteps {n : Nat} {σ : xσ} {a : Nat} {c : Ct} (S : MH σ a c) (F : WF c) (hk : cK c ≠ 0) : f_X14_hasSteps n a σ = some (tf (∀ k, wy c k → cV c k ≠ cV c (k + 1)), σ) := by
  rw [f_X14_hasSteps, gd_pos S.1, show (0 : Int32) = nI 0 from rfl, ml_hasSteps S F hk xFU 0 (xFU_lt (by omega)) (by omega)]
  congr 2
  exact tf_c ⟨fun w k => w k (by omega), fun w k _ => w k⟩

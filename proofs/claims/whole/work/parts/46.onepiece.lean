/-! rings and the points at which they touch: both sides -/
noncomputable def cir (c : Ct) (p : V2) : Nat → Nat → (Nat → Nat) → Option Nat → Option (Nat → Nat)
  | 0, _, g, _ => some g
  | k + 1, r, g, j => ifP (onR c r p) (match j with
    | none => cir c p k (r + 1) g (some (g r))
    | some l => if g r = l then none else cir c p k (r + 1) (fun q => if g q = g r then l else g q) (some l)) (cir c p k (r + 1) g j)
set_option maxHeartbeats 200000 in
theorem cir_n (c : Ct) (p : V2) (k r : Nat) (g : Nat → Nat) : cir c p (k + 1) r g none = ifP (onR c r p) (cir c p k (r + 1) g (some (g r))) (cir c p k (r + 1) g none) := rfl
set_option maxHeartbeats 200000 in
theorem cir_s (c : Ct) (p : V2) (k r : Nat) (g : Nat → Nat) (l : Nat) : cir c p (k + 1) r g (some l) = ifP (onR c r p) (if g r = l then none else cir c p k (r + 1) (fun q => if g q = g r then l else g q) (some l)) (cir c p k (r + 1) g (some l)) := rfl
noncomputable def onePc (c : Ct) : Nat → Nat → (Nat → Nat) → Prop
  | 0, _, _ => True
  | k + 1, i, g => ifP (∃ j, j < i ∧ cV c i = cV c j) (onePc c k (i + 1) g) (match cir c (cV c i) (cR c) 0 g none with
    | none => False
    | some g' => onePc c k (i + 1) g')
def One (c : Ct) : Prop := onePc c (cN c) 0 id
/-- the groups as the system, and as the reference keeps them -/
def grS (σ : xσ) (g : Nat → Nat) : Prop := ∀ q, q < 8 → sI σ 28 q = nI (g q)
def grM (σ : xσ) (R : Nat) (g : Nat → Nat) : Prop := ∀ q, q < R → sI σ 249 q = nI (g q)
set_option maxHeartbeats 200000 in
theorem SH.w28 {n : Nat} {σ σ' : xσ} {a : Nat} {c : Ct} (S : SH n σ a c) (f : Fr (· = 28) σ σ') : SH n σ' a c := S.fr f (by
  have := S.1.2
  intro j hj h
  have h' : a + j = 28 := h
  omega)
set_option maxHeartbeats 200000 in
theorem MH.w249 {σ σ' : xσ} {a : Nat} {c : Ct} (S : MH σ a c) (f : Fr (· = 249) σ σ') : MH σ' a c := S.fr f (by
  have := S.1
  unfold okM at this
  intro j hj h
  have h' : a + j = 249 := h
  omega)
set_option maxHeartbeats 200000 in
theorem l_joinGroups {n : Nat} {x y : Nat} (hx : x < 2147483648) : ∀ (f r : Nat) (σ : xσ) (g : Nat → Nat), 8 - r < f → r ≤ 8 → (∀ q, q < 8 → g q < 2147483648) → grS σ (fun q => if q < r ∧ g q = x then y else g q) → ∃ σ', l_X0_joinGroups_2 n f (nI x) (nI y) (nI r) σ = some ((), σ') ∧ Fr (· = 28) σ σ' ∧ grS σ' (fun q => if g q = x then y else g q) := by
  intro f
  induction f with
  | zero => intro r σ g h; omega
  | succ f ih =>
    intro r σ g h hr hg hG
    rw [l_X0_joinGroups_2]
    simp (disch := omega) only [nIl0, nIe0, nIg0, nIh0, nIq0, nIl1, nIe1, nIg1, nIh1, nIq1, nIl2, nIe2, nIg2, nIh2, nIq2, nIl3, nIe3, nIg3, nIh3, nIq3, nIl4, nIe4, nIg4, nIh4, nIq4, nIl8, nIe8, nIg8, nIh8, nIq8, nIl40, nIe40, nIg40, nIh40, nIq40, nIl80, nIe80, nIg80, nIh80, nIq80, nIl200, nIe200, nIg200, nIh200, nIq200, nIm1, nIp2]
    by_cases q : r < 8
    · rw [if_neg (by omega)]
      have e : sI σ 28 r = nI (g r) := by
        have := hG r q
        simp only [Nat.lt_irrefl, false_and, if_false] at this
        exact this
      have := hg r q
      simp (disch := omega) only [gd_in, nI_k, e, nI_q', nI_s, st, b_X0_joinGroups_25]
      by_cases w : g r = x
      · rw [if_pos w]
        obtain ⟨σ', h1, h2, h3⟩ := ih (r + 1) (wI σ 28 r (nI y)) g (by omega) (by omega) hg (by
          intro q' hq'
          rw [sI_wI]
          by_cases z : q' = r
          · rw [if_pos ⟨rfl, z⟩]
            show nI y = nI (if q' < r + 1 ∧ g q' = x then y else g q')
            rw [if_pos ⟨by omega, z ▸ w⟩]
          · rw [if_neg (fun h => z h.2), hG q' hq']
            have : (q' < r ∧ g q' = x) ↔ (q' < r + 1 ∧ g q' = x) := by omega
            simp only [this])
        exact ⟨σ', h1, (Fr.wI (A := (· = 28)) rfl).trans h2, h3⟩
      · rw [if_neg w]
        refine ih (r + 1) σ g (by omega) (by omega) hg (fun q' hq' => ?_)
        rw [hG q' hq']
        have : (q' < r ∧ g q' = x) ↔ (q' < r + 1 ∧ g q' = x) := by
          by_cases z : q' = r
          · subst z; simp [w]
          · omega
        simp only [this]
    · rw [if_pos (by omega)]
      refine ⟨σ, rfl, Fr.refl, fun q' hq' => ?_⟩
      rw [hG q' hq']
      have : q' < r := by omega
      simp only [this, true_and]
set_option maxHeartbeats 200000 in
theorem l_joinM {n : Nat} {x y R : Nat} (hx : x < 2147483648) (hR : R ≤ 8) : ∀ (f r : Nat) (σ : xσ) (g : Nat → Nat), 8 - r < f → r ≤ 8 → (∀ q, q < R → g q < 2147483648) → grM σ R (fun q => if q < r ∧ g q = x then y else g q) → ∃ σ', l_X14_join_3 n f (nI x) (nI y) (nI R) (nI r) σ = some ((), σ') ∧ Fr (· = 249) σ σ' ∧ grM σ' R (fun q => if g q = x then y else g q) := by
  intro f
  induction f with
  | zero => intro r σ g h; omega
  | succ f ih =>
    intro r σ g h hr hg hG
    rw [l_X14_join_3]
    simp (disch := omega) only [nI_e']
    by_cases q : r < R
    · rw [if_neg (by omega)]
      have e : sI σ 249 r = nI (g r) := by
        have := hG r q
        simp only [Nat.lt_irrefl, false_and, if_false] at this
        exact this
      have := hg r q
      simp (disch := omega) only [gd_in, nI_k, e, nI_q', nI_s, st, b_X14_join_28]
      by_cases w : g r = x
      · rw [if_pos w]
        obtain ⟨σ', h1, h2, h3⟩ := ih (r + 1) (wI σ 249 r (nI y)) g (by omega) (by omega) hg (by
          intro q' hq'
          rw [sI_wI]
          by_cases z : q' = r
          · rw [if_pos ⟨rfl, z⟩]
            show nI y = nI (if q' < r + 1 ∧ g q' = x then y else g q')
            rw [if_pos ⟨by omega, z ▸ w⟩]
          · rw [if_neg (fun h => z h.2), hG q' hq']
            have : (q' < r ∧ g q' = x) ↔ (q' < r + 1 ∧ g q' = x) := by omega
            simp only [this])
        exact ⟨σ', h1, (Fr.wI (A := (· = 249)) rfl).trans h2, h3⟩
      · rw [if_neg w]
        refine ih (r + 1) σ g (by omega) (by omega) hg (fun q' hq' => ?_)
        rw [hG q' hq']
        have : (q' < r ∧ g q' = x) ↔ (q' < r + 1 ∧ g q' = x) := by
          by_cases z : q' = r
          · subst z; simp [w]
          · omega
        simp only [this]
    · rw [if_pos (by omega)]
      refine ⟨σ, rfl, Fr.refl, fun q' hq' => ?_⟩
      rw [hG q' hq']
      have : q' < r := by omega
      simp only [this, true_and]
def smG (g : Nat → Nat) : Prop := ∀ q, q < 8 → g q < 8
set_option maxHeartbeats 200000 in
theorem smG.up {g : Nat → Nat} (h : smG g) {x l : Nat} (hl : l < 8) : smG (fun q => if g q = x then l else g q) := by
  intro q hq
  show (if g q = x then l else g q) < 8
  split
  · exact hl
  · exact h q hq
def jI (j : Option Nat) : Int32 := match j with
  | none => -1
  | some l => nI l
/-! the rings from r on at one place -/
set_option maxHeartbeats 200000 in
theorem l_closes {n : Nat} {a : Nat} {c : Ct} (F : WF c) {i : Nat} (hi : i < cN c) : ∀ (k r : Nat) (σ : xσ) (g : Nat → Nat) (j : Option Nat) (f : Nat), r + k = cR c → k < f → SH n σ a c → grS σ g → smG g → (∀ l, j = some l → l < 8) →
    ∃ σ', Fr (· = 28) σ σ' ∧ ((cir c (cV c i) k r g j = none ∧ l_X0_closesCircle_5 n f a (nI i) (jI j) (nI r) σ = some (1, σ')) ∨ ∃ g', cir c (cV c i) k r g j = some g' ∧ l_X0_closesCircle_5 n f a (nI i) (jI j) (nI r) σ = some (0, σ') ∧ grS σ' g' ∧ smG g') := by
  have hN := F.n
  have hR := F.r
  intro k
  induction k with
  | zero =>
    intro r σ g j f h1 hf S hG hg hj
    obtain ⟨f, rfl⟩ : ∃ f', f = f' + 1 := ⟨f - 1, by omega⟩
    refine ⟨σ, Fr.refl, Or.inr ⟨g, rfl, ?_, hG, hg⟩⟩
    rw [l_X0_closesCircle_5, S.R]
    simp (disch := omega) only [nI_e']
    rw [if_pos (by omega)]
  | succ k ih =>
    intro r σ g j f h1 hf S hG hg hj
    obtain ⟨f, rfl⟩ : ∃ f', f = f' + 1 := ⟨f - 1, by omega⟩
    have hgr := hg r (by omega)
    rw [l_X0_closesCircle_5, S.R]
    simp (disch := omega) only [nI_e', gd_in, nI_k, S.X, S.Y, nI_s, b_X0_closesCircle_78, hG r (by omega), st]
    rw [if_neg (by omega), e_isOnRing S F (by omega) (F.b hi), bd]
    simp only [hG r (by omega)]
    cases j with
    | none =>
      rw [cir_n]
      by_cases w : onR c r (cV c i)
      · rw [ifP_t w, if_neg (tn w), if_neg (show ¬ (0 : Int32) ≤ jI none by decide)]
        exact ih (r + 1) σ g (some (g r)) f (by omega) (by omega) S hG hg (fun l hl => by cases hl; exact hgr)
      · rw [ifP_f w, if_pos (tf_f w)]
        exact ih (r + 1) σ g none f (by omega) (by omega) S hG hg hj
    | some l =>
      have hl := hj l rfl
      rw [cir_s]
      by_cases w : onR c r (cV c i)
      · rw [ifP_t w, if_neg (tn w), if_pos (show (0 : Int32) ≤ jI (some l) from by show (0 : Int32) ≤ nI l; rw [nIg0 (by omega)]; omega)]
        have ej : jI (some l) = nI l := rfl
        rw [ej]
        simp (disch := omega) only [nI_q']
        by_cases z : g r = l
        · rw [if_pos z, if_pos z]
          exact ⟨σ, Fr.refl, Or.inl ⟨rfl, rfl⟩⟩
        · rw [if_neg z, if_neg z]
          obtain ⟨σ1, e1, f1, G1⟩ := l_joinGroups (n := n) (x := g r) (y := l) (by omega) xFU 0 σ g (xFU_lt (by omega)) (by omega) (fun q hq => by have := hg q hq; omega) (fun q hq => by rw [hG q hq]; simp)
          rw [f_X0_joinGroups, show l_X0_joinGroups_2 n xFU (nI (g r)) (nI l) 0 σ = _ from e1, bd]
          obtain ⟨σ', f2, h2⟩ := ih (r + 1) σ1 _ (some l) f (by omega) (by omega) (S.w28 f1) G1 (hg.up hl) hj
          exact ⟨σ', f1.trans f2, h2⟩
      · rw [ifP_f w, if_pos (tf_f w)]
        exact ih (r + 1) σ g (some l) f (by omega) (by omega) S hG hg hj
set_option maxHeartbeats 200000 in
theorem l_onePc {n : Nat} {a : Nat} {c : Ct} (F : WF c) : ∀ (k i : Nat) (σ : xσ) (g : Nat → Nat) (f : Nat), i + k = cN c → k < f → SH n σ a c → grS σ g → smG g → ∃ σ', Fr (· = 28) σ σ' ∧ l_X0_isOnePiece_23 n f a (nI i) σ = some (tf (onePc c k i g), σ') := by
  have hN := F.n
  have hR := F.r
  intro k
  induction k with
  | zero =>
    intro i σ g f h1 hf S hG hg
    obtain ⟨f, rfl⟩ : ∃ f', f = f' + 1 := ⟨f - 1, by omega⟩
    refine ⟨σ, Fr.refl, ?_⟩
    rw [l_X0_isOnePiece_23, S.N]
    simp (disch := omega) only [nI_e']
    rw [if_pos (by omega), onePc, tf_t trivial]
  | succ k ih =>
    intro i σ g f h1 hf S hG hg
    obtain ⟨f, rfl⟩ : ∃ f', f = f' + 1 := ⟨f - 1, by omega⟩
    rw [l_X0_isOnePiece_23, S.N]
    simp (disch := omega) only [nI_e', nI_s]
    rw [if_neg (by omega), e_isSeenBefore S F (by omega), bd, onePc]
    by_cases w : ∃ j, j < i ∧ cV c i = cV c j
    · rw [ifP_t w, if_neg (tn w)]
      exact ih (i + 1) σ g f (by omega) (by omega) S hG hg
    · rw [ifP_f w, if_pos (tf_f w), f_X0_closesCircle, gd_pos S.1]
      obtain ⟨σ1, f1, h⟩ := l_closes (n := n) (a := a) F (i := i) (by omega) (cR c) 0 σ g none xFU (by omega) (xFU_lt (by omega)) S hG hg (fun l hl => by cases hl)
      rcases h with ⟨e1, e2⟩ | ⟨g', e1, e2, G1, g1⟩
      · rw [show l_X0_closesCircle_5 n xFU a (nI i) (-1) 0 σ = _ from e2, bd, if_neg (by decide), e1]
        exact ⟨σ1, f1, by rw [tf_f (fun h => h)]⟩
      · rw [show l_X0_closesCircle_5 n xFU a (nI i) (-1) 0 σ = _ from e2, bd, if_pos rfl, e1]
        obtain ⟨σ2, f2, h2⟩ := ih (i + 1) σ1 g' f (by omega) (by omega) (S.w28 f1) G1 g1
        exact ⟨σ2, f1.trans f2, h2⟩
set_option maxHeartbeats 200000 in
theorem l_onePg {n : Nat} {a : Nat} {c : Ct} (F : WF c) : ∀ (f r : Nat) (σ : xσ), 8 - r < f → r ≤ 8 → SH n σ a c → (∀ q, q < r → sI σ 28 q = nI q) → ∃ σ', Fr (· = 28) σ σ' ∧ l_X0_isOnePiece_2 n f a (nI r) σ = some (tf (One c), σ') := by
  intro f
  induction f with
  | zero => intro r σ h; omega
  | succ f ih =>
    intro r σ h hr S hG
    have hN := F.n
    rw [l_X0_isOnePiece_2]
    simp (disch := omega) only [nIl0, nIe0, nIg0, nIh0, nIq0, nIl1, nIe1, nIg1, nIh1, nIq1, nIl2, nIe2, nIg2, nIh2, nIq2, nIl3, nIe3, nIg3, nIh3, nIq3, nIl4, nIe4, nIg4, nIh4, nIq4, nIl8, nIe8, nIg8, nIh8, nIq8, nIl40, nIe40, nIg40, nIh40, nIq40, nIl80, nIe80, nIg80, nIh80, nIq80, nIl200, nIe200, nIg200, nIh200, nIq200, nIm1, nIp2]
    by_cases q : r < 8
    · rw [if_neg (by omega)]
      simp (disch := omega) only [gd_in, nI_k, nI_s, st]
      have fw : Fr (· = 28) σ (wI σ 28 r (nI r)) := Fr.wI rfl
      obtain ⟨σ', h1, h2⟩ := ih (r + 1) (wI σ 28 r (nI r)) (by omega) (by omega) (S.w28 fw) (fun q' hq' => by
        rw [sI_wI]
        by_cases z : q' = r
        · rw [if_pos ⟨rfl, z⟩, z]
        · rw [if_neg (fun h => z h.2), hG q' (by omega)])
      exact ⟨σ', fw.trans h1, h2⟩
    · rw [if_pos (by omega)]
      exact l_onePc F (cN c) 0 σ id xFU (by omega) (xFU_lt (by omega)) S (fun q' hq' => hG q' (by omega)) (fun q' hq' => hq')
set_option maxHeartbeats 200000 in
theorem e_isOnePiece {n : Nat} {σ : xσ} {a : Nat} {c : Ct} (S : SH n σ a c) (F : WF c) : ∃ σ', Fr (· = 28) σ σ' ∧ f_X0_isOnePiece n a σ = some (tf (One c), σ') := by
  rw [f_X0_isOnePiece, gd_pos S.1]
  exact l_onePg F xFU 0 σ (xFU_lt (by omega)) (by omega) S (fun q hq => by omega)

/-! the same of the reference -/
set_option maxHeartbeats 200000 in
theorem ml_closes {n : Nat} {a : Nat} {c : Ct} (F : WF c) {i : Nat} (hi : i < cN c) (K : Nat → Int32 → xσ → Option (Int32 × xσ)) : ∀ (k r : Nat) (σ : xσ) (g : Nat → Nat) (j : Option Nat) (x4 : Int32) (f : Nat), r + k = cR c → k < f → MH σ a c → grM σ (cR c) g → smG g → ((j = none ∧ x4 = -1) ∨ ∃ q l, j = some l ∧ x4 = nI q ∧ q < cR c ∧ l = g q) →
    ∃ σ', Fr (· = 249) σ σ' ∧ ((cir c (cV c i) k r g j = none ∧ l_X14_isOnePiece_76 n K f a (nI i) 1 x4 (nI r) σ = some (0, σ')) ∨ ∃ g', cir c (cV c i) k r g j = some g' ∧ l_X14_isOnePiece_76 n K f a (nI i) 1 x4 (nI r) σ = K a (nI (i + 1)) σ' ∧ grM σ' (cR c) g' ∧ smG g') := by
  have hN := F.n
  have hR := F.r
  intro k
  induction k with
  | zero =>
    intro r σ g j x4 f h1 hf S hG hg hj
    obtain ⟨f, rfl⟩ : ∃ f', f = f' + 1 := ⟨f - 1, by omega⟩
    refine ⟨σ, Fr.refl, Or.inr ⟨g, rfl, ?_, hG, hg⟩⟩
    rw [l_X14_isOnePiece_76, S.R]
    simp (disch := omega) only [nI_e', nI_s]
    rw [if_pos (by omega)]
  | succ k ih =>
    intro r σ g j x4 f h1 hf S hG hg hj
    obtain ⟨f, rfl⟩ : ∃ f', f = f' + 1 := ⟨f - 1, by omega⟩
    have hgr := hg r (by omega)
    rw [l_X14_isOnePiece_76, S.R]
    simp (disch := omega) only [nI_e', gd_in, nI_k, S.X, S.Y, nI_s, b_X14_isOnePiece_171, hG r (by omega), st]
    rw [if_neg (by omega), if_neg (by decide), m_isOnRing S F (by omega) (F.b hi), bd]
    simp only [hG r (by omega), S.R]
    rcases hj with ⟨rfl, rfl⟩ | ⟨q, l, rfl, rfl, hq, hl⟩
    · rw [cir_n]
      by_cases w : onR c r (cV c i)
      · rw [ifP_t w, if_neg (tn w), if_pos (show (-1 : Int32) < 0 by decide), if_neg (show ¬ (0 : Int32) ≤ -1 by decide)]
        exact ih (r + 1) σ g (some (g r)) (nI r) f (by omega) (by omega) S hG hg (Or.inr ⟨r, g r, rfl, rfl, by omega, rfl⟩)
      · rw [ifP_f w, if_pos (tf_f w)]
        exact ih (r + 1) σ g none (-1) f (by omega) (by omega) S hG hg (Or.inl ⟨rfl, rfl⟩)
    · rw [cir_s]
      have hgq := hg q (by omega)
      by_cases w : onR c r (cV c i)
      · rw [ifP_t w, if_neg (tn w)]
        simp (disch := omega) only [nIl0, nIe0, nIg0, nIh0, nIq0, nIl1, nIe1, nIg1, nIh1, nIq1, nIl2, nIe2, nIg2, nIh2, nIq2, nIl3, nIe3, nIg3, nIh3, nIq3, nIl4, nIe4, nIg4, nIh4, nIq4, nIl8, nIe8, nIg8, nIh8, nIq8, nIl40, nIe40, nIg40, nIh40, nIq40, nIl80, nIe80, nIg80, nIh80, nIq80, nIl200, nIe200, nIg200, nIh200, nIq200, nIm1, nIp2, gd_in, nI_k, hG q hq, nI_q', if_false]
        rw [hl]
        by_cases z : g r = g q
        · rw [if_pos z, if_pos z]
          exact ⟨σ, Fr.refl, Or.inl ⟨rfl, rfl⟩⟩
        · rw [if_neg z, if_neg z, if_pos (by omega)]
          obtain ⟨σ1, e1, f1, G1⟩ := l_joinM (n := n) (x := g r) (y := g q) (R := cR c) (by omega) hR.2 xFU 0 σ g (xFU_lt (by omega)) (by omega) (fun q' hq' => by have := hg q' (by omega); omega) (fun q' hq' => by rw [hG q' hq']; simp)
          rw [f_X14_join, show l_X14_join_3 n xFU (nI (g r)) (nI (g q)) (nI (cR c)) 0 σ = _ from e1, bd]
          obtain ⟨σ', f2, h2⟩ := ih (r + 1) σ1 _ (some (g q)) (nI q) f (by omega) (by omega) (S.w249 f1) G1 (hg.up hgq) (Or.inr ⟨q, g q, rfl, rfl, hq, by rw [if_neg (fun h => z h.symm)]⟩)
          exact ⟨σ', f1.trans f2, h2⟩
      · rw [ifP_f w, if_pos (tf_f w)]
        exact ih (r + 1) σ g (some l) (nI q) f (by omega) (by omega) S hG hg (Or.inr ⟨q, l, rfl, rfl, hq, hl⟩)
set_option maxHeartbeats 200000 in
theorem ml_seen {n : Nat} {σ : xσ} {a : Nat} {c : Ct} (S : MH σ a c) (F : WF c) {i : Nat} (hi : i < cN c) (K : Nat → Int32 → xσ → Option (Int32 × xσ)) : ∀ f j b, 40 - j < f → j ≤ 40 → l_X14_isOnePiece_38 n K f a (nI i) (bI b) (nI j) σ = l_X14_isOnePiece_76 n K xFU a (nI i) (bI (b && dB (¬ ∃ k, j ≤ k ∧ k < i ∧ cV c i = cV c k))) (-1) 0 σ := by
  have hN := F.n
  intro f
  induction f with
  | zero => intro j b h; omega
  | succ f ih =>
    intro j b h hj
    rw [l_X14_isOnePiece_38]
    simp (disch := omega) only [nI_e', nI_s, b_X14_isOnePiece_63]
    by_cases q : j < i
    · rw [if_neg (by omega)]
      have hr : ∀ w : ¬ cV c i = cV c j, dB (¬ ∃ k, j + 1 ≤ k ∧ k < i ∧ cV c i = cV c k) = dB (¬ ∃ k, j ≤ k ∧ k < i ∧ cV c i = cV c k) := by
        intro w
        refine dB_c (not_congr ⟨fun ⟨k, a, b⟩ => ⟨k, by omega, b⟩, fun ⟨k, a, b, d⟩ => ⟨k, ?_, b, d⟩⟩)
        by_cases z : k = j
        · subst z; exact (w d).elim
        · omega
      cases b with
      | false =>
        rw [if_pos (show bI false = 0 from rfl)]
        have := ih (j + 1) false (by omega) (by omega)
        rw [Bool.false_and] at this ⊢
        exact this
      | true =>
        rw [if_neg (show ¬ bI true = 0 by decide), m_isLike S F (by omega) hi, bd]
        by_cases w : cV c j = cV c i
        · rw [if_neg (tn w)]
          have := ih (j + 1) false (by omega) (by omega)
          rw [Bool.false_and] at this
          rw [dB_f (fun z => z ⟨j, Nat.le_refl j, q, w.symm⟩), Bool.and_false]
          exact this
        · rw [if_pos (tf_f w), ← hr (fun e => w e.symm)]
          exact ih (j + 1) true (by omega) (by omega)
    · rw [if_pos (by omega), dB_t (fun ⟨k, a, b, d⟩ => by omega), Bool.and_true]
set_option maxHeartbeats 200000 in
theorem ml_onePc {n : Nat} {a : Nat} {c : Ct} (F : WF c) : ∀ (k i : Nat) (σ : xσ) (g : Nat → Nat) (f : Nat), i + k = cN c → k < f → MH σ a c → grM σ (cR c) g → smG g → ∃ σ', Fr (· = 249) σ σ' ∧ l_X14_isOnePiece_25 n f a (nI i) σ = some (tf (onePc c k i g), σ') := by
  have hN := F.n
  have hR := F.r
  intro k
  induction k with
  | zero =>
    intro i σ g f h1 hf S hG hg
    obtain ⟨f, rfl⟩ : ∃ f', f = f' + 1 := ⟨f - 1, by omega⟩
    refine ⟨σ, Fr.refl, ?_⟩
    rw [l_X14_isOnePiece_25, S.N]
    simp (disch := omega) only [nI_e']
    rw [if_pos (by omega), onePc, tf_t trivial]
  | succ k ih =>
    intro i σ g f h1 hf S hG hg
    obtain ⟨f, rfl⟩ : ∃ f', f = f' + 1 := ⟨f - 1, by omega⟩
    rw [l_X14_isOnePiece_25, S.N]
    simp (disch := omega) only [nI_e']
    rw [if_neg (by omega)]
    have e := ml_seen (n := n) S F (i := i) (by omega) (l_X14_isOnePiece_25 n f) xFU 0 true (xFU_lt (by omega)) (by omega)
    rw [show l_X14_isOnePiece_38 n (l_X14_isOnePiece_25 n f) xFU a (nI i) 1 0 σ = _ from e, onePc]
    have e2 : (∃ k, 0 ≤ k ∧ k < i ∧ cV c i = cV c k) ↔ ∃ j, j < i ∧ cV c i = cV c j := ⟨fun ⟨k, _, b⟩ => ⟨k, b⟩, fun ⟨k, b⟩ => ⟨k, by omega, b⟩⟩
    by_cases w : ∃ j, j < i ∧ cV c i = cV c j
    · rw [ifP_t w, dB_f (fun z => z (e2.mpr w)), Bool.and_false]
      obtain ⟨σ', f1, h2⟩ := ih (i + 1) σ g f (by omega) (by omega) S hG hg
      refine ⟨σ', f1, ?_⟩
      rw [show xFU = 20000 + 1 from rfl, l_X14_isOnePiece_76, S.R]
      simp (disch := omega) only [nIl0, nIe0, nIg0, nIh0, nIq0, nIl1, nIe1, nIg1, nIh1, nIq1, nIl2, nIe2, nIg2, nIh2, nIq2, nIl3, nIe3, nIg3, nIh3, nIq3, nIl4, nIe4, nIg4, nIh4, nIq4, nIl8, nIe8, nIg8, nIh8, nIq8, nIl40, nIe40, nIg40, nIh40, nIq40, nIl80, nIe80, nIg80, nIh80, nIq80, nIl200, nIe200, nIg200, nIh200, nIq200, nIm1, nIp2, nI_s]
      rw [if_neg (by omega), if_pos (show bI false = 0 from rfl)]
      exact h2
    · rw [ifP_f w, dB_t (fun z => w (e2.mp z))]
      obtain ⟨σ1, f1, h⟩ := ml_closes (n := n) (a := a) F (i := i) (by omega) (l_X14_isOnePiece_25 n f) (cR c) 0 σ g none (-1) xFU (by omega) (xFU_lt (by omega)) S hG hg (Or.inl ⟨rfl, rfl⟩)
      rcases h with ⟨e1, e3⟩ | ⟨g', e1, e3, G1, g1⟩
      · refine ⟨σ1, f1, ?_⟩
        rw [e1]
        show l_X14_isOnePiece_76 n (l_X14_isOnePiece_25 n f) xFU a (nI i) 1 (-1) (nI 0) σ = some (tf False, σ1)
        rw [e3, tf_f (fun h => h)]
      · obtain ⟨σ2, f2, h2⟩ := ih (i + 1) σ1 g' f (by omega) (by omega) (S.w249 f1) G1 g1
        refine ⟨σ2, f1.trans f2, ?_⟩
        rw [e1]
        show l_X14_isOnePiece_76 n (l_X14_isOnePiece_25 n f) xFU a (nI i) 1 (-1) (nI 0) σ = some (tf (onePc c k (i + 1) g'), σ2)
        rw [e3]; exact h2
set_option maxHeartbeats 200000 in
theorem ml_onePg {n : Nat} {a : Nat} {c : Ct} (F : WF c) : ∀ (f r : Nat) (σ : xσ), 8 - r < f → r ≤ cR c → MH σ a c → (∀ q, q < r → sI σ 249 q = nI q) → ∃ σ', Fr (· = 249) σ σ' ∧ l_X14_isOnePiece_2 n f a (nI r) σ = some (tf (One c), σ') := by
  intro f
  have hR := F.r
  induction f with
  | zero => intro r σ h; omega
  | succ f ih =>
    intro r σ h hr S hG
    have hN := F.n
    rw [l_X14_isOnePiece_2, S.R]
    simp (disch := omega) only [nI_e']
    by_cases q : r < cR c
    · rw [if_neg (by omega)]
      simp (disch := omega) only [gd_in, nI_k, nI_s, st]
      have fw : Fr (· = 249) σ (wI σ 249 r (nI r)) := Fr.wI rfl
      obtain ⟨σ', h1, h2⟩ := ih (r + 1) (wI σ 249 r (nI r)) (by omega) (by omega) (S.w249 fw) (fun q' hq' => by
        rw [sI_wI]
        by_cases z : q' = r
        · rw [if_pos ⟨rfl, z⟩, z]
        · rw [if_neg (fun h => z h.2), hG q' (by omega)])
      exact ⟨σ', fw.trans h1, h2⟩
    · rw [if_pos (by omega)]
      exact ml_onePc F (cN c) 0 σ id xFU (by omega) (xFU_lt (by omega)) S (fun q' hq' => hG q' (by omega)) (fun q' hq' => hq')
set_option maxHeartbeats 200000 in
theorem m_isOnePiece {n : Nat} {σ : xσ} {a : Nat} {c : Ct} (S : MH σ a c) (F : WF c) : ∃ σ', Fr (· = 249) σ σ' ∧ f_X14_isOnePiece n a σ = some (tf (One c), σ') := by
  have hR := F.r
  rw [f_X14_isOnePiece, gd_pos S.1]
  exact ml_onePg F xFU 0 σ (xFU_lt (by omega)) (by omega) S (fun q hq => by omega)

/-! VALID shapes: the reference -/
set_option maxHeartbeats 200000 in
theorem Smp_sh {V : Nat → V2} {lo m : Nat} (h : Smp V lo m) : Smp (fun i => V (lo + i)) 0 m := by
  rw [Smp_i] at h ⊢
  obtain ⟨h1, h2, h3, h4⟩ := h
  refine ⟨h1, by show V (lo + (0 + m)) = V (lo + 0); rw [Nat.zero_add, Nat.add_zero]; exact h2, fun i _ b => h3 (lo + i) (by omega) (by omega), fun i j _ b d D X e f g => ?_⟩
  rcases h4 (lo + i) (lo + j) (by omega) (by omega) (by omega) D X e f g with t | t
  · exact Or.inl ⟨by omega, t.2⟩
  · refine Or.inr ⟨by omega, by omega, ?_⟩
    have := t.2.2
    show zro (rel (fun i => V (lo + i)) D X 0)
    exact this
set_option maxHeartbeats 200000 in
theorem rg_Sm {c : Ct} {r k : Nat} (h : SmR c r) (hs : sr c r < cE c r) : ∀ q, q < cR (rgC c r k) → SmR (rgC c r k) q := by
  intro q hq
  have : q < 1 := hq
  have : q = 0 := by omega
  subst this
  have e1 : sr (rgC c r k) 0 = 0 := rfl
  have e2 : ml (rgC c r k) 0 = ml c r := by
    unfold ml
    rw [e1]
    show cE c r - sr c r - 1 - 0 = cE c r - 1 - sr c r
    omega
  unfold SmR
  rw [e1, e2]
  exact Smp_sh h
/-! one ring: just to its left is what the reference says -/
set_option maxHeartbeats 200000 in
theorem LP_one {d : Ct} (G : WF d) (hk : cK d = 2) (h1 : cR d = 1) (hS : SmR d 0) : LPd d := by
  have hp : ∀ D X s, pa (TC d) D X s = pa (TG d 0) D X s := by
    intro D X s
    unfold pa
    rw [XS_TC G (by omega), h1]
    show (false ^^ XS (TG d 0) _) = _
    rw [Bool.false_xor]
    rfl
  intro r e hr h2 h3 D X hD ho
  have : r = 0 := by omega
  subst this
  have ei : iL d 0 = sd (cV d) (sr d 0) (ml d 0) := by
    unfold iL
    rw [decide_eq_true rfl]
    cases sd (cV d) (sr d 0) (ml d 0) <;> rfl
  rw [hp, hp, ei]
  exact ⟨fun hb => sd_forth hS h2 h3 hD ho hb, fun ha => sd_back hS h2 h3 hD ho ha⟩
set_option maxHeartbeats 200000 in
theorem W_rg {c : Ct} (F : WF c) {r k : Nat} (hr : r < cR c) (hk : k = 1 ∨ k = 2) (R : V2 → V2 → Prop) : (∃ i, wy (rgC c r k) i ∧ R (cV (rgC c r k) i) (cV (rgC c r k) (i + 1))) ↔ ∃ i, rgw c r i ∧ R (cV c i) (cV c (i + 1)) := by
  constructor
  · rintro ⟨i, h1, h2⟩
    have := (rgC_wy F hr hk).mp h1
    exact ⟨sr c r + i, ⟨by omega, by omega⟩, h2⟩
  · rintro ⟨i, h1, h2⟩
    unfold rgw at h1
    refine ⟨i - sr c r, (rgC_wy F hr hk).mpr (by omega), ?_⟩
    show R (cV c (sr c r + (i - sr c r))) (cV c (sr c r + (i - sr c r + 1)))
    rw [show sr c r + (i - sr c r) = i by omega, show sr c r + (i - sr c r + 1) = i + 1 by omega]
    exact h2
/-- what isValid of the reference writes -/
def AY (b : Nat) : Prop := AZ b ∨ (241 ≤ b ∧ b ≤ 249)
def FrY (σ σ' : xσ) : Prop := Fr AY σ σ' ∧ (∀ k, 23 ≤ k → sI σ' 233 k = sI σ 233 k)
set_option maxHeartbeats 200000 in
theorem FrY.refl {σ : xσ} : FrY σ σ := ⟨Fr.refl, fun _ _ => rfl⟩
set_option maxHeartbeats 200000 in
theorem FrY.trans {σ1 σ2 σ3 : xσ} (h : FrY σ1 σ2) (k : FrY σ2 σ3) : FrY σ1 σ3 := ⟨h.1.trans k.1, fun j a => (k.2 j a).trans (h.2 j a)⟩
set_option maxHeartbeats 200000 in
theorem FrZ.Y {σ σ' : xσ} (f : FrZ σ σ') : FrY σ σ' := ⟨f.1.mono (fun b hb => Or.inl hb), f.2⟩
set_option maxHeartbeats 200000 in
theorem FrA.Y {σ σ' : xσ} {a : Nat} (f : Fr (A4a a) σ σ') (h : a = 241 ∨ a = 245) : FrY σ σ' := ⟨f.mono (fun b hb => Or.inr (by unfold A4a at hb; omega)), fun k _ => (f 233 (by unfold A4a; omega) k).1⟩
set_option maxHeartbeats 200000 in
theorem Fr249.Y {σ σ' : xσ} (f : Fr (· = 249) σ σ') : FrY σ σ' := ⟨f.mono (fun b hb => Or.inr (by omega)), fun k _ => (f 233 (by omega) k).1⟩
set_option maxHeartbeats 200000 in
theorem MH.y {σ σ' : xσ} {a : Nat} {c : Ct} (S : MH σ a c) (f : FrY σ σ') (ha : 250 ≤ a) : MH σ' a c := S.fr f.1 (by
  intro j hj h
  unfold AY AZ A47 at h
  omega)
set_option maxHeartbeats 200000 in
theorem m_fit1 {n : Nat} {σ : xσ} {b : Nat} {c : Ct} (S : MH σ b c) (F : WF c) (hb : 250 ≤ b) (hS : ∀ r, r < cR c → SmR c r) {r q : Nat} (hr : r < cR c) (hq : q < cR c) : ∃ σ1 σ2 σ3, f_X14_takeRing n 241 b (nI r) 1 σ = some ((), σ1) ∧ f_X14_takeRing n 245 b (nI q) 2 σ1 = some ((), σ2) ∧ f_X14_goAlong n 241 245 σ2 = some ((), σ3) ∧ FrY σ σ3 ∧ sI σ3 233 4 = tf (InW (rgw c r) (cV c) (TG c q)) ∧ sI σ3 233 5 = tf (OuW (rgw c r) (cV c) (TG c q)) ∧ sI σ3 233 6 = tf (AlW (rgw c r) (cV c) (TG c q)) := by
  have k1 : okM 241 := Or.inl rfl
  have k2 : okM 245 := Or.inr (Or.inl rfl)
  obtain ⟨σ1, a1, a2, a3⟩ := m_takeRing (n := n) (k := 1) S F k1 hr (by omega)
  have f1 : FrY σ σ1 := FrA.Y a2 (Or.inl rfl)
  obtain ⟨σ2, b1, b2, b3⟩ := m_takeRing (n := n) (k := 2) (S.y f1 hb) F k2 hq (by omega)
  have f2 := f1.trans (FrA.Y b2 (Or.inr rfl))
  have S2 : MH σ2 241 (rgC c r 1) := a3.fr b2 (fun j hj h => by unfold A4a at h; omega)
  have F1 := rgC_WF F hr (Or.inl rfl)
  have F2 := rgC_WF F hq (k := 2) (Or.inr rfl)
  have sm2 := rg_Sm (k := 2) (hS q hq) (sr_lt F hq)
  obtain ⟨σ3, c1, c2, c3⟩ := m_go2 (n := n) S2 F1 b3 F2 (fun e he => by
    have := (rgC_wy F hr (Or.inl rfl)).mp he
    exact ND_r (hS r hr) (i := sr c r + e) ⟨by omega, by omega⟩) (fun z => absurd (show (1 : Nat) = 2 from z) (by decide)) rfl sm2 (LP_one F2 rfl rfl (sm2 0 (by show 0 < 1; omega)))
  refine ⟨σ1, σ2, σ3, a1, b1, c1, f2.trans c2.Y, ?_, ?_, ?_⟩
  · rw [c3.1]
    refine tf_c ?_
    have e := TC_rg F hq (k := 2) (Or.inr rfl)
    unfold InW
    rw [W_rg F hr (Or.inl rfl) (fun P Q => InP (TC (rgC c q 2)) P Q)]
    exact ⟨fun ⟨i, h1, h2⟩ => ⟨i, h1, (e.eIn _ _).mp h2⟩, fun ⟨i, h1, h2⟩ => ⟨i, h1, (e.eIn _ _).mpr h2⟩⟩
  · rw [c3.2.1]
    refine tf_c ?_
    have e := TC_rg F hq (k := 2) (Or.inr rfl)
    unfold OuW
    rw [W_rg F hr (Or.inl rfl) (fun P Q => OuP (TC (rgC c q 2)) P Q)]
    exact ⟨fun ⟨i, h1, h2⟩ => ⟨i, h1, (e.eOu _ _).mp h2⟩, fun ⟨i, h1, h2⟩ => ⟨i, h1, (e.eOu _ _).mpr h2⟩⟩
  · rw [c3.2.2.1]
    refine tf_c ?_
    have e := TC_rg F hq (k := 2) (Or.inr rfl)
    unfold AlW
    rw [W_rg F hr (Or.inl rfl) (fun P Q => AlP (TC (rgC c q 2)) P Q)]
    exact ⟨fun ⟨i, h1, h2⟩ => ⟨i, h1, (e.eAl _ _).mp h2⟩, fun ⟨i, h1, h2⟩ => ⟨i, h1, (e.eAl _ _).mpr h2⟩⟩
set_option maxHeartbeats 200000 in
theorem ml_fit12 {n : Nat} {b : Nat} {c : Ct} (F : WF c) (hb : 250 ≤ b) (hS : ∀ r, r < cR c → SmR c r) {r : Nat} (hr : r < cR c) (K : Nat → Int32 → xσ → Option (Int32 × xσ)) : ∀ (fu q : Nat) (σ : xσ), cR c - q < fu → q ≤ cR c → MH σ b c →
    ∃ σ', FrY σ σ' ∧ ((∀ q', q ≤ q' → q' < cR c → q' ≠ r → FitP c r q') → l_X14_areRingsRight_12 n K fu b (nI r) (nI q) σ = K b (nI (r + 1)) σ') ∧ (¬ (∀ q', q ≤ q' → q' < cR c → q' ≠ r → FitP c r q') → l_X14_areRingsRight_12 n K fu b (nI r) (nI q) σ = some (0, σ')) := by
  have hR := F.r
  intro fu
  induction fu with
  | zero => intro q σ h; omega
  | succ fu ih =>
    intro q σ hf hq S
    rw [l_X14_areRingsRight_12, S.R]
    by_cases q0 : cR c ≤ q
    · rw [if_pos ((nI_e' (by omega) (by omega)).mpr q0), nI_s]
      exact ⟨σ, FrY.refl, fun _ => rfl, fun h => (h (fun q' a b => by omega)).elim⟩
    · rw [if_neg (fun z => q0 ((nI_e' (by omega) (by omega)).mp z))]
      have hq' : q < cR c := by omega
      by_cases q1 : q = r
      · rw [if_pos (by rw [q1]), b_X14_areRingsRight_90, nI_s]
        obtain ⟨σ', a1, a2, a3⟩ := ih (q + 1) σ (by omega) (by omega) S
        have e : (∀ q', q ≤ q' → q' < cR c → q' ≠ r → FitP c r q') ↔ (∀ q', q + 1 ≤ q' → q' < cR c → q' ≠ r → FitP c r q') := ⟨fun h q' b1 b2 b3 => h q' (by omega) b2 b3, fun h q' b1 b2 b3 => h q' (by omega) b2 b3⟩
        rw [propext e]
        exact ⟨σ', a1, a2, a3⟩
      · rw [if_neg (fun z => q1 ((nI_q' (by omega) (by omega)).mp z))]
        obtain ⟨σ1, σ2, σ3, b1, b2, b3, b4, b5, b6, b7⟩ := m_fit1 (n := n) S F hb hS hr hq'
        rw [b1, bd, b2, bd, b3, bd, b5, b6, b7, nI_s]
        have yes : FitP c r q → ∃ σ', FrY σ σ' ∧ ((∀ q', q ≤ q' → q' < cR c → q' ≠ r → FitP c r q') → l_X14_areRingsRight_12 n K fu b (nI r) (nI (q + 1)) σ3 = K b (nI (r + 1)) σ') ∧ (¬ (∀ q', q ≤ q' → q' < cR c → q' ≠ r → FitP c r q') → l_X14_areRingsRight_12 n K fu b (nI r) (nI (q + 1)) σ3 = some (0, σ')) := by
          intro q2
          obtain ⟨σ', a1, a2, a3⟩ := ih (q + 1) σ3 (by omega) (by omega) (S.y b4 hb)
          have e : (∀ q', q ≤ q' → q' < cR c → q' ≠ r → FitP c r q') ↔ (∀ q', q + 1 ≤ q' → q' < cR c → q' ≠ r → FitP c r q') := ⟨fun h q' b1 b2 b3 => h q' (by omega) b2 b3, fun h q' b1 b2 b3 => by
            by_cases z : q' = q
            · rw [z]; exact q2
            · exact h q' (by omega) b2 b3⟩
          rw [propext e]
          exact ⟨σ', b4.trans a1, a2, a3⟩
        have no : ¬ FitP c r q → ∃ σ', FrY σ σ' ∧ ((∀ q', q ≤ q' → q' < cR c → q' ≠ r → FitP c r q') → some ((0 : Int32), σ3) = K b (nI (r + 1)) σ') ∧ (¬ (∀ q', q ≤ q' → q' < cR c → q' ≠ r → FitP c r q') → some ((0 : Int32), σ3) = some (0, σ')) := fun q2 => ⟨σ3, b4, fun h => (q2 (h q (Nat.le_refl q) hq' q1)).elim, fun _ => rfl⟩
        by_cases z1 : AlW (rgw c r) (cV c) (TG c q)
        · rw [if_neg (tn z1)]
          exact no (fun t => t.2 z1)
        · rw [if_pos (tf_f z1)]
          by_cases z2 : q = 0
          · rw [if_pos (show nI q = 0 by rw [z2]; rfl)]
            by_cases z3 : OuW (rgw c r) (cV c) (TG c q)
            · rw [if_neg (tn z3), b_X14_areRingsRight_88]
              exact no (fun t => by have := t.1; rw [if_pos z2] at this; exact this z3)
            · rw [if_pos (tf_f z3)]
              exact yes ⟨by rw [if_pos z2]; exact z3, z1⟩
          · rw [if_neg (fun y => z2 ((nIq0 (by omega)).mp y))]
            by_cases z3 : InW (rgw c r) (cV c) (TG c q)
            · rw [if_neg (tn z3)]
              exact no (fun t => by have := t.1; rw [if_neg z2] at this; exact this z3)
            · rw [if_pos (tf_f z3)]
              exact yes ⟨by rw [if_neg z2]; exact z3, z1⟩
set_option maxHeartbeats 200000 in
theorem ml_fit2 {n : Nat} {b : Nat} {c : Ct} (F : WF c) (hb : 250 ≤ b) (hS : ∀ r, r < cR c → SmR c r) : ∀ (fu r : Nat) (σ : xσ), cR c - r < fu → r ≤ cR c → MH σ b c → ∃ σ', FrY σ σ' ∧ l_X14_areRingsRight_2 n fu b (nI r) σ = some (tf (∀ r', r ≤ r' → r' < cR c → ∀ q, q < cR c → q ≠ r' → FitP c r' q), σ') := by
  have hR := F.r
  intro fu
  induction fu with
  | zero => intro r σ h; omega
  | succ fu ih =>
    intro r σ hf hr S
    rw [l_X14_areRingsRight_2, S.R]
    by_cases q0 : cR c ≤ r
    · rw [if_pos ((nI_e' (by omega) (by omega)).mpr q0), tf_t (fun r' a b => by omega)]
      exact ⟨σ, FrY.refl, rfl⟩
    · rw [if_neg (fun z => q0 ((nI_e' (by omega) (by omega)).mp z))]
      obtain ⟨σ1, a1, a2, a3⟩ := ml_fit12 (n := n) F hb hS (show r < cR c by omega) (l_X14_areRingsRight_2 n fu) xFU 0 σ (xFU_lt (by omega)) (by omega) S
      rw [lt0]
      by_cases z : ∀ q', 0 ≤ q' → q' < cR c → q' ≠ r → FitP c r q'
      · rw [a2 z]
        obtain ⟨σ', b1, b2⟩ := ih (r + 1) σ1 (by omega) (by omega) (S.y a1 hb)
        refine ⟨σ', a1.trans b1, b2.trans ?_⟩
        congr 2
        exact tf_c ⟨fun h r' c1 c2 q c3 c4 => by
          by_cases y : r' = r
          · subst y; exact z q (by omega) c3 c4
          · exact h r' (by omega) c2 q c3 c4, fun h r' c1 c2 q c3 c4 => h r' (by omega) c2 q c3 c4⟩
      · rw [a3 z, tf_f]
        · exact ⟨σ1, a1, rfl⟩
        · intro h
          exact z (fun q' _ c2 c3 => h r (Nat.le_refl r) (by omega) q' c2 c3)
set_option maxHeartbeats 200000 in
theorem ml_valid42 {n : Nat} {b : Nat} {c : Ct} (F : WF c) (hb : 250 ≤ b) (hk : cK c = 2) (hnd : ∀ k, wy c k → cV c k ≠ cV c (k + 1)) : ∀ (fu r : Nat) (σ : xσ), cR c - r < fu → r ≤ cR c → MH σ b c → (∀ q, q < r → SmR c q) → ∃ σ', FrY σ σ' ∧ l_X14_isValid_42 n fu b (nI r) σ = some (tf ((∀ q, q < cR c → SmR c q) ∧ Fit c ∧ One c), σ') := by
  have hN := F.n
  have hR := F.r
  intro fu
  induction fu with
  | zero => intro r σ h; omega
  | succ fu ih =>
    intro r σ hf hr S hS
    rw [l_X14_isValid_42, S.R]
    by_cases q0 : cR c ≤ r
    · rw [if_pos ((nI_e' (by omega) (by omega)).mpr q0)]
      have hS' : ∀ q, q < cR c → SmR c q := fun q hq => hS q (by omega)
      obtain ⟨σ1, a1, a2⟩ := ml_fit2 (n := n) F hb hS' xFU 1 σ (xFU_lt (by omega)) (by omega) S
      have a2' : f_X14_areRingsRight n b σ = some (tf (Fit c), σ1) := by rw [f_X14_areRingsRight, gd_pos S.1]; exact a2
      rw [a2', bd]
      by_cases z : Fit c
      · rw [if_neg (tn z)]
        obtain ⟨σ2, b1, b2⟩ := m_isOnePiece (n := n) (S.y a1 hb) F
        rw [b2, bd]
        have f2 := a1.trans (Fr249.Y b1)
        by_cases y : One c
        · rw [if_neg (tn y), tf_t ⟨hS', z, y⟩]; exact ⟨σ2, f2, rfl⟩
        · rw [if_pos (tf_f y), tf_f (fun t => y t.2.2)]; exact ⟨σ2, f2, rfl⟩
      · rw [if_pos (tf_f z), tf_f (fun t => z t.2.1)]; exact ⟨σ1, a1, rfl⟩
    · rw [if_neg (fun z => q0 ((nI_e' (by omega) (by omega)).mp z)), m_beginOf S F (by omega), bd]
      have hr' : r < cR c := by omega
      have he := F.e hr'
      have hsl := sr_lt F hr'
      simp (disch := omega) only [gd_in, nI_k, S.E]
      rw [nI_m (by omega)]
      by_cases z1 : cE c r - sr c r < 4
      · rw [if_pos ((nIl4 (by omega)).mpr z1), tf_f]
        · exact ⟨σ, FrY.refl, rfl⟩
        · intro t
          have := (t.1 r hr').1
          unfold ml at this; omega
      · rw [if_neg (fun z => z1 ((nIl4 (by omega)).mp z)), nIm1 (by omega), m_isLike S F (by omega) (by omega), bd]
        have em : sr c r + ml c r = cE c r - 1 := by unfold ml; omega
        by_cases z2 : cV c (sr c r) = cV c (cE c r - 1)
        · rw [if_neg (tn z2), m_isSimple S F hr' (by unfold ml; omega), bd, nI_s]
          have eqv := sgo_Smp (c := c) (lo := sr c r) (m := ml c r) (by unfold ml; omega) (by rw [em]; exact z2.symm) (fun i h1 h2 => hnd i (wy_ring' F (by omega) hr' h1 h2))
          rw [tf_c eqv]
          by_cases z3 : Smp (cV c) (sr c r) (ml c r)
          · rw [if_neg (tn z3)]
            exact ih (r + 1) σ (by omega) (by omega) S (fun q hq => by
              by_cases y : q = r
              · subst y; exact z3
              · exact hS q (by omega))
          · rw [if_pos (tf_f z3), tf_f (fun t => z3 (t.1 r hr'))]; exact ⟨σ, FrY.refl, rfl⟩
        · rw [if_pos (tf_f z2), tf_f]
          · exact ⟨σ, FrY.refl, rfl⟩
          · intro t
            have := (t.1 r hr').2.1
            rw [em] at this
            exact z2 this.symm
set_option maxHeartbeats 200000 in
theorem m_isValid {n : Nat} {σ : xσ} {b : Nat} {c : Ct} (S : MH σ b c) (F : WF c) (hb : 250 ≤ b) : ∃ σ', FrY σ σ' ∧ f_X14_isValid n b σ = some (tf (Val c), σ') := by
  have hN := F.n
  have hR := F.r
  have hK := F.k
  rw [f_X14_isValid, gd_pos S.1, S.K]
  unfold Val
  by_cases k0 : cK c = 0
  · rw [if_pos (show nI (cK c) = 0 by rw [k0]; rfl), tf_t (Or.inl k0)]
    exact ⟨σ, FrY.refl, rfl⟩
  · rw [if_neg (fun z => k0 ((nIq0 (by omega)).mp z)), m_hasSteps S F k0, bd, S.K, S.N]
    by_cases z : ∀ k, wy c k → cV c k ≠ cV c (k + 1)
    · rw [if_neg (tn z)]
      by_cases k1 : cK c = 1
      · rw [if_pos (show nI (cK c) = 1 by rw [k1]; rfl)]
        by_cases n2 : cN c < 2
        · rw [if_pos ((nIl2 (by omega)).mpr n2), tf_f (fun z => by rcases z with z | z | z <;> omega)]
          exact ⟨σ, FrY.refl, rfl⟩
        · rw [if_neg (fun z => n2 ((nIl2 (by omega)).mp z)), tf_t (Or.inr (Or.inl ⟨k1, by omega, fun i hi => z i ((wy_line F k1).mpr hi)⟩))]
          exact ⟨σ, FrY.refl, rfl⟩
      · rw [if_neg (fun z => k1 ((nIq1 (by omega)).mp z)), lt0]
        obtain ⟨σ', a1, a2⟩ := ml_valid42 (n := n) F hb (by omega) z xFU 0 σ (xFU_lt (by omega)) (by omega) S (fun q hq => by omega)
        refine ⟨σ', a1, a2.trans ?_⟩
        congr 2
        exact tf_c ⟨fun h => Or.inr (Or.inr ⟨by omega, h⟩), fun h => by rcases h with h | h | h; exact (k0 h).elim; exact (k1 h.1).elim; exact h.2⟩
    · rw [if_pos (tf_f z), tf_f]
      · exact ⟨σ, FrY.refl, rfl⟩
      · rintro (h | h | h)
        · exact k0 h
        · exact z (fun k hk => h.2.2 k hk.2.1)
        · refine z (fun k hk => ?_)
          obtain ⟨r, r1, r2, r3⟩ := wy_r F hk
          exact ND_r (h.2.1 r r1) ⟨r2, r3⟩

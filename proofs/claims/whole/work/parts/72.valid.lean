/-! VALID shapes: both sides -/
def rgw (c : Ct) (r i : Nat) : Prop := sr c r ≤ i ∧ i < sr c r + ml c r
def FitP (c : Ct) (r q : Nat) : Prop := (if q = 0 then ¬ OuW (rgw c r) (cV c) (TG c q) else ¬ InW (rgw c r) (cV c) (TG c q)) ∧ ¬ AlW (rgw c r) (cV c) (TG c q)
def Fit (c : Ct) : Prop := ∀ r, 1 ≤ r → r < cR c → ∀ q, q < cR c → q ≠ r → FitP c r q
def NDc (c : Ct) : Prop := ∀ i, i + 1 < cN c → ¬ isE c i → cV c i ≠ cV c (i + 1)
def Val (c : Ct) : Prop := cK c = 0 ∨ (cK c = 1 ∧ 2 ≤ cN c ∧ ∀ i, i + 1 < cN c → cV c i ≠ cV c (i + 1)) ∨ (cK c = 2 ∧ (∀ r, r < cR c → SmR c r) ∧ Fit c ∧ One c)
set_option maxHeartbeats 200000 in
theorem bit6 (k : Nat) : Nat.testBit 6 k = true ↔ (k = 1 ∨ k = 2) := by
  by_cases h : k < 3
  · rcases (show k = 0 ∨ k = 1 ∨ k = 2 by omega) with rfl | rfl | rfl <;> decide
  · have : Nat.testBit 6 k = false := Nat.testBit_lt_two_pow (Nat.lt_of_lt_of_le (show 6 < 2 ^ 3 by decide) (Nat.pow_le_pow_right (by decide) (by omega)))
    rw [this]; exact ⟨fun z => Bool.noConfusion z, fun z => by omega⟩
set_option maxHeartbeats 200000 in
theorem bit5 (k : Nat) : Nat.testBit 5 k = true ↔ (k = 0 ∨ k = 2) := by
  by_cases h : k < 3
  · rcases (show k = 0 ∨ k = 1 ∨ k = 2 by omega) with rfl | rfl | rfl <;> decide
  · have : Nat.testBit 5 k = false := Nat.testBit_lt_two_pow (Nat.lt_of_lt_of_le (show 5 < 2 ^ 3 by decide) (Nat.pow_le_pow_right (by decide) (by omega)))
    rw [this]; exact ⟨fun z => Bool.noConfusion z, fun z => by omega⟩
set_option maxHeartbeats 200000 in
theorem wyR_r {c : Ct} (F : WF c) {r i : Nat} (hr : r < cR c) : wyR c (sr c r) (cE c r) i ↔ rgw c r i := by
  have := sr_lt F hr
  unfold wyR rgw ml
  exact ⟨fun h => ⟨h.1, by omega⟩, fun h => ⟨h.1, by omega, isE_ring F hr h.1 (by omega)⟩⟩
set_option maxHeartbeats 200000 in
theorem ND_r {c : Ct} {r : Nat} (h : SmR c r) {i : Nat} (hi : rgw c r i) : cV c i ≠ cV c (i + 1) := ((Smp_i.mp h).2.2.1) i hi.1 hi.2
set_option maxHeartbeats 200000 in
theorem Fr18 {σ σ' : xσ} (f : Fr (· = 18) σ σ') : Fr A4 σ σ' := f.mono (fun b hb => Or.inl hb)
set_option maxHeartbeats 200000 in
theorem SH.a4 {n : Nat} {σ σ' : xσ} {a : Nat} {c : Ct} (S : SH n σ a c) (f : Fr A4 σ σ') : SH n σ' a c := S.fr f (by
  have := S.1.2
  intro j hj h
  unfold A4 at h
  omega)
set_option maxHeartbeats 200000 in
theorem e_fit1 {n : Nat} {σ : xσ} {a : Nat} {c : Ct} (S : SH n σ a c) (F : WF c) (hS : ∀ r, r < cR c → SmR c r) {r q : Nat} (hr : r < cR c) (hq : q < cR c) : ∃ σ1 σ2 m, f_X1_aim n a (nI (sr c q)) (nI (cE c q)) σ = some ((), σ1) ∧ f_X1_scan n a (nI (sr c r)) (nI (cE c r)) (nI (if q = 0 then 6 else 5)) σ1 = some (nI m, σ2) ∧ Fr A4 σ σ2 ∧ m < 16 ∧ (m &&& (if q = 0 then 6 else 5) = 0 ↔ FitP c r q) ∧ Fr A4 σ σ1 := by
  have hsq := sr_lt F hq
  have hsr := sr_lt F hr
  obtain ⟨σ1, a1, a2, a3, a4⟩ := e_aim (n := n) S F hsq (F.e hq).2
  have S1 := S.a18 a2
  have eq' := TR_ring F hq
  obtain ⟨σ2, m, b1, b2, b3, b4, b5⟩ := e_scan (n := n) (en := if q = 0 then 6 else 5) S1 F S1 F a3 a4 (eq'.eGD (GD_TG (hS q hq))) (by omega) (F.e hr).2 (by split <;> omega) (fun i hi => ND_r (hS r hr) ((wyR_r F hr).mp hi))
  refine ⟨σ1, σ2, m, a1, b1, (Fr18 a2).trans b2.1, b3, ?_, Fr18 a2⟩
  have nd : ∀ j, wyR c (sr c r) (cE c r) j → cV c j ≠ cV c (j + 1) := fun i hi => ND_r (hS r hr) ((wyR_r F hr).mp hi)
  have w0 : ∀ j, wyR c (sr c r) (cE c r) j → (wmk c (sr c q) (cE c q) (cV c j) (cV c (j + 1)) 0 ↔ InP (TG c q) (cV c j) (cV c (j + 1))) := fun j hj => (wmk_0 (nd j hj)).trans (eq'.eIn _ _)
  have w1 : ∀ j, wyR c (sr c r) (cE c r) j → (wmk c (sr c q) (cE c q) (cV c j) (cV c (j + 1)) 1 ↔ OuP (TG c q) (cV c j) (cV c (j + 1))) := fun j hj => (wmk_1 (nd j hj)).trans (eq'.eOu _ _)
  have w2 : ∀ j, wyR c (sr c r) (cE c r) j → (wmk c (sr c q) (cE c q) (cV c j) (cV c (j + 1)) 2 ↔ AlP (TG c q) (cV c j) (cV c (j + 1))) := fun j hj => (wmk_2 (nd j hj)).trans (eq'.eAl _ _)
  have e : m &&& (if q = 0 then 6 else 5) = 0 ↔ ¬ ∃ k, Nat.testBit (if q = 0 then 6 else 5) k = true ∧ ∃ j, wyR c (sr c r) (cE c r) j ∧ wmk c (sr c q) (cE c q) (cV c j) (cV c (j + 1)) k := by
    constructor
    · intro z y; exact b4.mpr y z
    · intro z
      by_cases y : m &&& (if q = 0 then 6 else 5) = 0
      · exact y
      · exact (z (b4.mp y)).elim
  rw [e]
  unfold FitP OuW InW AlW
  by_cases q0 : q = 0
  · simp only [if_pos q0]
    constructor
    · intro h
      constructor
      · rintro ⟨i, i1, i2⟩
        have i1' := (wyR_r F hr).mpr i1
        exact h ⟨1, (bit6 1).mpr (Or.inl rfl), i, i1', (w1 i i1').mpr i2⟩
      · rintro ⟨i, i1, i2⟩
        have i1' := (wyR_r F hr).mpr i1
        exact h ⟨2, (bit6 2).mpr (Or.inr rfl), i, i1', (w2 i i1').mpr i2⟩
    · rintro ⟨h1, h2⟩ ⟨k, k1, j, j1, j2⟩
      rcases (bit6 k).mp k1 with rfl | rfl
      · exact h1 ⟨j, (wyR_r F hr).mp j1, (w1 j j1).mp j2⟩
      · exact h2 ⟨j, (wyR_r F hr).mp j1, (w2 j j1).mp j2⟩
  · simp only [if_neg q0]
    constructor
    · intro h
      constructor
      · rintro ⟨i, i1, i2⟩
        have i1' := (wyR_r F hr).mpr i1
        exact h ⟨0, (bit5 0).mpr (Or.inl rfl), i, i1', (w0 i i1').mpr i2⟩
      · rintro ⟨i, i1, i2⟩
        have i1' := (wyR_r F hr).mpr i1
        exact h ⟨2, (bit5 2).mpr (Or.inr rfl), i, i1', (w2 i i1').mpr i2⟩
    · rintro ⟨h1, h2⟩ ⟨k, k1, j, j1, j2⟩
      rcases (bit5 k).mp k1 with rfl | rfl
      · exact h1 ⟨j, (wyR_r F hr).mp j1, (w0 j j1).mp j2⟩
      · exact h2 ⟨j, (wyR_r F hr).mp j1, (w2 j j1).mp j2⟩
set_option maxHeartbeats 200000 in
theorem l_fit12 {n : Nat} {a : Nat} {c : Ct} (F : WF c) (hS : ∀ r, r < cR c → SmR c r) {r : Nat} (hr : r < cR c) (K : Nat → Int32 → xσ → Option (Int32 × xσ)) : ∀ (fu q : Nat) (σ : xσ), cR c - q < fu → q ≤ cR c → SH n σ a c →
    ∃ σ', Fr A4 σ σ' ∧ ((∀ q', q ≤ q' → q' < cR c → q' ≠ r → FitP c r q') → l_X0_doHolesFit_12 n K fu a (nI r) (nI q) σ = K a (nI (r + 1)) σ') ∧ (¬ (∀ q', q ≤ q' → q' < cR c → q' ≠ r → FitP c r q') → l_X0_doHolesFit_12 n K fu a (nI r) (nI q) σ = some (0, σ')) := by
  have hR := F.r
  intro fu
  induction fu with
  | zero => intro q σ h; omega
  | succ fu ih =>
    intro q σ hf hq S
    rw [l_X0_doHolesFit_12, S.R]
    by_cases q0 : cR c ≤ q
    · rw [if_pos ((nI_e' (by omega) (by omega)).mpr q0), nI_s]
      exact ⟨σ, Fr.refl, fun _ => rfl, fun h => (h (fun q' a b => by omega)).elim⟩
    · rw [if_neg (fun z => q0 ((nI_e' (by omega) (by omega)).mp z))]
      have hq' : q < cR c := by omega
      have main : ∃ σ', Fr A4 σ σ' ∧ ((∀ q', q ≤ q' → q' < cR c → q' ≠ r → FitP c r q') → b_X0_doHolesFit_30 n K (l_X0_doHolesFit_12 n K fu) a (nI r) (nI q) (nI (if q = 0 then 6 else 5)) σ = K a (nI (r + 1)) σ') ∧ (¬ (∀ q', q ≤ q' → q' < cR c → q' ≠ r → FitP c r q') → b_X0_doHolesFit_30 n K (l_X0_doHolesFit_12 n K fu) a (nI r) (nI q) (nI (if q = 0 then 6 else 5)) σ = some (0, σ')) := by
        rw [b_X0_doHolesFit_30]
        by_cases q1 : q = r
        · rw [if_pos (by rw [q1]), b_X0_doHolesFit_88, nI_s]
          obtain ⟨σ', a1, a2, a3⟩ := ih (q + 1) σ (by omega) (by omega) S
          have e : (∀ q', q ≤ q' → q' < cR c → q' ≠ r → FitP c r q') ↔ (∀ q', q + 1 ≤ q' → q' < cR c → q' ≠ r → FitP c r q') := ⟨fun h q' b1 b2 b3 => h q' (by omega) b2 b3, fun h q' b1 b2 b3 => h q' (by omega) b2 b3⟩
          rw [propext e]
          exact ⟨σ', a1, a2, a3⟩
        · rw [if_neg (fun z => q1 ((nI_q' (by omega) (by omega)).mp z)), e_ringStart S F (by omega), bd]
          simp (disch := omega) only [gd_in, nI_k, S.E]
          obtain ⟨σ1, σ2, m, b1, b2, b3, b4, b5, b6⟩ := e_fit1 (n := n) S F hS hr hq'
          have S1 := S.a4 b6
          rw [b1, bd, e_ringStart S1 F (by omega), bd]
          rw [S1.E hr, b2, bd, nI_and b4 (by split <;> omega), nI_s]
          have lt : m &&& (if q = 0 then 6 else 5) < 16 := Nat.lt_of_le_of_lt Nat.and_le_left b4
          by_cases q2 : FitP c r q
          · rw [if_pos (show nI (m &&& (if q = 0 then 6 else 5)) = 0 by rw [b5.mpr q2]; rfl)]
            obtain ⟨σ', a1, a2, a3⟩ := ih (q + 1) σ2 (by omega) (by omega) (S.a4 b3)
            have e : (∀ q', q ≤ q' → q' < cR c → q' ≠ r → FitP c r q') ↔ (∀ q', q + 1 ≤ q' → q' < cR c → q' ≠ r → FitP c r q') := ⟨fun h q' b1 b2 b3 => h q' (by omega) b2 b3, fun h q' b1 b2 b3 => by
              by_cases z : q' = q
              · rw [z]; exact q2
              · exact h q' (by omega) b2 b3⟩
            rw [propext e]
            exact ⟨σ', b3.trans a1, a2, a3⟩
          · rw [if_neg (fun z => q2 (b5.mp ((nIq0 (by omega)).mp z)))]
            exact ⟨σ2, b3, fun h => (q2 (h q (Nat.le_refl q) hq' q1)).elim, fun _ => rfl⟩
      by_cases z : q = 0
      · rw [if_pos (show nI q = 0 by rw [z]; rfl)]
        rw [if_pos z] at main
        exact main
      · rw [if_neg (fun y => z ((nIq0 (by omega)).mp y))]
        rw [if_neg z] at main
        exact main
theorem l_fit2 {n : Nat} {a : Nat} {c : Ct} (F : WF c) (hS : ∀ r, r < cR c → SmR c r) : ∀ (fu r : Nat) (σ : xσ), cR c - r < fu → r ≤ cR c → SH n σ a c → ∃ σ', Fr A4 σ σ' ∧ l_X0_doHolesFit_2 n fu a (nI r) σ = some (tf (∀ r', r ≤ r' → r' < cR c → ∀ q, q < cR c → q ≠ r' → FitP c r' q), σ') := by
  have hR := F.r
  intro fu
  induction fu with
  | zero => intro r σ h; omega
  | succ fu ih =>
    intro r σ hf hr S
    rw [l_X0_doHolesFit_2, S.R]
    by_cases q0 : cR c ≤ r
    · rw [if_pos ((nI_e' (by omega) (by omega)).mpr q0), tf_t (fun r' a b => by omega)]
      exact ⟨σ, Fr.refl, rfl⟩
    · rw [if_neg (fun z => q0 ((nI_e' (by omega) (by omega)).mp z))]
      obtain ⟨σ1, a1, a2, a3⟩ := l_fit12 (n := n) F hS (show r < cR c by omega) (l_X0_doHolesFit_2 n fu) xFU 0 σ (xFU_lt (by omega)) (by omega) S
      rw [lt0]
      by_cases z : ∀ q', 0 ≤ q' → q' < cR c → q' ≠ r → FitP c r q'
      · rw [a2 z]
        obtain ⟨σ', b1, b2⟩ := ih (r + 1) σ1 (by omega) (by omega) (S.a4 a1)
        refine ⟨σ', a1.trans b1, b2.trans ?_⟩
        congr 2
        exact tf_c ⟨fun h r' c1 c2 q c3 c4 => by
          by_cases y : r' = r
          · subst y; exact z q (by omega) c3 c4
          · exact h r' (by omega) c2 q c3 c4, fun h r' c1 c2 q c3 c4 => h r' (by omega) c2 q c3 c4⟩
      · rw [a3 z, tf_f]
        · exact ⟨σ1, a1, rfl⟩
        · intro h
          exact z (fun q' _ c2 c3 => h r (Nat.le_refl r) (by omega) q' c2 c3)
set_option maxHeartbeats 200000 in
theorem e_doHolesFit {n : Nat} {σ : xσ} {a : Nat} {c : Ct} (S : SH n σ a c) (F : WF c) (hS : ∀ r, r < cR c → SmR c r) : ∃ σ', Fr A4 σ σ' ∧ f_X0_doHolesFit n a σ = some (tf (Fit c), σ') := by
  have hR := F.r
  rw [f_X0_doHolesFit, gd_pos S.1]
  exact l_fit2 F hS xFU 1 σ (xFU_lt (by omega)) (by omega) S
def A5 (b : Nat) : Prop := A4 b ∨ b = 28
set_option maxHeartbeats 200000 in
theorem l_valid57 {n : Nat} {a : Nat} {c : Ct} (F : WF c) (hk : cK c = 2) : ∀ (fu r : Nat) (σ : xσ), cR c - r < fu → r ≤ cR c → SH n σ a c → (∀ q, q < r → SmR c q) → ∃ σ', Fr A5 σ σ' ∧ l_X0_isValid_57 n fu a (nI r) σ = some (tf ((∀ q, q < cR c → SmR c q) ∧ Fit c ∧ One c), σ') := by
  have hR := F.r
  intro fu
  induction fu with
  | zero => intro r σ h; omega
  | succ fu ih =>
    intro r σ hf hr S hS
    rw [l_X0_isValid_57, S.R]
    by_cases q0 : cR c ≤ r
    · rw [if_pos ((nI_e' (by omega) (by omega)).mpr q0), if_neg (fun z => by have := (nIl1 (by omega)).mp z; omega)]
      have hS' : ∀ q, q < cR c → SmR c q := fun q hq => hS q (by omega)
      obtain ⟨σ1, a1, a2⟩ := e_doHolesFit (n := n) S F hS'
      rw [a2, bd]
      have f1 : Fr A5 σ σ1 := a1.mono (fun b hb => Or.inl hb)
      by_cases z : Fit c
      · rw [if_neg (tn z)]
        obtain ⟨σ2, b1, b2⟩ := e_isOnePiece (n := n) (S.a4 a1) F
        rw [b2, bd]
        have f2 : Fr A5 σ1 σ2 := b1.mono (fun b hb => Or.inr hb)
        by_cases y : One c
        · rw [if_neg (tn y), tf_t ⟨hS', z, y⟩]; exact ⟨σ2, f1.trans f2, rfl⟩
        · rw [if_pos (tf_f y), tf_f (fun t => y t.2.2)]; exact ⟨σ2, f1.trans f2, rfl⟩
      · rw [if_pos (tf_f z), tf_f (fun t => z t.2.1)]; exact ⟨σ1, f1, rfl⟩
    · rw [if_neg (fun z => q0 ((nI_e' (by omega) (by omega)).mp z)), e_ringStart S F (by omega), bd]
      have hr' : r < cR c := by omega
      simp (disch := omega) only [gd_in, nI_k, S.E]
      have hsl := sr_lt F hr'
      rw [e_isRing S F (F.e hr').2 hsl, bd, nI_s, tf_c (isR_Smp (c := c) hsl)]
      have em : cE c r - 1 - sr c r = ml c r := rfl
      rw [em]
      by_cases z : Smp (cV c) (sr c r) (ml c r)
      · rw [if_neg (tn z)]
        exact ih (r + 1) σ (by omega) (by omega) S (fun q hq => by
          by_cases y : q = r
          · subst y; exact z
          · exact hS q (by omega))
      · rw [if_pos (tf_f z), tf_f (fun t => z (t.1 r hr'))]; exact ⟨σ, Fr.refl, rfl⟩
set_option maxHeartbeats 200000 in
theorem e_isValid {n : Nat} {σ : xσ} {a : Nat} {c : Ct} (S : SH n σ a c) (F : WF c) : ∃ σ', Fr A5 σ σ' ∧ f_X0_isValid n a σ = some (tf (Val c), σ') := by
  have hN := F.n
  have hR := F.r
  have hK := F.k
  rw [f_X0_isValid, gd_pos S.1, S.K, S.N]
  unfold Val
  by_cases k0 : cK c = 0
  · have n1 : cN c = 1 := F.2.2.2.2.2.2 k0
    rw [if_pos (show nI (cK c) = 0 by rw [k0]; rfl), if_pos (show nI (cN c) = 1 by rw [n1]; rfl), tf_t (Or.inl k0)]
    exact ⟨σ, Fr.refl, rfl⟩
  · rw [if_neg (fun z => k0 ((nIq0 (by omega)).mp z))]
    by_cases k1 : cK c = 1
    · rw [if_pos (show nI (cK c) = 1 by rw [k1]; rfl)]
      by_cases n2 : cN c < 2
      · rw [if_pos ((nIl2 (by omega)).mpr n2), tf_f (fun z => by rcases z with z | z | z <;> omega)]
        exact ⟨σ, Fr.refl, rfl⟩
      · rw [if_neg (fun z => n2 ((nIl2 (by omega)).mp z)), lt0, e_hasPauses S F (Nat.le_refl _) (by omega), bd]
        by_cases z : ∃ k, 0 ≤ k ∧ k + 1 < cN c ∧ cV c k = cV c (k + 1)
        · rw [if_neg (show ¬ tf (∃ k, 0 ≤ k ∧ k + 1 < cN c ∧ cV c k = cV c (k + 1)) = nI 0 from tn z), tf_f]
          · exact ⟨σ, Fr.refl, rfl⟩
          · obtain ⟨k, _, z1, z2⟩ := z
            rintro (t | t | t)
            · omega
            · exact t.2.2 k z1 z2
            · omega
        · rw [if_pos (show tf (∃ k, 0 ≤ k ∧ k + 1 < cN c ∧ cV c k = cV c (k + 1)) = nI 0 from tf_f z), tf_t (Or.inr (Or.inl ⟨k1, by omega, fun i hi e => z ⟨i, by omega, hi, e⟩⟩))]
          exact ⟨σ, Fr.refl, rfl⟩
    · rw [if_neg (fun z => k1 ((nIq1 (by omega)).mp z)), lt0]
      obtain ⟨σ', a1, a2⟩ := l_valid57 (n := n) F (by omega) xFU 0 σ (xFU_lt (by omega)) (by omega) S (fun q hq => by omega)
      refine ⟨σ', a1, a2.trans ?_⟩
      congr 2
      exact tf_c ⟨fun h => Or.inr (Or.inr ⟨by omega, h⟩), fun h => by rcases h with h | h | h; exact (k0 h).elim; exact (k1 h.1).elim; exact h.2⟩

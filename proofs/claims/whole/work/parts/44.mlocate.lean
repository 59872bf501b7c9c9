/-! where a point lies, by the reference -/
noncomputable def fin (c : Ct) (p : V2) (w o : Bool) : Int := if cK c = 2 then (if w then 0 else if o then 1 else -1) else if w then ifP (tip c p) 0 1 else -1
set_option maxHeartbeats 200000 in
theorem l_mlocE {n : Nat} {σ : xσ} {a : Nat} {c : Ct} (S : MH σ a c) (F : WF c) {p : V2} (hp : bV p) {f i : Nat} {w o : Bool} (hi : cN c ≤ i + 1) (h40 : i ≤ 40) (hk : cK c ≠ 0) : l_X14_locate_41 n (f + 1) a (iI p.1) (iI p.2) (bI w) (bI o) (nI i) σ = some (iI (fin c p w o), σ) := by
  have hN := F.n
  have hK := F.k
  have p1 := hp.1.r
  have p2 := hp.2.r
  have g0 : ∀ {α : Type} (x : Option α), gd (inb 0 40) x = x := fun x => gd_pos (by decide) x
  have c0 : (0 : Int32).toNatClampNeg = 0 := rfl
  rw [l_X14_locate_41, S.N, S.K]
  simp (disch := omega) only [nI_s, nI_e', nIl0, nIe0, nIg0, nIh0, nIq0, nIl1, nIe1, nIg1, nIh1, nIq1, nIl2, nIe2, nIg2, nIh2, nIq2, nIl3, nIe3, nIg3, nIh3, nIq3, nIl4, nIe4, nIg4, nIh4, nIq4, nIl8, nIe8, nIg8, nIh8, nIq8, nIl40, nIe40, nIg40, nIh40, nIq40, nIl80, nIe80, nIg80, nIh80, nIq80, nIl200, nIe200, nIg200, nIh200, nIq200, nIm1, nIp2]
  rw [if_pos hi]
  unfold fin
  by_cases k2 : cK c = 2
  · rw [if_pos k2, if_pos k2]
    cases w <;> cases o <;> rfl
  · rw [if_neg k2, if_neg k2]
    cases w
    · rfl
    · rw [if_neg (show ¬ bI true = 0 by decide), st, m_isOpen S F, bd]
      simp only [if_true]
      by_cases ho : opn c
      · rw [if_neg (tn ho)]
        simp (disch := omega) only [g0, c0, S.X, S.Y, gd_in, nI_k]
        simp (disch := first | assumption | exact F.xr (by omega) | exact F.yr (by omega)) only [iI_eq]
        have q1 : ∀ i, ((cV c i).1 = p.1 ∧ (cV c i).2 = p.2) ↔ cV c i = p := fun i => V2_eq.symm
        by_cases k3 : (cV c 0).1 = p.1 ∧ (cV c 0).2 = p.2
        · rw [if_pos k3.1, if_pos k3.2, ifP_t ⟨ho, Or.inl ((q1 0).mp k3)⟩]; rfl
        · by_cases k4 : (cV c (cN c - 1)).1 = p.1 ∧ (cV c (cN c - 1)).2 = p.2
          · rw [if_pos k4.1, if_pos k4.2, ifP_t ⟨ho, Or.inr ((q1 _).mp k4)⟩]
            split
            · rw [if_neg (fun q => k3 ⟨by assumption, q⟩)]; rfl
            · rfl
          · rw [ifP_f (fun h => by rcases h.2 with z | z; exact k3 ((q1 0).mpr z); exact k4 ((q1 _).mpr z))]
            have w : (if (cV c (cN c - 1)).1 = p.1 then (if (cV c (cN c - 1)).2 = p.2 then some ((0 : Int32), σ) else some (1, σ)) else some (1, σ)) = some (iI 1, σ) := by
              split
              · rw [if_neg (fun q => k4 ⟨by assumption, q⟩)]; rfl
              · rfl
            split
            · rw [if_neg (fun q => k3 ⟨by assumption, q⟩)]; exact w
            · exact w
      · rw [if_pos (tf_f ho), ifP_f (fun h => ho h.1)]; rfl
set_option maxHeartbeats 200000 in
theorem l_mloc {n : Nat} {σ : xσ} {a : Nat} {c : Ct} (S : MH σ a c) (F : WF c) {p : V2} (hp : bV p) (hk : cK c ≠ 0) : ∀ f i w o, 40 - i < f → i ≤ 40 → l_X14_locate_41 n f a (iI p.1) (iI p.2) (bI w) (bI o) (nI i) σ = some (iI (fin c p (w || dB (∃ k, i ≤ k ∧ wy c k ∧ onS (cV c k) (cV c (k + 1)) p)) (o ^^ xs (oddF c p) i (cN c - 1 - i))), σ) := by
  have hN := F.n
  have p1 := hp.1.r
  have p2 := hp.2.r
  intro f
  induction f with
  | zero => intro i w o h; omega
  | succ f ih =>
    intro i w o h hi
    by_cases q : i + 1 < cN c
    · rw [l_X14_locate_41, S.N]
      simp (disch := omega) only [nI_s, nI_e']
      rw [if_neg (by omega), m_isWay S F (by omega), bd]
      have e0 : cN c - 1 - i = (cN c - 1 - (i + 1)) + 1 := by omega
      have fin' : ∀ w' o', (w' || dB (∃ k, i + 1 ≤ k ∧ wy c k ∧ onS (cV c k) (cV c (k + 1)) p)) = (w || dB (∃ k, i ≤ k ∧ wy c k ∧ onS (cV c k) (cV c (k + 1)) p)) → o' = (o ^^ oddF c p i) → l_X14_locate_41 n f a (iI p.1) (iI p.2) (bI w') (bI o') (nI (i + 1)) σ = some (iI (fin c p (w || dB (∃ k, i ≤ k ∧ wy c k ∧ onS (cV c k) (cV c (k + 1)) p)) (o ^^ xs (oddF c p) i (cN c - 1 - i))), σ) := by
        intro w' o' h1 h2
        rw [ih (i + 1) w' o' (by omega) (by omega), h1, h2, e0, xs_head, Bool.xor_assoc]
      have ex : (¬ (wy c i ∧ onS (cV c i) (cV c (i + 1)) p)) → dB (∃ k, i + 1 ≤ k ∧ wy c k ∧ onS (cV c k) (cV c (k + 1)) p) = dB (∃ k, i ≤ k ∧ wy c k ∧ onS (cV c k) (cV c (k + 1)) p) := by
        intro h
        refine dB_c ⟨fun ⟨k, a, b⟩ => ⟨k, by omega, b⟩, fun ⟨k, a, b⟩ => ⟨k, ?_, b⟩⟩
        by_cases z : k = i
        · subst z; exact (h b).elim
        · omega
      by_cases hw : wy c i
      · rw [if_neg (tn hw)]
        have y1 := F.yr (show i < cN c by omega)
        have y2 := F.yr q
        have rr := sgn_r (sid (cV c i) (cV c (i + 1)) p)
        have ef : oddF c p i = ((decide (p.2 < (cV c i).2) != decide (p.2 < (cV c (i + 1)).2)) && (if p.2 < (cV c (i + 1)).2 then decide (0 < sid (cV c i) (cV c (i + 1)) p) else decide (sid (cV c i) (cV c (i + 1)) p < 0))) := by
          unfold oddF; rw [dB_t hw, Bool.true_and, cc_ex]
        have core : ∀ w', (w' || dB (∃ k, i + 1 ≤ k ∧ wy c k ∧ onS (cV c k) (cV c (k + 1)) p)) = (w || dB (∃ k, i ≤ k ∧ wy c k ∧ onS (cV c k) (cV c (k + 1)) p)) → b_X14_locate_84 n (l_X14_locate_41 n f) a (iI p.1) (iI p.2) (bI o) (nI i) (bI w') σ = some (iI (fin c p (w || dB (∃ k, i ≤ k ∧ wy c k ∧ onS (cV c k) (cV c (k + 1)) p)) (o ^^ xs (oddF c p) i (cN c - 1 - i))), σ) := by
          intro w' hw'
          rw [b_X14_locate_84]
          simp (disch := omega) only [S.Y, gd_in, nI_k, b_X14_locate_101, b_X14_locate_119, b_X14_locate_156, b_X14_locate_164, b_X14_locate_172, b_X14_locate_174, nI_s, iI_le, m_side S F q hp, bd]
          have fl : ∀ b : Bool, (o ^^ oddF c p i) = (o ^^ b) → (if bI o = bI b then l_X14_locate_41 n f a (iI p.1) (iI p.2) (bI w') 0 (nI (i + 1)) σ else l_X14_locate_41 n f a (iI p.1) (iI p.2) (bI w') 1 (nI (i + 1)) σ) = some (iI (fin c p (w || dB (∃ k, i ≤ k ∧ wy c k ∧ onS (cV c k) (cV c (k + 1)) p)) (o ^^ xs (oddF c p) i (cN c - 1 - i))), σ) := by
            intro b hb
            cases o <;> cases b
            · exact fin' w' false hw' (by rw [hb]; rfl)
            · exact fin' w' true hw' (by rw [hb]; rfl)
            · exact fin' w' true hw' (by rw [hb]; rfl)
            · exact fin' w' false hw' (by rw [hb]; rfl)
          by_cases a1 : (cV c i).2 ≤ p.2
          · by_cases a2 : (cV c (i + 1)).2 ≤ p.2
            · rw [if_pos a1, if_pos a2, if_pos trivial]
              refine fin' w' o hw' ?_
              rw [ef, decide_eq_false (by omega), decide_eq_false (by omega)]; simp
            · rw [if_pos a1, if_neg a2, if_neg (by decide), if_neg (by omega)]
              have : oddF c p i = decide (0 < sid (cV c i) (cV c (i + 1)) p) := by
                rw [ef, if_pos (by omega), decide_eq_false (show ¬ p.2 < (cV c i).2 by omega), decide_eq_true (show p.2 < (cV c (i + 1)).2 by omega)]; simp
              rcases sgn_c (sid (cV c i) (cV c (i + 1)) p) with ⟨z1, z2⟩ | ⟨z1, z2⟩ | ⟨z1, z2⟩
              · rw [z2, if_neg (by decide)]; exact fl false (by rw [this, decide_eq_false (by omega)])
              · rw [z2, if_neg (by decide)]; exact fl false (by rw [this, decide_eq_false (by omega)])
              · rw [z2, if_pos (by decide)]; exact fl true (by rw [this, decide_eq_true z1])
          · by_cases a2 : (cV c (i + 1)).2 ≤ p.2
            · rw [if_neg a1, if_pos a2, if_neg (by decide), if_pos (by omega)]
              have : oddF c p i = decide (sid (cV c i) (cV c (i + 1)) p < 0) := by
                rw [ef, if_neg (by omega), decide_eq_true (show p.2 < (cV c i).2 by omega), decide_eq_false (show ¬ p.2 < (cV c (i + 1)).2 by omega)]; simp
              rcases sgn_c (sid (cV c i) (cV c (i + 1)) p) with ⟨z1, z2⟩ | ⟨z1, z2⟩ | ⟨z1, z2⟩
              · rw [z2, if_pos (by decide)]; exact fl true (by rw [this, decide_eq_true z1])
              · rw [z2, if_neg (by decide)]; exact fl false (by rw [this, decide_eq_false (by omega)])
              · rw [z2, if_neg (by decide)]; exact fl false (by rw [this, decide_eq_false (by omega)])
            · rw [if_neg a1, if_neg a2, if_pos trivial]
              refine fin' w' o hw' ?_
              rw [ef, decide_eq_true (show p.2 < (cV c i).2 by omega), decide_eq_true (show p.2 < (cV c (i + 1)).2 by omega)]; simp
        cases w
        · rw [if_pos (show bI false = 0 from rfl), m_isOn S F q hp, bd]
          by_cases v : onS (cV c i) (cV c (i + 1)) p
          · rw [if_neg (tn v)]
            exact core true (by rw [dB_t (p := ∃ k, i ≤ k ∧ wy c k ∧ onS (cV c k) (cV c (k + 1)) p) ⟨i, Nat.le_refl i, hw, v⟩]; rfl)
          · rw [if_pos (tf_f v)]
            exact core false (by rw [ex (fun h => v h.2)])
        · rw [if_neg (show ¬ bI true = 0 by decide)]
          exact core true rfl
      · rw [if_pos (tf_f hw), b_X14_locate_174]
        simp only [nI_s]
        refine fin' w o (by rw [ex (fun h => hw h.1)]) ?_
        unfold oddF; rw [dB_f hw]; simp
    · rw [l_mlocE S F hp (by omega) hi hk]
      rw [show cN c - 1 - i = 0 by omega, dB_f (p := ∃ k, i ≤ k ∧ wy c k ∧ onS (cV c k) (cV c (k + 1)) p) (fun ⟨k, a, b, d⟩ => by have := b.2.1; omega), xs]
      simp
set_option maxHeartbeats 200000 in
theorem m_locate {n : Nat} {σ : xσ} {a : Nat} {c : Ct} (S : MH σ a c) (F : WF c) {p : V2} (hp : bV p) : f_X14_locate n a (iI p.1) (iI p.2) σ = some (iI (loc c p), σ) := by
  have hN := F.n
  have hK := F.k
  have p1 := hp.1.r
  have p2 := hp.2.r
  have g0 : ∀ {α : Type} (x : Option α), gd (inb 0 40) x = x := fun x => gd_pos (by decide) x
  have c0 : (0 : Int32).toNatClampNeg = 0 := rfl
  rw [f_X14_locate, gd_pos S.1, S.K]
  simp (disch := omega) only [nIl0, nIe0, nIg0, nIh0, nIq0, nIl1, nIe1, nIg1, nIh1, nIq1, nIl2, nIe2, nIg2, nIh2, nIq2, nIl3, nIe3, nIg3, nIh3, nIq3, nIl4, nIe4, nIg4, nIh4, nIq4, nIl8, nIe8, nIg8, nIh8, nIq8, nIl40, nIe40, nIg40, nIh40, nIq40, nIl80, nIe80, nIg80, nIh80, nIq80, nIl200, nIe200, nIg200, nIh200, nIq200, nIm1, nIp2]
  unfold loc
  by_cases k0 : cK c = 0
  · rw [if_pos k0, if_pos k0]
    simp (disch := omega) only [g0, c0, S.X, S.Y, gd_in, nI_k]
    simp (disch := first | assumption | exact F.xr (by omega) | exact F.yr (by omega)) only [iI_eq]
    by_cases h : cV c 0 = p
    · rw [if_pos (V2_eq.mp h).1, if_pos (V2_eq.mp h).2, ifP_t h]; rfl
    · rw [ifP_f h]
      split
      · rw [if_neg (fun q => h (V2_eq.mpr ⟨by assumption, q⟩))]; rfl
      · rfl
  · rw [if_neg k0, if_neg k0]
    have := l_mloc (n := n) S F hp k0 xFU 0 false false (xFU_lt (by omega)) (by omega)
    rw [show l_X14_locate_41 n xFU a (iI p.1) (iI p.2) 0 0 0 σ = _ from this]
    have e : dB (∃ k, 0 ≤ k ∧ wy c k ∧ onS (cV c k) (cV c (k + 1)) p) = dB (onA c p) := dB_c ⟨fun ⟨k, _, b⟩ => ⟨k, b⟩, fun ⟨k, b⟩ => ⟨k, by omega, b⟩⟩
    rw [e, Bool.false_or, Bool.false_xor, Nat.sub_zero]
    congr 2
    unfold fin
    have hi : (cK c = 1) ↔ ¬ (cK c = 2) := by omega
    by_cases k2 : cK c = 2
    · rw [if_pos k2, if_neg (show ¬ cK c = 1 by omega)]
      by_cases h : onA c p
      · rw [dB_t h, ifP_t h]; rfl
      · rw [dB_f h, ifP_f h]; rfl
    · rw [if_neg k2, if_pos (show cK c = 1 by omega)]
      by_cases h : onA c p
      · rw [dB_t h, ifP_t h]; rfl
      · rw [dB_f h, ifP_f h]; rfl

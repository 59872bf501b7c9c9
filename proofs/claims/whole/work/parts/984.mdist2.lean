/-! distance of the reference: the loop -/
set_option maxHeartbeats 200000 in
theorem okE_3 {a : Nat} (h : okE a) : a % 3 = 1 ∧ 250 ≤ a ∧ a < 2476 ∧ (a < 259 ∨ 1876 ≤ a) := by unfold okE at h; omega
set_option maxHeartbeats 200000 in
theorem EV.fr {σ σ' : xσ} {a : Nat} {x : Nat × Nat} {A : Nat → Prop} (h : EV σ a x) (f : Fr A σ σ') (h1 : ¬ A (a + 1)) (h2 : ¬ A (a + 2)) : EV σ' a x := ⟨h.1.fr f h1, h.2.1.fr f h2, h.2.2⟩
set_option maxHeartbeats 200000 in
theorem m_takeD {n a b : Nat} {σ : xσ} {x : Nat × Nat} (oa : okE a) (ob : okE b) (hab : a ≠ b) (h : EV σ b x) : ∃ σ', f_X11_take n a b σ = some ((), σ') ∧ Fr (fun t => t = a + 1 ∨ t = a + 2) σ σ' ∧ EV σ' a x := by
  have la := oa.l
  have lb := ob.l
  have a3 := okE_3 oa
  have b3 := okE_3 ob
  obtain ⟨σ1, c1, c2, c3⟩ := m_copy (n := n) la.1 lb.1 (by omega) h.1
  obtain ⟨σ2, d1, d2, d3⟩ := m_copy (n := n) la.2 lb.2 (by omega) (h.2.1.fr c2 (by omega))
  refine ⟨σ2, ?_, (c2.mono (fun t ht => Or.inl ht)).trans (d2.mono (fun t ht => Or.inr ht)), c3.fr d2 (by omega), d3, h.2.2⟩
  rw [f_X11_take, gd_pos oa, gd_pos ob, c1, bd, d1, bd]
set_option maxHeartbeats 200000 in
theorem pr_b {x y : Nat} (hx : x < 85070591730234615865843651857942052864) (hy : y < 9223372036854775808) : x * y < 268435456 ^ 8 := by
  have : x * y ≤ 85070591730234615865843651857942052864 * 9223372036854775808 := Nat.mul_le_mul (by omega) (by omega)
  have e : 85070591730234615865843651857942052864 * 9223372036854775808 < 268435456 ^ 8 := by decide
  exact Nat.lt_of_le_of_lt this e
set_option maxHeartbeats 200000 in
theorem m_cmpD {n a b : Nat} {σ : xσ} {x y : Nat × Nat} (oa : okE a) (ob : okE b) (h : EV σ a x) (k : EV σ b y) : ∃ σ', f_X14_compare__ n a b σ = some (cmN (x.1 * y.2) (y.1 * x.2), σ') ∧ Fr A47 σ σ' := by
  have la := oa.l
  have lb := ob.l
  have a3 := okE_3 oa
  have b3 := okE_3 ob
  obtain ⟨σ1, c1, c2, c3⟩ := m_times (n := n) ok236 la.1 lb.2 (by omega) (by omega) h.1 k.2.1
  obtain ⟨σ2, d1, d2, d3⟩ := m_times (n := n) ok237 lb.1 la.2 (by omega) (by omega) (k.1.fr c2 (by omega)) (h.2.1.fr c2 (by omega))
  refine ⟨σ2, ?_, (c2.mono (fun t ht => by unfold A47; omega)).trans (d2.mono (fun t ht => by unfold A47; omega))⟩
  rw [f_X14_compare__, gd_pos oa, gd_pos ob, c1, bd, d1, bd, m_compare ok236 ok237 (c3.fr d2 (by omega)) d3 (pr_b h.2.2.1 k.2.2.2.1) (pr_b k.2.2.1 h.2.2.2.1), bd]
def CrI (c : Ct) (p : V2) (i : Nat) (y : Nat × Nat) : Prop := y = (sqN p (cV c 0), 1) ∨ ∃ k, k < i ∧ wy c k ∧ y = wyD p (cV c k) (cV c (k + 1))
set_option maxHeartbeats 200000 in
theorem CrI_s (c : Ct) (p : V2) (i : Nat) (y : Nat × Nat) : CrI c p (i + 1) y ↔ (CrI c p i y ∨ (wy c i ∧ y = wyD p (cV c i) (cV c (i + 1)))) := by
  unfold CrI
  constructor
  · rintro (h | ⟨k, h1, h2, h3⟩)
    · exact Or.inl (Or.inl h)
    · by_cases z : k = i
      · subst z; exact Or.inr ⟨h2, h3⟩
      · exact Or.inl (Or.inr ⟨k, by omega, h2, h3⟩)
  · rintro ((h | ⟨k, h1, h2, h3⟩) | ⟨h2, h3⟩)
    · exact Or.inl h
    · exact Or.inr ⟨k, by omega, h2, h3⟩
    · exact Or.inr ⟨i, by omega, h2, h3⟩
def AT (t b : Nat) : Prop := AH b ∨ b = t + 1 ∨ b = t + 2
set_option maxHeartbeats 200000 in
theorem MH.t {σ σ' : xσ} {a t : Nat} {c : Ct} (S : MH σ a c) (ot : okE t) (f : Fr (AT t) σ σ') : MH σ' a c := S.fr f (by
  have h1 := S.1
  have h2 := okE_3 ot
  intro j hj h
  unfold AT AH at h
  unfold okM at h1
  omega)
set_option maxHeartbeats 200000 in
theorem l_dist61 {n : Nat} {a t : Nat} {c : Ct} (ot : okE t) (h250 : t ≠ 250) (F : WF c) {p : V2} (hp : bV p) : ∀ f i (σ : xσ) x, 40 - i < f → i ≤ 40 → MH σ a c → EV σ t x → Mn (CrI c p i) x → ∃ σ' x', l_X14_distance_61 n f a (iI p.1) (iI p.2) t (nI i) σ = some ((), σ') ∧ Fr (AT t) σ σ' ∧ EV σ' t x' ∧ Mn (CrI c p (max i (cN c - 1))) x' := by
  have hN := F.n
  have t3 := okE_3 ot
  have o250 : okE 250 := by unfold okE; omega
  intro f
  induction f with
  | zero => intro i σ x h; omega
  | succ f ih =>
    intro i σ x h hi S E M
    rw [l_X14_distance_61, S.N, nI_s]
    by_cases q : i + 1 < cN c
    · -- the next round
      have nx : ∀ (σ1 : xσ) x1, Fr (AT t) σ σ1 → EV σ1 t x1 → Mn (CrI c p (i + 1)) x1 → ∃ σ' x', l_X14_distance_61 n f a (iI p.1) (iI p.2) t (nI (i + 1)) σ1 = some ((), σ') ∧ Fr (AT t) σ σ' ∧ EV σ' t x' ∧ Mn (CrI c p (max i (cN c - 1))) x' := by
        intro σ1 x1 f1 e1 m1
        obtain ⟨σ', x', r1, r2, r3, r4⟩ := ih (i + 1) σ1 x1 (by omega) (by omega) (S.t ot f1) e1 m1
        rw [show max (i + 1) (cN c - 1) = max i (cN c - 1) by omega] at r4
        exact ⟨σ', x', r1, f1.trans r2, r3, r4⟩
      rw [if_neg (fun y => by have := (nI_e' (by omega) (by omega)).mp y; omega), m_isWay S F (by omega), bd]
      by_cases w : wy c i
      · obtain ⟨σ1, a1, a2, a3⟩ := m_fromWay (n := n) S F hp q
        have f1 : Fr (AT t) σ σ1 := a2.mono (fun b hb => Or.inl hb)
        have E1 : EV σ1 t x := E.fr a2 (by unfold AH; omega) (by unfold AH; omega)
        obtain ⟨σ2, b1, b2⟩ := m_cmpD (n := n) o250 ot a3 E1
        have f2 : Fr (AT t) σ1 σ2 := b2.mono (fun b hb => Or.inl (Or.inr (Or.inr hb)))
        have E2 : EV σ2 t x := E1.fr b2 (by unfold A47; omega) (by unfold A47; omega)
        have H2 : EV σ2 250 (wyD p (cV c i) (cV c (i + 1))) := a3.fr b2 (by unfold A47; omega) (by unfold A47; omega)
        rw [if_neg (fun z => (tf_0.mp z) w), a1, bd, b1, bd]
        have nxt : ∀ x', Stq (fun y => y = wyD p (cV c i) (cV c (i + 1))) x x' → Mn (CrI c p (i + 1)) x' := by
          intro x' s
          refine Mn_c (fun y => ?_) (Mn_stq E.2.2.2.2 M s)
          rw [CrI_s]
          exact ⟨fun h => h.imp id (fun e => ⟨w, e⟩), fun h => h.imp id (fun e => e.2)⟩
        by_cases z : (wyD p (cV c i) (cV c (i + 1))).1 * x.2 < x.1 * (wyD p (cV c i) (cV c (i + 1))).2
        · obtain ⟨σ3, d1, d2, d3⟩ := m_takeD (n := n) ot o250 h250 H2
          rw [if_neg (fun y => cmN_ge.mp y z), d1, bd, b_X14_distance_115, nI_s]
          refine nx σ3 _ ((f1.trans f2).trans (d2.mono (fun b hb => Or.inr hb))) d3 (nxt _ ⟨Or.inr rfl, ?_, fun y hy => by rw [hy]; exact fle_rf _⟩)
          unfold fle; omega
        · rw [if_pos (cmN_ge.mpr z)]
          refine nx σ2 x (f1.trans f2) E2 (nxt _ ⟨Or.inl rfl, fle_rf _, fun y hy => ?_⟩)
          rw [hy]; unfold fle; omega
      · rw [if_pos (tf_f w), b_X14_distance_115, nI_s]
        refine nx σ x Fr.refl E (Mn_c (fun y => ?_) M)
        rw [CrI_s]
        exact ⟨fun h => Or.inl h, fun h => by rcases h with h | h; exact h; exact (w h.1).elim⟩
    · rw [if_pos ((nI_e' (by omega) (by omega)).mpr (by omega)), show max i (cN c - 1) = i by omega]
      exact ⟨σ, x, rfl, Fr.refl, E, M⟩
def DRn (c : Ct) (p : V2) (x : Nat × Nat) : Prop := if 0 ≤ loc c p then x = (0, 1) else Mn (CrI c p (cN c - 1)) x
set_option maxHeartbeats 200000 in
theorem m_distance {n : Nat} {σ : xσ} {a t : Nat} {c : Ct} (ot : okE t) (h250 : t ≠ 250) (S : MH σ a c) (F : WF c) {p : V2} (hp : bV p) : ∃ σ' x, f_X14_distance n a (iI p.1) (iI p.2) t σ = some ((), σ') ∧ Fr (AT t) σ σ' ∧ EV σ' t x ∧ DRn c p x := by
  have hN := F.n
  have b0 := F.b (show 0 < cN c by omega)
  have o250 : okE 250 := by unfold okE; omega
  have g0 : ∀ {α : Type} (x : Option α), gd (inb 0 40) x = x := fun x => gd_pos (by decide) x
  have sx : (sI σ (a + 2) (0 : Int32).toNatClampNeg).toInt64 = jJ (cV c 0).1 := by rw [← iI_64 b0.1.r, ← S.X (i := 0) (by omega)]; rfl
  have sy : (sI σ (a + 3) (0 : Int32).toNatClampNeg).toInt64 = jJ (cV c 0).2 := by rw [← iI_64 b0.2.r, ← S.Y (i := 0) (by omega)]; rfl
  have wx : (iI p.1).toInt64 - jJ (cV c 0).1 = jJ (sub2 p (cV c 0)).1 := by rw [iI_64 hp.1.r, jJ_sub]; rfl
  have wy' : (iI p.2).toInt64 - jJ (cV c 0).2 = jJ (sub2 p (cV c 0)).2 := by rw [iI_64 hp.2.r, jJ_sub]; rfl
  rw [f_X14_distance, gd_pos S.1, gd_pos ot, m_locate S F hp, bd]
  unfold DRn
  by_cases z : loc c p < 0
  · rw [if_pos ((loc_neg c _).mpr z), g0, g0, sx, sy, wx, wy']
    obtain ⟨σ1, a1, a2, a3⟩ := m_fromPoint (n := n) (σ := σ) hp b0
    obtain ⟨σ2, d1, d2, d3⟩ := m_takeD (n := n) ot o250 h250 a3
    have f1 : Fr (AT t) σ σ2 := (a2.mono (fun b hb => Or.inl hb)).trans (d2.mono (fun b hb => Or.inr hb))
    obtain ⟨σ', x', r1, r2, r3, r4⟩ := l_dist61 (n := n) ot h250 F hp xFU 0 σ2 _ (xFU_lt (by omega)) (by omega) (S.t ot f1) d3 ⟨Or.inl rfl, fun y hy => by
      rcases hy with hy | ⟨k, hk, _⟩
      · rw [hy]; exact fle_rf _
      · omega⟩
    rw [show nI 0 = 0 from rfl] at r1
    rw [a1, bd, d1, bd, r1]
    refine ⟨σ', x', rfl, f1.trans r2, r3, ?_⟩
    rw [if_neg (by omega)]
    rw [show max 0 (cN c - 1) = cN c - 1 by omega] at r4
    exact r4
  · rw [if_neg (fun y => z ((loc_neg c _).mp y)), show (0 : Int64) = lN 0 from rfl, show (1 : Int64) = lN 1 from rfl]
    obtain ⟨σ1, a1, a2, a3⟩ := m_hereIs (n := n) (σ := σ) (x := 0) (y := 1) (by omega) (by omega) (by omega)
    obtain ⟨σ2, d1, d2, d3⟩ := m_takeD (n := n) ot o250 h250 a3
    rw [a1, bd, d1, bd]
    refine ⟨σ2, (0, 1), rfl, (a2.mono (fun b hb => Or.inl hb)).trans (d2.mono (fun b hb => Or.inr hb)), d3, ?_⟩
    rw [if_pos (by omega)]

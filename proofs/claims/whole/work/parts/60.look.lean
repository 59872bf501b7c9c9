/-! THE REFERENCE: half-ways at a point -/
def H2 : Type := V2 → Bool → Prop
/-- what lookRound knows of the half-ways H that it has seen -/
def LK (σ : xσ) (s : V2) (H : V2 → Bool → Prop) : Prop :=
  sI σ 233 16 = tf (∃ g l, H g l) ∧ sI σ 233 17 = tf (∃ g l, H g l ∧ dir g s) ∧
  ((∃ g l, H g l ∧ dir g s) → ∃ g l, H g l ∧ dir g s ∧ sI σ 233 18 = bI l) ∧
  ((¬ ∃ g l, H g l ∧ ¬ dir g s) → sI σ 233 19 = nI 3) ∧
  ((∃ g l, H g l ∧ ¬ dir g s) → ∃ g l, H g l ∧ ¬ dir g s ∧ sI σ 233 19 = nI (hal s g) ∧ sJ σ 233 20 = jJ g.1 ∧ sJ σ 233 21 = jJ g.2 ∧ sI σ 233 22 = bI l ∧ b31 g.1 ∧ b31 g.2 ∧ ∀ h l', H h l' → ¬ dir h s → hal s g < hal s h ∨ (hal s g = hal s h ∧ crs g h ≤ 0))
set_option maxHeartbeats 200000 in
theorem crs_self (h : V2) : crs h h = 0 := by unfold crs; grind
set_option maxHeartbeats 200000 in
theorem hal_lt (s g : V2) : hal s g < 3 := by unfold hal; split; omega; split <;> omega
set_option maxHeartbeats 200000 in
theorem plu (n g h s : V2) : crs n g * crs h s - crs n h * crs g s + crs n s * crs g h = 0 := by unfold crs; grind
set_option maxHeartbeats 200000 in
theorem hal_near {s n g h : V2} (h1 : hal s n = hal s g) (h2 : hal s n = hal s h) (h3 : 0 < crs n g) (h4 : crs n h ≤ 0) (dn : ¬ dir n s) (dg : ¬ dir g s) (nzs : nz s) : crs g h ≤ 0 := by
  have p := plu n g h s
  unfold hal at h1 h2
  by_cases q : crs n s > 0
  · rw [if_pos q] at h1 h2
    have qg : crs g s > 0 := by by_cases z : crs g s > 0; exact z; rw [if_neg z] at h1; split at h1 <;> omega
    have qh : crs h s > 0 := by by_cases z : crs h s > 0; exact z; rw [if_neg z] at h2; split at h2 <;> omega
    have t1 := Int.mul_pos h3 qh
    have t2 : crs n h * crs g s ≤ 0 := Int.mul_nonpos_of_nonpos_of_nonneg h4 (by omega)
    by_cases z : crs g h ≤ 0
    · exact z
    · have := Int.mul_pos q (show 0 < crs g h by omega); omega
  · rw [if_neg q] at h1 h2
    by_cases q0 : crs n s = 0
    · rw [if_pos q0] at h1 h2
      have qg : crs g s = 0 := by
        by_cases z : crs g s > 0
        · rw [if_pos z] at h1; omega
        · rw [if_neg z] at h1
          by_cases y : crs g s = 0
          · exact y
          · rw [if_neg y] at h1; omega
      exfalso
      -- both along the line of s: no turn between them
      have e : crs n g * dt s s = dt n s * crs s g - crs s n * dt g s := by unfold crs dt; grind
      have z1 : crs s g = 0 := by rw [crs_sw, qg]; rfl
      have z2 : crs s n = 0 := by rw [crs_sw, q0]; rfl
      rw [z1, z2] at e
      have := Int.mul_pos h3 (dt_pos nzs)
      omega
    · rw [if_neg q0] at h1 h2
      have qg : crs g s < 0 := by
        by_cases z : crs g s > 0
        · rw [if_pos z] at h1; omega
        · rw [if_neg z] at h1
          by_cases y : crs g s = 0
          · rw [if_pos y] at h1; omega
          · omega
      have qh : crs h s < 0 := by
        by_cases z : crs h s > 0
        · rw [if_pos z] at h2; omega
        · rw [if_neg z] at h2
          by_cases y : crs h s = 0
          · rw [if_pos y] at h2; omega
          · omega
      have t1 : crs n g * crs h s < 0 := Int.mul_neg_of_pos_of_neg h3 qh
      have t2 : 0 ≤ crs n h * crs g s := Int.mul_nonneg_of_nonpos_of_nonpos h4 (by omega)
      by_cases z : crs g h ≤ 0
      · exact z
      · have : crs n s * crs g h < 0 := Int.mul_neg_of_neg_of_pos (by omega) (by omega)
        omega
/-- all but what lookRound notes -/
def FrL (σ σ' : xσ) : Prop := Fr (fun b => b = 233 ∨ A47 b) σ σ' ∧ (∀ k, k < 8 ∨ k = 13 ∨ 23 ≤ k → sI σ' 233 k = sI σ 233 k)
set_option maxHeartbeats 200000 in
theorem FrL.refl {σ : xσ} : FrL σ σ := ⟨Fr.refl, fun _ _ => rfl⟩
set_option maxHeartbeats 200000 in
theorem FrL.trans {σ1 σ2 σ3 : xσ} (h : FrL σ1 σ2) (k : FrL σ2 σ3) : FrL σ1 σ3 := ⟨h.1.trans k.1, fun j a => (k.2 j a).trans (h.2 j a)⟩
set_option maxHeartbeats 200000 in
theorem FrL.w {σ : xσ} {k : Nat} {v : Int32} (h : 16 ≤ k ∧ k ≤ 22) : FrL σ (wI σ 233 k v) := ⟨Fr.wI (Or.inl rfl), fun j a => by rw [sI_wI, if_neg (by omega)]⟩
set_option maxHeartbeats 200000 in
theorem FrL.wJ {σ : xσ} {k : Nat} {v : Int64} : FrL σ (wJ σ 233 k v) := ⟨Fr.wJ (Or.inl rfl), fun j a => rfl⟩
set_option maxHeartbeats 200000 in
theorem FrW.L {σ σ' : xσ} (f : FrW σ σ') : FrL σ σ' := ⟨f.1.mono (fun b hb => Or.inl hb), fun k a => f.2.1 k (by omega) (by omega)⟩
set_option maxHeartbeats 200000 in
theorem Fr47.L {σ σ' : xσ} (f : Fr A47 σ σ') : FrL σ σ' := ⟨f.mono (fun b hb => Or.inr hb), fun k a => (f 233 (by unfold A47; omega) k).1⟩
set_option maxHeartbeats 200000 in
theorem LK.fw {σ σ' : xσ} {s : V2} {H : V2 → Bool → Prop} (h : LK σ s H) (f : FrW σ σ') : LK σ' s H := by
  obtain ⟨h1, h2, h3, h4, h5⟩ := h
  refine ⟨(f.2.1 16 (by omega) (by omega)).trans h1, (f.2.1 17 (by omega) (by omega)).trans h2, fun z => ?_, fun z => (f.2.1 19 (by omega) (by omega)).trans (h4 z), fun z => ?_⟩
  · obtain ⟨g, l, a, b, c⟩ := h3 z
    exact ⟨g, l, a, b, (f.2.1 18 (by omega) (by omega)).trans c⟩
  · obtain ⟨g, l, a, b, c, d, e, i, j⟩ := h5 z
    exact ⟨g, l, a, b, (f.2.1 19 (by omega) (by omega)).trans c, (f.2.2 20 (by omega) (by omega) (by omega)).trans d, (f.2.2 21 (by omega) (by omega) (by omega)).trans e, (f.2.1 22 (by omega) (by omega)).trans i, j⟩
set_option maxHeartbeats 200000 in
theorem LK.f47 {σ σ' : xσ} {s : V2} {H : V2 → Bool → Prop} (h : LK σ s H) (f : Fr A47 σ σ') : LK σ' s H := by
  have fi : ∀ k, sI σ' 233 k = sI σ 233 k := fun k => (f 233 (by unfold A47; omega) k).1
  have fj : ∀ k, sJ σ' 233 k = sJ σ 233 k := fun k => (f 233 (by unfold A47; omega) k).2.1
  unfold LK at *
  simp only [fi, fj]
  exact h
set_option maxHeartbeats 200000 in
theorem LK.cg {σ : xσ} {s : V2} {H K : V2 → Bool → Prop} (h : LK σ s H) (e : ∀ g l, H g l ↔ K g l) : LK σ s K := by
  have : H = K := funext (fun g => funext (fun l => propext (e g l)))
  rw [← this]; exact h
set_option maxHeartbeats 200000 in
theorem m_begins {n : Nat} {σ : xσ} {s g : V2} {l : Bool} {H : V2 → Bool → Prop} (L : LK σ s H) (hs : nz s) (b1 : b31 g.1) (b2 : b31 g.2) (b3 : b31 s.1) (b4 : b31 s.2) : ∃ σ', f_X14_begins n (jJ g.1) (jJ g.2) (bI l) (jJ s.1) (jJ s.2) σ = some ((), σ') ∧ FrL σ σ' ∧ LK σ' s (fun g' l' => H g' l' ∨ (g' = g ∧ l' = l)) := by
  obtain ⟨L1, L2, L3, L4, L5⟩ := L
  have gb : ∀ {α : Type} (x : Option α), gd (bI l = 0 ∨ bI l = 1) x = x := fun x => gd_pos (by cases l; exact Or.inl rfl; exact Or.inr rfl) x
  have rc : R64 (crs g s) := crs_r b1 b4 b2 b3
  have rd : R64 (dt g s) := dot_r b1 b3 b2 b4
  rw [f_X14_begins, st, m_cross, bd]
  have ec : g.1 * s.2 - g.2 * s.1 = crs g s := rfl
  have ed : g.1 * s.1 + g.2 * s.2 = dt g s := rfl
  rw [ec, m_sign rc, bd, m_dot, ed]
  have there : ∃ g' l', H g' l' ∨ (g' = g ∧ l' = l) := ⟨g, l, Or.inr ⟨rfl, rfl⟩⟩
  have e16 : ∀ σ1 : xσ, sI σ1 233 16 = 1 → sI σ1 233 16 = tf (∃ g' l', H g' l' ∨ (g' = g ∧ l' = l)) := fun σ1 h => by rw [h, tf_t there]
  have f0 : FrL σ (wI σ 233 16 1) := FrL.w (by omega)
  have k0 : ∀ k, k ≠ 16 → sI (wI σ 233 16 1) 233 k = sI σ 233 k := fun k hk => by rw [sI_wI, if_neg (by omega)]
  have k16 : sI (wI σ 233 16 1) 233 16 = 1 := by rw [sI_wI, if_pos ⟨rfl, rfl⟩]
  have j0 : ∀ k, sJ (wI σ 233 16 1) 233 k = sJ σ 233 k := fun k => rfl
  generalize wI σ 233 16 1 = σ0 at *
  by_cases D : dir g s
  · -- along
    have z : sgn (crs g s) = 0 := by rw [D.1]; rfl
    rw [z, if_pos (show iI 0 = 0 from rfl), bd]
    simp only [lz_le rd]
    rw [if_neg (by have := D.2; omega), st, gb, st]
    refine ⟨_, rfl, (f0.trans (FrL.w (by omega))).trans (FrL.w (by omega)), e16 _ ?_, ?_, fun _ => ⟨g, l, Or.inr ⟨rfl, rfl⟩, D, ?_⟩, fun hn => ?_, fun hx => ?_⟩
    · rw [sI_wI, if_neg (by omega), sI_wI, if_neg (by omega)]; exact k16
    · rw [sI_wI, if_neg (by omega), sI_wI, if_pos ⟨rfl, rfl⟩, tf_t ⟨g, l, Or.inr ⟨rfl, rfl⟩, D⟩]
    · rw [sI_wI, if_pos ⟨rfl, rfl⟩]
    · rw [sI_wI, if_neg (by omega), sI_wI, if_neg (by omega), k0 19 (by omega)]
      exact L4 (fun ⟨g', l', a, b⟩ => hn ⟨g', l', Or.inl a, b⟩)
    · obtain ⟨g', l', a, b⟩ := hx
      rcases a with a | ⟨rfl, rfl⟩
      · obtain ⟨g1, l1, c1, c2, c3, c4, c5, c6, c7, c8, c9⟩ := L5 ⟨g', l', a, b⟩
        refine ⟨g1, l1, Or.inl c1, c2, ?_, ?_, ?_, ?_, c7, c8, fun h l2 hh dh => ?_⟩
        · rw [sI_wI, if_neg (by omega), sI_wI, if_neg (by omega), k0 19 (by omega)]; exact c3
        · rw [sJ_wI, sJ_wI, j0]; exact c4
        · rw [sJ_wI, sJ_wI, j0]; exact c5
        · rw [sI_wI, if_neg (by omega), sI_wI, if_neg (by omega), k0 22 (by omega)]; exact c6
        · rcases hh with hh | ⟨rfl, rfl⟩
          · exact c9 h l2 hh dh
          · exact (dh D).elim
      · exact (b D).elim
  · -- beside
    have e17 : sI σ0 233 17 = tf (∃ g' l', (H g' l' ∨ (g' = g ∧ l' = l)) ∧ dir g' s) := by
      rw [k0 17 (by omega), L2]
      exact tf_c ⟨fun ⟨g', l', a, b⟩ => ⟨g', l', Or.inl a, b⟩, fun ⟨g', l', a, b⟩ => by
        rcases a with a | ⟨rfl, rfl⟩
        · exact ⟨g', l', a, b⟩
        · exact (D b).elim⟩
    have e18 : (∃ g' l', (H g' l' ∨ (g' = g ∧ l' = l)) ∧ dir g' s) → ∃ g' l', (H g' l' ∨ (g' = g ∧ l' = l)) ∧ dir g' s ∧ sI σ0 233 18 = bI l' := by
      rintro ⟨g', l', a, b⟩
      rcases a with a | ⟨rfl, rfl⟩
      · obtain ⟨g1, l1, c1, c2, c3⟩ := L3 ⟨g', l', a, b⟩
        exact ⟨g1, l1, Or.inl c1, c2, (k0 18 (by omega)).trans c3⟩
      · exact (D b).elim
    -- it becomes the nearest
    have take : (∀ h l2, H h l2 → ¬ dir h s → hal s g < hal s h ∨ (hal s g = hal s h ∧ crs g h ≤ 0)) →
        ∃ σ', some ((), wI (wJ (wJ (wI σ0 233 19 (nI (hal s g))) 233 20 (jJ g.1)) 233 21 (jJ g.2)) 233 22 (bI l)) = some ((), σ') ∧ FrL σ σ' ∧ LK σ' s (fun g' l' => H g' l' ∨ (g' = g ∧ l' = l)) := by
      intro hm
      refine ⟨_, rfl, ((((f0.trans (FrL.w (by omega))).trans FrL.wJ).trans FrL.wJ).trans (FrL.w (by omega))), e16 _ ?_, ?_, fun hx => ?_, fun hn => (hn ⟨g, l, Or.inr ⟨rfl, rfl⟩, D⟩).elim, fun _ => ⟨g, l, Or.inr ⟨rfl, rfl⟩, D, ?_, ?_, ?_, ?_, b1, b2, fun h l2 hh dh => ?_⟩⟩
      · rw [sI_wI, if_neg (by omega), sI_wJ, sI_wJ, sI_wI, if_neg (by omega)]; exact k16
      · rw [sI_wI, if_neg (by omega), sI_wJ, sI_wJ, sI_wI, if_neg (by omega)]; exact e17
      · obtain ⟨g1, l1, c1, c2, c3⟩ := e18 hx
        exact ⟨g1, l1, c1, c2, by rw [sI_wI, if_neg (by omega), sI_wJ, sI_wJ, sI_wI, if_neg (by omega)]; exact c3⟩
      · rw [sI_wI, if_neg (by omega), sI_wJ, sI_wJ, sI_wI, if_pos ⟨rfl, rfl⟩]
      · rw [sJ_wI, sJ_wJ, if_neg (by omega), sJ_wJ, if_pos ⟨rfl, rfl⟩]
      · rw [sJ_wI, sJ_wJ, if_pos ⟨rfl, rfl⟩]
      · rw [sI_wI, if_pos ⟨rfl, rfl⟩]
      · rcases hh with hh | ⟨rfl, rfl⟩
        · exact hm h l2 hh dh
        · exact Or.inr ⟨rfl, Int.le_of_eq (crs_self h)⟩
    have e69 : ∃ σ', b_X14_begins_69 n (jJ g.1) (jJ g.2) (bI l) (nI (hal s g)) σ0 = some ((), σ') ∧ FrL σ σ' ∧ LK σ' s (fun g' l' => H g' l' ∨ (g' = g ∧ l' = l)) := by
      have hl := hal_lt s g
      rw [b_X14_begins_69]
      simp only [gb, st]
      rw [k0 19 (by omega)]
      by_cases q : ∃ g' l', H g' l' ∧ ¬ dir g' s
      · obtain ⟨g1, l1, c1, c2, c3, c4, c5, c6, c7, c8, c9⟩ := L5 q
        have hl1 := hal_lt s g1
        rw [c3]
        simp (disch := omega) only [nI_l', nI_q']
        by_cases q1 : hal s g < hal s g1
        · rw [if_pos q1]
          refine take (fun h l2 hh dh => ?_)
          have := c9 h l2 hh dh
          omega
        · rw [if_neg q1]
          have keep : (hal s g1 < hal s g ∨ (hal s g1 = hal s g ∧ crs g1 g ≤ 0)) → ∃ σ', some ((), σ0) = some ((), σ') ∧ FrL σ σ' ∧ LK σ' s (fun g' l' => H g' l' ∨ (g' = g ∧ l' = l)) := by
            intro hk
            refine ⟨σ0, rfl, f0, e16 _ k16, e17, e18, fun hn => (hn ⟨g, l, Or.inr ⟨rfl, rfl⟩, D⟩).elim, fun _ => ⟨g1, l1, Or.inl c1, c2, (k0 19 (by omega)).trans c3, (j0 20).trans c4, (j0 21).trans c5, (k0 22 (by omega)).trans c6, c7, c8, fun h l2 hh dh => ?_⟩⟩
            rcases hh with hh | ⟨rfl, rfl⟩
            · exact c9 h l2 hh dh
            · exact hk
          by_cases q2 : hal s g = hal s g1
          · rw [if_pos q2, j0, j0, c4, c5, m_cross, bd]
            have ec2 : g1.1 * g.2 - g1.2 * g.1 = crs g1 g := rfl
            rw [ec2]
            have r2 : R64 (crs g1 g) := crs_r c7 b2 c8 b1
            simp only [lz_le r2]
            by_cases q3 : crs g1 g ≤ 0
            · rw [if_pos q3]; exact keep (Or.inr ⟨q2.symm, q3⟩)
            · rw [if_neg q3]
              refine take (fun h l2 hh dh => ?_)
              rcases c9 h l2 hh dh with y | ⟨y1, y2⟩
              · exact Or.inl (by omega)
              · exact Or.inr ⟨by omega, hal_near (n := g1) q2.symm y1 (by omega) y2 c2 D hs⟩
          · rw [if_neg q2]; exact keep (Or.inl (by omega))
      · rw [L4 q]
        simp (disch := omega) only [nI_l']
        rw [if_pos hl]
        exact take (fun h l2 hh dh => (q ⟨h, l2, hh, dh⟩).elim)
    have i1 : iI 1 ≤ 0 ↔ False := ⟨fun h => absurd h (by decide), fun h => h.elim⟩
    have i1' : iI 1 = 0 ↔ False := ⟨fun h => absurd h (by decide), fun h => h.elim⟩
    have i2 : iI (-1) ≤ 0 ↔ True := ⟨fun _ => trivial, fun _ => by decide⟩
    have i2' : iI (-1) = 0 ↔ False := ⟨fun h => absurd h (by decide), fun h => h.elim⟩
    have i0 : iI 0 ≤ 0 ↔ True := ⟨fun _ => trivial, fun _ => by decide⟩
    have i0' : iI 0 = 0 ↔ True := ⟨fun _ => trivial, fun _ => rfl⟩
    unfold hal at e69
    rcases sgn_c (crs g s) with ⟨c, e⟩ | ⟨c, e⟩ | ⟨c, e⟩ <;> rw [e]
    · simp only [i2, i2', if_true, if_false]
      rw [if_neg (by omega), if_neg (by omega)] at e69
      exact e69
    · simp only [i0, i0', if_true, bd, lz_le rd]
      rw [if_neg (by omega), if_pos c] at e69
      rw [if_pos (by
        by_cases y : dt g s ≤ 0
        · exact y
        · exact (D ⟨c, by omega⟩).elim)]
      exact e69
    · simp only [i1, i1', if_false]
      rw [if_pos c] at e69
      exact e69
/-! rings of ways -/
def rOf (c : Ct) (i : Nat) : Nat → Nat → Nat
  | 0, r => r
  | k + 1, r => if i < cE c r then r else rOf c i k (r + 1)
def rO (c : Ct) (i : Nat) : Nat := rOf c i 8 0
set_option maxHeartbeats 200000 in
theorem l_ringOf {n : Nat} {σ : xσ} {a : Nat} {c : Ct} (S : MH σ a c) (F : WF c) {i : Nat} (hi : i < cN c) : ∀ k r fu, k < fu → r + k = 8 → (r < cR c) → sr c r ≤ i → l_X14_ringOf_2 n fu a (nI i) (nI r) σ = some (nI (rOf c i k r), σ) ∧ rOf c i k r < cR c ∧ sr c (rOf c i k r) ≤ i ∧ i < cE c (rOf c i k r) := by
  have hN := F.n
  have hR := F.r
  intro k
  induction k with
  | zero => intro r fu h1 h2 h3 h4; omega
  | succ k ih =>
    intro r fu h1 h2 h3 h4
    obtain ⟨fu, rfl⟩ : ∃ g, fu = g + 1 := ⟨fu - 1, by omega⟩
    have he := F.e h3
    rw [l_X14_ringOf_2, rOf]
    simp (disch := omega) only [gd_in, nI_k, S.E, nI_l', nI_s]
    by_cases q : i < cE c r
    · rw [if_pos q, if_pos q]; exact ⟨rfl, h3, h4, q⟩
    · rw [if_neg q, if_neg q]
      have hr1 : r + 1 < cR c := by
        by_cases z : r + 1 < cR c
        · exact z
        · have : r = cR c - 1 := by omega
          have := F.el
          rw [show cR c - 1 = r by omega] at this
          omega
      exact ih (r + 1) fu (by omega) (by omega) hr1 (by unfold sr; rw [if_neg (by omega), Nat.add_sub_cancel]; omega)
set_option maxHeartbeats 200000 in
theorem m_ringOf {n : Nat} {σ : xσ} {a : Nat} {c : Ct} (S : MH σ a c) (F : WF c) {i : Nat} (hi : i < cN c) : f_X14_ringOf n a (nI i) σ = some (nI (rO c i), σ) ∧ rO c i < cR c ∧ sr c (rO c i) ≤ i ∧ i < cE c (rO c i) := by
  rw [f_X14_ringOf, gd_pos S.1]
  have hR := F.r
  exact l_ringOf S F hi 8 0 xFU (xFU_lt (by omega)) (by omega) (by omega) (by unfold sr; rw [if_pos rfl]; omega)
set_option maxHeartbeats 200000 in
theorem rO_u {c : Ct} (F : WF c) {i r : Nat} (hr : r < cR c) (h1 : sr c r ≤ i) (h2 : i < cE c r) {q : Nat} (hq : q < cR c) (h3 : sr c q ≤ i) (h4 : i < cE c q) : q = r := by
  rcases Nat.lt_trichotomy q r with h | h | h
  · have := F.eml (show q ≤ r - 1 by omega) (show r - 1 < cR c by omega)
    unfold sr at h1
    rw [if_neg (by omega)] at h1
    omega
  · exact h
  · have := F.eml (show r ≤ q - 1 by omega) (show q - 1 < cR c by omega)
    unfold sr at h3
    rw [if_neg (by omega)] at h3
    omega

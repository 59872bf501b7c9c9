/-! relate, nearer, flaws -/
set_option maxHeartbeats 200000 in
theorem tf_ab {α : Type} (p : Prop) (x : α) : (if tf p = 0 then some ((0 : Int32), x) else some (1, x)) = some (tf p, x) := by
  by_cases h : p
  · rw [if_neg (tn h), tf_t h]
  · rw [if_pos (tf_f h), tf_f h]
noncomputable def rlV (c d : Ct) (x : Int32) : Int32 := if x < 0 then -1 else if x ≤ 4 then tf (Rel x.toNatClampNeg c d) else -1
set_option maxHeartbeats 200000 in
theorem rl_x {x : Int32} (h1 : ¬ x < 0) (h2 : x ≤ 4) : ∃ i, i < 5 ∧ x = nI i := by
  obtain ⟨a, ha, rfl⟩ := xI x
  rw [iIl0 ha] at h1
  rw [iIe4 ha] at h2
  exact ⟨a.toNat, by omega, by rw [nI_i, Int.toNat_of_nonneg (by omega)]⟩
set_option maxHeartbeats 200000 in
theorem c_relate {n : Nat} {σ : xσ} (h : In n σ) (x1 x x' : Int32) : C1 n σ (f_X10_relate n x1 x x') (f_X14_relate n x1 x x') := by
  obtain ⟨z, hz, rfl⟩ := xI x
  obtain ⟨y, hy, rfl⟩ := xI x'
  obtain ⟨s, o, a, b⟩ := h
  have l2 := o.2.1.1.1.1
  refine C1_of (s := s) (s' := s) (v := orA (stA s.2.1 z) (-1) (fun i => orA (stA s.2.1 y) (-1) (fun j => rlV (tS (kL s.2.1) i) (tS (kL s.2.1) j) x1))) b o ?_ (fun σ1 c => ?_)
  · rw [f_X10_relate]
    rcases e_shp (n := n) a.2.1 o.2.1 hz with ⟨e, t⟩ | ⟨i, p, e, hi, hp, t, S, W, V⟩
    · rw [t, bd, om, e]
      rcases e_shp (n := n) a.2.1 o.2.1 hy with ⟨e', t'⟩ | ⟨j, p', e', hj, hp', t', S', _, _⟩
      · rw [t', bd, om]; exact ⟨σ, rfl, Fk.refl, a⟩
      · rw [t', bd, om, gd_pos S'.1]; exact ⟨σ, rfl, Fk.refl, a⟩
    · rw [t, bd, om, gd_pos S.1, e]
      rcases e_shp (n := n) a.2.1 o.2.1 hy with ⟨e', t'⟩ | ⟨j, p', e', hj, hp', t', S', W', V'⟩
      · rw [t', bd, om, e']; exact ⟨σ, rfl, Fk.refl, a⟩
      · rw [t', bd, om, gd_pos S'.1, e']
        show ∃ σ1, _ = some (rlV (tS (kL s.2.1) i) (tS (kL s.2.1) j) x1, σ1) ∧ _
        unfold rlV
        by_cases q1 : x1 < 0
        · rw [if_pos q1, if_pos q1]; exact ⟨σ, rfl, Fk.refl, a⟩
        rw [if_neg q1, if_neg q1]
        by_cases q2 : x1 ≤ 4
        · rw [if_pos q2, if_pos q2]
          obtain ⟨r, hr, rfl⟩ := rl_x q1 q2
          obtain ⟨σ1, f1, t1⟩ := e_holds (n := n) S W V S' W' V' hr
          rw [t1, bd, tf_ab, nI_k (by omega)]
          have F := Fk.of f1
          exact ⟨σ1, rfl, F.mono (fun b k y => by have := A4_q y; unfold sysP; omega), a.a F (fun b k y => Or.inl (A4_q y))⟩
        · rw [if_neg q2, if_neg q2]; exact ⟨σ, rfl, Fk.refl, a⟩
  · obtain ⟨u, T⟩ := c.2.1.1.1
    rw [f_X14_relate]
    rcases m_std (n := n) c.2.1 o.2.1 hz with ⟨e, t⟩ | ⟨i, e, hi, t⟩
    · rw [t, bd, e]
      rcases m_std (n := n) c.2.1 o.2.1 hy with ⟨e', t'⟩ | ⟨j, e', hj, t'⟩
      · rw [t', bd, if_pos (by decide)]; exact ⟨σ1, rfl, Fk.refl, c⟩
      · rw [t', bd, if_pos (by decide)]; exact ⟨σ1, rfl, Fk.refl, c⟩
    · rw [t, bd, e]
      have n1 : ¬ nI i < 0 := fun y => by have := (nIl0 (show i < 2147483648 by omega)).mp y; omega
      rcases m_std (n := n) c.2.1 o.2.1 hy with ⟨e', t'⟩ | ⟨j, e', hj, t'⟩
      · rw [t', bd, if_neg n1, if_pos (by decide), e']; exact ⟨σ1, rfl, Fk.refl, c⟩
      · have n2 : ¬ nI j < 0 := fun y => by have := (nIl0 (show j < 2147483648 by omega)).mp y; omega
        rw [t', bd, if_neg n1, if_neg n2, e']
        show ∃ σ2, _ = some (rlV (tS (kL s.2.1) i) (tS (kL s.2.1) j) x1, σ2) ∧ _
        unfold rlV
        by_cases q1 : x1 < 0
        · rw [if_pos q1, if_pos q1]; exact ⟨σ1, rfl, Fk.refl, c⟩
        rw [if_neg q1, if_neg q1]
        by_cases q2 : x1 ≤ 4
        · rw [if_pos q2, if_pos q2]
          obtain ⟨r, hr, rfl⟩ := rl_x q1 q2
          obtain ⟨r0, r1, r2, r3, r4, r5⟩ := KM.row T o.2.1 hi
          obtain ⟨s0, s1, s2, s3, s4, s5⟩ := KM.row T o.2.1 hj
          obtain ⟨σ2, f1, t1⟩ := m_relates (n := n) r2 r3 r4 s2 s3 s4 hr
          have f1' := FrZ_y f1
          rw [gd_in (by omega) (by omega), nI_k (by omega), r1, nn, gd_pos r0, gd_in (by omega) (by omega), nI_k (by omega), s1, nn, gd_pos s0, t1, bd, tf_ab, nI_k (by omega)]
          exact ⟨σ2, rfl, (FrY_m f1').k, c.y f1'⟩
        · rw [if_neg q2, if_neg q2]; exact ⟨σ1, rfl, Fk.refl, c⟩
set_option maxHeartbeats 200000 in
theorem cm_eqq {a b a' b' : Nat} (h1 : a ≤ b ↔ a' ≤ b') (h2 : b ≤ a ↔ b' ≤ a') : cmN a b = cmN a' b' := by
  unfold cmN
  by_cases q1 : a < b
  · rw [if_pos q1, if_pos (show a' < b' by omega)]
  rw [if_neg q1, if_neg (show ¬ a' < b' by omega)]
  by_cases q2 : a = b
  · rw [if_pos q2, if_pos (show a' = b' by omega)]
  · rw [if_neg q2, if_neg (show ¬ a' = b' by omega)]
set_option maxHeartbeats 200000 in
theorem c_nearer {n : Nat} {σ : xσ} (h : In n σ) (x x' x3 x4 : Int32) : C1 n σ (f_X10_nearer n x x' x3 x4) (f_X14_nearer n x x' x3 x4) := by
  obtain ⟨z, hz, rfl⟩ := xI x
  obtain ⟨y, hy, rfl⟩ := xI x'
  obtain ⟨p1, h1, rfl⟩ := xI x3
  obtain ⟨p2, h2, rfl⟩ := xI x4
  have g1 : R64 p1 := ⟨by have := h1.1; omega, by have := h1.2; omega⟩
  have g2 : R64 p2 := ⟨by have := h2.1; omega, by have := h2.2; omega⟩
  obtain ⟨s, o, a, b⟩ := h
  have l2 := o.2.1.1.1.1
  -- where it is refused
  have no : ∀ {f g : xσ → Option (Int32 × xσ)}, f σ = some (-2, σ) → g σ = some (-2, σ) → C1 n σ f g := fun hf hg => ⟨-2, σ, σ, hf, hg, s, o, a, b⟩
  obtain ⟨u, T⟩ := b.2.1.1.1
  rcases e_shp (n := n) a.2.1 o.2.1 hz with ⟨e, t⟩ | ⟨i, p, e, hi, hp, t, S, W, V⟩
  · refine no ?_ ?_
    · rw [f_X10_nearer, t, bd, om]
      rcases e_shp (n := n) a.2.1 o.2.1 hy with ⟨e', t'⟩ | ⟨j, p', e', hj, hp', t', S', _, _⟩
      · rw [t', bd, om, b_X10_nearer_41]
      · rw [t', bd, om, gd_pos S'.1, b_X10_nearer_41]
    · rw [f_X14_nearer]
      rcases m_std (n := n) b.2.1 o.2.1 hz with ⟨e2, t2⟩ | ⟨i2, e2, hi2, t2⟩
      · rw [t2, bd]
        rcases m_std (n := n) b.2.1 o.2.1 hy with ⟨e', t'⟩ | ⟨j, e', hj, t'⟩
        · rw [t', bd, if_pos (by decide)]
        · rw [t', bd, if_pos (by decide)]
      · rw [e] at e2; cases e2
  rcases m_std (n := n) b.2.1 o.2.1 hz with ⟨e2, t2⟩ | ⟨i2, e2, hi2, t2⟩
  · rw [e] at e2; cases e2
  rw [e] at e2
  obtain rfl : i = i2 := Option.some.inj e2
  have n1 : ¬ nI i < 0 := fun y => by have := (nIl0 (show i < 2147483648 by omega)).mp y; omega
  rcases e_shp (n := n) a.2.1 o.2.1 hy with ⟨e', t'⟩ | ⟨j, p', e', hj, hp', t', S', W', V'⟩
  · refine no ?_ ?_
    · rw [f_X10_nearer, t, bd, om, gd_pos S.1, t', bd, om, b_X10_nearer_41]
    · rw [f_X14_nearer, t2, bd]
      rcases m_std (n := n) b.2.1 o.2.1 hy with ⟨e3, t3⟩ | ⟨j3, e3, hj3, t3⟩
      · rw [t3, bd, if_neg n1, if_pos (by decide)]
      · rw [e'] at e3; cases e3
  rcases m_std (n := n) b.2.1 o.2.1 hy with ⟨e3, t3⟩ | ⟨j3, e3, hj3, t3⟩
  · rw [e'] at e3; cases e3
  rw [e'] at e3
  obtain rfl : j = j3 := Option.some.inj e3
  have n2 : ¬ nI j < 0 := fun y => by have := (nIl0 (show j < 2147483648 by omega)).mp y; omega
  by_cases q1 : b30 p1
  · by_cases q2 : b30 p2
    · have hp : bV (p1, p2) := ⟨q1, q2⟩
      obtain ⟨σ1, xx, v1, v2, v3, v4⟩ := e_measure (n := n) (a := 31) (by decide) S W V hp
      have S1 : SH n σ1 p' (tS (kL s.2.1) j) := S'.fr v2 (fun m hm y => by omega)
      obtain ⟨σ2, yy, w1, w2, w3, w4⟩ := e_measure (n := n) (a := 32) (by decide) S1 W' V' hp
      have D1 : DV σ2 31 xx := v3.fk (Fk.of w2) (fun k y => by omega)
      have cc := e_cmpW (n := n) (show okD 31 by decide) (show okD 32 by decide) D1 w3
      have R0 := a.2.2.2.2
      have F1 : Fk (fun b _ => b = 31) σ σ1 := Fk.of v2
      have F2 : Fk (fun b _ => b = 32) σ1 σ2 := Fk.of w2
      have A1 := a.a F1 (fun b k y => by omega)
      have A2 := A1.a F2 (fun b k y => by omega)
      have k0 : ((0 : Int32).toNatClampNeg) = 0 := by decide
      have k1 : ((1 : Int32).toNatClampNeg) = 1 := by decide
      have z0 : ∀ τ, Rw30 τ → sR τ 30 ((0 : Int32).toNatClampNeg) = some 31 := fun τ r => by rw [k0]; exact r 0 (by decide)
      have z1 : ∀ τ, Rw30 τ → sR τ 30 ((1 : Int32).toNatClampNeg) = some 32 := fun τ r => by rw [k1]; exact r 1 (by decide)
      refine C1_of (s := s) (s' := s) (v := cmN (xx.1 * yy.2) (yy.1 * xx.2)) b o ⟨σ2, ?_, ((F1.mono (fun b k y => by unfold sysP; omega)).trans (F2.mono (fun b k y => by unfold sysP; omega))), A2⟩ (fun τ c => ?_)
      · rw [f_X10_nearer, t, bd, om, gd_pos S.1, t', bd, om, gd_pos S'.1, iI_64 h1, iI_64 h2, e_isInPlane g1, bd, if_neg (tn q1), e_isInPlane g2, bd, if_neg (tn q2), gd_pos (by decide), z0 _ R0, nn, gd_pos (by decide), v1, bd, gd_pos (by decide), z1 _ A1.2.2.2.2, nn, gd_pos (by decide), w1, bd, gd_pos (by decide), z0 _ A2.2.2.2.2, nn, gd_pos (by decide), gd_pos (by decide), z1 _ A2.2.2.2.2, nn, gd_pos (by decide), cc, bd]
      · obtain ⟨u', T'⟩ := c.2.1.1.1
        obtain ⟨r0, r1, r2, _, _, _⟩ := KM.row T' o.2.1 hi
        rcases m_std (n := n) c.2.1 o.2.1 hz with ⟨e5, t5⟩ | ⟨i5, e5, hi5, t5⟩
        · rw [e] at e5; cases e5
        rw [e] at e5
        obtain rfl : i = i5 := Option.some.inj e5
        rcases m_std (n := n) c.2.1 o.2.1 hy with ⟨e6, t6⟩ | ⟨j6, e6, hj6, t6⟩
        · rw [e'] at e6; cases e6
        rw [e'] at e6
        obtain rfl : j = j6 := Option.some.inj e6
        obtain ⟨τ1, x', m1, m2, m3, m4⟩ := m_distance (n := n) (t := 253) (by decide) (by decide) r2 W hp
        have G1 := Fk.of m2
        have C1' := c.a G1 (fun b k y => by unfold AT AH at y; omega)
        have T1 : TbM τ1 259 (kL s.2.1) u' := T'.fk G1 (fun b k l1 l2 y => by unfold AT AH at y; omega)
        obtain ⟨s0, s1, s2, _, _, _⟩ := KM.row T1 o.2.1 hj
        obtain ⟨τ2, y', k3, k4, k5, k6⟩ := m_distance (n := n) (t := 256) (by decide) (by decide) s2 W' hp
        have G2 := Fk.of k4
        have C2' := C1'.a G2 (fun b k y => by unfold AT AH at y; omega)
        have E1 : EV τ2 253 x' := m3.fr k4 (by unfold AT AH; omega) (by unfold AT AH; omega)
        obtain ⟨τ3, d1, d2⟩ := m_cmpD (n := n) (a := 253) (b := 256) (by decide) (by decide) E1 k5
        have C3' := C2'.a (Fk.of d2) (fun b k y => by unfold A47 at y; omega)
        have p0 : 0 < xx.2 := v3.pos
        have p3 : 0 < yy.2 := w3.pos
        have p4 : 0 < x'.2 := m3.2.2.2.2
        have p5 : 0 < y'.2 := k5.2.2.2.2
        have f1 := D_same W V v4 m4
        have f2 := D_same W' V' w4 k6
        have eqc : cmN (x'.1 * y'.2) (y'.1 * x'.2) = cmN (xx.1 * yy.2) (yy.1 * xx.2) := (cm_eqq (eqv_cm p0 p4 p3 p5 f1 f2) (eqv_cm p3 p5 p0 p4 f2 f1)).symm
        have m1' : f_X14_distance n (mq 259 (u' i)) (iI p1) (iI p2) 253 τ = some ((), τ1) := m1
        have k3' : f_X14_distance n (mq 259 (u' j)) (iI p1) (iI p2) 256 τ1 = some ((), τ2) := k3
        rw [f_X14_nearer, t5, bd, t6, bd, if_neg n1, if_neg n2, iI_64 h1, iI_64 h2, m_isNumber g1, bd, if_neg (tn q1), m_isNumber g2, bd, if_neg (tn q2), gd_in (by omega) (by omega), nI_k (by omega), r1, nn, gd_pos r0, m1', bd, gd_in (by omega) (by omega), nI_k (by omega), s1, nn, gd_pos s0, k3', bd, d1, bd, eqc]
        exact ⟨τ3, rfl, ((G1.mono (fun b k y => by unfold AT AH at y; unfold refP; omega)).trans (G2.mono (fun b k y => by unfold AT AH at y; unfold refP; omega))).trans ((Fk.of d2).mono (fun b k y => by unfold A47 at y; unfold refP; omega)), C3'⟩
    · refine no ?_ ?_
      · rw [f_X10_nearer, t, bd, om, gd_pos S.1, t', bd, om, gd_pos S'.1, iI_64 h1, iI_64 h2, e_isInPlane g1, bd, if_neg (tn q1), e_isInPlane g2, bd, if_pos (tf_f q2)]
      · rw [f_X14_nearer, t2, bd, t3, bd, if_neg n1, if_neg n2, iI_64 h1, iI_64 h2, m_isNumber g1, bd, if_neg (tn q1), m_isNumber g2, bd, if_pos (tf_f q2)]
  · refine no ?_ ?_
    · rw [f_X10_nearer, t, bd, om, gd_pos S.1, t', bd, om, gd_pos S'.1, iI_64 h1, e_isInPlane g1, bd, if_pos (tf_f q1)]
    · rw [f_X14_nearer, t2, bd, t3, bd, if_neg n1, if_neg n2, iI_64 h1, m_isNumber g1, bd, if_pos (tf_f q1)]

/-! distance of the reference -/
set_option maxHeartbeats 200000 in
theorem okE_all : ∀ a : Fin 2476, okE a.val → xTy (a.val + 1) = .inl (2, 8) ∧ xTy (a.val + 2) = .inl (2, 8) := by decide +kernel
set_option maxHeartbeats 200000 in
theorem okE.l {a : Nat} (h : okE a) : okL (a + 1) ∧ okL (a + 2) := by
  have ha : a + 2 < 2476 := by unfold okE at h; omega
  have := okE_all ⟨a, by omega⟩ h
  exact ⟨⟨this.1, by omega⟩, ⟨this.2, by omega⟩⟩
def EV (σ : xσ) (a : Nat) (x : Nat × Nat) : Prop := LB σ (a + 1) x.1 ∧ LB σ (a + 2) x.2 ∧ x.1 < 85070591730234615865843651857942052864 ∧ x.2 < 9223372036854775808 ∧ 0 < x.2
def AH (b : Nat) : Prop := b = 251 ∨ b = 252 ∨ (234 ≤ b ∧ b ≤ 237)
set_option maxHeartbeats 200000 in
theorem MH.h {σ σ' : xσ} {a : Nat} {c : Ct} (S : MH σ a c) (f : Fr AH σ σ') : MH σ' a c := S.fr f (by
  have := S.1
  intro j hj h
  unfold AH at h
  unfold okM at this
  omega)
set_option maxHeartbeats 200000 in
theorem m_hereIs {n x y : Nat} {σ : xσ} (hx : x < 9223372036854775808) (hy : y < 9223372036854775808) (h0 : 0 < y) : ∃ σ', f_X14_hereIs n (lN x) (lN y) σ = some ((), σ') ∧ Fr AH σ σ' ∧ EV σ' 250 (x, y) := by
  have ok := okE.l (show okE 250 by unfold okE; omega)
  obtain ⟨σ1, a1, a2, a3⟩ := m_set (n := n) (σ := σ) ok.1 hx
  obtain ⟨σ2, b1, b2, b3⟩ := m_set (n := n) (σ := σ1) ok.2 hy
  refine ⟨σ2, ?_, (a2.mono (fun b hb => by unfold AH; omega)).trans (b2.mono (fun b hb => by unfold AH; omega)), a3.fr b2 (by omega), b3, by show x < _; omega, hy, h0⟩
  rw [f_X14_hereIs, a1, bd, b1, bd]
set_option maxHeartbeats 200000 in
theorem m_fromPoint {n : Nat} {σ : xσ} {p A : V2} (hp : bV p) (hA : bV A) : ∃ σ', f_X14_fromPoint n (jJ (sub2 p A).1) (jJ (sub2 p A).2) σ = some ((), σ') ∧ Fr AH σ σ' ∧ EV σ' 250 (sqN p A, 1) := by
  obtain ⟨d1, d2⟩ := sub_b hp hA
  have rr := dt_rg d1 d2 d1 d2
  have nn := dt_nn (sub2 p A)
  obtain ⟨σ1, a1, a2, a3⟩ := m_hereIs (n := n) (σ := σ) (x := sqN p A) (y := 1) (by unfold sqN; omega) (by omega) (by omega)
  refine ⟨σ1, ?_, a2, a3⟩
  have e : jJ ((sub2 p A).1 * (sub2 p A).1 + (sub2 p A).2 * (sub2 p A).2) = lN (sqN p A) := lN_j nn
  rw [f_X14_fromPoint, m_dot, bd, e, show (1 : Int64) = lN 1 from rfl, a1, bd]
def wyD (p A B : V2) : Nat × Nat := if dt (sub2 p A) (sub2 B A) ≤ 0 then (sqN p A, 1) else if dt (sub2 B A) (sub2 B A) ≤ dt (sub2 p A) (sub2 B A) then (sqN p B, 1) else ((crs (sub2 B A) (sub2 p A)).natAbs * (crs (sub2 B A) (sub2 p A)).natAbs, (dt (sub2 B A) (sub2 B A)).toNat)
set_option maxHeartbeats 200000 in
theorem m_fromWay {n : Nat} {σ : xσ} {a : Nat} {c : Ct} (S : MH σ a c) (F : WF c) {p : V2} (hp : bV p) {i : Nat} (hi : i + 1 < cN c) : ∃ σ', f_X14_fromWay n a (nI i) (iI p.1) (iI p.2) σ = some ((), σ') ∧ Fr AH σ σ' ∧ EV σ' 250 (wyD p (cV c i) (cV c (i + 1))) := by
  have hN := F.n
  have b1 := F.b (show i < cN c by omega)
  have b2 := F.b hi
  obtain ⟨d1, d2⟩ := sub_b hp b1
  obtain ⟨e1, e2⟩ := sub_b b2 b1
  have i1 : ∀ {α : Type} (y : Option α), gd (inb (nI i) 40) y = y := fun y => gd_in (by omega) (by omega)
  have i2 : ∀ {α : Type} (y : Option α), gd (inb (nI (i + 1)) 40) y = y := fun y => gd_in (by omega) (by omega)
  have x1 : (sI σ (a + 2) (nI i).toNatClampNeg).toInt64 = jJ (cV c i).1 := by rw [nI_k (by omega), S.X (by omega), iI_64 b1.1.r]
  have y1 : (sI σ (a + 3) (nI i).toNatClampNeg).toInt64 = jJ (cV c i).2 := by rw [nI_k (by omega), S.Y (by omega), iI_64 b1.2.r]
  have x2 : (sI σ (a + 2) (nI (i + 1)).toNatClampNeg).toInt64 = jJ (cV c (i + 1)).1 := by rw [nI_k (by omega), S.X hi, iI_64 b2.1.r]
  have y2 : (sI σ (a + 3) (nI (i + 1)).toNatClampNeg).toInt64 = jJ (cV c (i + 1)).2 := by rw [nI_k (by omega), S.Y hi, iI_64 b2.2.r]
  have vx : jJ (cV c (i + 1)).1 - jJ (cV c i).1 = jJ (sub2 (cV c (i + 1)) (cV c i)).1 := jJ_sub _ _
  have vy : jJ (cV c (i + 1)).2 - jJ (cV c i).2 = jJ (sub2 (cV c (i + 1)) (cV c i)).2 := jJ_sub _ _
  have wx : (iI p.1).toInt64 - jJ (cV c i).1 = jJ (sub2 p (cV c i)).1 := by rw [iI_64 hp.1.r, jJ_sub]; rfl
  have wy' : (iI p.2).toInt64 - jJ (cV c i).2 = jJ (sub2 p (cV c i)).2 := by rw [iI_64 hp.2.r, jJ_sub]; rfl
  have rr := dt_rg d1 d2 e1 e2
  have re := dt_rg e1 e2 e1 e2
  have rc := dt_rg e1 e2 d1 d2
  have ne := dt_nn (sub2 (cV c (i + 1)) (cV c i))
  have Ad : (sub2 (cV c (i + 1)) (cV c i)).1 * (sub2 p (cV c i)).1 + (sub2 (cV c (i + 1)) (cV c i)).2 * (sub2 p (cV c i)).2 = dt (sub2 p (cV c i)) (sub2 (cV c (i + 1)) (cV c i)) := by unfold dt; rw [Int.mul_comm, Int.mul_comm (sub2 (cV c (i + 1)) (cV c i)).2]
  have Ld : (sub2 (cV c (i + 1)) (cV c i)).1 * (sub2 (cV c (i + 1)) (cV c i)).1 + (sub2 (cV c (i + 1)) (cV c i)).2 * (sub2 (cV c (i + 1)) (cV c i)).2 = dt (sub2 (cV c (i + 1)) (cV c i)) (sub2 (cV c (i + 1)) (cV c i)) := rfl
  have Cd : (sub2 (cV c (i + 1)) (cV c i)).1 * (sub2 p (cV c i)).2 - (sub2 (cV c (i + 1)) (cV c i)).2 * (sub2 p (cV c i)).1 = crs (sub2 (cV c (i + 1)) (cV c i)) (sub2 p (cV c i)) := rfl
  rw [f_X14_fromWay, gd_pos S.1, nI_s, i2, i1, st, i2, i1, st, i1, st, i1, st, x1, y1, x2, y2, vx, vy, wx, wy', m_dot, bd, m_dot, bd, Ad, Ld]
  have rA : R64 (dt (sub2 p (cV c i)) (sub2 (cV c (i + 1)) (cV c i))) := ⟨by omega, by omega⟩
  have rL : R64 (dt (sub2 (cV c (i + 1)) (cV c i)) (sub2 (cV c (i + 1)) (cV c i))) := ⟨by omega, by omega⟩
  have rC : R64 (crs (sub2 (cV c (i + 1)) (cV c i)) (sub2 p (cV c i))) := ⟨by omega, by omega⟩
  unfold wyD
  by_cases u : dt (sub2 p (cV c i)) (sub2 (cV c (i + 1)) (cV c i)) ≤ 0
  · obtain ⟨σ1, a1, a2, a3⟩ := m_fromPoint (n := n) (σ := σ) hp b1
    rw [if_neg (fun z => by have := (lz_gt rA).mp z; omega), if_pos u, a1, bd]
    exact ⟨σ1, rfl, a2, a3⟩
  · rw [if_pos ((lz_gt rA).mpr (by omega)), if_neg u]
    by_cases w : dt (sub2 (cV c (i + 1)) (cV c i)) (sub2 (cV c (i + 1)) (cV c i)) ≤ dt (sub2 p (cV c i)) (sub2 (cV c (i + 1)) (cV c i))
    · obtain ⟨σ1, a1, a2, a3⟩ := m_fromPoint (n := n) (σ := σ) hp b2
      have ex : jJ (sub2 p (cV c i)).1 - jJ (sub2 (cV c (i + 1)) (cV c i)).1 = jJ (sub2 p (cV c (i + 1))).1 := by rw [jJ_sub]; congr 1; unfold sub2; simp only; omega
      have ey : jJ (sub2 p (cV c i)).2 - jJ (sub2 (cV c (i + 1)) (cV c i)).2 = jJ (sub2 p (cV c (i + 1))).2 := by rw [jJ_sub]; congr 1; unfold sub2; simp only; omega
      rw [if_neg (fun z => by have := (lc_lt rA rL).mp z; omega), if_pos w, ex, ey, a1, bd]
      exact ⟨σ1, rfl, a2, a3⟩
    · rw [if_pos ((lc_lt rA rL).mpr (by omega)), if_neg w, m_cross, bd, Cd]
      generalize crs (sub2 (cV c (i + 1)) (cV c i)) (sub2 p (cV c i)) = C at *
      generalize dt (sub2 (cV c (i + 1)) (cV c i)) (sub2 (cV c (i + 1)) (cV c i)) = L at *
      have ok := okE.l (show okE 250 by unfold okE; omega)
      have core : ∀ z : Int, 0 ≤ z → z ≤ 9223372036854775807 → z.toNat = C.natAbs → ∃ σ', b_X14_fromWay_164 n (jJ L) (jJ z) σ = some ((), σ') ∧ Fr AH σ σ' ∧ EV σ' 250 (C.natAbs * C.natAbs, L.toNat) := by
        intro z z0 z1 zn
        obtain ⟨σ1, a1, a2, a3⟩ := m_set (n := n) (σ := σ) ok234 (show z.toNat < 9223372036854775808 by omega)
        obtain ⟨σ2, c1, c2, c3⟩ := m_times (n := n) ok.1 ok234 ok234 (by decide) (by decide) a3 a3
        obtain ⟨σ3, g1, g2, g3⟩ := m_set (n := n) (σ := σ2) ok.2 (show L.toNat < 9223372036854775808 by omega)
        rw [zn] at c3
        have mm : C.natAbs * C.natAbs ≤ 9223372036854775807 * 9223372036854775807 := Nat.mul_le_mul (by omega) (by omega)
        refine ⟨σ3, ?_, ((a2.mono (fun b hb => by unfold AH; omega)).trans (c2.mono (fun b hb => by unfold AH; omega))).trans (g2.mono (fun b hb => by unfold AH; omega)), c3.fr g2 (by omega), g3, by show C.natAbs * C.natAbs < _; omega, by show L.toNat < _; omega, by show 0 < L.toNat; omega⟩
        rw [b_X14_fromWay_164, lN_j z0, a1, bd, c1, bd, lN_j (by omega), g1, bd]
      by_cases s : 0 ≤ C
      · rw [if_pos ((lz_ge rC).mpr s)]
        exact core C s (by omega) (by omega)
      · rw [if_neg (fun z => s ((lz_ge rC).mp z)), jJ_neg]
        exact core (-C) (by omega) (by omega) (by omega)

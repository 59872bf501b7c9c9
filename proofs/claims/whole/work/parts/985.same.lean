/-! both distances have the same value -/
set_option maxHeartbeats 200000 in
theorem lag (d e : V2) : dt d d * dt e e = dt d e * dt d e + crs e d * crs e d := by unfold dt crs; grind
set_option maxHeartbeats 200000 in
theorem sq_B (p A B : V2) : dt (sub2 p B) (sub2 p B) = dt (sub2 p A) (sub2 p A) - 2 * dt (sub2 p A) (sub2 B A) + dt (sub2 B A) (sub2 B A) := by unfold dt sub2; grind
set_option maxHeartbeats 200000 in
theorem sq_i (p A : V2) : ((sqN p A : Nat) : Int) = dt (sub2 p A) (sub2 p A) := by unfold sqN; have := dt_nn (sub2 p A); omega
set_option maxHeartbeats 200000 in
theorem na_sq (z : Int) : ((z.natAbs * z.natAbs : Nat) : Int) = z * z := by rw [Int.natCast_mul]; exact Int.natAbs_mul_self' z
set_option maxHeartbeats 200000 in
theorem wyD_A (p A B : V2) : fle (wyD p A B) (sqN p A, 1) := by
  unfold wyD fle
  have hB := sq_B p A B
  have iA := sq_i p A
  have iB := sq_i p B
  have nL := dt_nn (sub2 B A)
  split
  · exact Nat.le_refl _
  · split
    · show sqN p B * 1 ≤ sqN p A * 1
      omega
    · show (crs (sub2 B A) (sub2 p A)).natAbs * (crs (sub2 B A) (sub2 p A)).natAbs * 1 ≤ sqN p A * (dt (sub2 B A) (sub2 B A)).toNat
      have l := lag (sub2 p A) (sub2 B A)
      have m : 0 ≤ dt (sub2 p A) (sub2 B A) * dt (sub2 p A) (sub2 B A) := by
        have := na_sq (dt (sub2 p A) (sub2 B A)); omega
      have c := na_sq (crs (sub2 B A) (sub2 p A))
      have r : ((sqN p A * (dt (sub2 B A) (sub2 B A)).toNat : Nat) : Int) = dt (sub2 p A) (sub2 p A) * dt (sub2 B A) (sub2 B A) := by
        rw [Int.natCast_mul, iA]; congr 1; omega
      omega
set_option maxHeartbeats 200000 in
theorem wyD_B (p A B : V2) : fle (wyD p A B) (sqN p B, 1) := by
  unfold wyD fle
  have hB := sq_B p A B
  have iA := sq_i p A
  have iB := sq_i p B
  have nL := dt_nn (sub2 B A)
  split
  · show sqN p A * 1 ≤ sqN p B * 1
    omega
  · split
    · exact Nat.le_refl _
    · show (crs (sub2 B A) (sub2 p A)).natAbs * (crs (sub2 B A) (sub2 p A)).natAbs * 1 ≤ sqN p B * (dt (sub2 B A) (sub2 B A)).toNat
      have l := lag (sub2 p A) (sub2 B A)
      have c := na_sq (crs (sub2 B A) (sub2 p A))
      have m : 0 ≤ (dt (sub2 B A) (sub2 B A) - dt (sub2 p A) (sub2 B A)) * (dt (sub2 B A) (sub2 B A) - dt (sub2 p A) (sub2 B A)) := by
        have := na_sq (dt (sub2 B A) (sub2 B A) - dt (sub2 p A) (sub2 B A)); omega
      have r : ((sqN p B * (dt (sub2 B A) (sub2 B A)).toNat : Nat) : Int) = crs (sub2 B A) (sub2 p A) * crs (sub2 B A) (sub2 p A) + (dt (sub2 B A) (sub2 B A) - dt (sub2 p A) (sub2 B A)) * (dt (sub2 B A) (sub2 B A) - dt (sub2 p A) (sub2 B A)) := by
        rw [Int.natCast_mul, iB, hB]
        have e : ((dt (sub2 B A) (sub2 B A)).toNat : Int) = dt (sub2 B A) (sub2 B A) := by omega
        rw [e]
        generalize dt (sub2 B A) (sub2 B A) = L at *
        generalize dt (sub2 p A) (sub2 B A) = t at *
        generalize dt (sub2 p A) (sub2 p A) = s at *
        generalize crs (sub2 B A) (sub2 p A) = C at *
        grind
      omega
set_option maxHeartbeats 200000 in
theorem sq_0 {p A : V2} (h : p = A) : sqN p A = 0 := by subst h; unfold sqN dt sub2; simp
set_option maxHeartbeats 200000 in
theorem wy_i {c : Ct} (F : WF c) {k : Nat} (h1 : k + 1 < cN c) (h2 : ¬ isE c k) : wy c k := ⟨fun z => by have := F.2.2.2.2.2.2 z; omega, h1, h2⟩
/-! on a line some candidate is 0 -/
set_option maxHeartbeats 200000 in
theorem on_zero {c : Ct} (F : WF c) (vc : Val c) {p : V2} (h : onA c p) : ∃ y, CsI c p (cN c) y ∧ y.1 = 0 ∧ 0 < y.2 := by
  obtain ⟨k, w, on⟩ := h
  have hne := way_ne F vc w
  have hk := w.2.1
  by_cases z1 : p = cV c k
  · exact ⟨_, Or.inl ⟨k, by omega, rfl⟩, sq_0 z1, by show 0 < 1; omega⟩
  · by_cases z2 : p = cV c (k + 1)
    · exact ⟨_, Or.inl ⟨k + 1, hk, rfl⟩, sq_0 z2, by show 0 < 1; omega⟩
    · have t := on_in hne (Z := p) (by rw [vw_1, vw_1]; exact on_sid.mp on)
      have a1 := t.2.1 z1
      have a2 := t.2.2 z2
      refine ⟨_, Or.inr ⟨k, by omega, hk, w.2.2, a1, a2, rfl⟩, ?_, ?_⟩
      · show (crs (sub2 (cV c (k + 1)) (cV c k)) (sub2 p (cV c k))).natAbs * (crs (sub2 (cV c (k + 1)) (cV c k)) (sub2 p (cV c k))).natAbs = 0
        rw [crs_s2, on.2]; rfl
      · show 0 < (dt (sub2 (cV c (k + 1)) (cV c k)) (sub2 (cV c (k + 1)) (cV c k))).toNat
        have := dt_pos (nz_sub hne); omega
set_option maxHeartbeats 200000 in
theorem Mn_zero {C : Nat × Nat → Prop} {x : Nat × Nat} (m : Mn C x) {y : Nat × Nat} (hy : C y) (h0 : y.1 = 0) (h1 : 0 < y.2) : x.1 = 0 := by
  have := m.2 y hy
  unfold fle at this
  rw [h0, Nat.zero_mul] at this
  rcases Nat.mul_eq_zero.mp (show x.1 * y.2 = 0 by omega) with u | u
  · exact u
  · omega
set_option maxHeartbeats 200000 in
theorem D_same {c : Ct} (F : WF c) (vc : Val c) {p : V2} {x y : Nat × Nat} (hx : DMn c p x) (hy : DRn c p y) : fle x y ∧ fle y x := by
  have hN := F.n
  have hK := F.k
  unfold DMn at hx
  unfold DRn at hy
  by_cases l : 0 ≤ loc c p
  · rw [if_pos l] at hy
    subst hy
    by_cases k : cK c = 2
    · rw [if_pos ⟨k, l⟩] at hx
      subst hx
      exact ⟨fle_rf _, fle_rf _⟩
    · rw [if_neg (fun z => k z.1)] at hx
      have z : x.1 = 0 := by
        by_cases k0 : cK c = 0
        · have := (lo_0 k0 p).mp l
          exact Mn_zero hx (y := (sqN p (cV c 0), 1)) (Or.inl ⟨0, by omega, rfl⟩) (sq_0 this.symm) (by show 0 < 1; omega)
        · obtain ⟨y, y1, y2, y3⟩ := on_zero F vc ((lo_1 (by omega) p).mp l)
          exact Mn_zero hx y1 y2 y3
      unfold fle
      rw [z]
      exact ⟨by omega, by show 0 * x.2 ≤ 0 * 1; omega⟩
  · rw [if_neg l] at hy
    rw [if_neg (fun z => l z.2)] at hx
    constructor
    · -- each of the reference's is one of the system's
      refine hx.2 y ?_
      rcases hy.1 with e | ⟨k, k1, w, e⟩
      · exact Or.inl ⟨0, by omega, e⟩
      · have := w.2.1
        unfold wyD at e
        split at e
        · exact Or.inl ⟨k, by omega, e⟩
        · rename_i h1
          split at e
          · exact Or.inl ⟨k + 1, this, e⟩
          · rename_i h2
            exact Or.inr ⟨k, by omega, this, w.2.2, by omega, by omega, e⟩
    · -- for each of the system's there is one of the reference's that is not more
      rcases hx.1 with ⟨k, k1, e⟩ | ⟨k, k1, k2, k3, f1, f2, e⟩
      · by_cases z : k = 0
        · subst z; rw [e]; exact hy.2 _ (Or.inl rfl)
        · have k0 : cK c ≠ 0 := fun t => by have := F.2.2.2.2.2.2 t; omega
          rcases any_way F vc k0 k1 with w | ⟨w1, w⟩
          · have a := hy.2 (wyD p (cV c k) (cV c (k + 1))) (Or.inr ⟨k, by have := w.2.1; omega, w, rfl⟩)
            have b := wyD_A p (cV c k) (cV c (k + 1))
            rw [e]
            refine fle_tr ?_ a b
            unfold wyD
            split
            · show 0 < 1; omega
            · split
              · show 0 < 1; omega
              · show 0 < (dt (sub2 (cV c (k + 1)) (cV c k)) (sub2 (cV c (k + 1)) (cV c k))).toNat
                have := dt_pos (nz_sub (way_ne F vc w)); omega
          · have a := hy.2 (wyD p (cV c (k - 1)) (cV c (k - 1 + 1))) (Or.inr ⟨k - 1, by have := w.2.1; omega, w, rfl⟩)
            have b := wyD_B p (cV c (k - 1)) (cV c (k - 1 + 1))
            have pos' : 0 < (wyD p (cV c (k - 1)) (cV c (k - 1 + 1))).2 := by
              unfold wyD
              split
              · show 0 < 1; omega
              · split
                · show 0 < 1; omega
                · show 0 < (dt (sub2 (cV c (k - 1 + 1)) (cV c (k - 1))) (sub2 (cV c (k - 1 + 1)) (cV c (k - 1)))).toNat
                  have := dt_pos (nz_sub (way_ne F vc w)); omega
            have t := fle_tr pos' a b
            rw [show k - 1 + 1 = k by omega] at t
            rw [e]; exact t
      · refine hy.2 x (Or.inr ⟨k, by omega, wy_i F k2 k3, ?_⟩)
        rw [e]
        unfold wyD
        rw [if_neg (by omega), if_neg (by omega)]
/-! so comparing two of the one tells what comparing two of the other tells -/
set_option maxHeartbeats 200000 in
theorem eqv_cm {x y x' y' : Nat × Nat} (hx : 0 < x.2) (hy : 0 < y.2) (hx' : 0 < x'.2) (hy' : 0 < y'.2) (h : fle x y ∧ fle y x) (h' : fle x' y' ∧ fle y' x') : fle x x' ↔ fle y y' :=
  ⟨fun t => fle_tr hx h.2 (fle_tr hx' t h'.1), fun t => fle_tr hy h.1 (fle_tr hy' t h'.2)⟩

/-! GEOMETRY: rings against each other -/
set_option maxHeartbeats 200000 in
theorem hs_mid {c : Ct} {r e : Nat} (h : SmR c r) (h1 : sr c r ≤ e) (h2 : e < sr c r + ml c r) {D : Int} (hD : 0 < D) {X : V2} (ho : on0 (rl (TG c r) D X e) (rl (TG c r) D X (e + 1))) (ha : nz (rl (TG c r) D X e)) (hb : nz (rl (TG c r) D X (e + 1))) (φ : V2 → Bool) : hs (TG c r) D X φ = (φ (rl (TG c r) D X e) ^^ φ (rl (TG c r) D X (e + 1))) := by
  obtain ⟨m3, cl, _, S4⟩ := h
  unfold hs
  rw [XS_TG, xs_one e h1 h2 (fun i a b q => ?_), dB_t ho, Bool.true_and]
  have no : ¬ on0 (rl (TG c r) D X i) (rl (TG c r) D X (i + 1)) := by
    intro hi
    rcases Nat.lt_or_ge i e with z | z
    · rcases S4 D X i e hD a z h2 hi ho with ⟨q1, q2⟩ | ⟨q1, q2, q3⟩
      · exact ha q2
      · refine hb ?_
        show zro (rel (cV c) D X (e + 1))
        rw [q2]
        unfold rel at q3 ⊢
        rw [cl]; exact q3
    · rcases S4 D X e i hD h1 (by omega) b ho hi with ⟨q1, q2⟩ | ⟨q1, q2, q3⟩
      · exact hb (q1 ▸ q2)
      · exact ha (q1 ▸ q3)
  rw [dB_f no, Bool.false_and]
set_option maxHeartbeats 200000 in
theorem hs_vtx {c : Ct} {r k : Nat} (h : SmR c r) (h1 : sr c r ≤ k) (h2 : k + 1 < sr c r + ml c r) (φ : V2 → Bool) (hz : ∀ a, zro a → φ a = false) : hs (TG c r) 1 (cV c (k + 1)) φ = (φ (ng (dv (cV c) k)) ^^ φ (dv (cV c) (k + 1))) := by
  obtain ⟨m3, cl, nd, S4⟩ := h
  have z : zro (rl (TG c r) 1 (cV c (k + 1)) (k + 1)) := by rw [rl_1]; show zro (sub2 (cV c (k + 1)) (cV c (k + 1))); unfold zro sub2; simp
  have a1 : rl (TG c r) 1 (cV c (k + 1)) k = ng (dv (cV c) k) := by rw [rl_1]; show sub2 (cV c k) (cV c (k + 1)) = _; unfold sub2 ng dv; refine Prod.ext ?_ ?_ <;> simp only <;> omega
  have a2 : rl (TG c r) 1 (cV c (k + 1)) (k + 1 + 1) = dv (cV c) (k + 1) := by rw [rl_1]; rfl
  have o1 := on0_z2 (a := rl (TG c r) 1 (cV c (k + 1)) k) z
  have o2 := on0_z1 (b := rl (TG c r) 1 (cV c (k + 1)) (k + 1 + 1)) z
  unfold hs
  rw [XS_TG, xs_two k (k + 1) h1 (by omega) h2 (fun i a b q1 q2 => ?_), dB_t o1, dB_t o2, hz _ z, a1, a2]
  · cases φ (ng (dv (cV c) k)) <;> cases φ (dv (cV c) (k + 1)) <;> rfl
  · have no : ¬ on0 (rl (TG c r) 1 (cV c (k + 1)) i) (rl (TG c r) 1 (cV c (k + 1)) (i + 1)) := by
      intro ho
      rcases Nat.lt_or_ge i k with t | t
      · rcases S4 1 _ i (k + 1) (by omega) a (by omega) h2 ho o2 with ⟨p1, p2⟩ | ⟨p1, p2, p3⟩
        · omega
        · rcases S4 1 _ i k (by omega) a t (by omega) ho o1 with ⟨u1, u2⟩ | ⟨u1, u2, u3⟩
          · have u2' : zro (rl (TG c r) 1 (cV c (k + 1)) k) := u2
            rw [a1] at u2'
            exact ng_nz (nd k h1 (by omega)) u2'
          · omega
      · rcases S4 1 _ k i (by omega) h1 (by omega) b o1 ho with ⟨p1, p2⟩ | ⟨p1, p2, p3⟩
        · exact q2 p1
        · rcases S4 1 _ (k + 1) i (by omega) (by omega) (by omega) b o2 ho with ⟨u1, u2⟩ | ⟨u1, u2, u3⟩
          · have u2' : zro (rl (TG c r) 1 (cV c (k + 1)) i) := u2
            rw [u1, a2] at u2'
            exact nd (k + 1) (by omega) h2 u2'
          · omega
    rw [dB_f no, Bool.false_and]
/-! a half-way of a ring is a part of one of its ways, forth or back -/
set_option maxHeartbeats 200000 in
theorem HW_par {c : Ct} {r : Nat} (h : SmR c r) {D : Int} (hD : 0 < D) {X g : V2} (hg : HW (TG c r) D X g) : ∃ e N p, sr c r ≤ e ∧ e < sr c r + ml c r ∧ 0 < N ∧ 0 ≤ p ∧ p ≤ N * D ∧ scV N X = pX (cV c e) (cV c (e + 1)) p (N * D) ∧ ((p < N * D ∧ dir (dv (cV c) e) g) ∨ (0 < p ∧ dir (ng (dv (cV c) e)) g)) := by
  obtain ⟨hz, e, he, ho, hg⟩ := hg
  obtain ⟨e1, e2⟩ := inTG.mp he
  have hne := ND_r h ⟨e1, e2⟩
  obtain ⟨N, p, n1, n2, n3, n4, n5, n6⟩ := par_of hne hD (X := X) ho
  have df : rl (TG c r) D X (e + 1) = ((rl (TG c r) D X e).1 + D * (dv (cV c) e).1, (rl (TG c r) D X e).2 + D * (dv (cV c) e).2) := rl_dv c r D X e
  have dd' := dir_fv hD df ho
  refine ⟨e, N, p, e1, e2, n1, n2, n3, n4, ?_⟩
  rcases hg with hg | hg
  · rw [hg] at hz ⊢; exact Or.inr ⟨n6 hz, dd'.2 hz⟩
  · rw [hg] at hz ⊢; exact Or.inl ⟨n5 hz, dd'.1 hz⟩
set_option maxHeartbeats 200000 in
theorem par_HW {c : Ct} {r e : Nat} (h : SmR c r) (h1 : sr c r ≤ e) (h2 : e < sr c r + ml c r) {p D : Int} (hp : 0 ≤ p) (hD : p ≤ D) (h0 : 0 < D) : on0 (rl (TG c r) (D * 1) (pX (cV c e) (cV c (e + 1)) p D) e) (rl (TG c r) (D * 1) (pX (cV c e) (cV c (e + 1)) p D) (e + 1)) ∧ rl (TG c r) (D * 1) (pX (cV c e) (cV c (e + 1)) p D) e = (-p * (dv (cV c) e).1, -p * (dv (cV c) e).2) ∧ rl (TG c r) (D * 1) (pX (cV c e) (cV c (e + 1)) p D) (e + 1) = ((D - p) * (dv (cV c) e).1, (D - p) * (dv (cV c) e).2) := by
  have e1 : rl (TG c r) (D * 1) (pX (cV c e) (cV c (e + 1)) p D) e = (-p * (dv (cV c) e).1, -p * (dv (cV c) e).2) := by
    unfold pX; rw [rl_at2, rl_1]
    show pq (sub2 (cV c (e + 1)) (cV c e)) D p (sub2 (cV c e) (cV c e)) = _
    unfold pq sub2 dv; refine Prod.ext ?_ ?_ <;> simp only <;> grind
  have e2 : rl (TG c r) (D * 1) (pX (cV c e) (cV c (e + 1)) p D) (e + 1) = ((D - p) * (dv (cV c) e).1, (D - p) * (dv (cV c) e).2) := by
    unfold pX; rw [rl_at2, rl_1]
    show pq (sub2 (cV c (e + 1)) (cV c e)) D p (sub2 (cV c (e + 1)) (cV c e)) = _
    unfold pq sub2 dv; refine Prod.ext ?_ ?_ <;> simp only <;> grind
  refine ⟨?_, e1, e2⟩
  rw [e1, e2]
  exact on0_sc (Int.mul_nonpos_of_nonpos_of_nonneg (by omega) (by omega))
set_option maxHeartbeats 200000 in
theorem dir_pos {u : Int} (hu : 0 < u) {s : V2} (hs : nz s) : dir s (u * s.1, u * s.2) := ⟨by unfold crs; grind, by
  have : dt s (u * s.1, u * s.2) = u * dt s s := by unfold dt; grind
  rw [this]; exact Int.mul_pos hu (dt_pos hs)⟩
set_option maxHeartbeats 200000 in
theorem dir_neg {u : Int} (hu : u < 0) {s : V2} (hs : nz s) : dir (ng s) (u * s.1, u * s.2) := ⟨by unfold crs ng; grind, by
  have : dt (ng s) (u * s.1, u * s.2) = -u * dt s s := by unfold dt ng; grind
  rw [this]; exact Int.mul_pos (by omega) (dt_pos hs)⟩
/-! forth and back along a way of a ring: half-ways -/
set_option maxHeartbeats 200000 in
theorem HW_forth {c : Ct} {r e : Nat} (h : SmR c r) (h1 : sr c r ≤ e) (h2 : e < sr c r + ml c r) {p D : Int} (hp : 0 ≤ p) (hD : p < D) : ∃ g, HW (TG c r) (D * 1) (pX (cV c e) (cV c (e + 1)) p D) g ∧ dir (dv (cV c) e) g := by
  obtain ⟨ho, _, e2⟩ := par_HW h h1 h2 hp (show p ≤ D by omega) (by omega)
  have nd := h.2.2.1 e h1 h2
  have d := dir_pos (u := D - p) (by omega) nd
  rw [← e2] at d
  exact ⟨_, ⟨(dir_nz d).2, e, inTG.mpr ⟨h1, h2⟩, ho, Or.inr rfl⟩, d⟩
set_option maxHeartbeats 200000 in
theorem HW_back {c : Ct} {r e : Nat} (h : SmR c r) (h1 : sr c r ≤ e) (h2 : e < sr c r + ml c r) {p D : Int} (hp : 0 < p) (hD : p ≤ D) : ∃ g, HW (TG c r) (D * 1) (pX (cV c e) (cV c (e + 1)) p D) g ∧ dir (ng (dv (cV c) e)) g := by
  obtain ⟨ho, e1, _⟩ := par_HW h h1 h2 (show 0 ≤ p by omega) hD (by omega)
  have nd := h.2.2.1 e h1 h2
  have d := dir_neg (u := -p) (by omega) nd
  rw [← e1] at d
  exact ⟨_, ⟨(dir_nz d).2, e, inTG.mpr ⟨h1, h2⟩, ho, Or.inl rfl⟩, d⟩
set_option maxHeartbeats 200000 in
theorem al_dir {T : Sy} {D : Int} {X g h : V2} (d : dir g h) : al T D X g = al T D X h := by
  unfold al
  refine XS_congr (fun e _ => ?_)
  have k : ∀ a, dB (dir g a) = dB (dir h a) := fun a => dB_c ⟨fun z => dir_tr (dir_sym d) z, fun z => dir_tr d z⟩
  dsimp only
  rw [k, k]
set_option maxHeartbeats 200000 in
theorem sub_dv (V : Nat → V2) (e : Nat) : sub2 (V (e + 1)) (V e) = dv V e := rfl
set_option maxHeartbeats 200000 in
theorem D1 (D : Int) : D * 1 = D := by omega
/-! the parity of a closed row is the same all along a ring that does not pass it -/
set_option maxHeartbeats 200000 in
theorem ring_const {c : Ct} {r : Nat} (h : SmR c r) {U : Sy} (GU : GD U) (hal : ∀ D X g, 0 < D → HW (TG c r) D X g → al U D X g = false) (hpa : ∀ D X, 0 < D → hs (TG c r) D X (paD U D X) = false) : ∃ κ, ∀ D X g, 0 < D → HW (TG c r) D X g → pa U D X g = κ := by
  have hm := h.1
  -- along one way
  have way : ∀ e, sr c r ≤ e → e < sr c r + ml c r → ∀ p D, 0 ≤ p → p < D → Lv U (cV c e) (cV c (e + 1)) p D = Av U (cV c e) (cV c (e + 1)) 1 1 := by
    intro e h1 h2 p D hp hD
    have hne := ND_r h ⟨h1, h2⟩
    have nd := h.2.2.1 e h1 h2
    have still : ∀ p D, 0 < p → p < D → (Lv U (cV c e) (cV c (e + 1)) p D ^^ Av U (cV c e) (cV c (e + 1)) p D) = false := by
      intro p D hp hD
      obtain ⟨ho, e1, e2⟩ := par_HW h h1 h2 (show 0 ≤ p by omega) (show p ≤ D by omega) (by omega)
      have d1 := dir_neg (u := -p) (by omega) nd
      have d2 := dir_pos (u := D - p) (by omega) nd
      have s := hpa (D * 1) (pX (cV c e) (cV c (e + 1)) p D) (by omega)
      rw [hs_mid h h1 h2 (by omega) ho (by rw [e1]; exact (dir_nz d1).2) (by rw [e2]; exact (dir_nz d2).2), e1, e2] at s
      unfold paD at s
      rw [dB_t (dir_nz d1).2, dB_t (dir_nz d2).2, Bool.true_and, Bool.true_and, ← pa_dir GU (by omega) d1, ← pa_dir GU (by omega) d2] at s
      obtain ⟨g, hg, dg⟩ := HW_back h h1 h2 hp (show p ≤ D by omega)
      have a0 := hal _ _ g (by omega) hg
      rw [← al_dir dg] at a0
      unfold Lv Av paT
      rw [sub_dv, a0, Bool.xor_false, Bool.xor_comm]
      exact s
    have := jw GU hne (L := []) (by simp) (fun p D a b y => by rw [still p D a b] at y; cases y) _ p D hp hD rfl
    rw [xl] at this
    revert this
    cases Lv U (cV c e) (cV c (e + 1)) p D <;> cases Av U (cV c e) (cV c (e + 1)) 1 1 <;> simp
  -- from way to way
  have vtx : ∀ k, sr c r ≤ k → k + 1 < sr c r + ml c r → Lv U (cV c (k + 1)) (cV c (k + 2)) 0 1 = Av U (cV c k) (cV c (k + 1)) 1 1 := by
    intro k h1 h2
    have n1 := ng_nz (h.2.2.1 k h1 (by omega))
    have n2 := h.2.2.1 (k + 1) (by omega) h2
    have s := hpa 1 (cV c (k + 1)) (by omega)
    rw [hs_vtx h h1 h2 _ (fun a z => paD_z z)] at s
    unfold paD at s
    rw [dB_t n1, dB_t n2, Bool.true_and, Bool.true_and] at s
    obtain ⟨g, hg, dg⟩ := HW_back (p := 1) (D := 1) h h1 (show k < sr c r + ml c r by omega) (by omega) (by omega)
    have a0 := hal _ _ g (by omega) hg
    rw [← al_dir dg] at a0
    have ep : pX (cV c k) (cV c (k + 1)) 1 1 = cV c (k + 1) := by unfold pX at2 sub2; refine Prod.ext ?_ ?_ <;> simp only <;> omega
    rw [ep] at a0
    unfold Lv Av paT
    rw [sub_dv, sub_dv, pX_0, ep, a0, Bool.xor_false]
    show pa U 1 (cV c (k + 1)) (dv (cV c) (k + 1)) = pa U 1 (cV c (k + 1)) (ng (dv (cV c) k))
    revert s
    cases pa U 1 (cV c (k + 1)) (dv (cV c) (k + 1)) <;> cases pa U 1 (cV c (k + 1)) (ng (dv (cV c) k)) <;> simp
  have all : ∀ k, k < ml c r → Av U (cV c (sr c r + k)) (cV c (sr c r + k + 1)) 1 1 = Av U (cV c (sr c r)) (cV c (sr c r + 1)) 1 1 := by
    intro k
    induction k with
    | zero => intro _; rfl
    | succ k ih =>
      intro hk
      rw [← ih (by omega)]
      have := vtx (sr c r + k) (by omega) (by omega)
      rw [way (sr c r + k + 1) (by omega) (by omega) 0 1 (by omega) (by omega)] at this
      exact this
  refine ⟨Av U (cV c (sr c r)) (cV c (sr c r + 1)) 1 1, fun D X g hD hg => ?_⟩
  have a0 := hal D X g hD hg
  obtain ⟨e, N, p, e1, e2, n1, n2, n3, n4, n5⟩ := HW_par h hD hg
  have ae : Av U (cV c e) (cV c (e + 1)) 1 1 = Av U (cV c (sr c r)) (cV c (sr c r + 1)) 1 1 := by
    have := all (e - sr c r) (by omega)
    rw [show sr c r + (e - sr c r) = e by omega] at this
    exact this
  have hND : 0 < N * D := Int.mul_pos n1 hD
  have hne := ND_r h ⟨e1, e2⟩
  rcases n5 with ⟨q1, q2⟩ | ⟨q1, q2⟩
  · rw [← pa_dir GU hD q2, ← pa_sc U n1, n4, ← ae, ← way e e1 e2 p (N * D) n2 q1]
    unfold Lv paT
    rw [D1, sub_dv]
  · -- arriving
    rw [← al_dir q2] at a0
    rw [← pa_dir GU hD q2]
    have : Av U (cV c e) (cV c (e + 1)) p (N * D) = pa U D X (ng (dv (cV c) e)) := by
      unfold Av
      rw [D1, sub_dv, ← n4, pa_sc U n1, al_sc U n1, a0, Bool.xor_false]
    rw [← this, ← ae]
    by_cases z : p < N * D
    · have s : Lv U (cV c e) (cV c (e + 1)) p (N * D) = Av U (cV c e) (cV c (e + 1)) p (N * D) := by
        obtain ⟨ho, f1, f2⟩ := par_HW h e1 e2 n2 n3 hND
        have nd := h.2.2.1 e e1 e2
        have d1 := dir_neg (u := -p) (by omega) nd
        have d2 := dir_pos (u := N * D - p) (by omega) nd
        have s := hpa (N * D * 1) (pX (cV c e) (cV c (e + 1)) p (N * D)) (by omega)
        rw [hs_mid h e1 e2 (by omega) ho (by rw [f1]; exact (dir_nz d1).2) (by rw [f2]; exact (dir_nz d2).2), f1, f2] at s
        unfold paD at s
        rw [dB_t (dir_nz d1).2, dB_t (dir_nz d2).2, Bool.true_and, Bool.true_and, ← pa_dir GU (by omega) d1, ← pa_dir GU (by omega) d2] at s
        unfold Lv Av paT
        rw [D1, sub_dv]
        rw [D1] at s
        rw [← n4] at s ⊢
        rw [al_sc U n1, a0, Bool.xor_false]
        revert s
        cases pa U (N * D) (scV N X) (dv (cV c) e) <;> cases pa U (N * D) (scV N X) (ng (dv (cV c) e)) <;> simp
      rw [← s, way e e1 e2 p (N * D) n2 z]
    · have pe : p = N * D := by omega
      subst pe
      rw [Av_l GU hne _ hND, Av_l GU hne 1 (by omega)]
      refine XS_congr (fun e' he' => ?_)
      cases hx : xT U 1 (cV c e) (sub2 (cV c (e + 1)) (cV c e)) e' with
      | false => rfl
      | true =>
        rw [Bool.true_and, Bool.true_and]
        apply decide_eq_decide.mpr
        rw [Int.one_mul, Int.one_mul]
        exact ⟨fun t => Int.le_of_mul_le_mul_left t hND, fun t => Int.mul_le_mul_of_nonneg_left t (by omega)⟩

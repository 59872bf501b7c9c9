/-! rings and shapes as rows of ways -/
def TG (d : Ct) (r : Nat) : Sy := (cV d, fun _ => true, sr d r, ml d r)
noncomputable def TC (d : Ct) : Sy := (cV d, fun e => dB (wy d e), 0, cN d - 1)
set_option maxHeartbeats 200000 in
theorem inTC {d : Ct} {e : Nat} : inT (TC d) e ↔ wy d e := by
  show 0 ≤ e ∧ e < 0 + (cN d - 1) ∧ dB (wy d e) = true ↔ _
  rw [dB_i]
  exact ⟨fun h => h.2.2, fun h => ⟨by omega, by have := h.2.1; omega, h⟩⟩
set_option maxHeartbeats 200000 in
theorem inTG {d : Ct} {r e : Nat} : inT (TG d r) e ↔ (sr d r ≤ e ∧ e < sr d r + ml d r) := ⟨fun h => ⟨h.1, h.2.1⟩, fun h => ⟨h.1, h.2, rfl⟩⟩
set_option maxHeartbeats 200000 in
theorem XS_TG (d : Ct) (r : Nat) (f : Nat → Bool) : XS (TG d r) f = xs f (sr d r) (ml d r) := xs_congr (fun e _ _ => Bool.true_and _)
set_option maxHeartbeats 200000 in
theorem XS_TC {d : Ct} (G : WF d) (hk : cK d ≠ 0) (f : Nat → Bool) : XS (TC d) f = xs (fun r => XS (TG d r) f) 0 (cR d) := by
  show xs (fun e => dB (wy d e) && f e) 0 (cN d - 1) = _
  rw [ring_sum G hk]
  exact xs_congr (fun r _ _ => (XS_TG d r f).symm)
set_option maxHeartbeats 200000 in
theorem GD_TG {d : Ct} {r : Nat} (h : SmR d r) : GD (TG d r) := by
  refine ⟨fun w => ?_, fun e he => ?_⟩
  · rw [XS_TG]
    show xs (fun e => w (cV d e) ^^ w (cV d (e + 1))) (sr d r) (ml d r) = false
    rw [xs_tel (fun e => w (cV d e)), h.2.1]
    cases w (cV d (sr d r)) <;> rfl
  · have := inTG.mp he
    intro z
    refine h.2.2.1 e this.1 this.2 ⟨?_, ?_⟩
    · show (cV d (e + 1)).1 - (cV d e).1 = 0
      have z' : cV d e = cV d (e + 1) := z
      rw [z']; omega
    · show (cV d (e + 1)).2 - (cV d e).2 = 0
      have z' : cV d e = cV d (e + 1) := z
      rw [z']; omega
/-! the ring of a way -/
set_option maxHeartbeats 200000 in
theorem wy_r {d : Ct} (G : WF d) {e : Nat} (h : wy d e) : ∃ r, r < cR d ∧ sr d r ≤ e ∧ e < sr d r + ml d r := by
  have hN := G.n
  have hR := G.r
  have := h.2.1
  -- the last ring that begins at e or ahead
  have main : ∀ k, k ≤ cR d → (∀ r, r < k → cE d r ≤ e) ∨ ∃ r, r < k ∧ sr d r ≤ e ∧ e < cE d r := by
    intro k
    induction k with
    | zero => intro _; exact Or.inl (fun r hr => by omega)
    | succ k ih =>
      intro hk
      rcases ih (by omega) with h1 | ⟨r, r1, r2⟩
      · by_cases z : cE d k ≤ e
        · exact Or.inl (fun r hr => by
            by_cases y : r = k
            · rw [y]; exact z
            · exact h1 r (by omega))
        · refine Or.inr ⟨k, by omega, ?_, by omega⟩
          unfold sr
          split
          · omega
          · exact h1 (k - 1) (by omega)
      · exact Or.inr ⟨r, by omega, r2⟩
  rcases main (cR d) (Nat.le_refl _) with h1 | ⟨r, r1, r2, r3⟩
  · have := h1 (cR d - 1) (by omega)
    rw [G.el] at this; omega
  · refine ⟨r, r1, r2, ?_⟩
    have : cE d r ≠ e + 1 := fun z => h.2.2 ⟨r, r1, z⟩
    unfold ml; omega
set_option maxHeartbeats 200000 in
theorem wy_ring' {d : Ct} (G : WF d) (hk : cK d ≠ 0) {r e : Nat} (hr : r < cR d) (h1 : sr d r ≤ e) (h2 : e < sr d r + ml d r) : wy d e := wy_ring G hk hr h1 (by unfold ml at h2; omega)
set_option maxHeartbeats 200000 in
theorem GD_TC {d : Ct} (G : WF d) (hk : cK d ≠ 0) (h : ∀ r, r < cR d → SmR d r) : GD (TC d) := by
  refine ⟨fun w => ?_, fun e he => ?_⟩
  · rw [XS_TC G hk]
    exact xs_none (fun r _ hr => (GD_TG (h r (by omega))).1 w)
  · obtain ⟨r, r1, r2, r3⟩ := wy_r G (inTC.mp he)
    exact (GD_TG (h r r1)).2 e (inTG.mpr ⟨r2, r3⟩)
/-! lengths don't count -/
set_option maxHeartbeats 200000 in
theorem cc_sc {s a b : V2} {N : Int} (hN : 0 < N) : cc s (N * a.1, N * a.2) (N * b.1, N * b.2) = cc s a b := by
  have e1 : crs s (N * a.1, N * a.2) = N * crs s a := by unfold crs; grind
  have e2 : crs s (N * b.1, N * b.2) = N * crs s b := by unfold crs; grind
  have e3 : crs (N * a.1, N * a.2) (N * b.1, N * b.2) = N * (N * crs a b) := by unfold crs; grind
  unfold cc
  rw [e1, e2, e3, sg_mulp hN, sg_mulp hN, sg_mulp hN, sg_mulp hN]
set_option maxHeartbeats 200000 in
theorem al_vec {a v : V2} (h : crs a v = 0) : (dt v v * a.1, dt v v * a.2) = (dt a v * v.1, dt a v * v.2) := by
  refine Prod.ext ?_ ?_
  · show dt v v * a.1 = dt a v * v.1
    have : dt v v * a.1 - dt a v * v.1 = crs a v * v.2 := by unfold dt crs; grind
    rw [h, Int.zero_mul] at this; omega
  · show dt v v * a.2 = dt a v * v.2
    have : dt v v * a.2 - dt a v * v.2 = -(crs a v * v.1) := by unfold dt crs; grind
    rw [h, Int.zero_mul] at this; omega
set_option maxHeartbeats 200000 in
theorem rl_dv (d : Ct) (r : Nat) (D : Int) (X : V2) (e : Nat) : rl (TG d r) D X (e + 1) = ((rl (TG d r) D X e).1 + D * (dv (cV d) e).1, (rl (TG d r) D X e).2 + D * (dv (cV d) e).2) := by
  refine Prod.ext ?_ ?_
  · show D * (cV d (e + 1)).1 - X.1 = D * (cV d e).1 - X.1 + D * ((cV d (e + 1)).1 - (cV d e).1)
    grind
  · show D * (cV d (e + 1)).2 - X.2 = D * (cV d e).2 - X.2 + D * ((cV d (e + 1)).2 - (cV d e).2)
    grind
set_option maxHeartbeats 200000 in
theorem pa_par {d : Ct} {r : Nat} {D N : Int} {X s : V2} {B : Nat → V2} (hN : 0 < N) (h : ∀ i, (N * (rl (TG d r) D X i).1, N * (rl (TG d r) D X i).2) = B i) : pa (TG d r) D X s = par B s (sr d r) (ml d r) := by
  unfold pa par
  rw [XS_TG]
  refine xs_congr (fun e _ _ => ?_)
  rw [← cc_sc hN, h, h]
/-! just left of a ring, at any of its points, forth and back -/
set_option maxHeartbeats 200000 in
theorem sd_forth {d : Ct} {r : Nat} (h : SmR d r) {e : Nat} (h1 : sr d r ≤ e) (h2 : e < sr d r + ml d r) {D : Int} (hD : 0 < D) {X : V2} (ho : on0 (rl (TG d r) D X e) (rl (TG d r) D X (e + 1))) (hb : nz (rl (TG d r) D X (e + 1))) : pa (TG d r) D X (dv (cV d) e) = sd (cV d) (sr d r) (ml d r) := by
  have hv := h.2.2.1 e h1 h2
  have hN := dt_pos hv
  have eb := rl_dv d r D X e
  generalize hA : rl (TG d r) D X e = a at *
  generalize hB : rl (TG d r) D X (e + 1) = b at *
  generalize hV : dv (cV d) e = v at *
  have ca : crs a v = 0 := by
    have : D * crs a v = crs a b := by rw [eb]; unfold crs; grind
    rw [ho.1] at this
    rcases Int.mul_eq_zero.mp this with z | z
    · omega
    · exact z
  have vv := al_vec ca
  have t1 : D * dt a v = dt a b - dt a a := by rw [eb]; unfold dt; grind
  have t2 : D * (dt v v * D + dt a v) = dt b b - dt a b := by
    have : dt b v = dt a v + D * dt v v := by rw [eb]; unfold dt; grind
    have t3 : D * dt b v = dt b b - dt a b := by
      have : ∀ a v : V2, D * dt (a.1 + D * v.1, a.2 + D * v.2) v = dt (a.1 + D * v.1, a.2 + D * v.2) (a.1 + D * v.1, a.2 + D * v.2) - dt a (a.1 + D * v.1, a.2 + D * v.2) := by intro a v; unfold dt; grind
      rw [eb]; exact this a v
    rw [← t3, this]; grind
  have p0 : 0 ≤ -dt a v := by
    have n2 : 0 ≤ dt a a := by unfold dt; have := sq_nn a.1; have := sq_nn a.2; omega
    have := ho.2
    by_cases z : dt a v ≤ 0
    · omega
    · have := Int.mul_pos hD (show 0 < dt a v by omega); omega
  have p1 : -dt a v < dt v v * D := by
    have := dt_pos hb
    have := ho.2
    by_cases z : 0 < dt v v * D + dt a v
    · omega
    · have := Int.mul_nonpos_of_nonneg_of_nonpos (show 0 ≤ D by omega) (show dt v v * D + dt a v ≤ 0 by omega); omega
  rw [pa_par (B := fun i => pq v (dt v v * D) (-dt a v) (fro (cV d) (cV d e) i)) hN (fun i => ?_)]
  · have := Smp.forth h h1 h2 p0 p1
    rw [hV] at this; exact this
  · have q1 := congrArg Prod.fst vv
    have q2 := congrArg Prod.snd vv
    simp only at q1 q2
    have a1 : a.1 = D * (cV d e).1 - X.1 := by rw [← hA]; rfl
    have a2 : a.2 = D * (cV d e).2 - X.2 := by rw [← hA]; rfl
    have r1 : (rl (TG d r) D X i).1 = D * (cV d i).1 - X.1 := rfl
    have r2 : (rl (TG d r) D X i).2 = D * (cV d i).2 - X.2 := rfl
    unfold pq fro
    refine Prod.ext ?_ ?_
    · show dt v v * (rl (TG d r) D X i).1 = dt v v * D * ((cV d i).1 - (cV d e).1) - -dt a v * v.1
      rw [r1]
      have : dt v v * a.1 = dt v v * (D * (cV d e).1 - X.1) := by rw [a1]
      generalize dt v v = N at *
      generalize dt a v = M at *
      grind
    · show dt v v * (rl (TG d r) D X i).2 = dt v v * D * ((cV d i).2 - (cV d e).2) - -dt a v * v.2
      rw [r2]
      have : dt v v * a.2 = dt v v * (D * (cV d e).2 - X.2) := by rw [a2]
      generalize dt v v = N at *
      generalize dt a v = M at *
      grind
set_option maxHeartbeats 200000 in
theorem sd_back {d : Ct} {r : Nat} (h : SmR d r) {e : Nat} (h1 : sr d r ≤ e) (h2 : e < sr d r + ml d r) {D : Int} (hD : 0 < D) {X : V2} (ho : on0 (rl (TG d r) D X e) (rl (TG d r) D X (e + 1))) (ha : nz (rl (TG d r) D X e)) : pa (TG d r) D X (ng (dv (cV d) e)) = !sd (cV d) (sr d r) (ml d r) := by
  have hv := h.2.2.1 e h1 h2
  have hN := dt_pos hv
  have eb := rl_dv d r D X e
  generalize hA : rl (TG d r) D X e = a at *
  generalize hB : rl (TG d r) D X (e + 1) = b at *
  generalize hV : dv (cV d) e = v at *
  have cb : crs b v = 0 := by
    have : D * crs b v = -crs b a := by
      have : ∀ a v : V2, D * crs (a.1 + D * v.1, a.2 + D * v.2) v = -crs (a.1 + D * v.1, a.2 + D * v.2) a := by intro a v; unfold crs; grind
      rw [eb]; exact this a v
    have e2 : crs b a = 0 := by rw [crs_sw, ho.1]; rfl
    rw [e2] at this
    rcases Int.mul_eq_zero.mp (show D * crs b v = 0 by omega) with z | z
    · omega
    · exact z
  have vv := al_vec cb
  have t3 : D * dt b v = dt b b - dt a b := by
    have : ∀ a v : V2, D * dt (a.1 + D * v.1, a.2 + D * v.2) v = dt (a.1 + D * v.1, a.2 + D * v.2) (a.1 + D * v.1, a.2 + D * v.2) - dt a (a.1 + D * v.1, a.2 + D * v.2) := by intro a v; unfold dt; grind
    rw [eb]; exact this a v
  have t4 : D * (dt v v * D - dt b v) = dt a a - dt a b := by
    have k : ∀ a v : V2, D * (dt v v * D - dt (a.1 + D * v.1, a.2 + D * v.2) v) = dt a a - dt a (a.1 + D * v.1, a.2 + D * v.2) := by intro a v; unfold dt; grind
    rw [eb]; exact k a v
  have p0 : 0 ≤ dt b v := by
    have n2 : 0 ≤ dt b b := by unfold dt; have := sq_nn b.1; have := sq_nn b.2; omega
    have := ho.2
    by_cases z : 0 ≤ dt b v
    · exact z
    · have := Int.mul_neg_of_pos_of_neg hD (show dt b v < 0 by omega); omega
  have p1 : dt b v < dt v v * D := by
    have := dt_pos ha
    have := ho.2
    by_cases z : 0 < dt v v * D - dt b v
    · omega
    · have := Int.mul_nonpos_of_nonneg_of_nonpos (show 0 ≤ D by omega) (show dt v v * D - dt b v ≤ 0 by omega); omega
  rw [pa_par (B := fun i => pq (ng v) (dt v v * D) (dt b v) (fro (cV d) (cV d (e + 1)) i)) hN (fun i => ?_)]
  · have := Smp.back h h1 h2 p0 p1
    rw [hV] at this; exact this
  · have q1 := congrArg Prod.fst vv
    have q2 := congrArg Prod.snd vv
    simp only at q1 q2
    have a1 : b.1 = D * (cV d (e + 1)).1 - X.1 := by rw [← hB]; rfl
    have a2 : b.2 = D * (cV d (e + 1)).2 - X.2 := by rw [← hB]; rfl
    have r1 : (rl (TG d r) D X i).1 = D * (cV d i).1 - X.1 := rfl
    have r2 : (rl (TG d r) D X i).2 = D * (cV d i).2 - X.2 := rfl
    unfold pq fro ng
    refine Prod.ext ?_ ?_
    · show dt v v * (rl (TG d r) D X i).1 = dt v v * D * ((cV d i).1 - (cV d (e + 1)).1) - dt b v * -v.1
      rw [r1]
      have : dt v v * b.1 = dt v v * (D * (cV d (e + 1)).1 - X.1) := by rw [a1]
      generalize dt v v = N at *
      generalize dt b v = M at *
      grind
    · show dt v v * (rl (TG d r) D X i).2 = dt v v * D * ((cV d i).2 - (cV d (e + 1)).2) - dt b v * -v.2
      rw [r2]
      have : dt v v * b.2 = dt v v * (D * (cV d (e + 1)).2 - X.2) := by rw [a2]
      generalize dt v v = N at *
      generalize dt b v = M at *
      grind
/-! directions -/
set_option maxHeartbeats 200000 in
theorem W_e1 {g h s : V2} (hg : nz g) (hh : nz h) (d : dir g h) : Wd s g = Wd s h := by
  have e : (dt g h * g.1, dt g h * g.2) = (dt g g * h.1, dt g g * h.2) := by
    have := al_vec (a := h) (v := g) (by rw [crs_sw, d.1]; rfl)
    have c : dt h g = dt g h := by unfold dt; rw [Int.mul_comm h.1, Int.mul_comm h.2]
    rw [c] at this
    exact this.symm
  have w1 : Wd s (dt g h * g.1, dt g h * g.2) = Wd s g := W_sc d.2
  have w2 : Wd s (dt g g * h.1, dt g g * h.2) = Wd s h := W_sc (dt_pos hg)
  rw [← w1, e, w2]
set_option maxHeartbeats 200000 in
theorem dir_tr {g h k : V2} (a : dir g h) (b : dir h k) : dir g k := by
  have hh : nz h := fun z => dir_z z a
  have hN := dt_pos hh
  have e1 : crs g k * dt h h = crs g h * dt h k + dt g h * crs h k := by unfold crs dt; grind
  have e2 : dt g k * dt h h = dt g h * dt h k - crs g h * crs h k := by unfold crs dt; grind
  rw [a.1, b.1] at e1 e2
  refine ⟨?_, ?_⟩
  · have : crs g k * dt h h = 0 := by rw [e1]; simp
    rcases Int.mul_eq_zero.mp this with z | z
    · exact z
    · omega
  · have p := Int.mul_pos a.2 b.2
    have : dt g k * dt h h = dt g h * dt h k := by rw [e2]; simp
    by_cases z : 0 < dt g k
    · exact z
    · have := Int.mul_nonpos_of_nonpos_of_nonneg (show dt g k ≤ 0 by omega) (show 0 ≤ dt h h by omega); omega
set_option maxHeartbeats 200000 in
theorem dir_self {g : V2} (h : nz g) : dir g g := ⟨crs_self g, dt_pos h⟩
set_option maxHeartbeats 200000 in
theorem dir_nz {g h : V2} (d : dir g h) : nz g ∧ nz h := ⟨fun z => by have := d.2; unfold dt at this; rw [z.1, z.2] at this; omega, fun z => dir_z z d⟩
set_option maxHeartbeats 200000 in
theorem W_e2 {g h s : V2} (d : dir g h) (hs : nz s) : Wd g s = Wd h s := by
  obtain ⟨hg, hh⟩ := dir_nz d
  cases z : Wd g s with
  | true => exact (W_tr hh hg hs (W_dir hh hg (dir_sym d)) z).symm
  | false =>
    cases y : Wd h s with
    | false => rfl
    | true => rw [W_tr hg hh hs (W_dir hg hh d) y] at z; cases z
set_option maxHeartbeats 200000 in
theorem pa_dir {T : Sy} (G : GD T) {D : Int} (hD : 0 < D) {X g h : V2} (d : dir g h) : pa T D X g = pa T D X h := by
  obtain ⟨hg, hh⟩ := dir_nz d
  exact pa_sector G hD hg hh (κ := false) (fun a ha => by rw [W_e2 d ha.1]; cases Wd h a <;> rfl)
/-! the vector of a way, seen from one of its points -/
set_option maxHeartbeats 200000 in
theorem dir_fv {a b f : V2} {D : Int} (hD : 0 < D) (e : b = (a.1 + D * f.1, a.2 + D * f.2)) (ho : on0 a b) : (nz b → dir f b) ∧ (nz a → dir (ng f) a) := by
  constructor
  · intro hb
    refine ⟨?_, ?_⟩
    · have : D * crs f b = crs b a + 0 := by rw [e]; unfold crs; grind
      have e2 : crs b a = 0 := by rw [crs_sw, ho.1]; rfl
      rw [e2] at this
      rcases Int.mul_eq_zero.mp (show D * crs f b = 0 by omega) with z | z
      · omega
      · exact z
    · have : D * dt f b = dt b b - dt a b := by rw [e]; unfold dt; grind
      have := dt_pos hb
      have := ho.2
      by_cases z : 0 < dt f b
      · exact z
      · have := Int.mul_nonpos_of_nonneg_of_nonpos (show 0 ≤ D by omega) (show dt f b ≤ 0 by omega); omega
  · intro ha
    refine ⟨?_, ?_⟩
    · have : D * crs (ng f) a = crs a b := by rw [e]; unfold crs ng; grind
      rw [ho.1] at this
      rcases Int.mul_eq_zero.mp this with z | z
      · omega
      · exact z
    · have : D * dt (ng f) a = dt a a - dt a b := by rw [e]; unfold dt ng; grind
      have := dt_pos ha
      have := ho.2
      by_cases z : 0 < dt (ng f) a
      · exact z
      · have := Int.mul_nonpos_of_nonneg_of_nonpos (show 0 ≤ D by omega) (show dt (ng f) a ≤ 0 by omega); omega

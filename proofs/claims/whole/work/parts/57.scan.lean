/-! beside all ways nothing is met -/
def hp4 (k : Nat) (a : V2) : Prop := if k = 0 then a.1 < 0 else if k = 1 then 0 < a.1 else if k = 2 then a.2 < 0 else 0 < a.2
set_option maxHeartbeats 200000 in
theorem same_no {x y u v : Int} (h : 0 < x * u) (hc : x * v - y * u = 0) : 0 < x * u + y * v := by
  have e : (x * u + y * v) * (x * u) = (x * u) * (x * u) + (x * v) * (x * v) := by
    have : y * u = x * v := by omega
    have e2 : (y * v) * (x * u) = (y * u) * (x * v) := by grind
    have e3 : (x * u + y * v) * (x * u) = (x * u) * (x * u) + (y * v) * (x * u) := by grind
    rw [e3, e2, this]
  have h1 : 0 < (x * u) * (x * u) := Int.mul_pos h h
  have h2 := sq_nn (x * v)
  by_cases q : 0 < x * u + y * v
  · exact q
  · have := Int.mul_nonpos_of_nonpos_of_nonneg (show x * u + y * v ≤ 0 by omega) (show 0 ≤ x * u by omega)
    omega
set_option maxHeartbeats 200000 in
theorem half_no {k : Nat} {a b : V2} (ha : hp4 k a) (hb : hp4 k b) : ¬ on0 a b := by
  rintro ⟨h1, h2⟩
  unfold crs at h1
  unfold dt at h2
  unfold hp4 at ha hb
  have x1 : 0 < a.1 * b.1 → False := fun h => by have := same_no h h1; omega
  have x2 : 0 < a.2 * b.2 → False := fun h => by
    have := same_no (x := a.2) (y := a.1) (u := b.2) (v := b.1) h (by omega)
    omega
  by_cases q0 : k = 0
  · rw [if_pos q0] at ha hb; exact x1 (Int.mul_pos_of_neg_of_neg ha hb)
  · rw [if_neg q0] at ha hb
    by_cases q1 : k = 1
    · rw [if_pos q1] at ha hb; exact x1 (Int.mul_pos ha hb)
    · rw [if_neg q1] at ha hb
      by_cases q2 : k = 2
      · rw [if_pos q2] at ha hb; exact x2 (Int.mul_pos_of_neg_of_neg ha hb)
      · rw [if_neg q2] at ha hb; exact x2 (Int.mul_pos ha hb)
set_option maxHeartbeats 200000 in
theorem sgn0 (x : Int) : (sg x != 0) = decide (0 ≤ x) := by
  rcases sg_cases x with ⟨h1, e1⟩ | ⟨h1, e1⟩ | ⟨h1, e1⟩ <;> rw [e1]
  · exact (decide_eq_false (by omega)).symm
  · exact (decide_eq_true (by omega)).symm
  · exact (decide_eq_true (by omega)).symm
set_option maxHeartbeats 200000 in
theorem cr_form (a b : V2) : cr a b = ((decide (0 ≤ a.2) != decide (0 ≤ b.2)) && (if 0 ≤ b.2 then decide (0 < crs a b) else decide (crs a b < 0))) := by
  unfold cr rS
  rw [sgn0, sgn0, sg2, sg0]
  by_cases q : 0 ≤ b.2
  · simp only [q, decide_true, if_true]
  · simp only [q, decide_false, if_false, Bool.false_eq_true]
set_option maxHeartbeats 200000 in
theorem cr_l {a b : V2} (ha : a.1 < 0) (hb : b.1 < 0) : cr a b = false := by
  rw [cr_form]
  unfold crs
  by_cases q1 : 0 ≤ a.2 <;> by_cases q2 : 0 ≤ b.2
  · rw [decide_eq_true q1, decide_eq_true q2]; rfl
  · have h1 := Int.mul_pos_of_neg_of_neg ha (show b.2 < 0 by omega)
    have h2 := Int.mul_nonpos_of_nonneg_of_nonpos q1 (show b.1 ≤ 0 by omega)
    rw [if_neg q2, decide_eq_false (p := a.1 * b.2 - a.2 * b.1 < 0) (by omega), Bool.and_false]
  · have h1 := Int.mul_nonpos_of_nonpos_of_nonneg (show a.1 ≤ 0 by omega) q2
    have h2 := Int.mul_pos_of_neg_of_neg (show a.2 < 0 by omega) hb
    rw [if_pos q2, decide_eq_false (p := 0 < a.1 * b.2 - a.2 * b.1) (by omega), Bool.and_false]
  · rw [decide_eq_false q1, decide_eq_false q2]; rfl
set_option maxHeartbeats 200000 in
theorem cr_r {a b : V2} (ha : 0 < a.1) (hb : 0 < b.1) : cr a b = (decide (0 ≤ a.2) ^^ decide (0 ≤ b.2)) := by
  rw [cr_form]
  unfold crs
  by_cases q1 : 0 ≤ a.2 <;> by_cases q2 : 0 ≤ b.2
  · rw [decide_eq_true q1, decide_eq_true q2]; rfl
  · have h1 := Int.mul_neg_of_pos_of_neg ha (show b.2 < 0 by omega)
    have h2 := Int.mul_nonneg q1 (show 0 ≤ b.1 by omega)
    rw [if_neg q2, decide_eq_true (p := a.1 * b.2 - a.2 * b.1 < 0) (by omega), decide_eq_true q1, decide_eq_false q2]; rfl
  · have h1 := Int.mul_nonneg (show 0 ≤ a.1 by omega) q2
    have h2 := Int.mul_neg_of_neg_of_pos (show a.2 < 0 by omega) hb
    rw [if_pos q2, decide_eq_true (p := 0 < a.1 * b.2 - a.2 * b.1) (by omega), decide_eq_false q1, decide_eq_true q2]; rfl
  · rw [decide_eq_false q1, decide_eq_false q2]; rfl
set_option maxHeartbeats 200000 in
theorem rf_out {T : Sy} (G : GD T) {D : Int} {X : V2} {k : Nat} (h : ∀ e, inT T e → hp4 k (rl T D X e) ∧ hp4 k (rl T D X (e + 1))) : rf T D X = false := by
  unfold rf
  by_cases q0 : k = 0
  · refine XS_none (fun e he => ?_)
    obtain ⟨h1, h2⟩ := h e he
    unfold hp4 at h1 h2
    rw [if_pos q0] at h1 h2
    exact cr_l h1 h2
  · by_cases q1 : k = 1
    · rw [XS_congr (g := fun e => decide (0 ≤ (rl T D X e).2) ^^ decide (0 ≤ (rl T D X (e + 1)).2)) (fun e he => ?_)]
      · exact cyc_rl G (fun a => decide (0 ≤ a.2))
      · obtain ⟨h1, h2⟩ := h e he
        unfold hp4 at h1 h2
        rw [if_neg q0, if_pos q1] at h1 h2
        exact cr_r h1 h2
    · refine XS_none (fun e he => ?_)
      obtain ⟨h1, h2⟩ := h e he
      unfold hp4 at h1 h2
      rw [if_neg q0, if_neg q1] at h1 h2
      by_cases q2 : k = 2
      · rw [if_pos q2] at h1 h2
        rw [cr_form, decide_eq_false (show ¬ 0 ≤ (rl T D X e).2 by omega), decide_eq_false (show ¬ 0 ≤ (rl T D X (e + 1)).2 by omega)]; rfl
      · rw [if_neg q2] at h1 h2
        exact cr_no (by omega) (by omega)
set_option maxHeartbeats 200000 in
theorem pa_out {T : Sy} (G : GD T) {D : Int} (hD : 0 < D) {X s : V2} (hs' : nz s) {k : Nat} (h : ∀ e, inT T e → hp4 k (rl T D X e) ∧ hp4 k (rl T D X (e + 1))) : pa T D X s = false ∧ ∀ g, ¬ HW T D X g := by
  have no : ∀ g, ¬ HW T D X g := by
    rintro g ⟨-, e, he, ho, -⟩
    exact half_no (h e he).1 (h e he).2 ho
  refine ⟨?_, no⟩
  rw [pa_wedge G hD X hs', rf_out G h, hs_none (fun a z => W_z z) (fun g hg => (no g hg).elim)]; rfl
/-! the region as a row of ways -/
noncomputable def TR (d : Ct) (lo hi : Nat) : Sy := (cV d, fun e => dB (¬ isE d e), lo, hi - lo - 1)
set_option maxHeartbeats 200000 in
theorem inTR {d : Ct} {lo hi e : Nat} : inT (TR d lo hi) e ↔ rgE d lo hi e := by
  unfold inT TR rgE sL sM sW
  show lo ≤ e ∧ e < lo + (hi - lo - 1) ∧ dB (¬ isE d e) = true ↔ _
  rw [dB_i]
  exact ⟨fun h => ⟨h.1, by omega, h.2.2⟩, fun h => ⟨h.1, by omega, h.2.2⟩⟩
set_option maxHeartbeats 200000 in
theorem rl_1 (T : Sy) (P : V2) (e : Nat) : rl T 1 P e = sub2 (sV T e) P := by unfold rl rel sub2; simp
set_option maxHeartbeats 200000 in
theorem ptR_pa (d : Ct) (lo hi : Nat) (P Q : V2) (p : Int) {D : Int} (hD : 0 < D) : ptR d lo hi P Q p D = pa (TR d lo hi) (D * 1) (at2 P (sub2 Q P) D p) (sub2 Q P) := by
  rw [pa_line _ 1 P (sub2 Q P) hD]
  unfold ptR XS
  refine xs_congr (fun e _ _ => ?_)
  show _ = (dB (¬ isE d e) && _)
  unfold ptE xT xgP nT nuP dT deP
  simp only [rl_1]
  rfl
set_option maxHeartbeats 200000 in
theorem nz_sub {P Q : V2} (h : P ≠ Q) : nz (sub2 Q P) := fun z => h (V2_eq.mpr ⟨by have := z.1; simp only [sub2] at this; omega, by have := z.2; simp only [sub2] at this; omega⟩)
set_option maxHeartbeats 200000 in
theorem comb_pos {v a b p D : Int} (h1 : a < v) (h2 : b < v) (hp : 0 ≤ p) (hD : p ≤ D) (h0 : 0 < D) : 0 < D * v - (D * a + p * (b - a)) := by
  have e : D * v - (D * a + p * (b - a)) = (D - p) * (v - a) + p * (v - b) := by grind
  rw [e]
  by_cases q : p = 0
  · subst q
    have := Int.mul_pos h0 (show 0 < v - a by omega)
    simp only [Int.sub_zero, Int.zero_mul, Int.add_zero]; exact this
  · have := Int.mul_pos (show 0 < p by omega) (show 0 < v - b by omega)
    have := Int.mul_nonneg (show 0 ≤ D - p by omega) (show 0 ≤ v - a by omega)
    omega
set_option maxHeartbeats 200000 in
theorem comb_neg {v a b p D : Int} (h1 : v < a) (h2 : v < b) (hp : 0 ≤ p) (hD : p ≤ D) (h0 : 0 < D) : D * v - (D * a + p * (b - a)) < 0 := by
  have := comb_pos (v := -v) (a := -a) (b := -b) (p := p) (D := D) (by omega) (by omega) hp hD h0
  have e : D * -v - (D * -a + p * (-b - -a)) = -(D * v - (D * a + p * (b - a))) := by grind
  omega
/-! half of the plane in which the region is, seen from the way -/
set_option maxHeartbeats 200000 in
theorem ap_hp {d : Ct} {lo hi : Nat} {P Q : V2} (h : apR d lo hi P Q) : ∃ k, ∀ (p D : Int) (i : Nat), 0 ≤ p → p ≤ D → 0 < D → lo ≤ i → i < hi → hp4 k (rel (cV d) (D * 1) (at2 P (sub2 Q P) D p) i) := by
  unfold hp4 rel at2 sub2
  simp only [Int.mul_one]
  rcases h with h | h | h | h
  · refine ⟨1, fun p D i h1 h2 h3 h4 h5 => ?_⟩
    have := h i h4 h5
    rw [if_neg (by omega), if_pos rfl]
    exact comb_pos (by omega) (by omega) h1 h2 h3
  · refine ⟨0, fun p D i h1 h2 h3 h4 h5 => ?_⟩
    have := h i h4 h5
    rw [if_pos rfl]
    exact comb_neg (by omega) (by omega) h1 h2 h3
  · refine ⟨3, fun p D i h1 h2 h3 h4 h5 => ?_⟩
    have := h i h4 h5
    rw [if_neg (by omega), if_neg (by omega), if_neg (by omega)]
    exact comb_pos (by omega) (by omega) h1 h2 h3
  · refine ⟨2, fun p D i h1 h2 h3 h4 h5 => ?_⟩
    have := h i h4 h5
    rw [if_neg (by omega), if_neg (by omega), if_pos rfl]
    exact comb_neg (by omega) (by omega) h1 h2 h3
/-! a way of the region that lies on the way: 0 is on it, seen from the part -/
set_option maxHeartbeats 200000 in
theorem cvE_al {P Q a b : V2} {p D : Int} (h : cvE P Q a b p D) (hPQ : P ≠ Q) : on0 (pq (sub2 Q P) D p (sub2 a P)) (pq (sub2 Q P) D p (sub2 b P)) := by
  obtain ⟨h1, h2, h3, h4⟩ := h
  have hw := whl_pos hPQ
  -- whl • (a - P) = pos a • (Q - P)
  have key : ∀ x : V2, sid P Q x = 0 → whl P Q * (sub2 x P).1 = pos P Q x * (sub2 Q P).1 ∧ whl P Q * (sub2 x P).2 = pos P Q x * (sub2 Q P).2 := by
    intro x hx
    unfold sid at hx
    unfold whl pos sub2
    by_cases q : P.1 = Q.1
    · rw [fX_v q, fX_v q, fX_v q]
      have e : (Q.2 - P.2) * (x.1 - P.1) = 0 := by
        have : Q.1 - P.1 = 0 := by omega
        rw [this] at hx; omega
      have hy : Q.2 - P.2 ≠ 0 := fun z => hPQ (V2_eq.mpr ⟨q, by omega⟩)
      have e2 : x.1 - P.1 = 0 := by rcases Int.mul_eq_zero.mp e with z | z; exact (hy z).elim; exact z
      have e3 : Q.1 - P.1 = 0 := by omega
      simp only
      split
      · exact ⟨by rw [e2, e3]; simp, by rw [Int.mul_comm]⟩
      · exact ⟨by rw [e2, e3]; simp, by grind⟩
    · rw [fX_h q, fX_h q, fX_h q]
      simp only
      split
      · exact ⟨by rw [Int.mul_comm], by grind⟩
      · exact ⟨by grind, by grind⟩
  obtain ⟨a1, a2⟩ := key a h1
  obtain ⟨b1, b2⟩ := key b h2
  generalize whl P Q = W at *
  generalize pos P Q a = x at *
  generalize pos P Q b = y at *
  generalize sub2 Q P = s at *
  generalize sub2 a P = u at *
  generalize sub2 b P = v at *
  have eu : (W * (pq s D p u).1, W * (pq s D p u).2) = ((D * x - p * W) * s.1, (D * x - p * W) * s.2) := by
    unfold pq; refine Prod.ext ?_ ?_ <;> simp only <;> grind
  have ev : (W * (pq s D p v).1, W * (pq s D p v).2) = ((D * y - p * W) * s.1, (D * y - p * W) * s.2) := by
    unfold pq; refine Prod.ext ?_ ?_ <;> simp only <;> grind
  have ho : on0 ((D * x - p * W) * s.1, (D * x - p * W) * s.2) ((D * y - p * W) * s.1, (D * y - p * W) * s.2) := by
    refine on0_sc ?_
    have c1 : min x y * D = D * min x y := Int.mul_comm _ _
    have c2 : max x y * D = D * max x y := Int.mul_comm _ _
    rcases Int.le_total x y with z | z
    · rw [Int.min_eq_left z] at h3 c1; rw [Int.max_eq_right z] at h4 c2
      exact Int.mul_nonpos_of_nonpos_of_nonneg (by omega) (by omega)
    · rw [Int.min_eq_right z] at h3 c1; rw [Int.max_eq_left z] at h4 c2
      exact Int.mul_nonpos_of_nonneg_of_nonpos (by omega) (by omega)
  rw [← eu, ← ev] at ho
  have w2 : 0 < W * W := Int.mul_pos hw hw
  have c : crs (W * (pq s D p u).1, W * (pq s D p u).2) (W * (pq s D p v).1, W * (pq s D p v).2) = (W * W) * crs (pq s D p u) (pq s D p v) := by
    generalize pq s D p u = A; generalize pq s D p v = B; unfold crs; grind
  have t : dt (W * (pq s D p u).1, W * (pq s D p u).2) (W * (pq s D p v).1, W * (pq s D p v).2) = (W * W) * dt (pq s D p u) (pq s D p v) := by
    generalize pq s D p u = A; generalize pq s D p v = B; unfold dt; grind
  obtain ⟨o1, o2⟩ := ho
  rw [c] at o1
  rw [t] at o2
  refine ⟨?_, ?_⟩
  · rcases Int.mul_eq_zero.mp o1 with z | z
    · omega
    · exact z
  · by_cases z : dt (pq s D p u) (pq s D p v) ≤ 0
    · exact z
    · have := Int.mul_pos w2 (show 0 < dt (pq s D p u) (pq s D p v) by omega)
      omega
set_option maxHeartbeats 200000 in
theorem rl_TR (d : Ct) (lo hi : Nat) (P s : V2) (D p : Int) (e : Nat) : rl (TR d lo hi) (D * 1) (at2 P s D p) e = pq s D p (sub2 (cV d e) P) := by
  rw [rl_at2, rl_1]; rfl
set_option maxHeartbeats 200000 in
theorem wmk_ap {d : Ct} {lo hi : Nat} {P Q : V2} (G : GD (TR d lo hi)) (hPQ : P ≠ Q) (h : apR d lo hi P Q) (b : Nat) : wmk d lo hi P Q b ↔ b = 1 := by
  obtain ⟨k, hk⟩ := ap_hp h
  have hk' : ∀ (p D : Int) (i : Nat), 0 ≤ p → p ≤ D → 0 < D → lo ≤ i → i < hi → hp4 k (rl (TR d lo hi) (D * 1) (at2 P (sub2 Q P) D p) i) := hk
  have no : ∀ (p D : Int), 0 ≤ p → p < D → lieR d lo hi P Q p D = 2 := by
    intro p D h1 h2
    have hD : 0 < D := by omega
    obtain ⟨z1, z2⟩ := pa_out G (D := D * 1) (by omega) (X := at2 P (sub2 Q P) D p) (nz_sub hPQ) (k := k) (fun e he => by
      have := inTR.mp he
      exact ⟨hk' p D e h1 (by omega) hD this.1 (by have := this.2.1; omega), hk' p D (e + 1) h1 (by omega) hD (by have := this.1; omega) this.2.1⟩)
    unfold lieR
    rw [ptR_pa d lo hi P Q p hD, z1, ifP_f]
    · rfl
    · rintro ⟨e, he, hc⟩
      have := cvE_al hc hPQ
      rw [← rl_TR d lo hi, ← rl_TR d lo hi] at this
      exact half_no (hk' p D e h1 (by omega) hD he.1 (by have := he.2.1; omega)) (hk' p D (e + 1) h1 (by omega) hD (by have := he.1; omega) he.2.1) this
  unfold wmk
  constructor
  · rintro (⟨p, D, h1, h2, h3⟩ | ⟨rfl, h3⟩)
    · rw [no p D h1 h2] at h3
      exact (Nat.pow_right_inj (a := 2) (by decide)).mp (show 2 ^ b = 2 ^ 1 from h3.symm)
    · exfalso
      rcases h3 with ⟨j, a1, a2, a3, a4⟩ | ⟨e, a1, a2, a3, a4, a5, a6⟩
      · unfold inBx at a4
        unfold apR at h
        rcases h with h | h | h | h <;> have := h j a1 (by omega) <;> omega
      · have hd := de_pos (show xg (sub2 Q P) (sub2 (cV d e) P) (sub2 (cV d (e + 1)) P) = true from a4)
        have ho := on0_x (show xg (sub2 Q P) (sub2 (cV d e) P) (sub2 (cV d (e + 1)) P) = true from a4)
        have a5' : 0 ≤ nu (sub2 Q P) (sub2 (cV d e) P) (sub2 (cV d (e + 1)) P) := a5
        have a6' : nu (sub2 Q P) (sub2 (cV d e) P) (sub2 (cV d (e + 1)) P) ≤ de (sub2 Q P) (sub2 (cV d e) P) (sub2 (cV d (e + 1)) P) := a6
        generalize nu (sub2 Q P) (sub2 (cV d e) P) (sub2 (cV d (e + 1)) P) = q at *
        generalize de (sub2 Q P) (sub2 (cV d e) P) (sub2 (cV d (e + 1)) P) = E at *
        rw [← rl_TR d lo hi, ← rl_TR d lo hi] at ho
        exact half_no (hk' q E e a5' a6' hd a1 (by omega)) (hk' q E (e + 1) a5' a6' hd (by omega) (by omega)) ho
  · rintro rfl
    exact Or.inl ⟨0, 1, by omega, by omega, no 0 1 (by omega) (by omega)⟩
/-! all ways -/
def wyR (c : Ct) (lo hi i : Nat) : Prop := lo ≤ i ∧ i + 1 < hi ∧ ¬ isE c i
set_option maxHeartbeats 200000 in
theorem or_bit (m w b : Nat) : (m ||| w).testBit b = true ↔ (m.testBit b = true ∨ w.testBit b = true) := by rw [Nat.testBit_or, Bool.or_eq_true]
set_option maxHeartbeats 200000 in
theorem b8_bit (b : Nat) : Nat.testBit 8 b = true ↔ b = 3 := by
  rw [show (8 : Nat) = 2 ^ 3 from rfl, Nat.testBit_two_pow, decide_eq_true_iff]; omega
set_option maxHeartbeats 200000 in
theorem b2_bit (b : Nat) : Nat.testBit 2 b = true ↔ b = 1 := by
  have : Nat.testBit (2 ^ 1) b = decide (1 = b) := Nat.testBit_two_pow
  rw [show Nat.testBit 2 b = decide (1 = b) from this, decide_eq_true_iff]; omega
set_option maxHeartbeats 200000 in
theorem and_bit {m e : Nat} (h : ¬ m &&& e = 0) : ∃ b, m.testBit b = true ∧ e.testBit b = true := by
  obtain ⟨b, hb⟩ := Nat.exists_testBit_of_ne_zero h
  rw [Nat.testBit_and, Bool.and_eq_true] at hb
  exact ⟨b, hb⟩
set_option maxHeartbeats 200000 in
theorem and_bit0 {m e b : Nat} (h : m &&& e = 0) (h1 : m.testBit b = true) (h2 : e.testBit b = true) : False := by
  have : (m &&& e).testBit b = true := by rw [Nat.testBit_and, h1, h2]; rfl
  rw [h] at this
  simp at this
set_option maxHeartbeats 200000 in
theorem l_scan {n : Nat} {a b : Nat} {c d : Ct} (F : WF c) (G : WF d) {lo hi lo2 hi2 en : Nat} (hG : GD (TR d lo hi)) (hh : hi2 ≤ cN c) (he : en < 16) (hPQ : ∀ i, wyR c lo2 hi2 i → cV c i ≠ cV c (i + 1)) : ∀ (fu i m : Nat) (σ : xσ), hi2 - i < fu → lo2 ≤ i → i ≤ hi2 → m < 16 → SH n σ a c → SH n σ b d → RG σ b d lo hi → BX σ d lo hi →
    ∃ σ' m', l_X1_scan_10 n fu a (nI hi2) (nI en) (nI m) (nI i) σ = some (nI m', σ') ∧ FrC σ σ' ∧ m' < 16 ∧
      (∀ k, m'.testBit k = true → m.testBit k = true ∨ ∃ j, wyR c lo2 hi2 j ∧ wmk d lo hi (cV c j) (cV c (j + 1)) k) ∧
      (¬ m' &&& en = 0 ∨ ∀ k, (m.testBit k = true ∨ ∃ j, i ≤ j ∧ wyR c lo2 hi2 j ∧ wmk d lo hi (cV c j) (cV c (j + 1)) k) → m'.testBit k = true) := by
  have hN := F.n
  intro fu
  induction fu with
  | zero => intro i m σ h; omega
  | succ fu ih =>
    intro i m σ hf hl hi' hm S T A hB
    rw [l_X1_scan_10, S.N]
    simp (disch := omega) only [nI_e', nI_s]
    have none' : hi2 ≤ i + 1 → ∃ σ' m', some (nI m, σ) = some (nI m', σ') ∧ FrC σ σ' ∧ m' < 16 ∧
      (∀ k, m'.testBit k = true → m.testBit k = true ∨ ∃ j, wyR c lo2 hi2 j ∧ wmk d lo hi (cV c j) (cV c (j + 1)) k) ∧
      (¬ m' &&& en = 0 ∨ ∀ k, (m.testBit k = true ∨ ∃ j, i ≤ j ∧ wyR c lo2 hi2 j ∧ wmk d lo hi (cV c j) (cV c (j + 1)) k) → m'.testBit k = true) := by
      intro h
      refine ⟨σ, m, rfl, FrC.refl, hm, fun k hk => Or.inl hk, Or.inr (fun k hk => ?_)⟩
      rcases hk with hk | ⟨j, j1, j2, j3⟩
      · exact hk
      · have := j2.2.1; omega
    by_cases q1 : hi2 ≤ i + 1
    · rw [if_pos q1]; exact none' q1
    · rw [if_neg q1]
      by_cases q2 : cN c ≤ i + 1
      · omega
      · rw [if_neg q2, nI_and hm he]
        by_cases q3 : m &&& en = 0
        · rw [if_pos (show nI (m &&& en) = 0 by rw [q3]; rfl)]
          simp (disch := omega) only [gd_in, nI_k, S.L]
          -- a way of this mask
          have go : ∀ (σ1 : xσ) (w : Nat), FrC σ σ1 → w < 16 → (¬ isE c i → ∀ k, w.testBit k = true ↔ wmk d lo hi (cV c i) (cV c (i + 1)) k) → (isE c i → w = 0) →
              ∃ σ' m', l_X1_scan_10 n fu a (nI hi2) (nI en) (nI (m ||| w)) (nI (i + 1)) σ1 = some (nI m', σ') ∧ FrC σ σ' ∧ m' < 16 ∧
              (∀ k, m'.testBit k = true → m.testBit k = true ∨ ∃ j, wyR c lo2 hi2 j ∧ wmk d lo hi (cV c j) (cV c (j + 1)) k) ∧
              (¬ m' &&& en = 0 ∨ ∀ k, (m.testBit k = true ∨ ∃ j, i ≤ j ∧ wyR c lo2 hi2 j ∧ wmk d lo hi (cV c j) (cV c (j + 1)) k) → m'.testBit k = true) := by
            intro σ1 w f1 hw hw1 hw2
            have bx : BX σ1 d lo hi := by
              obtain ⟨x0, y0, x1, y1, e1, ⟨c1, c2, c3, c4⟩, e3⟩ := hB
              exact ⟨x0, y0, x1, y1, e1, ⟨(f1.2.1 3 (by omega)).trans c1, (f1.2.1 4 (by omega)).trans c2, (f1.2.1 5 (by omega)).trans c3, (f1.2.1 6 (by omega)).trans c4⟩, e3⟩
            obtain ⟨σ', m', a1, a2, a3, a4, a5⟩ := ih (i + 1) (m ||| w) σ1 (by omega) (by omega) (by omega) (or_lt16 hm hw) (S.c f1) (T.c f1) (A.c f1) bx
            refine ⟨σ', m', a1, f1.trans a2, a3, fun k hk => ?_, ?_⟩
            · rcases a4 k hk with h | h
              · rcases (or_bit m w k).mp h with h | h
                · exact Or.inl h
                · by_cases z : isE c i
                  · rw [hw2 z] at h; simp at h
                  · exact Or.inr ⟨i, ⟨hl, by omega, z⟩, (hw1 z k).mp h⟩
              · exact Or.inr h
            · rcases a5 with h | h
              · exact Or.inl h
              · refine Or.inr (fun k hk => h k ?_)
                rcases hk with hk | ⟨j, j1, j2, j3⟩
                · exact Or.inl ((or_bit m w k).mpr (Or.inl hk))
                · by_cases y : j = i
                  · subst y
                    exact Or.inl ((or_bit m w k).mpr (Or.inr ((hw1 j2.2.2 k).mpr j3)))
                  · exact Or.inr ⟨j, by omega, j2, j3⟩
          by_cases q4 : isE c i
          · rw [if_neg (tn q4), b_X1_scan_103, nI_s]
            have := go σ 0 FrC.refl (by omega) (fun z => (z q4).elim) (fun _ => rfl)
            rw [Nat.or_zero] at this
            exact this
          · rw [if_pos (tf_f q4)]
            have hne := hPQ i ⟨hl, by omega, q4⟩
            obtain ⟨v, v1, v2⟩ := e_isWayApart (n := n) S F hB (show i + 1 < cN c by omega)
            rw [v1, bd]
            rcases v2 with rfl | ⟨rfl, v2⟩
            · rw [if_pos rfl]
              obtain ⟨σ1, σ2, σ3, w, g1, g2, g3, g4, g5, g6, g7⟩ := e_oneWay (n := n) S F T G A (show i + 1 < cN c by omega) hne
              rw [g1, bd, g2, bd, g3, bd, st, nI_or hm g6, g5]
              by_cases z : gaT (cV c i) (cV c (i + 1)) d lo (hi - lo)
              · rw [if_neg (tn z), st, show (8 : Int32) = nI 8 from rfl, nI_or (or_lt16 hm g6) (by omega), b_X1_scan_103, nI_s, Nat.or_assoc]
                refine go σ3 (w ||| 8) g4 (or_lt16 g6 (by omega)) (fun _ k => ?_) (fun y => (q4 y).elim)
                rw [or_bit, g7, b8_bit]
                unfold wmk
                exact ⟨fun h => h.imp id (fun y => ⟨y, z⟩), fun h => h.imp id (fun y => y.1)⟩
              · rw [if_pos (tf_f z)]
                refine go σ3 w g4 g6 (fun _ k => ?_) (fun y => (q4 y).elim)
                rw [g7]
                unfold wmk
                exact ⟨Or.inl, fun h => h.elim id (fun y => (z y.2).elim)⟩
            · rw [if_neg (by decide), st, show (2 : Int32) = nI 2 from rfl, nI_or hm (by omega), b_X1_scan_103, nI_s]
              refine go σ 2 FrC.refl (by omega) (fun _ k => ?_) (fun y => (q4 y).elim)
              rw [b2_bit, wmk_ap hG hne v2]
        · have : m &&& en < 16 := Nat.lt_of_le_of_lt Nat.and_le_left hm
          rw [if_neg (show ¬ nI (m &&& en) = 0 from fun z => q3 ((nIq0 (by omega)).mp z))]
          exact ⟨σ, m, rfl, FrC.refl, hm, fun k hk => Or.inl hk, Or.inl q3⟩
/-! what a scan tells: of the bits that are enough whether there is one; if there is none, of all bits -/
set_option maxHeartbeats 200000 in
theorem e_scan {n : Nat} {σ : xσ} {a b : Nat} {c d : Ct} (S : SH n σ a c) (F : WF c) (T : SH n σ b d) (G : WF d) {lo hi lo2 hi2 en : Nat} (A : RG σ b d lo hi) (hB : BX σ d lo hi) (hG : GD (TR d lo hi)) (hl : lo2 ≤ hi2) (hh : hi2 ≤ cN c) (he : en < 16) (hPQ : ∀ i, wyR c lo2 hi2 i → cV c i ≠ cV c (i + 1)) :
    ∃ σ' m, f_X1_scan n a (nI lo2) (nI hi2) (nI en) σ = some (nI m, σ') ∧ FrC σ σ' ∧ m < 16 ∧
      (¬ m &&& en = 0 ↔ ∃ k, en.testBit k = true ∧ ∃ j, wyR c lo2 hi2 j ∧ wmk d lo hi (cV c j) (cV c (j + 1)) k) ∧
      (m &&& en = 0 → ∀ k, m.testBit k = true ↔ ∃ j, wyR c lo2 hi2 j ∧ wmk d lo hi (cV c j) (cV c (j + 1)) k) := by
  have hN := F.n
  rw [f_X1_scan, gd_pos S.1, st]
  have e0 : imax (nI lo2) 0 = nI lo2 := by
    rw [nI_i, show (0 : Int32) = iI 0 from rfl, imax_i (show R32 (lo2 : Int) by constructor <;> omega) (by decide), Int.max_eq_left (by omega)]
  rw [e0]
  obtain ⟨σ', m, a1, a2, a3, a4, a5⟩ := l_scan (n := n) (a := a) (b := b) F G hG hh he hPQ xFU lo2 0 σ (xFU_lt (by omega)) (Nat.le_refl lo2) hl (by omega) S T A hB
  have sound : ∀ k, m.testBit k = true → ∃ j, wyR c lo2 hi2 j ∧ wmk d lo hi (cV c j) (cV c (j + 1)) k := fun k hk => (a4 k hk).elim (fun z => by simp at z) id
  refine ⟨σ', m, a1, a2, a3, ⟨fun h => ?_, fun ⟨k, k1, j, k2, k3⟩ => ?_⟩, fun h k => ⟨sound k, fun ⟨j, k2, k3⟩ => ?_⟩⟩
  · obtain ⟨k, k1, k2⟩ := and_bit h
    exact ⟨k, k2, sound k k1⟩
  · rcases a5 with h | h
    · exact h
    · exact fun z => and_bit0 z (h k (Or.inr ⟨j, k2.1, k2, k3⟩)) k1
  · rcases a5 with z | z
    · exact (z h).elim
    · exact z k (Or.inr ⟨j, k2.1, k2, k3⟩)

/-! simple rings: what both sides ask is the same -/
set_option maxHeartbeats 200000 in
theorem on0_xy {u v : V2} (h : on0 u v) : u.1 * v.1 ≤ 0 ∧ u.2 * v.2 ≤ 0 := by
  have h1 := h.1
  have h2 := h.2
  unfold crs at h1
  unfold dt at h2
  constructor
  · by_cases z : 0 < u.1 * v.1
    · have := same_no z h1; omega
    · omega
  · by_cases z : 0 < u.2 * v.2
    · have := same_no (x := u.2) (y := u.1) (u := v.2) (v := v.1) z (by omega); omega
    · omega
set_option maxHeartbeats 200000 in
theorem bet1 {D x y t : Int} (hD : 0 < D) (h : (D * x - t) * (D * y - t) ≤ 0) : D * min x y ≤ t ∧ t ≤ D * max x y := by
  have m1 : D * min x y = min (D * x) (D * y) := by
    rcases Int.le_total x y with z | z
    · have := Int.mul_le_mul_of_nonneg_left z (show 0 ≤ D by omega); rw [Int.min_eq_left z, Int.min_eq_left this]
    · have := Int.mul_le_mul_of_nonneg_left z (show 0 ≤ D by omega); rw [Int.min_eq_right z, Int.min_eq_right this]
  have m2 : D * max x y = max (D * x) (D * y) := by
    rcases Int.le_total x y with z | z
    · have := Int.mul_le_mul_of_nonneg_left z (show 0 ≤ D by omega); rw [Int.max_eq_right z, Int.max_eq_right this]
    · have := Int.mul_le_mul_of_nonneg_left z (show 0 ≤ D by omega); rw [Int.max_eq_left z, Int.max_eq_left this]
  rw [m1, m2]
  constructor
  · by_cases z : min (D * x) (D * y) ≤ t
    · exact z
    · have := Int.mul_pos (show 0 < D * x - t by omega) (show 0 < D * y - t by omega); omega
  · by_cases z : t ≤ max (D * x) (D * y)
    · exact z
    · have := Int.mul_pos_of_neg_of_neg (show D * x - t < 0 by omega) (show D * y - t < 0 by omega); omega
set_option maxHeartbeats 200000 in
theorem ap_no {a b p q : V2} (h : apt a b p q) : ¬ cmn a b p q := by
  rintro ⟨D, X, hD, h1, h2⟩
  obtain ⟨a1, a2⟩ := on0_xy h1
  obtain ⟨b1, b2⟩ := on0_xy h2
  have c1 := bet1 hD a1
  have c2 := bet1 hD a2
  have c3 := bet1 hD b1
  have c4 := bet1 hD b2
  have key : ∀ x y : Int, x < y → D * x < D * y := fun x y z => Int.mul_lt_mul_of_pos_left z hD
  rcases h with h | h | h | h
  · have := key _ _ h; omega
  · have := key _ _ h; omega
  · have := key _ _ h; omega
  · have := key _ _ h; omega
set_option maxHeartbeats 200000 in
theorem col_sym {a b p q : V2} (hab : a ≠ b) (h1 : sid a b p = 0) (h2 : sid a b q = 0) : sid p q a = 0 ∧ sid p q b = 0 := by
  have hs := nz_sub hab
  have hN := dt_pos hs
  have e1 : dt (sub2 b a) (sub2 b a) * sid p q a = dt (sub2 b a) (sub2 p a) * sid a b q - sid a b p * dt (sub2 b a) (sub2 q a) := by unfold sid dt sub2; grind
  have e2 : sid p q b = sid p q a + (sid a b p - sid a b q) := by unfold sid; grind
  rw [h1, h2] at e1
  have z : sid p q a = 0 := by
    have : dt (sub2 b a) (sub2 b a) * sid p q a = 0 := by rw [e1]; simp
    rcases Int.mul_eq_zero.mp this with y | y
    · omega
    · exact y
  exact ⟨z, by rw [e2, z, h1, h2]; rfl⟩
set_option maxHeartbeats 200000 in
theorem col_x {a b p q : V2} (hab : a ≠ b) (hpq : p ≠ q) (h1 : sid a b p = 0) (h2 : sid a b q = 0) : (a.1 = b.1 → a.2 ≠ b.2 ∧ p.2 ≠ q.2) ∧ (a.1 ≠ b.1 → p.1 ≠ q.1) := by
  unfold sid at h1 h2
  constructor
  · intro h
    have hy : a.2 ≠ b.2 := fun z => hab (V2_eq.mpr ⟨h, z⟩)
    refine ⟨hy, fun z => hpq (V2_eq.mpr ⟨?_, z⟩)⟩
    have e : b.1 - a.1 = 0 := by omega
    rw [e] at h1 h2
    have f1 : (b.2 - a.2) * (p.1 - a.1) = 0 := by omega
    have f2 : (b.2 - a.2) * (q.1 - a.1) = 0 := by omega
    rcases Int.mul_eq_zero.mp f1 with y | y
    · omega
    · rcases Int.mul_eq_zero.mp f2 with t | t <;> omega
  · intro h z
    apply hpq
    refine V2_eq.mpr ⟨z, ?_⟩
    have : (b.1 - a.1) * (p.2 - q.2) = 0 := by
      have : (b.1 - a.1) * (p.2 - q.2) = ((b.1 - a.1) * (p.2 - a.2) - (b.2 - a.2) * (p.1 - a.1)) - ((b.1 - a.1) * (q.2 - a.2) - (b.2 - a.2) * (q.1 - a.1)) + (b.2 - a.2) * (p.1 - q.1) := by grind
      rw [this, h1, h2, show p.1 - q.1 = 0 by omega]; simp
    rcases Int.mul_eq_zero.mp this with y | y <;> omega
set_option maxHeartbeats 200000 in
theorem cn1_0 (a b p q : Int) : cn1 a b p q = 0 ↔ ¬ max (min a b) (min p q) ≤ min (max a b) (max p q) := by
  unfold cn1
  split
  · split
    · exact ⟨fun h => absurd h (by decide), fun h => by omega⟩
    · exact ⟨fun h => absurd h (by decide), fun h => by omega⟩
  · exact ⟨fun _ => by assumption, fun _ => rfl⟩
set_option maxHeartbeats 200000 in
theorem cnl_0 {a b p q : V2} (hab : a ≠ b) (hpq : p ≠ q) (h1 : sid a b p = 0) (h2 : sid a b q = 0) : cnl a b p q = 0 ↔ ¬ mt a b p q := by
  obtain ⟨c1, c2⟩ := col_sym hab h1 h2
  obtain ⟨x1, x2⟩ := col_x hab hpq h1 h2
  unfold cnl
  have nop : ¬ (opp (sid a b p) (sid a b q) ∧ opp (sid p q a) (sid p q b)) := by rw [h1]; unfold opp; omega
  by_cases z : a.1 = b.1
  · rw [if_pos z, cn1_0]
    obtain ⟨y1, y2⟩ := x1 z
    refine not_congr ⟨fun h => ?_, fun h => ?_⟩
    · have : (min a.2 b.2 ≤ p.2 ∧ p.2 ≤ max a.2 b.2) ∨ (min a.2 b.2 ≤ q.2 ∧ q.2 ≤ max a.2 b.2) ∨ (min p.2 q.2 ≤ a.2 ∧ a.2 ≤ max p.2 q.2) ∨ (min p.2 q.2 ≤ b.2 ∧ b.2 ≤ max p.2 q.2) := by omega
      rcases this with t | t | t | t
      · exact Or.inr (Or.inl (on_y h1 y1 t.1 t.2))
      · exact Or.inr (Or.inr (Or.inl (on_y h2 y1 t.1 t.2)))
      · exact Or.inr (Or.inr (Or.inr (Or.inl (on_y c1 y2 t.1 t.2))))
      · exact Or.inr (Or.inr (Or.inr (Or.inr (on_y c2 y2 t.1 t.2))))
    · rcases h with h | h | h | h | h
      · exact (nop h).elim
      · have := h.1; unfold inBx at this; omega
      · have := h.1; unfold inBx at this; omega
      · have := h.1; unfold inBx at this; omega
      · have := h.1; unfold inBx at this; omega
  · rw [if_neg z, cn1_0]
    have y2 := x2 z
    refine not_congr ⟨fun h => ?_, fun h => ?_⟩
    · have : (min a.1 b.1 ≤ p.1 ∧ p.1 ≤ max a.1 b.1) ∨ (min a.1 b.1 ≤ q.1 ∧ q.1 ≤ max a.1 b.1) ∨ (min p.1 q.1 ≤ a.1 ∧ a.1 ≤ max p.1 q.1) ∨ (min p.1 q.1 ≤ b.1 ∧ b.1 ≤ max p.1 q.1) := by omega
      rcases this with t | t | t | t
      · exact Or.inr (Or.inl (on_x h1 z t.1 t.2))
      · exact Or.inr (Or.inr (Or.inl (on_x h2 z t.1 t.2)))
      · exact Or.inr (Or.inr (Or.inr (Or.inl (on_x c1 y2 t.1 t.2))))
      · exact Or.inr (Or.inr (Or.inr (Or.inr (on_x c2 y2 t.1 t.2))))
    · rcases h with h | h | h | h | h
      · exact (nop h).elim
      · have := h.1; unfold inBx at this; omega
      · have := h.1; unfold inBx at this; omega
      · have := h.1; unfold inBx at this; omega
      · have := h.1; unfold inBx at this; omega
/-! a common point is on no strict side -/
set_option maxHeartbeats 200000 in
theorem cmn_s {a b p q : V2} (h : cmn a b p q) : ¬ (0 < sid a b p ∧ 0 < sid a b q) ∧ ¬ (sid a b p < 0 ∧ sid a b q < 0) := by
  rcases cmn_mt h with ⟨h1, _⟩ | h | h | h | h
  · unfold opp at h1; omega
  · have := h.2; omega
  · have := h.2; omega
  · -- a is on the way from p to q
    have e := on_sid.mp h
    obtain ⟨e1, e2⟩ := e
    have s1 : sid a b p = crs (sub2 b a) (sub2 p a) := (crs_s2 a b p).symm
    have s2 : sid a b q = crs (sub2 b a) (sub2 q a) := (crs_s2 a b q).symm
    rw [s1, s2]
    generalize sub2 b a = s at *
    generalize sub2 p a = u at *
    generalize sub2 q a = v at *
    by_cases zu : zro u
    · have : crs s u = 0 := by unfold crs; rw [zu.1, zu.2]; simp
      omega
    · by_cases zv : zro v
      · have : crs s v = 0 := by unfold crs; rw [zv.1, zv.2]; simp
        omega
      · have k := on0_neg ⟨e1, e2⟩ zu zv
        have ev := al_vec (a := v) (v := u) (by rw [crs_sw, e1]; rfl)
        have c : dt v u = dt u v := by unfold dt; rw [Int.mul_comm v.1, Int.mul_comm v.2]
        rw [c] at ev
        have m := crs_l2 s (congrArg Prod.fst ev) (congrArg Prod.snd ev)
        have hN := dt_pos zu
        constructor
        · rintro ⟨y1, y2⟩
          have := Int.mul_pos hN y2
          have := Int.mul_neg_of_neg_of_pos k y1
          omega
        · rintro ⟨y1, y2⟩
          have := Int.mul_neg_of_pos_of_neg hN y2
          have := Int.mul_pos_of_neg_of_neg k y1
          omega
  · have e := on_sid.mp h
    obtain ⟨e1, e2⟩ := e
    have s1 : sid a b p = crs (sub2 b a) (sub2 p b) := by unfold sid crs sub2; grind
    have s2 : sid a b q = crs (sub2 b a) (sub2 q b) := by unfold sid crs sub2; grind
    rw [s1, s2]
    generalize sub2 b a = s at *
    generalize sub2 p b = u at *
    generalize sub2 q b = v at *
    by_cases zu : zro u
    · have : crs s u = 0 := by unfold crs; rw [zu.1, zu.2]; simp
      omega
    · by_cases zv : zro v
      · have : crs s v = 0 := by unfold crs; rw [zv.1, zv.2]; simp
        omega
      · have k := on0_neg ⟨e1, e2⟩ zu zv
        have ev := al_vec (a := v) (v := u) (by rw [crs_sw, e1]; rfl)
        have c : dt v u = dt u v := by unfold dt; rw [Int.mul_comm v.1, Int.mul_comm v.2]
        rw [c] at ev
        have m := crs_l2 s (congrArg Prod.fst ev) (congrArg Prod.snd ev)
        have hN := dt_pos zu
        constructor
        · rintro ⟨y1, y2⟩
          have := Int.mul_pos hN y2
          have := Int.mul_neg_of_neg_of_pos k y1
          omega
        · rintro ⟨y1, y2⟩
          have := Int.mul_neg_of_pos_of_neg hN y2
          have := Int.mul_pos_of_neg_of_neg k y1
          omega
set_option maxHeartbeats 200000 in
theorem cnt_0 {a b p q : V2} (hab : a ≠ b) (hpq : p ≠ q) : cnt a b p q = 0 ↔ ¬ cmn a b p q := by
  unfold cnt
  by_cases hA : apt a b p q
  · rw [if_pos hA]; exact ⟨fun _ => ap_no hA, fun _ => rfl⟩
  · rw [if_neg hA]
    by_cases hc : sid a b p = 0 ∧ sid a b q = 0
    · rw [if_pos hc, cnl_0 hab hpq hc.1 hc.2]
      exact not_congr ⟨mt_cmn, cmn_mt⟩
    · rw [if_neg hc]
      by_cases hs : (0 < sid a b p ∧ 0 < sid a b q) ∨ (sid a b p < 0 ∧ sid a b q < 0) ∨ (0 < sid p q a ∧ 0 < sid p q b) ∨ (sid p q a < 0 ∧ sid p q b < 0)
      · rw [if_pos hs]
        refine ⟨fun _ h => ?_, fun _ => rfl⟩
        have h1 := cmn_s h
        have h2 := cmn_s (cmn_sym h)
        omega
      · rw [if_neg hs]
        refine ⟨fun h => absurd h (by decide), fun h => (h (cmn_M ((mM_s a b p q).mpr ⟨?_, by omega, by omega, by omega, by omega⟩))).elim⟩
        have k := (kM_s a b p q).1
        omega
/-! neighbours -/
set_option maxHeartbeats 200000 in
theorem nb_all {a b q : V2} (hab : a ≠ b) (hbq : b ≠ q) : (¬ onS a b q ∧ ¬ onS b q a) ↔ ∀ D X, 0 < D → on0 (vw D X a) (vw D X b) → on0 (vw D X b) (vw D X q) → zro (vw D X b) := by
  constructor
  · rintro ⟨n1, n2⟩ D X hD h1 h2
    by_cases zv : zro (vw D X b)
    · exact zv
    · exfalso
      by_cases zu : zro (vw D X a)
      · exact n2 (onS_z hD zu h2)
      · by_cases zz : zro (vw D X q)
        · exact n1 (onS_z hD zz h1)
        · have k1 := on0_neg (on0_sym h1) zv zu
          have k2 := on0_neg h2 zv zz
          have eu := al_vec (a := vw D X a) (v := vw D X b) h1.1
          have ez := al_vec (a := vw D X q) (v := vw D X b) (by rw [crs_sw, h2.1]; rfl)
          have c1 : dt (vw D X a) (vw D X b) = dt (vw D X b) (vw D X a) := by unfold dt; rw [Int.mul_comm (vw D X a).1, Int.mul_comm (vw D X a).2]
          have c2 : dt (vw D X q) (vw D X b) = dt (vw D X b) (vw D X q) := by unfold dt; rw [Int.mul_comm (vw D X q).1, Int.mul_comm (vw D X q).2]
          rw [c1] at eu
          rw [c2] at ez
          have hN := dt_pos zv
          have m1 := crs_l1 (vw D X q) (congrArg Prod.fst eu) (congrArg Prod.snd eu)
          have m2 := dt_l1 (vw D X q) (congrArg Prod.fst eu) (congrArg Prod.snd eu)
          have hc : crs (vw D X a) (vw D X q) = 0 := by
            rw [h2.1, Int.mul_zero] at m1
            rcases Int.mul_eq_zero.mp m1 with y | y
            · omega
            · exact y
          have hd : 0 < dt (vw D X a) (vw D X q) := by
            have := Int.mul_pos_of_neg_of_neg k1 k2
            rw [← m2] at this
            by_cases y : 0 < dt (vw D X a) (vw D X q)
            · exact y
            · have := Int.mul_nonpos_of_nonneg_of_nonpos (show 0 ≤ dt (vw D X b) (vw D X b) by omega) (show dt (vw D X a) (vw D X q) ≤ 0 by omega); omega
          rcases lineB hD h1 (on0_sym h2) zu zv zz zv hc hd with y | y
          · exact n1 y
          · exact n2 (onS_sym y)
  · intro h
    have e : ∀ x y : V2, vw 1 y x = sub2 x y := fun x y => by unfold vw sub2; simp
    constructor
    · intro y
      have := h 1 q (by omega) (by rw [e, e]; exact on_sid.mp y) (on0_z2 (by rw [e]; unfold zro sub2; simp))
      rw [e] at this
      exact hbq (V2_eq.mpr ⟨by have := this.1; simp only [sub2] at this; omega, by have := this.2; simp only [sub2] at this; omega⟩)
    · intro y
      have := h 1 a (by omega) (on0_z1 (by rw [e]; unfold zro sub2; simp)) (by rw [e, e]; exact on_sid.mp y)
      rw [e] at this
      exact hab (V2_eq.mpr ⟨by have := this.1; simp only [sub2] at this; omega, by have := this.2; simp only [sub2] at this; omega⟩)
set_option maxHeartbeats 200000 in
theorem sid_rot (a b q : V2) : sid b q a = sid a b q := by unfold sid; grind
set_option maxHeartbeats 200000 in
theorem sid_z1 (a b : V2) : sid a b b = 0 := by unfold sid; grind
set_option maxHeartbeats 200000 in
theorem sid_z0 (a b : V2) : sid a b a = 0 := by unfold sid; simp
set_option maxHeartbeats 200000 in
theorem cn1_1 (a b p q : Int) : cn1 a b p q ≤ 1 ↔ ¬ max (min a b) (min p q) < min (max a b) (max p q) := by
  unfold cn1
  split
  · split
    · exact ⟨fun _ => by omega, fun _ => by decide⟩
    · exact ⟨fun h => absurd h (by decide), fun h => by omega⟩
  · exact ⟨fun _ => by omega, fun _ => by decide⟩
set_option maxHeartbeats 200000 in
theorem cnl_nb {a b q : V2} (hab : a ≠ b) (hbq : b ≠ q) (h : sid a b q = 0) : (cnl a b b q ≤ 1 ↔ (¬ onS a b q ∧ ¬ onS b q a)) ∧ (cnl b q a b ≤ 1 ↔ (¬ onS a b q ∧ ¬ onS b q a)) := by
  obtain ⟨x1, x2⟩ := col_x hab hbq (sid_z1 a b) h
  have c1 : sid b q a = 0 := by rw [sid_rot]; exact h
  obtain ⟨x3, x4⟩ := col_x hbq hab c1 (sid_z0 b q)
  unfold cnl
  by_cases z : a.1 = b.1
  · obtain ⟨y1, y2⟩ := x1 z
    have z' : b.1 = q.1 := by
      by_cases t : b.1 = q.1
      · exact t
      · exact ((x4 t) z).elim
    rw [if_pos z, if_pos z', cn1_1, cn1_1]
    have k1 : onS a b q ↔ (min a.2 b.2 ≤ q.2 ∧ q.2 ≤ max a.2 b.2) := ⟨fun t => by have := t.1; unfold inBx at this; omega, fun t => on_y h y1 t.1 t.2⟩
    have k2 : onS b q a ↔ (min b.2 q.2 ≤ a.2 ∧ a.2 ≤ max b.2 q.2) := ⟨fun t => by have := t.1; unfold inBx at this; omega, fun t => on_y c1 y2 t.1 t.2⟩
    rw [k1, k2]
    constructor <;> omega
  · have y2 := x2 z
    rw [if_neg z, if_neg y2, cn1_1, cn1_1]
    have k1 : onS a b q ↔ (min a.1 b.1 ≤ q.1 ∧ q.1 ≤ max a.1 b.1) := ⟨fun t => by have := t.1; unfold inBx at this; omega, fun t => on_x h z t.1 t.2⟩
    have k2 : onS b q a ↔ (min b.1 q.1 ≤ a.1 ∧ a.1 ≤ max b.1 q.1) := ⟨fun t => by have := t.1; unfold inBx at this; omega, fun t => on_x c1 y2 t.1 t.2⟩
    rw [k1, k2]
    constructor <;> omega
set_option maxHeartbeats 200000 in
theorem cnt_nb {a b q : V2} (hab : a ≠ b) (hbq : b ≠ q) : (cnt a b b q ≤ 1 ↔ (¬ onS a b q ∧ ¬ onS b q a)) ∧ (cnt b q a b ≤ 1 ↔ (¬ onS a b q ∧ ¬ onS b q a)) := by
  unfold cnt
  rw [sid_z1 a b, sid_z0 b q, sid_rot a b q]
  have n1 : ¬ apt a b b q := by unfold apt; omega
  have n2 : ¬ apt b q a b := by unfold apt; omega
  rw [if_neg n1, if_neg n2]
  by_cases h : sid a b q = 0
  · rw [if_pos ⟨rfl, h⟩, if_pos ⟨h, rfl⟩]
    exact cnl_nb hab hbq h
  · rw [if_neg (show ¬ ((0 : Int) = 0 ∧ sid a b q = 0) from fun t => h t.2), if_neg (show ¬ (sid a b q = 0 ∧ (0 : Int) = 0) from fun t => h t.1)]
    have o1 : ¬ onS a b q ∧ ¬ onS b q a := ⟨fun t => h t.2, fun t => h (by rw [← sid_rot]; exact t.2)⟩
    constructor
    · refine ⟨fun _ => o1, fun _ => ?_⟩
      split <;> decide
    · refine ⟨fun _ => o1, fun _ => ?_⟩
      split <;> decide
/-! rings -/
set_option maxHeartbeats 200000 in
theorem rel_vw (V : Nat → V2) (D : Int) (X : V2) (i : Nat) : rel V D X i = vw D X (V i) := rfl
/-- of two ways of a ring -/
def okP (V : Nat → V2) (lo m i j : Nat) : Prop := ∀ D X, 0 < D → on0 (rel V D X i) (rel V D X (i + 1)) → on0 (rel V D X j) (rel V D X (j + 1)) → (j = i + 1 ∧ zro (rel V D X j)) ∨ (i = lo ∧ j + 1 = lo + m ∧ zro (rel V D X lo))
set_option maxHeartbeats 200000 in
theorem okP_far {V : Nat → V2} {lo m i j : Nat} (h1 : j ≠ i + 1) (h2 : ¬ (i = lo ∧ j + 1 = lo + m)) : okP V lo m i j ↔ ¬ cmn (V i) (V (i + 1)) (V j) (V (j + 1)) := by
  constructor
  · rintro h ⟨D, X, a, b, c⟩
    rcases h D X a b c with t | t
    · exact h1 t.1
    · exact h2 ⟨t.1, t.2.1⟩
  · intro h D X a b c
    exact (h ⟨D, X, a, b, c⟩).elim
set_option maxHeartbeats 200000 in
theorem okP_nx {V : Nat → V2} {lo m i : Nat} (hm : 3 ≤ m) (n1 : V i ≠ V (i + 1)) (n2 : V (i + 1) ≠ V (i + 2)) : okP V lo m i (i + 1) ↔ (¬ onS (V i) (V (i + 1)) (V (i + 2)) ∧ ¬ onS (V (i + 1)) (V (i + 2)) (V i)) := by
  rw [nb_all n1 n2]
  constructor
  · intro h D X a b c
    rcases h D X a b c with t | t
    · exact t.2
    · omega
  · intro h D X a b c
    exact Or.inl ⟨rfl, h D X a b c⟩
set_option maxHeartbeats 200000 in
theorem okP_ar {V : Nat → V2} {lo m j : Nat} (hm : 3 ≤ m) (hj : j + 1 = lo + m) (hcl : V (lo + m) = V lo) (n1 : V j ≠ V (j + 1)) (n2 : V lo ≠ V (lo + 1)) : okP V lo m lo j ↔ (¬ onS (V j) (V lo) (V (lo + 1)) ∧ ¬ onS (V lo) (V (lo + 1)) (V j)) := by
  have e : V (j + 1) = V lo := by rw [hj, hcl]
  rw [e] at n1
  rw [nb_all n1 n2]
  constructor
  · intro h D X a b c
    rcases h D X a c (by rw [rel_vw, rel_vw, e]; exact b) with t | t
    · omega
    · exact t.2.2
  · intro h D X a b c
    exact Or.inr ⟨rfl, hj, h D X a (by rw [rel_vw, rel_vw, e] at c; exact c) b⟩
set_option maxHeartbeats 200000 in
theorem Smp_i {V : Nat → V2} {lo m : Nat} : Smp V lo m ↔ (3 ≤ m ∧ V (lo + m) = V lo ∧ (∀ i, lo ≤ i → i < lo + m → V i ≠ V (i + 1)) ∧ ∀ i j, lo ≤ i → i < j → j < lo + m → okP V lo m i j) := by
  have dvn : ∀ i, nz (dv V i) ↔ V i ≠ V (i + 1) := by
    intro i
    unfold nz dv
    rw [Ne, V2_eq]
    simp only
    omega
  unfold Smp
  constructor
  · rintro ⟨h1, h2, h3, h4⟩
    exact ⟨h1, h2, fun i a b => (dvn i).mp (h3 i a b), fun i j a b c D X d e f => h4 D X i j d a b c e f⟩
  · rintro ⟨h1, h2, h3, h4⟩
    exact ⟨h1, h2, fun i a b => (dvn i).mpr (h3 i a b), fun D X i j d a b c e f => h4 i j a b c D X d e f⟩
set_option maxHeartbeats 200000 in
theorem isR_Smp {c : Ct} {lo hi : Nat} (hl : lo < hi) : isR c lo hi ↔ Smp (cV c) lo (hi - 1 - lo) := by
  rw [Smp_i]
  unfold isR
  by_cases h4 : 4 ≤ hi - lo
  · have em : lo + (hi - 1 - lo) = hi - 1 := by omega
    rw [em]
    have e0 : (∀ k, lo ≤ k → k + 1 < hi → cV c k ≠ cV c (k + 1)) ↔ (∀ i, lo ≤ i → i < hi - 1 → cV c i ≠ cV c (i + 1)) := ⟨fun h i a b => h i a (by omega), fun h i a b => h i a (by omega)⟩
    rw [e0]
    constructor
    · rintro ⟨_, h2, h3, h5⟩
      refine ⟨by omega, h2.symm, h3, fun i j a b d => ?_⟩
      have hr := h5 i a j b (by omega)
      unfold rgo at hr
      have n1 := h3 i a (by omega)
      have n2 := h3 j (by omega) d
      by_cases q1 : j = i + 1
      · subst q1
        rw [if_pos (Or.inl rfl)] at hr
        exact (okP_nx (by omega) n1 n2).mpr ((cnt_nb n1 n2).1.mp hr)
      · by_cases q2 : i = lo ∧ j + 2 = hi
        · rw [if_pos (Or.inr q2)] at hr
          obtain ⟨rfl, q2⟩ := q2
          have ej : cV c (j + 1) = cV c i := by rw [show j + 1 = hi - 1 by omega]; exact h2.symm
          rw [ej] at hr
          have n2' : cV c j ≠ cV c i := by rw [← ej]; exact n2
          exact (okP_ar (by omega) (by omega) (by rw [em]; exact h2.symm) n2 n1).mpr ((cnt_nb n2' n1).2.mp hr)
        · rw [if_neg (by omega)] at hr
          exact (okP_far q1 (by omega)).mpr ((cnt_0 n1 n2).mp (by omega))
    · rintro ⟨_, h2, h3, h5⟩
      refine ⟨h4, h2.symm, h3, fun i a j b d => ?_⟩
      have hr := h5 i j a b (by omega)
      unfold rgo
      have n1 := h3 i a (by omega)
      have n2 := h3 j (by omega) (by omega)
      by_cases q1 : j = i + 1
      · subst q1
        rw [if_pos (Or.inl rfl)]
        exact (cnt_nb n1 n2).1.mpr ((okP_nx (by omega) n1 n2).mp hr)
      · by_cases q2 : i = lo ∧ j + 2 = hi
        · rw [if_pos (Or.inr q2)]
          obtain ⟨rfl, q2⟩ := q2
          have ej : cV c (j + 1) = cV c i := by rw [show j + 1 = hi - 1 by omega]; exact h2
          rw [ej]
          have n2' : cV c j ≠ cV c i := by rw [← ej]; exact n2
          exact (cnt_nb n2' n1).2.mpr ((okP_ar (by omega) (by omega) (by rw [em]; exact h2) n2 n1).mp hr)
        · rw [if_neg (by omega)]
          have := (cnt_0 n1 n2).mpr ((okP_far q1 (by omega)).mp hr)
          omega
  · exact ⟨fun h => (h4 h.1).elim, fun h => by omega⟩
set_option maxHeartbeats 200000 in
theorem sgo_Smp {c : Ct} {lo m : Nat} (hm : 3 ≤ m) (hcl : cV c (lo + m) = cV c lo) (hn : ∀ i, lo ≤ i → i < lo + m → cV c i ≠ cV c (i + 1)) : (∀ i k, i < k → k < m → sgo c lo m i k) ↔ Smp (cV c) lo m := by
  rw [Smp_i]
  constructor
  · intro h
    refine ⟨hm, hcl, hn, fun i j a b d => ?_⟩
    obtain ⟨i, rfl⟩ : ∃ x, i = lo + x := ⟨i - lo, by omega⟩
    obtain ⟨j, rfl⟩ : ∃ x, j = lo + x := ⟨j - lo, by omega⟩
    obtain ⟨s1, s2, s3⟩ := h i j (by omega) (by omega)
    have n1 := hn (lo + i) a (by omega)
    have n2 := hn (lo + j) (by omega) d
    by_cases q1 : j = i + 1
    · subst q1
      exact (okP_nx (i := lo + i) hm n1 n2).mpr (s2 rfl)
    · by_cases q2 : i = 0 ∧ j = m - 1
      · obtain ⟨rfl, q2⟩ := q2
        have ej : cV c (lo + j + 1) = cV c lo := by rw [show lo + j + 1 = lo + m by omega]; exact hcl
        have := s3 ⟨rfl, q2⟩
        rw [ej] at this
        exact (okP_ar hm (by omega) hcl n2 n1).mpr ⟨this.2, this.1⟩
      · exact (okP_far (by omega) (by omega)).mpr (fun z => s1 q1 q2 (cmn_mt z))
  · rintro ⟨_, _, _, h⟩ i j a b
    have hr := h (lo + i) (lo + j) (by omega) (by omega) (by omega)
    have n1 := hn (lo + i) (by omega) (by omega)
    have n2 := hn (lo + j) (by omega) (by omega)
    refine ⟨fun q1 q2 z => ?_, fun q1 => ?_, fun q2 => ?_⟩
    · exact (okP_far (by omega) (by omega)).mp hr (mt_cmn z)
    · subst q1
      exact (okP_nx (i := lo + i) hm n1 n2).mp hr
    · obtain ⟨rfl, q2⟩ := q2
      have ej : cV c (lo + j + 1) = cV c lo := by rw [show lo + j + 1 = lo + m by omega]; exact hcl
      rw [ej]
      have := (okP_ar hm (by omega) hcl n2 n1).mp hr
      exact ⟨this.2, this.1⟩

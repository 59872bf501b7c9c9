/-! calls that name a shape -/
def orA {α : Type} (x : Option Nat) (d : α) (f : Nat → α) : α := match x with
  | none => d
  | some i => f i
def stA (k : Kp) (z : Int) : Option Nat := if kD k = true then none else if fdT (kL k) z < 0 then none else some (fdT (kL k) z).toNat
set_option maxHeartbeats 200000 in
theorem e_shp {n : Nat} {σ : xσ} {k : Kp} (h : KS n σ k) (o : okK k) {z : Int} (hz : R32 z) : (stA k z = none ∧ f_X10_shapeOf n (iI z) σ = some (none, σ)) ∨ (∃ i a, stA k z = some i ∧ i < tC (kL k) ∧ 2476 ≤ a ∧ f_X10_shapeOf n (iI z) σ = some (some a, σ) ∧ SH n σ a (tS (kL k) i) ∧ WF (tS (kL k) i) ∧ Val (tS (kL k) i)) := by
  have l2 := o.1.1.1
  rw [f_X10_shapeOf, h.D]
  unfold stA
  cases kD k with
  | true => exact Or.inl ⟨if_pos rfl, if_neg (show ¬ bI true = 0 by decide)⟩
  | false =>
    rw [if_neg (show ¬ false = true by decide), if_pos (show bI false = 0 from rfl), f_X8_shapeWith, gd_pos (show okT 11 by decide), e_indexOf (show okT 11 by decide) o.1.1 h.ids hz, bd]
    simp only [iIg0 (fd_R o.1.1 z)]
    by_cases q : fdT (kL k) z < 0
    · rw [if_pos q, if_neg (by omega), bd, om]; exact Or.inl ⟨rfl, rfl⟩
    · obtain ⟨i1, i2, i3⟩ := fd_lt q
      obtain ⟨x, r1, r2, r3, r4, r5⟩ := h.row o i1
      have ei : iI (fdT (kL k) z) = nI (fdT (kL k) z).toNat := by rw [nI_i, ← i2]
      rw [if_neg q, if_pos (by omega), ei, gd_in (by omega) (by omega), nI_k (by omega)]
      have r1' : sR σ (11 + 2) (fdT (kL k) z).toNat = some (ad x) := r1
      rw [r1', nn, gd_pos r2.1, bd, om, gd_pos r2.1]
      exact Or.inr ⟨_, ad x, rfl, i1, by unfold ad; omega, rfl, r2, r3, r4⟩
set_option maxHeartbeats 200000 in
theorem m_std {n : Nat} {σ : xσ} {k : Kp} (h : KM σ k) (o : okK k) {z : Int} (hz : R32 z) : (stA k z = none ∧ f_X14_standing n (iI z) σ = some (-1, σ)) ∨ (∃ i, stA k z = some i ∧ i < tC (kL k) ∧ f_X14_standing n (iI z) σ = some (nI i, σ)) := by
  obtain ⟨u, T⟩ := h.1.1
  rw [f_X14_standing, h.D]
  unfold stA
  cases kD k with
  | true => exact Or.inl ⟨if_pos rfl, if_neg (show ¬ bI true = 0 by decide)⟩
  | false =>
    rw [if_neg (show ¬ false = true by decide), if_pos (show bI false = 0 from rfl), m_find o.1.1 T hz, bd]
    rcases fdT_v (kL k) z with ⟨e, _⟩ | ⟨j, e, hj, _⟩
    · rw [if_pos (by omega), e]; exact Or.inl ⟨rfl, rfl⟩
    · rw [if_neg (by omega), e]
      exact Or.inr ⟨j, rfl, hj, by rw [nI_i]⟩
set_option maxHeartbeats 200000 in
theorem okS_of {n : Nat} {σ : xσ} {a : Nat} {c : Ct} (S : SH n σ a c) : okS n a := S.1
set_option maxHeartbeats 200000 in
theorem c_kindOf {n : Nat} {σ : xσ} (h : In n σ) (x : Int32) : C1 n σ (f_X10_kindOf n x) (f_X14_kindOf n x) := by
  obtain ⟨z, hz, rfl⟩ := xI x
  refine C1_id h (fun s => orA (stA s.2.1 z) (-1) (fun i => nI (cK (tS (kL s.2.1) i)))) (fun s o a => ?_) (fun s o a => ?_)
  · rw [f_X10_kindOf]
    rcases e_shp (n := n) a.2.1 o.2.1 hz with ⟨e, t⟩ | ⟨i, b, e, hi, hb, t, S, _, _⟩
    · rw [t, bd, om, e]; rfl
    · rw [t, bd, om, gd_pos S.1, S.2.1.1, e]; rfl
  · have l2 := o.2.1.1.1.1
    obtain ⟨u, T⟩ := a.2.1.1.1
    rw [f_X14_kindOf]
    rcases m_std (n := n) a.2.1 o.2.1 hz with ⟨e, t⟩ | ⟨i, e, hi, t⟩
    · rw [t, bd, if_neg (by decide), e]; rfl
    · obtain ⟨r0, r1, r2, _, _, _⟩ := KM.row T o.2.1 hi
      rw [t, bd, if_pos ((nIg0 (show i < 2147483648 by omega)).mpr (by omega)), gd_in (by omega) (by omega), nI_k (by omega), r1, nn, gd_pos r0, r2.K, e]; rfl
set_option maxHeartbeats 200000 in
theorem c_places {n : Nat} {σ : xσ} (h : In n σ) (x : Int32) : C1 n σ (f_X10_places n x) (f_X14_places n x) := by
  obtain ⟨z, hz, rfl⟩ := xI x
  refine C1_id h (fun s => orA (stA s.2.1 z) (-1) (fun i => nI (cN (tS (kL s.2.1) i)))) (fun s o a => ?_) (fun s o a => ?_)
  · rw [f_X10_places]
    rcases e_shp (n := n) a.2.1 o.2.1 hz with ⟨e, t⟩ | ⟨i, b, e, hi, hb, t, S, _, _⟩
    · rw [t, bd, om, e]; rfl
    · rw [t, bd, om, gd_pos S.1, S.2.1.2.1, e]; rfl
  · have l2 := o.2.1.1.1.1
    obtain ⟨u, T⟩ := a.2.1.1.1
    rw [f_X14_places]
    rcases m_std (n := n) a.2.1 o.2.1 hz with ⟨e, t⟩ | ⟨i, e, hi, t⟩
    · rw [t, bd, if_neg (by decide), e]; rfl
    · obtain ⟨r0, r1, r2, _, _, _⟩ := KM.row T o.2.1 hi
      rw [t, bd, if_pos ((nIg0 (show i < 2147483648 by omega)).mpr (by omega)), gd_in (by omega) (by omega), nI_k (by omega), r1, nn, gd_pos r0, r2.N, e]; rfl
set_option maxHeartbeats 200000 in
theorem c_rings {n : Nat} {σ : xσ} (h : In n σ) (x : Int32) : C1 n σ (f_X10_rings n x) (f_X14_rings n x) := by
  obtain ⟨z, hz, rfl⟩ := xI x
  refine C1_id h (fun s => orA (stA s.2.1 z) (-1) (fun i => nI (cR (tS (kL s.2.1) i)))) (fun s o a => ?_) (fun s o a => ?_)
  · rw [f_X10_rings]
    rcases e_shp (n := n) a.2.1 o.2.1 hz with ⟨e, t⟩ | ⟨i, b, e, hi, hb, t, S, _, _⟩
    · rw [t, bd, om, e]; rfl
    · rw [t, bd, om, gd_pos S.1, S.2.1.2.2, e]; rfl
  · have l2 := o.2.1.1.1.1
    obtain ⟨u, T⟩ := a.2.1.1.1
    rw [f_X14_rings]
    rcases m_std (n := n) a.2.1 o.2.1 hz with ⟨e, t⟩ | ⟨i, e, hi, t⟩
    · rw [t, bd, if_neg (by decide), e]; rfl
    · obtain ⟨r0, r1, r2, _, _, _⟩ := KM.row T o.2.1 hi
      rw [t, bd, if_pos ((nIg0 (show i < 2147483648 by omega)).mpr (by omega)), gd_in (by omega) (by omega), nI_k (by omega), r1, nn, gd_pos r0, r2.R, e]; rfl
def atV (c : Ct) (x2 x3 : Int32) : Int32 := if x2 < 0 then 0 else if nI (cN c) ≤ x2 then 0 else if x3 < 0 then 0 else if x3 ≤ 1 then (if x3 = 0 then iI (cV c x2.toNatClampNeg).1 else iI (cV c x2.toNatClampNeg).2) else 0
set_option maxHeartbeats 200000 in
theorem c_at {n : Nat} {σ : xσ} (h : In n σ) (x x2 x3 : Int32) : C1 n σ (f_X10_at n x x2 x3) (f_X14_at n x x2 x3) := by
  obtain ⟨z, hz, rfl⟩ := xI x
  refine C1_id h (fun s => orA (stA s.2.1 z) 0 (fun i => atV (tS (kL s.2.1) i) x2 x3)) (fun s o a => ?_) (fun s o a => ?_)
  · rw [f_X10_at]
    rcases e_shp (n := n) a.2.1 o.2.1 hz with ⟨e, t⟩ | ⟨i, b, e, hi, hb, t, S, W, _⟩
    · rw [t, bd, om, b_X10_at_34, e]; rfl
    · have hN := W.n
      rw [t, bd, om, gd_pos S.1, S.2.1.2.1, e]
      show _ = some (atV (tS (kL s.2.1) i) x2 x3, σ)
      unfold atV
      by_cases q1 : x2 < 0
      · rw [if_pos q1, if_pos q1]
      rw [if_neg q1, if_neg q1]
      by_cases q2 : nI (cN (tS (kL s.2.1) i)) ≤ x2
      · rw [if_pos q2, if_pos q2]
      rw [if_neg q2, if_neg q2]
      obtain ⟨j, hj, rfl⟩ := ix_e q1 q2 hN.2 (by decide)
      by_cases q3 : x3 < 0
      · rw [if_pos q3, if_pos q3]
      rw [if_neg q3, if_neg q3]
      by_cases q4 : x3 ≤ 1
      · rw [if_pos q4, if_pos q4]
        by_cases q5 : x3 = 0
        · rw [if_pos q5, if_pos q5, gd_in (by omega) (by omega), nI_k (by omega), S.X hj]
        · rw [if_neg q5, if_neg q5, gd_in (by omega) (by omega), nI_k (by omega), S.Y hj]
      · rw [if_neg q4, if_neg q4]
  · have l2 := o.2.1.1.1.1
    obtain ⟨u, T⟩ := a.2.1.1.1
    rw [f_X14_at]
    rcases m_std (n := n) a.2.1 o.2.1 hz with ⟨e, t⟩ | ⟨i, e, hi, t⟩
    · rw [t, bd, if_pos (by decide), e]; rfl
    · obtain ⟨r0, r1, r2, W, _, _⟩ := KM.row T o.2.1 hi
      have hN := W.n
      have i1 : ∀ {α : Type} (y : Option α), gd (inb (nI i) 200) y = y := fun y => gd_in (by omega) (by omega)
      have k1 : (nI i).toNatClampNeg = i := nI_k (by omega)
      rw [t, bd, if_neg (fun y => by have := (nIl0 (show i < 2147483648 by omega)).mp y; omega), e]
      show _ = some (atV (tS (kL s.2.1) i) x2 x3, σ)
      unfold atV
      by_cases q1 : x2 < 0
      · rw [if_pos q1, if_pos q1]
      rw [if_neg q1, if_neg q1]
      simp only [i1, k1, r1, nn]
      rw [gd_pos r0, r2.N]
      by_cases q2 : nI (cN (tS (kL s.2.1) i)) ≤ x2
      · rw [if_pos q2, if_pos q2]
      rw [if_neg q2, if_neg q2]
      obtain ⟨j, hj, rfl⟩ := ix_e q1 q2 hN.2 (by decide)
      by_cases q3 : x3 < 0
      · rw [if_pos q3, if_pos q3]
      rw [if_neg q3, if_neg q3]
      by_cases q4 : x3 ≤ 1
      · rw [if_pos q4, if_pos q4]
        by_cases q5 : x3 = 0
        · rw [if_pos q5, if_pos q5, gd_pos r0, gd_in (by omega) (by omega), nI_k (by omega), r2.X hj]
        · rw [if_neg q5, if_neg q5, gd_pos r0, gd_in (by omega) (by omega), nI_k (by omega), r2.Y hj]
      · rw [if_neg q4, if_neg q4]
set_option maxHeartbeats 200000 in
theorem SI.a {n : Nat} {σ σ' : xσ} {s : Ab} {P : Nat → Nat → Prop} (h : SI n σ s) (f : Fk P σ σ') (hP : ∀ b k, P b k → (18 ≤ b ∧ b ≤ 28) ∨ (31 ≤ b ∧ b ≤ 230)) : SI n σ' s := by
  obtain ⟨h1, h2, h3, h4, h5⟩ := h
  have z : ∀ b k, ¬ ((18 ≤ b ∧ b ≤ 28) ∨ (31 ≤ b ∧ b ≤ 230)) → ¬ P b k := fun b k l y => l (hP b k y)
  exact ⟨h1.fk f (fun k => z 1 k (by omega)) (fun k => z 2 k (by omega)), h2.fk f (fun b k y => by have := hP b k y; unfold outK; omega), h3.fk f (z 0 8 (by omega)) (fun k => z 232 k (by omega)), by rw [(f 0 10 (z 0 10 (by omega))).1]; exact h4, h5.fk f (fun k => z 30 k (by omega))⟩
set_option maxHeartbeats 200000 in
theorem RI.y {σ σ' : xσ} {s : Ab} (h : RI σ s) (f : FrY σ σ') : RI σ' s := by
  obtain ⟨h1, h2, h3, h4, h5⟩ := h
  exact ⟨⟨by rw [f.2 40 (by omega)]; exact h1.1, fun i hi => by rw [(f.1 1863 (by unfold AY AZ A47; omega) i).1]; exact h1.2 i hi⟩, h2.y f, h3.y f, by rw [f.2 42 (by omega)]; exact h4, h5.m (FrY_m f)⟩
set_option maxHeartbeats 200000 in
theorem RI.a {σ σ' : xσ} {s : Ab} {P : Nat → Nat → Prop} (h : RI σ s) (f : Fk P σ σ') (hP : ∀ b k, P b k → 234 ≤ b ∧ b < 259) : RI σ' s := by
  obtain ⟨h1, h2, h3, h4, h5⟩ := h
  have z : ∀ b k, ¬ (234 ≤ b ∧ b < 259) → ¬ P b k := fun b k l y => l (hP b k y)
  exact ⟨h1.fk f (z _ _ (by omega)) (fun k => z _ _ (by omega)), h2.fk f (fun j _ => z _ _ (by omega)) (fun b j l1 l2 => z _ _ (by omega)), h3.fk f (z _ _ (by omega)) (fun k => z _ _ (by omega)), by rw [(f 233 42 (z _ _ (by omega))).1]; exact h4, h5.fk f (fun k => z _ _ (by omega))⟩

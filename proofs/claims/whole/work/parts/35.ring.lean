/-! A SIMPLE RING has one side: the parity just to the left of its ways is the same all round -/
theorem sq_nn (x : Int) : 0 ≤ x * x := by
  rcases Int.le_total 0 x with h | h
  · exact Int.mul_nonneg h h
  · exact Int.mul_nonneg_of_nonpos_of_nonpos h h
theorem sg2 (x : Int) : (sg x == 2) = decide (0 < x) := by
  rcases sg_cases x with ⟨h1, e1⟩ | ⟨h1, e1⟩ | ⟨h1, e1⟩ <;> rw [e1]
  · exact (decide_eq_false (by omega)).symm
  · exact (decide_eq_false (by omega)).symm
  · exact (decide_eq_true (by omega)).symm
theorem sg0 (x : Int) : (sg x == 0) = decide (x < 0) := by
  rcases sg_cases x with ⟨h1, e1⟩ | ⟨h1, e1⟩ | ⟨h1, e1⟩ <;> rw [e1]
  · exact (decide_eq_true (by omega)).symm
  · exact (decide_eq_false (by omega)).symm
  · exact (decide_eq_false (by omega)).symm
theorem sg_mulp {D : Int} (hD : 0 < D) (x : Int) : sg (D * x) = sg x := by
  rw [sg_mul, (sg_pos D).mpr hD]
  rcases sg_cases x with ⟨h1, e1⟩ | ⟨h1, e1⟩ | ⟨h1, e1⟩ <;> rw [e1] <;> rfl
/-- the way from a to b passes the line along s -/
def xg (s a b : V2) : Bool := decide (0 < crs s a) != decide (0 < crs s b)
/-- where: the part nu / de of s -/
def nu (s a b : V2) : Int := if 0 < crs s b then crs a b else -crs a b
def de (s a b : V2) : Int := if 0 < crs s b then crs s b - crs s a else crs s a - crs s b
def pq (s : V2) (D p : Int) (a : V2) : V2 := (D * a.1 - p * s.1, D * a.2 - p * s.2)
theorem de_pos {s a b : V2} (h : xg s a b = true) : 0 < de s a b := by
  unfold xg at h; unfold de
  by_cases q : 0 < crs s b
  · rw [if_pos q]
    by_cases r : 0 < crs s a
    · simp [q, r] at h
    · omega
  · rw [if_neg q]
    by_cases r : 0 < crs s a
    · omega
    · simp [q, r] at h
theorem cc_pq {a b s : V2} {D p : Int} (hD : 0 < D) : cc s (pq s D p a) (pq s D p b) = (xg s a b && decide (p * de s a b < D * nu s a b)) := by
  have k1 : crs s (pq s D p a) = D * crs s a := by unfold crs pq; grind
  have k2 : crs s (pq s D p b) = D * crs s b := by unfold crs pq; grind
  have k3 : crs (pq s D p a) (pq s D p b) = D * (D * crs a b - p * (crs s b - crs s a)) := by unfold crs pq; grind
  unfold cc
  rw [k1, k2, k3, sg_mulp hD, sg_mulp hD, sg_mulp hD]
  unfold cS xg nu de
  rw [sg2, sg2, sg2, sg0]
  by_cases q : 0 < crs s b
  · simp only [q, decide_true, if_true]
    congr 1
    apply decide_eq_decide.mpr
    omega
  · simp only [q, decide_false, if_false, Bool.false_eq_true]
    congr 1
    apply decide_eq_decide.mpr
    have : p * (crs s a - crs s b) = -(p * (crs s b - crs s a)) := by grind
    have h2 : D * -crs a b = -(D * crs a b) := by grind
    rw [this, h2]
    omega
theorem pq_10 (s a : V2) : pq s 1 0 a = a := by unfold pq; simp
theorem cc_0 {a b s : V2} : cc s a b = (xg s a b && decide (0 < nu s a b)) := by
  have h := cc_pq (s := s) (a := a) (b := b) (D := 1) (p := 0) (by omega)
  rw [pq_10, pq_10] at h
  rw [h]; simp
theorem par_pq {B : Nat → V2} {s : V2} {lo m : Nat} {D p : Int} (hp : 0 ≤ p) (hpD : p < D) (h : ∀ i, lo ≤ i → i < lo + m → xg s (B i) (B (i + 1)) = true → ¬ (0 < nu s (B i) (B (i + 1)) ∧ nu s (B i) (B (i + 1)) < de s (B i) (B (i + 1)))) : par (fun i => pq s D p (B i)) s lo m = par B s lo m := by
  refine xs_congr (fun i h1 h2 => ?_)
  rw [cc_pq (by omega), cc_0]
  cases q : xg s (B i) (B (i + 1)) with
  | false => rfl
  | true =>
    have hd := de_pos q
    have hn := h i h1 h2 q
    rw [Bool.true_and, Bool.true_and]
    apply decide_eq_decide.mpr
    generalize nu s (B i) (B (i + 1)) = N at *
    generalize de s (B i) (B (i + 1)) = E at *
    constructor
    · intro w
      by_cases z : 0 < N
      · exact z
      · exfalso
        have h3 : D * N ≤ 0 := Int.mul_nonpos_of_nonneg_of_nonpos (by omega) (by omega)
        have h4 : 0 ≤ p * E := Int.mul_nonneg hp (by omega)
        omega
    · intro z
      have h3 : p * E < D * E := Int.mul_lt_mul_of_pos_right hpD hd
      have h4 : D * E ≤ D * N := Int.mul_le_mul_of_nonneg_left (by omega) (by omega)
      omega
def zro (a : V2) : Prop := a.1 = 0 ∧ a.2 = 0
theorem isZ_iff {a : V2} : isZ a = 1 ↔ zro a := by unfold isZ zro; split <;> simp_all
def rel (V : Nat → V2) (D : Int) (X : V2) (i : Nat) : V2 := (D * (V i).1 - X.1, D * (V i).2 - X.2)
def on0 (a b : V2) : Prop := crs a b = 0 ∧ dt a b ≤ 0
def fro (V : Nat → V2) (P : V2) (i : Nat) : V2 := ((V i).1 - P.1, (V i).2 - P.2)
def dv (V : Nat → V2) (k : Nat) : V2 := ((V (k + 1)).1 - (V k).1, (V (k + 1)).2 - (V k).2)
def ng (a : V2) : V2 := (-a.1, -a.2)
/-- a ring that meets itself nowhere -/
def Smp (V : Nat → V2) (lo m : Nat) : Prop := 3 ≤ m ∧ V (lo + m) = V lo ∧ (∀ i, lo ≤ i → i < lo + m → nz (dv V i)) ∧
  ∀ (D : Int) (X : V2) (i j : Nat), 0 < D → lo ≤ i → i < j → j < lo + m → on0 (rel V D X i) (rel V D X (i + 1)) → on0 (rel V D X j) (rel V D X (j + 1)) → (j = i + 1 ∧ zro (rel V D X j)) ∨ (i = lo ∧ j + 1 = lo + m ∧ zro (rel V D X lo))
theorem on0_x {s a b : V2} (h : xg s a b = true) : on0 (pq s (de s a b) (nu s a b) a) (pq s (de s a b) (nu s a b) b) := by
  have hd := de_pos h
  have e : crs (pq s (de s a b) (nu s a b) a) (pq s (de s a b) (nu s a b) b) = 0 := by
    have k3 : crs (pq s (de s a b) (nu s a b) a) (pq s (de s a b) (nu s a b) b) = de s a b * (de s a b * crs a b - nu s a b * (crs s b - crs s a)) := by
      generalize de s a b = E
      generalize nu s a b = N
      unfold crs pq; grind
    rw [k3]
    have : de s a b * crs a b - nu s a b * (crs s b - crs s a) = 0 := by
      unfold de nu
      by_cases q : 0 < crs s b
      · rw [if_pos q, if_pos q]; grind
      · rw [if_neg q, if_neg q]; grind
    rw [this, Int.mul_zero]
  refine ⟨e, ?_⟩
  have k1 : crs s (pq s (de s a b) (nu s a b) a) = de s a b * crs s a := by
    generalize de s a b = E
    generalize nu s a b = N
    unfold crs pq; grind
  have k2 : crs s (pq s (de s a b) (nu s a b) b) = de s a b * crs s b := by
    generalize de s a b = E
    generalize nu s a b = N
    unfold crs pq; grind
  generalize pq s (de s a b) (nu s a b) a = A at *
  generalize pq s (de s a b) (nu s a b) b = B at *
  have i1 : crs s A * dt B B - crs s B * dt A B = -(crs A B * dt s B) := by unfold crs dt; grind
  have i2 : crs s B * dt A A - crs s A * dt A B = crs A B * dt s A := by unfold crs dt; grind
  rw [e, Int.zero_mul] at i1 i2
  have n1 : 0 ≤ dt B B := by unfold dt; have := sq_nn B.1; have := sq_nn B.2; omega
  have n2 : 0 ≤ dt A A := by unfold dt; have := sq_nn A.1; have := sq_nn A.2; omega
  unfold xg at h
  by_cases q : 0 < crs s b
  · have r : ¬ 0 < crs s a := fun r => by simp [q, r] at h
    have p1 : 0 < crs s B := by rw [k2]; exact Int.mul_pos hd q
    have p2 : crs s A ≤ 0 := by rw [k1]; exact Int.mul_nonpos_of_nonneg_of_nonpos (by omega) (by omega)
    by_cases z : 0 < dt A B
    · exfalso
      have z1 := Int.mul_pos p1 z
      have z2 : crs s A * dt B B ≤ 0 := Int.mul_nonpos_of_nonpos_of_nonneg p2 n1
      omega
    · omega
  · have r : 0 < crs s a := by by_cases r : 0 < crs s a; exact r; simp [q, r] at h
    have p1 : 0 < crs s A := by rw [k1]; exact Int.mul_pos hd r
    have p2 : crs s B ≤ 0 := by rw [k2]; exact Int.mul_nonpos_of_nonneg_of_nonpos (by omega) (by omega)
    by_cases z : 0 < dt A B
    · exfalso
      have z1 := Int.mul_pos p1 z
      have z2 : crs s B * dt A A ≤ 0 := Int.mul_nonpos_of_nonpos_of_nonneg p2 n2
      omega
    · omega
theorem pq_rel {V : Nat → V2} {P s : V2} {D p : Int} (i : Nat) : pq s D p (fro V P i) = rel V D (D * P.1 + p * s.1, D * P.2 + p * s.2) i := by
  unfold pq fro rel
  refine Prod.ext ?_ ?_ <;> simp only <;> grind
/-- s goes along the way k, forth or back, from its end P -/
def onW (V : Nat → V2) (k : Nat) (P s : V2) : Prop := (P = V k ∧ s = dv V k) ∨ (P = V (k + 1) ∧ s = ng (dv V k))
theorem dt_pos {a : V2} (h : nz a) : 0 < dt a a := by
  unfold dt
  have h1 := sq_nn a.1
  have h2 := sq_nn a.2
  rcases Int.lt_or_eq_of_le h1 with h3 | h3
  · omega
  · rcases Int.lt_or_eq_of_le h2 with h4 | h4
    · omega
    · exact (h ⟨by have := Int.mul_eq_zero.mp h3.symm; omega, by have := Int.mul_eq_zero.mp h4.symm; omega⟩).elim
theorem onW_nz {V : Nat → V2} {k : Nat} {P s : V2} (h : onW V k P s) (hk : nz (dv V k)) : nz s := by
  rcases h with ⟨-, rfl⟩ | ⟨-, rfl⟩
  · exact hk
  · exact fun q => hk ⟨by have := q.1; simp only [ng] at this; omega, by have := q.2; simp only [ng] at this; omega⟩
theorem onW_al {V : Nat → V2} {k : Nat} {P s : V2} (h : onW V k P s) (D p : Int) : ∃ u v : Int, ((u = -p ∧ v = D - p) ∨ (u = D - p ∧ v = -p)) ∧ pq s D p (fro V P k) = (u * s.1, u * s.2) ∧ pq s D p (fro V P (k + 1)) = (v * s.1, v * s.2) := by
  rcases h with ⟨rfl, rfl⟩ | ⟨rfl, rfl⟩
  · refine ⟨-p, D - p, Or.inl ⟨rfl, rfl⟩, ?_, ?_⟩ <;> (unfold pq fro dv; refine Prod.ext ?_ ?_ <;> simp only <;> grind)
  · refine ⟨D - p, -p, Or.inr ⟨rfl, rfl⟩, ?_, ?_⟩ <;> (unfold pq fro ng dv; refine Prod.ext ?_ ?_ <;> simp only <;> grind)
theorem zro_sc {u : Int} {s : V2} (hs : nz s) (h : zro (u * s.1, u * s.2)) : u = 0 := by
  by_cases q : u = 0
  · exact q
  · exfalso
    refine hs ⟨?_, ?_⟩
    · have := Int.mul_eq_zero.mp h.1; omega
    · have := Int.mul_eq_zero.mp h.2; omega
theorem on0_sc {u v : Int} {s : V2} (h : u * v ≤ 0) : on0 (u * s.1, u * s.2) (v * s.1, v * s.2) := by
  refine ⟨by unfold crs; grind, ?_⟩
  have : dt (u * s.1, u * s.2) (v * s.1, v * s.2) = (u * v) * dt s s := by unfold dt; grind
  rw [this]
  have n1 : 0 ≤ dt s s := by unfold dt; have := sq_nn s.1; have := sq_nn s.2; omega
  exact Int.mul_nonpos_of_nonpos_of_nonneg h n1
/-- nothing of a simple ring passes one of its own ways -/
theorem Smp.free {V : Nat → V2} {lo m : Nat} (S : Smp V lo m) {k : Nat} (h1 : lo ≤ k) (h2 : k < lo + m) {P s : V2} (hw : onW V k P s) : ∀ i, lo ≤ i → i < lo + m → xg s (fro V P i) (fro V P (i + 1)) = true → ¬ (0 < nu s (fro V P i) (fro V P (i + 1)) ∧ nu s (fro V P i) (fro V P (i + 1)) < de s (fro V P i) (fro V P (i + 1))) := by
  intro i h3 h4 hx hn
  obtain ⟨S1, S2, S3, S4⟩ := S
  have hs := onW_nz hw (S3 k h1 h2)
  have hd := de_pos hx
  have ho := on0_x hx
  rw [pq_rel, pq_rel] at ho
  obtain ⟨u, v, huv, e1, e2⟩ := onW_al hw (de s (fro V P i) (fro V P (i + 1))) (nu s (fro V P i) (fro V P (i + 1)))
  have hk : on0 (u * s.1, u * s.2) (v * s.1, v * s.2) := on0_sc (by
    rcases huv with ⟨rfl, rfl⟩ | ⟨rfl, rfl⟩
    · exact Int.mul_nonpos_of_nonpos_of_nonneg (by omega) (by omega)
    · exact Int.mul_nonpos_of_nonneg_of_nonpos (by omega) (by omega))
  have hu : u ≠ 0 := by omega
  have hv : v ≠ 0 := by omega
  rw [← e1, ← e2, pq_rel, pq_rel] at hk
  rw [pq_rel] at e1 e2
  by_cases q : i = k
  · subst q
    unfold xg at hx
    have w1 : crs s (fro V P i) = 0 := by
      rcases hw with ⟨rfl, rfl⟩ | ⟨rfl, rfl⟩
      · unfold crs fro dv; simp only; grind
      · unfold crs fro ng dv; simp only; grind
    have w2 : crs s (fro V P (i + 1)) = 0 := by
      rcases hw with ⟨rfl, rfl⟩ | ⟨rfl, rfl⟩
      · unfold crs fro dv; simp only; grind
      · unfold crs fro ng dv; simp only; grind
    rw [w1, w2] at hx
    simp at hx
  · rcases Nat.lt_or_ge i k with r | r
    · rcases S4 _ _ i k hd h3 r h2 ho hk with ⟨a, b⟩ | ⟨a, b, c⟩
      · rw [e1] at b; exact hu (zro_sc hs b)
      · have : rel V (de s (fro V P i) (fro V P (i + 1))) (de s (fro V P i) (fro V P (i + 1)) * P.1 + nu s (fro V P i) (fro V P (i + 1)) * s.1, de s (fro V P i) (fro V P (i + 1)) * P.2 + nu s (fro V P i) (fro V P (i + 1)) * s.2) lo = (v * s.1, v * s.2) := by
          rw [← e2, b]; unfold rel; rw [S2]
        rw [this] at c
        exact hv (zro_sc hs c)
    · rcases S4 _ _ k i hd h1 (by omega) h4 hk ho with ⟨a, b⟩ | ⟨a, b, c⟩
      · rw [← a] at e2; rw [e2] at b; exact hv (zro_sc hs b)
      · rw [← a, e1] at c; exact hu (zro_sc hs c)

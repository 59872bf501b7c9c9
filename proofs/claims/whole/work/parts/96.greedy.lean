/-! a way covered by the ways of a line: as far as one gets -/
def rcS (P Q : V2) (d : Ct) (j : Nat) (r : Int) : Int := if min (fX P Q (cV d j)) (fX P Q (cV d (j + 1))) ≤ r ∧ r < max (fX P Q (cV d j)) (fX P Q (cV d (j + 1))) ∧ sid P Q (cV d j) = 0 ∧ sid P Q (cV d (j + 1)) = 0 then max (fX P Q (cV d j)) (fX P Q (cV d (j + 1))) else r
def rcP (P Q : V2) (d : Ct) : Nat → Nat → Int → Int
  | 0, _, r => r
  | k + 1, j, r => rcP P Q d k (j + 1) (rcS P Q d j r)
def rcR (P Q : V2) (d : Ct) (B : Int) : Nat → Int → Int
  | 0, r => r
  | k + 1, r => if B ≤ r then r else rcR P Q d B k (rcP P Q d (cN d - 1) 0 r)
/-- every unit of the way is covered -/
def UC (P Q : V2) (d : Ct) (A B : Int) : Prop := ∀ t, A ≤ t → t < B → ∃ j, j + 1 < cN d ∧ sid P Q (cV d j) = 0 ∧ sid P Q (cV d (j + 1)) = 0 ∧ min (fX P Q (cV d j)) (fX P Q (cV d (j + 1))) ≤ t ∧ t < max (fX P Q (cV d j)) (fX P Q (cV d (j + 1)))
set_option maxHeartbeats 200000 in
theorem rcS_le (P Q : V2) (d : Ct) (j : Nat) (r : Int) : r ≤ rcS P Q d j r := by
  unfold rcS; split <;> omega
set_option maxHeartbeats 200000 in
theorem rcP_le (P Q : V2) (d : Ct) : ∀ k j r, r ≤ rcP P Q d k j r := by
  intro k
  induction k with
  | zero => intro j r; exact Int.le_refl r
  | succ k ih => intro j r; rw [rcP]; exact Int.le_trans (rcS_le P Q d j r) (ih _ _)
set_option maxHeartbeats 200000 in
theorem rcP_uc {P Q : V2} {d : Ct} {A : Int} : ∀ k j r, j + k + 1 ≤ cN d → UC P Q d A r → UC P Q d A (rcP P Q d k j r) := by
  intro k
  induction k with
  | zero => intro j r _ h; exact h
  | succ k ih =>
    intro j r hj h
    rw [rcP]
    refine ih (j + 1) _ (by omega) ?_
    unfold rcS
    split
    · rename_i c
      intro t h1 h2
      by_cases z : t < r
      · exact h t h1 z
      · exact ⟨j, by omega, c.2.2.1, c.2.2.2, by omega, h2⟩
    · exact h
set_option maxHeartbeats 200000 in
theorem rcP_up {P Q : V2} {d : Ct} {r : Int} : ∀ k j, (∃ i, j ≤ i ∧ i < j + k ∧ sid P Q (cV d i) = 0 ∧ sid P Q (cV d (i + 1)) = 0 ∧ min (fX P Q (cV d i)) (fX P Q (cV d (i + 1))) ≤ r ∧ r < max (fX P Q (cV d i)) (fX P Q (cV d (i + 1)))) → ∀ r', r' = r → r < rcP P Q d k j r' := by
  intro k
  induction k with
  | zero => rintro j ⟨i, a, b, _⟩; omega
  | succ k ih =>
    rintro j ⟨i, a, b, h1, h2, h3, h4⟩ r' rfl
    rw [rcP]
    by_cases z : i = j
    · subst z
      have : rcS P Q d i r' = max (fX P Q (cV d i)) (fX P Q (cV d (i + 1))) := by unfold rcS; rw [if_pos ⟨h3, h4, h1, h2⟩]
      have g := rcP_le P Q d k (i + 1) (rcS P Q d i r')
      omega
    · by_cases y : rcS P Q d j r' = r'
      · rw [y]; exact ih (j + 1) ⟨i, by omega, by omega, h1, h2, h3, h4⟩ r' rfl
      · have g := rcP_le P Q d k (j + 1) (rcS P Q d j r')
        have l := rcS_le P Q d j r'
        omega
/-! what is reached is an end of a way -/
set_option maxHeartbeats 200000 in
theorem rcP_end {P Q : V2} {d : Ct} : ∀ k j r, rcP P Q d k j r = r ∨ ∃ i, j ≤ i ∧ i < j + k ∧ rcP P Q d k j r = max (fX P Q (cV d i)) (fX P Q (cV d (i + 1))) := by
  intro k
  induction k with
  | zero => intro j r; exact Or.inl rfl
  | succ k ih =>
    intro j r
    rw [rcP]
    rcases ih (j + 1) (rcS P Q d j r) with h | ⟨i, a, b, h⟩
    · rw [h]
      unfold rcS
      split
      · exact Or.inr ⟨j, Nat.le_refl j, by omega, rfl⟩
      · exact Or.inl rfl
    · exact Or.inr ⟨i, by omega, by omega, h⟩
/-- how many ends are still ahead -/
def ahd (P Q : V2) (d : Ct) (r : Int) : Nat → Nat
  | 0 => 0
  | k + 1 => ahd P Q d r k + (if r < max (fX P Q (cV d k)) (fX P Q (cV d (k + 1))) then 1 else 0)
set_option maxHeartbeats 200000 in
theorem ahd_le (P Q : V2) (d : Ct) (r : Int) : ∀ k, ahd P Q d r k ≤ k := by
  intro k
  induction k with
  | zero => exact Nat.le_refl 0
  | succ k ih => rw [ahd]; split <;> omega
set_option maxHeartbeats 200000 in
theorem ahd_mono {P Q : V2} {d : Ct} {r r' : Int} (h : r ≤ r') : ∀ k, ahd P Q d r' k ≤ ahd P Q d r k := by
  intro k
  induction k with
  | zero => exact Nat.le_refl 0
  | succ k ih =>
    rw [ahd, ahd]
    split <;> split <;> omega
set_option maxHeartbeats 200000 in
theorem ahd_lt {P Q : V2} {d : Ct} {r r' : Int} (h : r < r') : ∀ k i, i < k → r' = max (fX P Q (cV d i)) (fX P Q (cV d (i + 1))) → ahd P Q d r' k < ahd P Q d r k := by
  intro k
  induction k with
  | zero => intro i hi; omega
  | succ k ih =>
    intro i hi e
    rw [ahd, ahd]
    by_cases z : i = k
    · subst z
      have := ahd_mono (P := P) (Q := Q) (d := d) (show r ≤ r' by omega) i
      rw [if_neg (by omega), if_pos (by omega)]; omega
    · have := ih i (by omega) e
      split <;> split <;> omega
set_option maxHeartbeats 200000 in
theorem rcR_uc {P Q : V2} {d : Ct} {A B : Int} (hN : 1 ≤ cN d) : ∀ k r, UC P Q d A r → UC P Q d A (rcR P Q d B k r) := by
  intro k
  induction k with
  | zero => intro r h; exact h
  | succ k ih =>
    intro r h
    rw [rcR]
    split
    · exact h
    · exact ih _ (rcP_uc _ _ _ (by omega) h)
set_option maxHeartbeats 200000 in
theorem rcR_ge {P Q : V2} {d : Ct} {A B : Int} (hN : 1 ≤ cN d) (h : UC P Q d A B) : ∀ k r, A ≤ r → ahd P Q d r (cN d - 1) < k → B ≤ rcR P Q d B k r := by
  intro k
  induction k with
  | zero => intro r _ hk; omega
  | succ k ih =>
    intro r hr hk
    rw [rcR]
    by_cases z : B ≤ r
    · rw [if_pos z]; exact z
    · rw [if_neg z]
      obtain ⟨j, j1, j2, j3, j4, j5⟩ := h r hr (by omega)
      have up := rcP_up (P := P) (Q := Q) (d := d) (cN d - 1) 0 ⟨j, by omega, by omega, j2, j3, j4, j5⟩ r rfl
      refine ih _ (by omega) ?_
      rcases rcP_end (P := P) (Q := Q) (d := d) (cN d - 1) 0 r with e | ⟨i, _, i2, e⟩
      · omega
      · have := ahd_lt (P := P) (Q := Q) (d := d) up (cN d - 1) i (by omega) e
        omega
set_option maxHeartbeats 200000 in
theorem rcR_i {P Q : V2} {d : Ct} {A B : Int} (hN : 1 ≤ cN d) : B ≤ rcR P Q d B (cN d) A ↔ UC P Q d A B := by
  constructor
  · intro h t h1 h2
    exact rcR_uc (A := A) (B := B) hN (cN d) A (fun t a b => by omega) t h1 (by omega)
  · intro h
    have := ahd_le P Q d A (cN d - 1)
    exact rcR_ge hN h (cN d) A (Int.le_refl A) (by omega)
/-! covered in units, and covered -/
set_option maxHeartbeats 200000 in
theorem UC_i {d : Ct} (G : WF d) (hl : cK d = 1) {P Q : V2} (hPQ : P ≠ Q) : UC P Q d (min (fX P Q P) (fX P Q Q)) (max (fX P Q P) (fX P Q Q)) ↔ ¬ UnP (TC d) P Q := by
  have W := whl_pos hPQ
  have cv : ∀ p D, 0 < D → (cvT (TC d) P Q p D ↔ ∃ e, e + 1 < cN d ∧ cvE P Q (cV d e) (cV d (e + 1)) p D) := by
    intro p D hD
    rw [cvT_i hPQ hD]
    exact ⟨fun ⟨e, h1, h2⟩ => ⟨e, (inTC.mp h1).2.1, h2⟩, fun ⟨e, h1, h2⟩ => ⟨e, inTC.mpr ((wy_line G hl).mpr h1), h2⟩⟩
  have unit : ∀ e p D, 0 < D → (cvE P Q (cV d e) (cV d (e + 1)) p D ↔ (sid P Q (cV d e) = 0 ∧ sid P Q (cV d (e + 1)) = 0 ∧ min (pos P Q (cV d e)) (pos P Q (cV d (e + 1))) ≤ p * whl P Q / D ∧ p * whl P Q / D < max (pos P Q (cV d e)) (pos P Q (cV d (e + 1))))) := by
    intro e p D hD
    unfold cvE
    rw [Int.le_ediv_iff_mul_le hD, Int.ediv_lt_iff_lt_mul hD]
  constructor
  · rintro h ⟨p, D, hp, hD, n⟩
    have k0 : 0 ≤ p * whl P Q / D := Int.ediv_nonneg (Int.mul_nonneg hp (by omega)) (by omega)
    have k1 : p * whl P Q / D < whl P Q := by
      rw [Int.ediv_lt_iff_lt_mul (by omega), Int.mul_comm]
      exact Int.mul_lt_mul_of_pos_left hD W
    refine n ((cv p D (by omega)).mpr ?_)
    generalize hk : p * whl P Q / D = k at k0 k1
    by_cases o : 0 ≤ fX P Q Q - fX P Q P
    · have hw : whl P Q = fX P Q Q - fX P Q P := by unfold whl; rw [if_pos o]
      obtain ⟨j, j1, j2, j3, j4, j5⟩ := h (fX P Q P + k) (by omega) (by omega)
      refine ⟨j, j1, (unit j p D (by omega)).mpr ⟨j2, j3, ?_, ?_⟩⟩
      · rw [hk]; unfold pos; rw [if_pos o, if_pos o]; omega
      · rw [hk]; unfold pos; rw [if_pos o, if_pos o]; omega
    · have hw : whl P Q = -(fX P Q Q - fX P Q P) := by unfold whl; rw [if_neg o]
      obtain ⟨j, j1, j2, j3, j4, j5⟩ := h (fX P Q P - k - 1) (by omega) (by omega)
      refine ⟨j, j1, (unit j p D (by omega)).mpr ⟨j2, j3, ?_, ?_⟩⟩
      · rw [hk]; unfold pos; rw [if_neg o, if_neg o]; omega
      · rw [hk]; unfold pos; rw [if_neg o, if_neg o]; omega
  · intro h t t1 t2
    have all : ∀ k, 0 ≤ k → k < whl P Q → ∃ e, e + 1 < cN d ∧ (sid P Q (cV d e) = 0 ∧ sid P Q (cV d (e + 1)) = 0 ∧ min (pos P Q (cV d e)) (pos P Q (cV d (e + 1))) ≤ k ∧ k < max (pos P Q (cV d e)) (pos P Q (cV d (e + 1)))) := by
      intro k h0 h1
      have c : cvT (TC d) P Q k (whl P Q) := Classical.byContradiction (fun n => h ⟨k, whl P Q, h0, h1, n⟩)
      obtain ⟨e, e1, e2⟩ := (cv k _ W).mp c
      have := (unit e k _ W).mp e2
      rw [Int.mul_ediv_cancel _ (by omega)] at this
      exact ⟨e, e1, this⟩
    by_cases o : 0 ≤ fX P Q Q - fX P Q P
    · have hw : whl P Q = fX P Q Q - fX P Q P := by unfold whl; rw [if_pos o]
      obtain ⟨e, e1, e2, e3, e4, e5⟩ := all (t - fX P Q P) (by omega) (by omega)
      unfold pos at e4 e5
      rw [if_pos o, if_pos o] at e4 e5
      exact ⟨e, e1, e2, e3, by omega, by omega⟩
    · have hw : whl P Q = -(fX P Q Q - fX P Q P) := by unfold whl; rw [if_neg o]
      obtain ⟨e, e1, e2, e3, e4, e5⟩ := all (fX P Q P - t - 1) (by omega) (by omega)
      unfold pos at e4 e5
      rw [if_neg o, if_neg o] at e4 e5
      exact ⟨e, e1, e2, e3, by omega, by omega⟩

/-! THE CUTTER: all ways of a row of places against the region -/
def rgE (d : Ct) (lo hi e : Nat) : Prop := lo ≤ e ∧ e + 1 < hi ∧ ¬ isE d e
/-- covered, and the parity, just behind the part p / D of the way from P to Q -/
def cvR (d : Ct) (lo hi : Nat) (P Q : V2) (p D : Int) : Prop := ∃ e, rgE d lo hi e ∧ cvE P Q (cV d e) (cV d (e + 1)) p D
def ptE (P Q a b : V2) (p D : Int) : Bool := xgP P Q a b && decide (p * deP P Q a b < D * nuP P Q a b)
noncomputable def ptR (d : Ct) (lo hi : Nat) (P Q : V2) (p D : Int) : Bool := xs (fun e => dB (¬ isE d e) && ptE P Q (cV d e) (cV d (e + 1)) p D) lo (hi - lo - 1)
set_option maxHeartbeats 200000 in
theorem ga_o {P Q : V2} {d : Ct} {lo : Nat} {p D : Int} (hp : 0 ≤ p) (hD : p < D) : ∀ m, (gaO P Q d lo m ^^ decide (lsm (cO p D) (gaL P Q d lo m) % 2 = 1)) = xs (fun e => dB (¬ isE d e) && ptE P Q (cV d e) (cV d (e + 1)) p D) lo m := by
  intro m
  induction m with
  | zero => rfl
  | succ m ih =>
    rw [xs, ← ih]
    unfold gaO at *
    rw [xs, gaL, lsm_app]
    have par2 : ∀ x y : Int, decide ((x + y) % 2 = 1) = (decide (x % 2 = 1) ^^ decide (y % 2 = 1)) := by
      intro x y
      rcases Int.emod_two_eq x with h1 | h1 <;> rcases Int.emod_two_eq y with h2 | h2 <;> rw [h1, h2] <;> simp <;> omega
    rw [par2]
    by_cases w : isE d (lo + m)
    · rw [ifP_t w, dB_f (fun z => z w), lsm, Bool.false_and, Bool.false_and]
      have : decide ((0 : Int) % 2 = 1) = false := by decide
      rw [this, Bool.xor_false, Bool.xor_false, Bool.xor_false]
    · rw [ifP_f w, dB_t w, Bool.true_and, Bool.true_and]
      have := edge_o (P := P) (Q := Q) (a := cV d (lo + m)) (b := cV d (lo + m + 1)) hp hD
      unfold ptE
      rw [← this]
      generalize xs (fun e => dB (¬ isE d e) && eO P Q (cV d e) (cV d (e + 1))) lo m = A
      generalize decide (lsm (cO p D) (gaL P Q d lo m) % 2 = 1) = B
      generalize eO P Q (cV d (lo + m)) (cV d (lo + m + 1)) = C
      generalize decide (lsm (cO p D) (eL P Q (cV d (lo + m)) (cV d (lo + m + 1))) % 2 = 1) = E
      cases A <;> cases B <;> cases C <;> cases E <;> rfl
set_option maxHeartbeats 200000 in
theorem ga_k {P Q : V2} {d : Ct} {lo : Nat} {p D : Int} (hp : 0 ≤ p) (hD : p < D) (hPQ : P ≠ Q) : ∀ m, (0 ≤ gaK P Q d lo m + lsm (cT p D) (gaL P Q d lo m)) ∧ (0 < gaK P Q d lo m + lsm (cT p D) (gaL P Q d lo m) ↔ ∃ e, lo ≤ e ∧ e < lo + m ∧ ¬ isE d e ∧ cvE P Q (cV d e) (cV d (e + 1)) p D) := by
  intro m
  induction m with
  | zero => exact ⟨by simp [gaK, gaL, lsm], by simp [gaK, gaL, lsm], fun ⟨e, a, b, _⟩ => by omega⟩
  | succ m ih =>
    obtain ⟨i1, i2⟩ := ih
    rw [gaK, gaL, lsm_app]
    by_cases w : isE d (lo + m)
    · rw [ifP_t w, ifP_t w, lsm]
      refine ⟨by omega, ⟨fun h => ?_, fun ⟨e, a, b, c, f⟩ => ?_⟩⟩
      · obtain ⟨e, a, b, c⟩ := i2.mp (by omega)
        exact ⟨e, a, by omega, c⟩
      · have : e ≠ lo + m := fun z => c (z ▸ w)
        have := i2.mpr ⟨e, a, by omega, c, f⟩
        omega
    · rw [ifP_f w, ifP_f w]
      have k := edge_k (P := P) (Q := Q) (a := cV d (lo + m)) (b := cV d (lo + m + 1)) hp hD hPQ
      by_cases z : cvE P Q (cV d (lo + m)) (cV d (lo + m + 1)) p D
      · rw [ifP_t z] at k
        exact ⟨by omega, ⟨fun _ => ⟨lo + m, by omega, by omega, w, z⟩, fun _ => by omega⟩⟩
      · rw [ifP_f z] at k
        refine ⟨by omega, ⟨fun h => ?_, fun ⟨e, a, b, c, f⟩ => ?_⟩⟩
        · obtain ⟨e, a, b, c⟩ := i2.mp (by omega)
          exact ⟨e, a, by omega, c⟩
        · have : e ≠ lo + m := fun y => z (y ▸ f)
          have := i2.mpr ⟨e, a, by omega, c, f⟩
          omega
noncomputable def lieR (d : Ct) (lo hi : Nat) (P Q : V2) (p D : Int) : Nat := ifP (cvR d lo hi P Q p D) 4 (if ptR d lo hi P Q p D then 1 else 2)
set_option maxHeartbeats 200000 in
theorem lie_R {P Q : V2} {d : Ct} {lo hi : Nat} {p D : Int} (hp : 0 ≤ p) (hD : p < D) (hPQ : P ≠ Q) : lieL (gaL P Q d lo (hi - lo - 1)) (gaO P Q d lo (hi - lo - 1)) (gaK P Q d lo (hi - lo - 1)) p D = lieR d lo hi P Q p D := by
  unfold lieL lieR ptR
  rw [ga_o hp hD]
  have k := (ga_k (d := d) (lo := lo) hp hD hPQ (hi - lo - 1)).2
  have e : (0 < gaK P Q d lo (hi - lo - 1) + lsm (cT p D) (gaL P Q d lo (hi - lo - 1))) ↔ cvR d lo hi P Q p D := by
    rw [k]
    exact ⟨fun ⟨e, a, b, c, f⟩ => ⟨e, ⟨a, by omega, c⟩, f⟩, fun ⟨e, ⟨a, b, c⟩, f⟩ => ⟨e, a, by omega, c, f⟩⟩
  unfold lieN
  by_cases z : cvR d lo hi P Q p D
  · rw [ifP_t z, if_pos (e.mpr z)]
  · rw [ifP_f z, if_neg (fun y => z (e.mp y))]
set_option maxHeartbeats 200000 in
theorem eL_v {P Q a b : V2} (hP : bV P) (hQ : bV Q) (ha : bV a) (hb : bV b) : ∀ c, c ∈ eL P Q a b → cvl c := by
  intro c hc
  unfold eL at hc
  have hw : whl P Q ≤ 2147483646 := by
    unfold whl
    have h1 := b31.s hQ.1 hP.1
    have h2 := b31.s hQ.2 hP.2
    unfold b31 at h1 h2
    by_cases q : P.1 = Q.1
    · rw [fX_v q, fX_v q]; split <;> omega
    · rw [fX_h q, fX_h q]; split <;> omega
  split at hc
  · rename_i hx
    unfold crL at hc
    split at hc
    · rename_i h
      rw [List.mem_singleton] at hc
      subst hc
      refine ⟨h.1, h.2, ?_, Or.inl rfl⟩
      show deP P Q a b < _
      have r1 : R64 (crs (sub2 Q P) (sub2 b a)) := crs_r2 hQ hP hb ha rfl rfl
      have r2 : R64 (crs (sub2 Q P) (sub2 a b)) := crs_r2 hQ hP ha hb rfl rfl
      have e1 : crs (sub2 Q P) (sub2 b P) - crs (sub2 Q P) (sub2 a P) = crs (sub2 Q P) (sub2 b a) := by unfold crs sub2; grind
      have e2 : crs (sub2 Q P) (sub2 a P) - crs (sub2 Q P) (sub2 b P) = crs (sub2 Q P) (sub2 a b) := by unfold crs sub2; grind
      unfold deP de
      split
      · rw [e1]; exact r1.2
      · rw [e2]; exact r2.2
    · exact absurd hc (by simp)
  · split at hc
    · unfold alL at hc
      split at hc
      · exact absurd hc (by simp)
      · rename_i h
        rw [List.mem_append] at hc
        rcases hc with hc | hc
        · split at hc
          · rw [List.mem_singleton] at hc
            subst hc
            exact ⟨by assumption, by show min (pos P Q a) (pos P Q b) < whl P Q; omega, by show whl P Q < _; omega, Or.inr (Or.inl rfl)⟩
          · exact absurd hc (by simp)
        · split at hc
          · rw [List.mem_singleton] at hc
            subst hc
            exact ⟨by show 0 < max (pos P Q a) (pos P Q b); omega, by assumption, by show whl P Q < _; omega, Or.inr (Or.inr rfl)⟩
          · exact absurd hc (by simp)
    · exact absurd hc (by simp)
set_option maxHeartbeats 200000 in
theorem gaL_v {P Q : V2} {d : Ct} (hP : bV P) (hQ : bV Q) (G : WF d) {lo : Nat} : ∀ m, lo + m < cN d ∨ m = 0 → ∀ c, c ∈ gaL P Q d lo m → cvl c := by
  intro m
  induction m with
  | zero => intro _ c hc; exact absurd hc (by simp [gaL])
  | succ m ih =>
    intro h c hc
    rw [gaL, List.mem_append] at hc
    rcases hc with hc | hc
    · exact ih (by omega) c hc
    · by_cases w : isE d (lo + m)
      · rw [ifP_t w] at hc; exact absurd hc (by simp)
      · rw [ifP_f w] at hc; exact eL_v hP hQ (G.b (by omega)) (G.b (by omega)) c hc
set_option maxHeartbeats 200000 in
theorem gaK_b {P Q : V2} {d : Ct} {lo : Nat} : ∀ m, 0 ≤ gaK P Q d lo m ∧ gaK P Q d lo m ≤ m := by
  intro m
  induction m with
  | zero => exact ⟨by simp [gaK], by simp [gaK]⟩
  | succ m ih =>
    rw [gaK]
    have : ∀ a b : V2, 0 ≤ eK P Q a b ∧ eK P Q a b ≤ 1 := by
      intro a b; unfold eK alK; repeat' split
      all_goals omega
    by_cases w : isE d (lo + m)
    · rw [ifP_t w]; omega
    · rw [ifP_f w]; have := this (cV d (lo + m)) (cV d (lo + m + 1)); omega
/-- the mask of one way -/
noncomputable def wmk (d : Ct) (lo hi : Nat) (P Q : V2) (b : Nat) : Prop := (∃ p D, 0 ≤ p ∧ p < D ∧ lieR d lo hi P Q p D = 2 ^ b) ∨ (b = 3 ∧ gaT P Q d lo (hi - lo))
set_option maxHeartbeats 200000 in
theorem e_oneWay {n : Nat} {σ : xσ} {a b : Nat} {c d : Ct} (S : SH n σ a c) (F : WF c) (T : SH n σ b d) (G : WF d) {lo hi i : Nat} (A : RG σ b d lo hi) (h1 : i + 1 < cN c) (hPQ : cV c i ≠ cV c (i + 1)) :
    ∃ σ1 σ2 σ3 m, f_X1_gather n a (nI i) σ = some ((), σ1) ∧ f_X1_sortCuts n σ1 = some ((), σ2) ∧ f_X1_sweep n σ2 = some (nI m, σ3) ∧ FrC σ σ3 ∧ sI σ3 18 13 = tf (gaT (cV c i) (cV c (i + 1)) d lo (hi - lo)) ∧ m < 16 ∧ ∀ b, (m.testBit b = true ↔ ∃ p D, 0 ≤ p ∧ p < D ∧ lieR d lo hi (cV c i) (cV c (i + 1)) p D = 2 ^ b) := by
  obtain ⟨σ1, a1, a2, a3⟩ := e_gather (n := n) S F T G A h1 trivial
  have hM := G.n
  have hA := A.2.2.2
  have hl := gaL_le (cV c i) (cV c (i + 1)) d lo (hi - lo - 1)
  have hk := gaK_b (P := cV c i) (Q := cV c (i + 1)) (d := d) (lo := lo) (hi - lo - 1)
  obtain ⟨σ2, σ3, m, b1, b2, b3, b4, b5, b6⟩ := e_sorted (n := n) a3 (by omega) (gaL_v (F.b (by omega)) (F.b h1) G _ (by omega)) ⟨by omega, by omega⟩
  refine ⟨σ1, σ2, σ3, m, a1, b1, b2, a2.trans b3, b4, b5, fun b => ?_⟩
  rw [b6]
  constructor
  · rintro ⟨p, D, h1, h2, h3⟩
    exact ⟨p, D, h1, h2, by rw [← lie_R h1 h2 hPQ]; exact h3⟩
  · rintro ⟨p, D, h1, h2, h3⟩
    exact ⟨p, D, h1, h2, by rw [lie_R h1 h2 hPQ]; exact h3⟩

/-! what changes along a way -/
def xl {α : Type} (L : List α) (f : α → Bool) : Bool := match L with
  | [] => false
  | a :: L => f a ^^ xl L f
set_option maxHeartbeats 200000 in
theorem xl_congr {α : Type} {L : List α} {f g : α → Bool} (h : ∀ a, a ∈ L → f a = g a) : xl L f = xl L g := by
  induction L with
  | nil => rfl
  | cons x L ih => rw [xl, xl, h x (List.mem_cons_self ..), ih (fun a ha => h a (List.mem_cons_of_mem _ ha))]
set_option maxHeartbeats 200000 in
theorem xl_xor {α : Type} (L : List α) (f g : α → Bool) : xl L (fun a => f a ^^ g a) = (xl L f ^^ xl L g) := by
  induction L with
  | nil => rfl
  | cons x L ih =>
    rw [xl, xl, xl, ih]
    cases f x <;> cases g x <;> cases xl L f <;> cases xl L g <;> rfl
set_option maxHeartbeats 200000 in
theorem xl_none {α : Type} {L : List α} {f : α → Bool} (h : ∀ a, a ∈ L → f a = false) : xl L f = false := by
  induction L with
  | nil => rfl
  | cons x L ih => rw [xl, h x (List.mem_cons_self ..), ih (fun a ha => h a (List.mem_cons_of_mem _ ha))]; rfl
set_option maxHeartbeats 200000 in
theorem xl_one {α : Type} {L : List α} (hn : L.Nodup) {f : α → Bool} {a : α} (ha : a ∈ L) (h : ∀ b, b ∈ L → b ≠ a → f b = false) : xl L f = f a := by
  induction L with
  | nil => exact absurd ha (by simp)
  | cons x L ih =>
    rw [List.nodup_cons] at hn
    rw [xl]
    rcases List.mem_cons.mp ha with rfl | ha
    · rw [xl_none (fun b hb => h b (List.mem_cons_of_mem _ hb) (fun e => hn.1 (e ▸ hb))), Bool.xor_false]
    · rw [h x (List.mem_cons_self ..) (fun e => hn.1 (e ▸ ha)), ih hn.2 ha (fun b hb hne => h b (List.mem_cons_of_mem _ hb) hne), Bool.false_xor]
set_option maxHeartbeats 200000 in
theorem xl_XS {α : Type} (L : List α) (T : Sy) (f : α → Nat → Bool) : xl L (fun a => XS T (f a)) = XS T (fun e => xl L (fun a => f a e)) := by
  induction L with
  | nil => exact (XS_none (fun e _ => rfl)).symm
  | cons x L ih => rw [xl, ih, ← XS_xor]; rfl
/-- leaving a part, arriving at it, on the left -/
def Lv (T : Sy) (P Q : V2) (p D : Int) : Bool := paT T P Q p D
noncomputable def Av (T : Sy) (P Q : V2) (p D : Int) : Bool := pa T (D * 1) (pX P Q p D) (ng (sub2 Q P)) ^^ al T (D * 1) (pX P Q p D) (ng (sub2 Q P))
set_option maxHeartbeats 200000 in
theorem Lv_l (T : Sy) (P Q : V2) (p : Int) {D : Int} (hD : 0 < D) : Lv T P Q p D = XS T (fun e => xT T 1 P (sub2 Q P) e && decide (p * dT T 1 P (sub2 Q P) e < D * nT T 1 P (sub2 Q P) e)) := pa_line T 1 P (sub2 Q P) hD p
set_option maxHeartbeats 200000 in
theorem Av_l {T : Sy} (G : GD T) {P Q : V2} (hPQ : P ≠ Q) (p : Int) {D : Int} (hD : 0 < D) : Av T P Q p D = XS T (fun e => xT T 1 P (sub2 Q P) e && decide (p * dT T 1 P (sub2 Q P) e ≤ D * nT T 1 P (sub2 Q P) e)) := (limL G (by omega) P (nz_sub hPQ) hD p).symm
/-- where a point of the way's line is -/
def nW (P Q : V2) : Int := dt (sub2 Q P) (sub2 Q P)
def tW (P Q Z : V2) : Int := dt (sub2 Z P) (sub2 Q P)
def inW (P Q : V2) (p D : Int) (Z : V2) : Prop := sid P Q Z = 0 ∧ p * nW P Q < D * tW P Q Z ∧ tW P Q Z < nW P Q
def evw (T : Sy) (P Q : V2) (p D : Int) : List Nat := (List.range (sL T + sM T)).filter (fun e => decide (sL T ≤ e) && (sW T e && (xT T 1 P (sub2 Q P) e && (decide (p * dT T 1 P (sub2 Q P) e < D * nT T 1 P (sub2 Q P) e) && decide (nT T 1 P (sub2 Q P) e < dT T 1 P (sub2 Q P) e)))))
set_option maxHeartbeats 200000 in
theorem mem_evw {T : Sy} {P Q : V2} {p D : Int} {e : Nat} : e ∈ evw T P Q p D ↔ inT T e ∧ xT T 1 P (sub2 Q P) e = true ∧ p * dT T 1 P (sub2 Q P) e < D * nT T 1 P (sub2 Q P) e ∧ nT T 1 P (sub2 Q P) e < dT T 1 P (sub2 Q P) e := by
  unfold evw inT
  rw [List.mem_filter, List.mem_range]
  simp only [Bool.and_eq_true, decide_eq_true_iff]
  exact ⟨fun h => ⟨⟨h.2.1, h.1, h.2.2.1⟩, h.2.2.2⟩, fun h => ⟨h.1.2.1, h.1.1, h.1.2.2, h.2⟩⟩
set_option maxHeartbeats 200000 in
theorem fr_tr {a b c d e f : Int} (hb : 0 < b) (hd : 0 < d) (hf : 0 < f) (h1 : a * d < c * b) (h2 : c * f ≤ e * d) : a * f < e * b := by
  have t1 : a * d * f < c * b * f := Int.mul_lt_mul_of_pos_right h1 hf
  have t2 : c * f * b ≤ e * d * b := Int.mul_le_mul_of_nonneg_right h2 (by omega)
  have e1 : a * d * f = (a * f) * d := by grind
  have e2 : c * b * f = c * f * b := by grind
  have e3 : e * d * b = (e * b) * d := by grind
  exact Int.lt_of_mul_lt_mul_right (show (a * f) * d < (e * b) * d by omega) (by omega)
/-! the changes along a way, from a part on to its end -/
set_option maxHeartbeats 200000 in
theorem jw {T : Sy} (G : GD T) {P Q : V2} (hPQ : P ≠ Q) {L : List V2} (hn : L.Nodup) (hJ : ∀ p D, 0 < p → p < D → (Lv T P Q p D ^^ Av T P Q p D) = true → ∃ Z, Z ∈ L ∧ sid P Q Z = 0 ∧ p * nW P Q = D * tW P Q Z) : ∀ k p D, 0 ≤ p → p < D → (evw T P Q p D).length = k → (Lv T P Q p D ^^ Av T P Q 1 1) = xl L (fun Z => dB (inW P Q p D Z) && (Lv T P Q (tW P Q Z) (nW P Q) ^^ Av T P Q (tW P Q Z) (nW P Q))) := by
  have hN : 0 < nW P Q := dt_pos (nz_sub hPQ)
  intro k
  induction k using Nat.strongRecOn with
  | ind k ih =>
    intro p D hp hD hk
    have D0 : 0 < D := by omega
    -- no change where nothing is passed
    have still : ∀ Z, inW P Q p D Z → (∀ e, inT T e → xT T 1 P (sub2 Q P) e = true → ¬ tW P Q Z * dT T 1 P (sub2 Q P) e = nW P Q * nT T 1 P (sub2 Q P) e) → (Lv T P Q (tW P Q Z) (nW P Q) ^^ Av T P Q (tW P Q Z) (nW P Q)) = false := by
      intro Z hZ h
      rw [Lv_l T P Q _ hN, Av_l G hPQ _ hN, ← XS_xor]
      refine XS_none (fun e he => ?_)
      cases hx : xT T 1 P (sub2 Q P) e with
      | false => rfl
      | true =>
        have := h e he hx
        rw [Bool.true_and, Bool.true_and]
        have e1 : decide (tW P Q Z * dT T 1 P (sub2 Q P) e < nW P Q * nT T 1 P (sub2 Q P) e) = decide (tW P Q Z * dT T 1 P (sub2 Q P) e ≤ nW P Q * nT T 1 P (sub2 Q P) e) := decide_eq_decide.mpr (by omega)
        rw [e1, Bool.xor_self]
    by_cases q : evw T P Q p D = []
    · have no : ∀ e, inT T e → xT T 1 P (sub2 Q P) e = true → p * dT T 1 P (sub2 Q P) e < D * nT T 1 P (sub2 Q P) e → dT T 1 P (sub2 Q P) e ≤ nT T 1 P (sub2 Q P) e := by
        intro e h1 h2 h3
        by_cases z : nT T 1 P (sub2 Q P) e < dT T 1 P (sub2 Q P) e
        · have := mem_evw.mpr ⟨h1, h2, h3, z⟩
          rw [q] at this; exact absurd this (by simp)
        · omega
      rw [xl_none (fun Z hZ => ?_)]
      · rw [Lv_l T P Q p D0, Av_l G hPQ 1 (by omega), ← XS_xor]
        refine XS_none (fun e he => ?_)
        cases hx : xT T 1 P (sub2 Q P) e with
        | false => rfl
        | true =>
          have hd := dT_pos hx
          rw [Bool.true_and, Bool.true_and]
          have e1 : decide (p * dT T 1 P (sub2 Q P) e < D * nT T 1 P (sub2 Q P) e) = decide (1 * dT T 1 P (sub2 Q P) e ≤ 1 * nT T 1 P (sub2 Q P) e) := by
            apply decide_eq_decide.mpr
            rw [Int.one_mul, Int.one_mul]
            constructor
            · exact no e he hx
            · intro h
              have t1 : p * dT T 1 P (sub2 Q P) e < D * dT T 1 P (sub2 Q P) e := Int.mul_lt_mul_of_pos_right hD hd
              have t2 : D * dT T 1 P (sub2 Q P) e ≤ D * nT T 1 P (sub2 Q P) e := Int.mul_le_mul_of_nonneg_left h (by omega)
              omega
          rw [e1, Bool.xor_self]
      · by_cases hZ' : inW P Q p D Z
        · rw [dB_t hZ', Bool.true_and]
          refine still Z hZ' (fun e he hx z => ?_)
          have hd := dT_pos hx
          -- it would be passed between p / D and the end
          have h1 : p * dT T 1 P (sub2 Q P) e < D * nT T 1 P (sub2 Q P) e := by
            have t := fr_tr (a := p) (b := D) (c := tW P Q Z) (d := nW P Q) (e := nT T 1 P (sub2 Q P) e) (f := dT T 1 P (sub2 Q P) e) D0 hN hd (by rw [Int.mul_comm (tW P Q Z) D]; exact hZ'.2.1) (by rw [z, Int.mul_comm]; omega)
            rw [Int.mul_comm D]; exact t
          have h2 := no e he hx h1
          have t1 : tW P Q Z * dT T 1 P (sub2 Q P) e < nW P Q * dT T 1 P (sub2 Q P) e := Int.mul_lt_mul_of_pos_right hZ'.2.2 hd
          have t2 : nW P Q * dT T 1 P (sub2 Q P) e ≤ nW P Q * nT T 1 P (sub2 Q P) e := Int.mul_le_mul_of_nonneg_left h2 (by omega)
          omega
        · rw [dB_f hZ', Bool.false_and]
    · -- the first that is passed
      obtain ⟨m, hm, hmin⟩ := fr_min ((evw T P Q p D).map (fun e => (nT T 1 P (sub2 Q P) e, dT T 1 P (sub2 Q P) e))) (fun x hx => by
        obtain ⟨e, he, rfl⟩ := List.mem_map.mp hx
        exact dT_pos (mem_evw.mp he).2.1) (fun z => q (List.map_eq_nil_iff.mp z))
      obtain ⟨e0, he0, hem⟩ := List.mem_map.mp hm
      obtain ⟨i1, i2, i3, i4⟩ := mem_evw.mp he0
      have d0 := dT_pos i2
      have m2 : 0 < m.2 := by rw [← hem]; exact d0
      have m12 : m.1 < m.2 := by rw [← hem]; exact i4
      have pm : p * m.2 < D * m.1 := by rw [← hem]; exact i3
      have m1 : 0 < m.1 := by
        have : 0 ≤ p * m.2 := Int.mul_nonneg hp (by omega)
        by_cases z : 0 < m.1
        · exact z
        · have := Int.mul_nonpos_of_nonneg_of_nonpos (show 0 ≤ D by omega) (show m.1 ≤ 0 by omega); omega
      -- an event behind p / D is not ahead of m
      have beh : ∀ e, inT T e → xT T 1 P (sub2 Q P) e = true → p * dT T 1 P (sub2 Q P) e < D * nT T 1 P (sub2 Q P) e → m.1 * dT T 1 P (sub2 Q P) e ≤ m.2 * nT T 1 P (sub2 Q P) e := by
        intro e h1 h2 h3
        by_cases z : nT T 1 P (sub2 Q P) e < dT T 1 P (sub2 Q P) e
        · have := hmin _ (List.mem_map.mpr ⟨e, mem_evw.mpr ⟨h1, h2, h3, z⟩, rfl⟩)
          simp only at this
          rw [Int.mul_comm m.2]; exact this
        · have hd := dT_pos h2
          have t1 : m.1 * dT T 1 P (sub2 Q P) e ≤ m.2 * dT T 1 P (sub2 Q P) e := Int.mul_le_mul_of_nonneg_right (by omega) (by omega)
          have t2 : m.2 * dT T 1 P (sub2 Q P) e ≤ m.2 * nT T 1 P (sub2 Q P) e := Int.mul_le_mul_of_nonneg_left (by omega) (by omega)
          omega
      have conv : ∀ e, xT T 1 P (sub2 Q P) e = true → m.1 * dT T 1 P (sub2 Q P) e ≤ m.2 * nT T 1 P (sub2 Q P) e → p * dT T 1 P (sub2 Q P) e < D * nT T 1 P (sub2 Q P) e := by
        intro e h2 h3
        have hd := dT_pos h2
        have t := fr_tr (a := p) (b := D) (c := m.1) (d := m.2) (e := nT T 1 P (sub2 Q P) e) (f := dT T 1 P (sub2 Q P) e) D0 m2 hd (by rw [Int.mul_comm m.1]; exact pm) (by rw [Int.mul_comm (nT T 1 P (sub2 Q P) e)]; exact h3)
        rw [Int.mul_comm D]; exact t
      have eA : Lv T P Q p D = Av T P Q m.1 m.2 := by
        rw [Lv_l T P Q p D0, Av_l G hPQ m.1 m2]
        refine XS_congr (fun e he => ?_)
        cases hx : xT T 1 P (sub2 Q P) e with
        | false => rfl
        | true =>
          rw [Bool.true_and, Bool.true_and]
          exact decide_eq_decide.mpr ⟨beh e he hx, conv e hx⟩
      have less : (evw T P Q m.1 m.2).length < k := by
        rw [← hk]
        unfold evw
        rw [← List.countP_eq_length_filter, ← List.countP_eq_length_filter]
        refine cnt_lt _ _ _ (fun e he hp' => ?_) ⟨e0, (List.mem_filter.mp he0).1, (List.mem_filter.mp he0).2, ?_⟩
        · have : e ∈ evw T P Q m.1 m.2 := List.mem_filter.mpr ⟨he, hp'⟩
          obtain ⟨j1, j2, j3, j4⟩ := mem_evw.mp this
          exact (List.mem_filter.mp (mem_evw.mpr ⟨j1, j2, conv e j2 (by omega), j4⟩)).2
        · cases z : (decide (sL T ≤ e0) && (sW T e0 && (xT T 1 P (sub2 Q P) e0 && (decide (m.1 * dT T 1 P (sub2 Q P) e0 < m.2 * nT T 1 P (sub2 Q P) e0) && decide (nT T 1 P (sub2 Q P) e0 < dT T 1 P (sub2 Q P) e0))))) with
          | false => rfl
          | true =>
            have : e0 ∈ evw T P Q m.1 m.2 := List.mem_filter.mpr ⟨(List.mem_filter.mp he0).1, z⟩
            have := (mem_evw.mp this).2.2.1
            rw [← hem] at this
            simp only at this
            rw [Int.mul_comm] at this
            omega
      have IH := ih _ less m.1 m.2 (by omega) m12 rfl
      -- sums
      have split : xl L (fun Z => dB (inW P Q p D Z) && (Lv T P Q (tW P Q Z) (nW P Q) ^^ Av T P Q (tW P Q Z) (nW P Q))) = (xl L (fun Z => dB (inW P Q m.1 m.2 Z) && (Lv T P Q (tW P Q Z) (nW P Q) ^^ Av T P Q (tW P Q Z) (nW P Q))) ^^ xl L (fun Z => dB (sid P Q Z = 0 ∧ m.1 * nW P Q = m.2 * tW P Q Z) && (Lv T P Q (tW P Q Z) (nW P Q) ^^ Av T P Q (tW P Q Z) (nW P Q)))) := by
        rw [← xl_xor]
        refine xl_congr (fun Z hZ => ?_)
        by_cases c0 : sid P Q Z = 0
        · rcases Int.lt_trichotomy (m.1 * nW P Q) (m.2 * tW P Q Z) with y | y | y
          · -- behind m
            rw [dB_f (show ¬ (sid P Q Z = 0 ∧ m.1 * nW P Q = m.2 * tW P Q Z) from fun t => by have := t.2; omega), Bool.false_and, Bool.xor_false]
            have pz : p * nW P Q < D * tW P Q Z := by
              have t := fr_tr (a := p) (b := D) (c := m.1) (d := m.2) (e := tW P Q Z) (f := nW P Q) D0 m2 hN (by rw [Int.mul_comm m.1]; exact pm) (by rw [Int.mul_comm (tW P Q Z)]; omega)
              rw [Int.mul_comm D]; exact t
            rw [dB_c (show inW P Q p D Z ↔ inW P Q m.1 m.2 Z from ⟨fun t => ⟨c0, y, t.2.2⟩, fun t => ⟨c0, pz, t.2.2⟩⟩)]
          · rw [dB_f (show ¬ inW P Q m.1 m.2 Z from fun t => by have := t.2.1; omega), Bool.false_and, Bool.false_xor]
            have pz : p * nW P Q < D * tW P Q Z := by
              have t := fr_tr (a := p) (b := D) (c := m.1) (d := m.2) (e := tW P Q Z) (f := nW P Q) D0 m2 hN (by rw [Int.mul_comm m.1]; exact pm) (by rw [Int.mul_comm (tW P Q Z)]; omega)
              rw [Int.mul_comm D]; exact t
            have zn : tW P Q Z < nW P Q := by
              by_cases t : tW P Q Z < nW P Q
              · exact t
              · have t1 : m.1 * nW P Q < m.2 * nW P Q := Int.mul_lt_mul_of_pos_right m12 hN
                have t2 : m.2 * nW P Q ≤ m.2 * tW P Q Z := Int.mul_le_mul_of_nonneg_left (by omega) (by omega)
                omega
            rw [dB_t (show inW P Q p D Z from ⟨c0, pz, zn⟩), dB_t (show sid P Q Z = 0 ∧ m.1 * nW P Q = m.2 * tW P Q Z from ⟨c0, y⟩)]
          · rw [dB_f (show ¬ inW P Q m.1 m.2 Z from fun t => by have := t.2.1; omega), dB_f (show ¬ (sid P Q Z = 0 ∧ m.1 * nW P Q = m.2 * tW P Q Z) from fun t => by have := t.2; omega), Bool.false_and, Bool.false_xor]
            by_cases hz : inW P Q p D Z
            · rw [dB_t hz, Bool.true_and]
              refine still Z hz (fun e he hx z => ?_)
              have hd := dT_pos hx
              have h1 : p * dT T 1 P (sub2 Q P) e < D * nT T 1 P (sub2 Q P) e := by
                have t := fr_tr (a := p) (b := D) (c := tW P Q Z) (d := nW P Q) (e := nT T 1 P (sub2 Q P) e) (f := dT T 1 P (sub2 Q P) e) D0 hN hd (by rw [Int.mul_comm (tW P Q Z) D]; exact hz.2.1) (by rw [z, Int.mul_comm]; omega)
                rw [Int.mul_comm D]; exact t
              have h2 := beh e he hx h1
              -- tW / nW = nT / dT ≥ m
              have q1 : m.1 * dT T 1 P (sub2 Q P) e * nW P Q ≤ m.2 * nT T 1 P (sub2 Q P) e * nW P Q := Int.mul_le_mul_of_nonneg_right h2 (by omega)
              have q2 : m.2 * tW P Q Z * dT T 1 P (sub2 Q P) e < m.1 * nW P Q * dT T 1 P (sub2 Q P) e := Int.mul_lt_mul_of_pos_right y hd
              have q3 : m.2 * nT T 1 P (sub2 Q P) e * nW P Q = m.2 * (nW P Q * nT T 1 P (sub2 Q P) e) := by grind
              have q4 : m.2 * tW P Q Z * dT T 1 P (sub2 Q P) e = m.2 * (tW P Q Z * dT T 1 P (sub2 Q P) e) := by grind
              have q5 : m.1 * dT T 1 P (sub2 Q P) e * nW P Q = m.1 * nW P Q * dT T 1 P (sub2 Q P) e := by grind
              rw [z] at q4
              omega
            · rw [dB_f hz, Bool.false_and]
        · rw [dB_f (show ¬ inW P Q p D Z from fun t => c0 t.1), dB_f (show ¬ inW P Q m.1 m.2 Z from fun t => c0 t.1), dB_f (show ¬ (sid P Q Z = 0 ∧ m.1 * nW P Q = m.2 * tW P Q Z) from fun t => c0 t.1)]; rfl
      -- the change at m itself
      have atm : xl L (fun Z => dB (sid P Q Z = 0 ∧ m.1 * nW P Q = m.2 * tW P Q Z) && (Lv T P Q (tW P Q Z) (nW P Q) ^^ Av T P Q (tW P Q Z) (nW P Q))) = (Lv T P Q m.1 m.2 ^^ Av T P Q m.1 m.2) := by
        have same : ∀ Z, m.1 * nW P Q = m.2 * tW P Q Z → (Lv T P Q (tW P Q Z) (nW P Q) ^^ Av T P Q (tW P Q Z) (nW P Q)) = (Lv T P Q m.1 m.2 ^^ Av T P Q m.1 m.2) := by
          intro Z hZ
          rw [Lv_l T P Q _ hN, Av_l G hPQ _ hN, Lv_l T P Q _ m2, Av_l G hPQ _ m2, ← XS_xor, ← XS_xor]
          refine XS_congr (fun e he => ?_)
          cases hx : xT T 1 P (sub2 Q P) e with
          | false => rfl
          | true =>
            have hd := dT_pos hx
            rw [Bool.true_and, Bool.true_and, Bool.true_and, Bool.true_and]
            generalize dT T 1 P (sub2 Q P) e = d at *
            generalize nT T 1 P (sub2 Q P) e = v at *
            have q1 : m.2 * (tW P Q Z * d - nW P Q * v) = nW P Q * (m.1 * d - m.2 * v) := by
              have : m.2 * (tW P Q Z * d - nW P Q * v) = (m.2 * tW P Q Z) * d - m.2 * (nW P Q * v) := by grind
              rw [this, ← hZ]; grind
            have sg1 : sg (tW P Q Z * d - nW P Q * v) = sg (m.1 * d - m.2 * v) := by
              have := congrArg sg q1
              rw [sg_mulp m2, sg_mulp hN] at this
              exact this
            have a1 : (tW P Q Z * d < nW P Q * v) ↔ (m.1 * d < m.2 * v) := by
              have := sg_neg (tW P Q Z * d - nW P Q * v)
              have := sg_neg (m.1 * d - m.2 * v)
              rw [sg1] at *
              omega
            have a2 : (nW P Q * v < tW P Q Z * d) ↔ (m.2 * v < m.1 * d) := by
              have := sg_pos (tW P Q Z * d - nW P Q * v)
              have := sg_pos (m.1 * d - m.2 * v)
              rw [sg1] at *
              omega
            have e1 : decide (tW P Q Z * d < nW P Q * v) = decide (m.1 * d < m.2 * v) := decide_eq_decide.mpr a1
            have e2 : decide (tW P Q Z * d ≤ nW P Q * v) = decide (m.1 * d ≤ m.2 * v) := decide_eq_decide.mpr (by omega)
            rw [e1, e2]
        by_cases hex : ∃ Z, Z ∈ L ∧ sid P Q Z = 0 ∧ m.1 * nW P Q = m.2 * tW P Q Z
        · obtain ⟨Z, z1, z2, z3⟩ := hex
          rw [xl_one hn z1 (fun b hb hne => ?_), dB_t (show sid P Q Z = 0 ∧ m.1 * nW P Q = m.2 * tW P Q Z from ⟨z2, z3⟩), Bool.true_and, same Z z3]
          rw [dB_f, Bool.false_and]
          rintro ⟨b1, b2⟩
          -- the same part, the same point
          apply hne
          have et : tW P Q b = tW P Q Z := by
            have : m.2 * tW P Q b = m.2 * tW P Q Z := by omega
            exact Int.eq_of_mul_eq_mul_left (by omega) this
          have v1 := al_vec (a := sub2 b P) (v := sub2 Q P) (by rw [crs_sw, crs_s2, b1]; rfl)
          have v2 := al_vec (a := sub2 Z P) (v := sub2 Q P) (by rw [crs_sw, crs_s2, z2]; rfl)
          unfold tW at et
          rw [et] at v1
          have v3 := v1.trans v2.symm
          have w1 := congrArg Prod.fst v3
          have w2 := congrArg Prod.snd v3
          simp only at w1 w2
          have n0 : nW P Q ≠ 0 := by omega
          have u1 := Int.eq_of_mul_eq_mul_left n0 w1
          have u2 := Int.eq_of_mul_eq_mul_left n0 w2
          unfold sub2 at u1 u2
          simp only at u1 u2
          exact V2_eq.mpr ⟨by omega, by omega⟩
        · rw [xl_none (fun Z hZ => by rw [dB_f (fun t => hex ⟨Z, hZ, t⟩), Bool.false_and])]
          cases y : (Lv T P Q m.1 m.2 ^^ Av T P Q m.1 m.2) with
          | false => rfl
          | true =>
            obtain ⟨Z, z1, z2, z3⟩ := hJ m.1 m.2 m1 m12 y
            exact (hex ⟨Z, z1, z2, z3⟩).elim
      rw [split, ← IH, atm, eA]
      cases Av T P Q m.1 m.2 <;> cases Lv T P Q m.1 m.2 <;> cases Av T P Q 1 1 <;> rfl

/-! what goAlong and the cutter see, by parities -/
set_option maxHeartbeats 200000 in
theorem fr_max (L : List (Int × Int)) (hL : ∀ x, x ∈ L → 0 < x.2) : L ≠ [] → ∃ m, m ∈ L ∧ ∀ x, x ∈ L → x.1 * m.2 ≤ m.1 * x.2 := by
  intro h
  obtain ⟨m, hm, h2⟩ := fr_min (L.map (fun x => (-x.1, x.2))) (fun x hx => by
    obtain ⟨y, hy, rfl⟩ := List.mem_map.mp hx
    exact hL y hy) (fun z => h (List.map_eq_nil_iff.mp z))
  obtain ⟨y, hy, rfl⟩ := List.mem_map.mp hm
  refine ⟨y, hy, fun x hx => ?_⟩
  have := h2 (-x.1, x.2) (List.mem_map.mpr ⟨x, hx, rfl⟩)
  simp only at this
  have e1 : -y.1 * x.2 = -(y.1 * x.2) := by grind
  have e2 : -x.1 * y.2 = -(x.1 * y.2) := by grind
  omega
set_option maxHeartbeats 200000 in
theorem cut_max {d : Ct} (G : WF d) {P Q : V2} (hP : bV P) (hQ : bV Q) (hPQ : P ≠ Q) {p D : Int} (hp : 0 ≤ p) (hD : p < D) : ∃ x, ctS d P Q x ∧ 0 ≤ x.1 ∧ x.1 < x.2 ∧ x.1 * D ≤ p * x.2 ∧ ∀ y, ctS d P Q y → y.1 * D ≤ p * y.2 → y.1 * x.2 ≤ x.1 * y.2 := by
  let C : Int × Int → Prop := fun y => ctS d P Q y ∧ y.1 * D ≤ p * y.2
  let M : List (Int × Int) := (((0, 1) : Int × Int) :: (List.range (cN d)).flatMap (fun j => [(mP P Q (cV d j) (cV d (j + 1)), mW P Q (cV d j) (cV d (j + 1))), (mO P Q (cV d j) (cV d (j + 1)), mW P Q (cV d j) (cV d (j + 1)))])).filter (fun y => dB (C y))
  have mem : ∀ y, C y → y ∈ M := by
    intro y hy
    refine List.mem_filter.mpr ⟨?_, dB_t hy⟩
    rcases hy.1 with h | ⟨j, hj, h⟩
    · exact List.mem_cons.mpr (Or.inl h)
    · refine List.mem_cons_of_mem _ (List.mem_flatMap.mpr ⟨j, List.mem_range.mpr (by have := hj.2.1; omega), ?_⟩)
      obtain ⟨_, _, h3, h4⟩ := h
      rw [List.mem_cons, List.mem_singleton]
      rcases h4 with ⟨_, h5 | h5⟩ | ⟨_, h5⟩
      · exact Or.inl (Prod.ext h5 h3)
      · exact Or.inr (Prod.ext h5 h3)
      · exact Or.inl (Prod.ext h5 h3)
  have pos2 : ∀ y, ctS d P Q y → 0 ≤ y.1 ∧ 0 < y.2 := by
    intro y hy
    rcases hy with h | ⟨j, hj, h⟩
    · rw [h]; exact ⟨by decide, by decide⟩
    · have := hj.2.1
      obtain ⟨kW, _, _⟩ := m_b hP hQ (G.b (show j < cN d by omega)) (G.b this) hPQ
      exact ⟨h.1, by rw [h.2.2.1]; exact kW.1⟩
  have c0 : C (0, 1) := ⟨Or.inl rfl, by show (0 : Int) * D ≤ p * 1; omega⟩
  obtain ⟨x, hx, hm⟩ := fr_max M (fun y hy => (pos2 y (dB_i.mp (List.mem_filter.mp hy).2).1).2) (fun z => by have := mem _ c0; rw [z] at this; exact absurd this (by simp))
  have hC : C x := dB_i.mp (List.mem_filter.mp hx).2
  obtain ⟨p1, p2⟩ := pos2 x hC.1
  refine ⟨x, hC.1, p1, ?_, hC.2, fun y h1 h2 => hm y (mem y ⟨h1, h2⟩)⟩
  have h3 : x.1 * D ≤ p * x.2 := hC.2
  have h4 : p * x.2 < D * x.2 := Int.mul_lt_mul_of_pos_right hD p2
  by_cases z : x.1 < x.2
  · exact z
  · have : x.2 * D ≤ x.1 * D := Int.mul_le_mul_of_nonneg_right (by omega) (by omega)
    rw [Int.mul_comm x.2 D] at this
    omega
set_option maxHeartbeats 200000 in
theorem fr_lt {a b c d e f : Int} (hb : 0 < b) (hd : 0 < d) (hf : 0 < f) (h1 : a * d ≤ c * b) (h2 : c * f < e * d) : a * f < e * b := by
  have t1 : a * d * f ≤ c * b * f := Int.mul_le_mul_of_nonneg_right h1 (by omega)
  have t2 : c * f * b < e * d * b := Int.mul_lt_mul_of_pos_right h2 hb
  have e1 : a * d * f = (a * f) * d := by grind
  have e2 : c * b * f = c * f * b := by grind
  have e3 : e * d * b = (e * b) * d := by grind
  exact Int.lt_of_mul_lt_mul_right (show (a * f) * d < (e * b) * d by omega) (by omega)
/-! the last part ahead of p / D at which goAlong looks lies as p / D does -/
set_option maxHeartbeats 200000 in
theorem lie_rep {d : Ct} (G : WF d) {P Q : V2} (hP : bV P) (hQ : bV Q) (hPQ : P ≠ Q) {p D : Int} (hp : 0 ≤ p) (hD : p < D) : ∃ x, ctS d P Q x ∧ 0 ≤ x.1 ∧ x.1 < x.2 ∧ paT (TC d) P Q x.1 x.2 = paT (TC d) P Q p D ∧ (cvT (TC d) P Q x.1 x.2 ↔ cvT (TC d) P Q p D) := by
  obtain ⟨x, h1, h2, h3, h4, h5⟩ := cut_max G hP hQ hPQ hp hD
  have x2 : 0 < x.2 := by omega
  have D0 : 0 < D := by omega
  refine ⟨x, h1, h2, h3, ?_, ?_⟩
  · unfold paT pX
    rw [pa_line _ 1 P (sub2 Q P) x2, pa_line _ 1 P (sub2 Q P) D0]
    refine XS_congr (fun e he => ?_)
    cases hx : xT (TC d) 1 P (sub2 Q P) e with
    | false => rfl
    | true =>
      have hd := dT_pos hx
      rw [Bool.true_and, Bool.true_and]
      apply decide_eq_decide.mpr
      generalize hnu : nT (TC d) 1 P (sub2 Q P) e = v at *
      generalize hde : dT (TC d) 1 P (sub2 Q P) e = w at *
      constructor
      · intro hlt
        by_cases z : p * w < D * v
        · exact z
        · exfalso
          -- then it is a part at which goAlong looks
          have v0 : 0 < v := by
            have : 0 ≤ x.1 * w := Int.mul_nonneg h2 (by omega)
            by_cases y : 0 < v
            · exact y
            · have := Int.mul_nonpos_of_nonneg_of_nonpos (show 0 ≤ x.2 by omega) (show v ≤ 0 by omega); omega
          have vw : v < w := by
            have : p * w < D * w := Int.mul_lt_mul_of_pos_right hD hd
            by_cases y : v < w
            · exact y
            · have := Int.mul_le_mul_of_nonneg_left (show w ≤ v by omega) (show 0 ≤ D by omega); omega
          have ho : on0 (sn P Q (cV d e) v w) (sn P Q (cV d (e + 1)) v w) := by
            have hx' : xg (sub2 Q P) (sub2 (cV d e) P) (sub2 (cV d (e + 1)) P) = true := by
              have := hx
              unfold xT at this
              rw [rl_1, rl_1] at this; exact this
            have o := on0_x hx'
            have e1 : nu (sub2 Q P) (sub2 (cV d e) P) (sub2 (cV d (e + 1)) P) = v := by
              rw [← hnu]; unfold nT; rw [rl_1, rl_1]; rfl
            have e2 : de (sub2 Q P) (sub2 (cV d e) P) (sub2 (cV d (e + 1)) P) = w := by
              rw [← hde]; unfold dT; rw [rl_1, rl_1]; rfl
            rw [e1, e2] at o
            exact o
          have k0 : kM P Q (cV d e) (cV d (e + 1)) ≠ 0 := by
            intro k
            have hx' : xgP P Q (cV d e) (cV d (e + 1)) = true := by
              have := hx
              unfold xT at this
              rw [rl_1, rl_1] at this; exact this
            rw [xgP_eq] at hx'
            unfold kM at k
            have : crs (sub2 Q P) (sub2 (cV d (e + 1)) (cV d e)) = sid P Q (cV d (e + 1)) - sid P Q (cV d e) := by unfold crs sub2 sid; grind
            rw [this] at k
            have e3 : sid P Q (cV d (e + 1)) = sid P Q (cV d e) := by omega
            rw [e3] at hx'
            simp at hx'
          obtain ⟨hm, he2⟩ := (look_met (by omega) vw k0).1.mp ho
          have wye := inTC.mp he
          have hj := wye.2.1
          obtain ⟨kW, _, _⟩ := m_b hP hQ (G.b (show e < cN d by omega)) (G.b hj) hPQ
          have cy : ctS d P Q (mP P Q (cV d e) (cV d (e + 1)), mW P Q (cV d e) (cV d (e + 1))) := Or.inr ⟨e, wye, hm.2.1, hm.2.2.1, rfl, Or.inr ⟨hm, rfl⟩⟩
          generalize mP P Q (cV d e) (cV d (e + 1)) = a at *
          generalize mW P Q (cV d e) (cV d (e + 1)) = b at *
          -- a / b = v / w
          have le1 : a * D ≤ p * b := by
            by_cases y : a * D ≤ p * b
            · exact y
            · exfalso
              have e3 : w * a = v * b := he2
              have q1 : D * v ≤ p * w := by omega
              have q2 : p * b < a * D := by omega
              have q3 : D * v * b ≤ p * w * b := Int.mul_le_mul_of_nonneg_right q1 (by omega)
              have q4 : p * b * w < a * D * w := Int.mul_lt_mul_of_pos_right q2 hd
              have q5 : D * v * b = D * (w * a) := by rw [e3]; grind
              have q6 : a * D * w = D * (w * a) := by grind
              have q7 : p * w * b = p * b * w := by grind
              omega
          have le2 := h5 _ cy le1
          simp only at le2
          -- x < v / w = a / b ≤ x
          have e3 : w * a = v * b := he2
          have q1 : x.1 * w * b < x.2 * v * b := Int.mul_lt_mul_of_pos_right hlt kW.1
          have q2 : a * x.2 * w ≤ x.1 * b * w := Int.mul_le_mul_of_nonneg_right le2 (by omega)
          have q3 : x.2 * v * b = a * x.2 * w := by
            have : x.2 * v * b = x.2 * (v * b) := by grind
            rw [this, ← e3]; grind
          have q4 : x.1 * w * b = x.1 * b * w := by grind
          omega
      · intro hlt
        have t := fr_lt (a := x.1) (b := x.2) (c := p) (d := D) (e := v) (f := w) x2 D0 hd h4 (by rw [Int.mul_comm v D]; exact hlt)
        rw [Int.mul_comm x.2 v]; exact t
  · rw [cvT_i hPQ x2, cvT_i hPQ D0]
    have hw := whl_pos hPQ
    constructor
    · rintro ⟨e, he, c1, c2, c3, c4⟩
      refine ⟨e, he, c1, c2, ?_, ?_⟩
      · -- low ≤ x ≤ p / D
        by_cases y : min (pos P Q (sV (TC d) e)) (pos P Q (sV (TC d) (e + 1))) * D ≤ p * whl P Q
        · exact y
        · have t := fr_lt (a := x.1) (b := x.2) (c := p) (d := D) (e := min (pos P Q (sV (TC d) e)) (pos P Q (sV (TC d) (e + 1)))) (f := whl P Q) x2 D0 hw h4 (by omega)
          omega
      · by_cases y : p * whl P Q < max (pos P Q (sV (TC d) e)) (pos P Q (sV (TC d) (e + 1))) * D
        · exact y
        · exfalso
          -- the far end is a part at which goAlong looks
          have hx0 : 0 ≤ x.1 * whl P Q := Int.mul_nonneg h2 (by omega)
          have wye := inTC.mp he
          have k0 : kM P Q (cV d e) (cV d (e + 1)) = 0 := by
            unfold kM
            have : crs (sub2 Q P) (sub2 (cV d (e + 1)) (cV d e)) = sid P Q (cV d (e + 1)) - sid P Q (cV d e) := by unfold crs sub2 sid; grind
            rw [this]
            have c1' : sid P Q (cV d e) = 0 := c1
            have c2' : sid P Q (cV d (e + 1)) = 0 := c2
            omega
          have hin : inL P Q (cV d e) (cV d (e + 1)) := ⟨k0, by rw [crs_s2]; exact c1⟩
          have e1 : mP P Q (cV d e) (cV d (e + 1)) = pos P Q (cV d e) := by unfold mP; rw [if_pos k0]
          have e2 : mO P Q (cV d e) (cV d (e + 1)) = pos P Q (cV d (e + 1)) := by unfold mO; rw [if_pos k0]
          have e3 : mW P Q (cV d e) (cV d (e + 1)) = whl P Q := by unfold mW; rw [if_pos k0]
          have hpos : 0 < max (pos P Q (cV d e)) (pos P Q (cV d (e + 1))) := by
            by_cases z : 0 < max (pos P Q (cV d e)) (pos P Q (cV d (e + 1)))
            · exact z
            · have : max (pos P Q (sV (TC d) e)) (pos P Q (sV (TC d) (e + 1))) * x.2 ≤ 0 := Int.mul_nonpos_of_nonpos_of_nonneg (by show max (pos P Q (cV d e)) (pos P Q (cV d (e + 1))) ≤ 0; omega) (by omega)
              omega
          have y' : max (pos P Q (cV d e)) (pos P Q (cV d (e + 1))) * D ≤ p * whl P Q := by
            have : ¬ p * whl P Q < max (pos P Q (cV d e)) (pos P Q (cV d (e + 1))) * D := y
            omega
          have hlt : max (pos P Q (cV d e)) (pos P Q (cV d (e + 1))) ≤ whl P Q := by
            have : p * whl P Q < D * whl P Q := Int.mul_lt_mul_of_pos_right hD hw
            by_cases z : max (pos P Q (cV d e)) (pos P Q (cV d (e + 1))) ≤ whl P Q
            · exact z
            · have := Int.mul_le_mul_of_nonneg_right (show whl P Q ≤ max (pos P Q (cV d e)) (pos P Q (cV d (e + 1))) by omega) (show 0 ≤ D by omega)
              rw [Int.mul_comm (whl P Q) D] at this
              omega
          have cy : ctS d P Q (max (pos P Q (cV d e)) (pos P Q (cV d (e + 1))), whl P Q) := by
            refine Or.inr ⟨e, wye, by show 0 ≤ max _ _; omega, hlt, e3.symm, Or.inl ⟨hin, ?_⟩⟩
            rw [e1, e2]
            rcases Int.le_total (pos P Q (cV d e)) (pos P Q (cV d (e + 1))) with z | z
            · exact Or.inr (Int.max_eq_right z)
            · exact Or.inl (Int.max_eq_left z)
          have := h5 _ cy y'
          have c4' : x.1 * whl P Q < max (pos P Q (cV d e)) (pos P Q (cV d (e + 1))) * x.2 := c4
          simp only at this
          omega
    · rintro ⟨e, he, c1, c2, c3, c4⟩
      refine ⟨e, he, c1, c2, ?_, fr_lt x2 D0 hw h4 c4⟩
      by_cases hpos : 0 < min (pos P Q (cV d e)) (pos P Q (cV d (e + 1)))
      · have wye := inTC.mp he
        have k0 : kM P Q (cV d e) (cV d (e + 1)) = 0 := by
          unfold kM
          have : crs (sub2 Q P) (sub2 (cV d (e + 1)) (cV d e)) = sid P Q (cV d (e + 1)) - sid P Q (cV d e) := by unfold crs sub2 sid; grind
          rw [this]
          have c1' : sid P Q (cV d e) = 0 := c1
          have c2' : sid P Q (cV d (e + 1)) = 0 := c2
          omega
        have hin : inL P Q (cV d e) (cV d (e + 1)) := ⟨k0, by rw [crs_s2]; exact c1⟩
        have e1 : mP P Q (cV d e) (cV d (e + 1)) = pos P Q (cV d e) := by unfold mP; rw [if_pos k0]
        have e2 : mO P Q (cV d e) (cV d (e + 1)) = pos P Q (cV d (e + 1)) := by unfold mO; rw [if_pos k0]
        have e3 : mW P Q (cV d e) (cV d (e + 1)) = whl P Q := by unfold mW; rw [if_pos k0]
        have c3' : min (pos P Q (cV d e)) (pos P Q (cV d (e + 1))) * D ≤ p * whl P Q := c3
        have hlt : min (pos P Q (cV d e)) (pos P Q (cV d (e + 1))) ≤ whl P Q := by
          have : p * whl P Q < D * whl P Q := Int.mul_lt_mul_of_pos_right hD hw
          by_cases z : min (pos P Q (cV d e)) (pos P Q (cV d (e + 1))) ≤ whl P Q
          · exact z
          · have := Int.mul_le_mul_of_nonneg_right (show whl P Q ≤ min (pos P Q (cV d e)) (pos P Q (cV d (e + 1))) by omega) (show 0 ≤ D by omega)
            rw [Int.mul_comm (whl P Q) D] at this
            omega
        have cy : ctS d P Q (min (pos P Q (cV d e)) (pos P Q (cV d (e + 1))), whl P Q) := by
          refine Or.inr ⟨e, wye, by show 0 ≤ min _ _; omega, hlt, e3.symm, Or.inl ⟨hin, ?_⟩⟩
          rw [e1, e2]
          rcases Int.le_total (pos P Q (cV d e)) (pos P Q (cV d (e + 1))) with z | z
          · exact Or.inl (Int.min_eq_left z)
          · exact Or.inr (Int.min_eq_right z)
        exact h5 _ cy c3'
      · have t1 : min (pos P Q (cV d e)) (pos P Q (cV d (e + 1))) * x.2 ≤ 0 := Int.mul_nonpos_of_nonpos_of_nonneg (by omega) (by omega)
        have t2 : 0 ≤ x.1 * whl P Q := Int.mul_nonneg h2 (by omega)
        show min (pos P Q (cV d e)) (pos P Q (cV d (e + 1))) * x.2 ≤ x.1 * whl P Q
        omega
/-! in words -/
def InP (T : Sy) (P Q : V2) : Prop := ∃ p D, 0 ≤ p ∧ p < D ∧ ¬ cvT T P Q p D ∧ paT T P Q p D = true
def OuP (T : Sy) (P Q : V2) : Prop := ∃ p D, 0 ≤ p ∧ p < D ∧ ¬ cvT T P Q p D ∧ paT T P Q p D = false
def AlP (T : Sy) (P Q : V2) : Prop := ∃ p D, 0 ≤ p ∧ p < D ∧ cvT T P Q p D
def UnP (T : Sy) (P Q : V2) : Prop := ∃ p D, 0 ≤ p ∧ p < D ∧ ¬ cvT T P Q p D
def InW (W : Nat → Prop) (V : Nat → V2) (T : Sy) : Prop := ∃ i, W i ∧ InP T (V i) (V (i + 1))
def OuW (W : Nat → Prop) (V : Nat → V2) (T : Sy) : Prop := ∃ i, W i ∧ OuP T (V i) (V (i + 1))
def AlW (W : Nat → Prop) (V : Nat → V2) (T : Sy) : Prop := ∃ i, W i ∧ AlP T (V i) (V (i + 1))
def UnW (W : Nat → Prop) (V : Nat → V2) (T : Sy) : Prop := ∃ i, W i ∧ UnP T (V i) (V (i + 1))
/-- a stretch of both with the interior on the same side -/
def SaW (c : Ct) (T : Sy) : Prop := ∃ i, wy c i ∧ ∃ p D, 0 ≤ p ∧ p < D ∧ cvT T (cV c i) (cV c (i + 1)) p D ∧ paT T (cV c i) (cV c (i + 1)) p D = iL c (rO c i)
set_option maxHeartbeats 200000 in
theorem m_go2 {n : Nat} {σ : xσ} {a b : Nat} {c d : Ct} (S : MH σ a c) (F : WF c) (T : MH σ b d) (G : WF d) (hcw : ∀ e, wy c e → cV c e ≠ cV c (e + 1)) (hc : cK c = 2 → ∀ r, r < cR c → SmR c r) (hk : cK d = 2) (hds : ∀ r, r < cR d → SmR d r) (hL : LPd d) :
    ∃ σ', f_X14_goAlong n a b σ = some ((), σ') ∧ FrZ σ σ' ∧ SAW σ' (InW (wy c) (cV c) (TC d)) (OuW (wy c) (cV c) (TC d)) (AlW (wy c) (cV c) (TC d)) (cK c = 2 ∧ SaW c (TC d)) := by
  have hG : GD (TC d) := GD_TC G (by omega) hds
  have hd : ∀ e, wy d e → cV d e ≠ cV d (e + 1) := fun e he => hG.2 e (inTC.mpr he)
  obtain ⟨σ', a1, a2, a3⟩ := m_goAlong (n := n) S F T G hcw hd hc (fun _ => hds) (fun i p D => paT (TC d) (cV c i) (cV c (i + 1)) p D) (fun i p D hi h1 h2 => LPq_of G (fun _ => hL) (fun _ => hG) (hcw i hi) (by omega))
  have bd' : ∀ i, wy c i → bV (cV c i) ∧ bV (cV c (i + 1)) := fun i hi => ⟨F.b (by have := hi.2.1; omega), F.b hi.2.1⟩
  refine ⟨σ', a1, a2, a3.cg ?_ ?_ ?_ ?_⟩
  · constructor
    · rintro ⟨i, x, ⟨h1, h2, h3⟩, h4⟩
      have h0 := (ctS_b G (bd' i h1).1 (bd' i h1).2 (hcw i h1) h2).1
      have := (pi_2 hk hG (hcw i h1) hd h2 h3 h0).1.mp h4
      exact ⟨i, h1, x.1, x.2, h0, h3, this⟩
    · rintro ⟨i, h1, p, D, h2, h3, h4, h5⟩
      obtain ⟨x, x1, x2, x3, x4, x5⟩ := lie_rep G (bd' i h1).1 (bd' i h1).2 (hcw i h1) h2 h3
      exact ⟨i, x, ⟨h1, x1, x3⟩, (pi_2 hk hG (hcw i h1) hd x1 x3 x2).1.mpr ⟨fun z => h4 (x5.mp z), x4.trans h5⟩⟩
  · constructor
    · rintro ⟨i, x, ⟨h1, h2, h3⟩, h4⟩
      have h0 := (ctS_b G (bd' i h1).1 (bd' i h1).2 (hcw i h1) h2).1
      have := (pi_2 hk hG (hcw i h1) hd h2 h3 h0).2.mp h4
      exact ⟨i, h1, x.1, x.2, h0, h3, this⟩
    · rintro ⟨i, h1, p, D, h2, h3, h4, h5⟩
      obtain ⟨x, x1, x2, x3, x4, x5⟩ := lie_rep G (bd' i h1).1 (bd' i h1).2 (hcw i h1) h2 h3
      exact ⟨i, x, ⟨h1, x1, x3⟩, (pi_2 hk hG (hcw i h1) hd x1 x3 x2).2.mpr ⟨fun z => h4 (x5.mp z), x4.trans h5⟩⟩
  · constructor
    · rintro ⟨i, x, ⟨h1, h2, h3⟩, h4⟩
      have h0 := (ctS_b G (bd' i h1).1 (bd' i h1).2 (hcw i h1) h2).1
      exact ⟨i, h1, x.1, x.2, h0, h3, (alP_i (by omega)).mp h4⟩
    · rintro ⟨i, h1, p, D, h2, h3, h4⟩
      obtain ⟨x, x1, x2, x3, x4, x5⟩ := lie_rep G (bd' i h1).1 (bd' i h1).2 (hcw i h1) h2 h3
      exact ⟨i, x, ⟨h1, x1, x3⟩, (alP_i (by omega)).mpr (x5.mpr h4)⟩
  · constructor
    · rintro ⟨i, x, ⟨h1, h2, h3⟩, h4, h5, _, h6⟩
      have h0 := (ctS_b G (bd' i h1).1 (bd' i h1).2 (hcw i h1) h2).1
      exact ⟨h5, i, h1, x.1, x.2, h0, h3, (alP_i (by omega)).mp h4, h6⟩
    · rintro ⟨h5, i, h1, p, D, h2, h3, h4, h6⟩
      obtain ⟨x, x1, x2, x3, x4, x5⟩ := lie_rep G (bd' i h1).1 (bd' i h1).2 (hcw i h1) h2 h3
      exact ⟨i, x, ⟨h1, x1, x3⟩, (alP_i (by omega)).mpr (x5.mpr h4), h5, hk, x4.trans h6⟩
set_option maxHeartbeats 200000 in
theorem m_go1 {n : Nat} {σ : xσ} {a b : Nat} {c d : Ct} (S : MH σ a c) (F : WF c) (T : MH σ b d) (G : WF d) (hcw : ∀ e, wy c e → cV c e ≠ cV c (e + 1)) (hd : ∀ e, wy d e → cV d e ≠ cV d (e + 1)) (hc : cK c = 2 → ∀ r, r < cR c → SmR c r) (hk : cK d = 1) :
    ∃ σ', f_X14_goAlong n a b σ = some ((), σ') ∧ FrZ σ σ' ∧ SAW σ' (AlW (wy c) (cV c) (TC d)) (UnW (wy c) (cV c) (TC d)) (AlW (wy c) (cV c) (TC d)) False := by
  obtain ⟨σ', a1, a2, a3⟩ := m_goAlong (n := n) S F T G hcw hd hc (fun z => by omega) (fun i p D => paT (TC d) (cV c i) (cV c (i + 1)) p D) (fun i p D hi h1 h2 => LPq_of G (fun z => by omega) (fun z => by omega) (hcw i hi) (by omega))
  have bd' : ∀ i, wy c i → bV (cV c i) ∧ bV (cV c (i + 1)) := fun i hi => ⟨F.b (by have := hi.2.1; omega), F.b hi.2.1⟩
  refine ⟨σ', a1, a2, a3.cg ?_ ?_ ?_ ?_⟩
  · constructor
    · rintro ⟨i, x, ⟨h1, h2, h3⟩, h4⟩
      have h0 := (ctS_b G (bd' i h1).1 (bd' i h1).2 (hcw i h1) h2).1
      exact ⟨i, h1, x.1, x.2, h0, h3, (pi_1 hk (hcw i h1) hd h2 h3 h0).1.mp h4⟩
    · rintro ⟨i, h1, p, D, h2, h3, h4⟩
      obtain ⟨x, x1, x2, x3, x4, x5⟩ := lie_rep G (bd' i h1).1 (bd' i h1).2 (hcw i h1) h2 h3
      exact ⟨i, x, ⟨h1, x1, x3⟩, (pi_1 hk (hcw i h1) hd x1 x3 x2).1.mpr (x5.mpr h4)⟩
  · constructor
    · rintro ⟨i, x, ⟨h1, h2, h3⟩, h4⟩
      have h0 := (ctS_b G (bd' i h1).1 (bd' i h1).2 (hcw i h1) h2).1
      exact ⟨i, h1, x.1, x.2, h0, h3, (pi_1 hk (hcw i h1) hd h2 h3 h0).2.mp h4⟩
    · rintro ⟨i, h1, p, D, h2, h3, h4⟩
      obtain ⟨x, x1, x2, x3, x4, x5⟩ := lie_rep G (bd' i h1).1 (bd' i h1).2 (hcw i h1) h2 h3
      exact ⟨i, x, ⟨h1, x1, x3⟩, (pi_1 hk (hcw i h1) hd x1 x3 x2).2.mpr (fun z => h4 (x5.mp z))⟩
  · constructor
    · rintro ⟨i, x, ⟨h1, h2, h3⟩, h4⟩
      have h0 := (ctS_b G (bd' i h1).1 (bd' i h1).2 (hcw i h1) h2).1
      exact ⟨i, h1, x.1, x.2, h0, h3, (alP_i (by omega)).mp h4⟩
    · rintro ⟨i, h1, p, D, h2, h3, h4⟩
      obtain ⟨x, x1, x2, x3, x4, x5⟩ := lie_rep G (bd' i h1).1 (bd' i h1).2 (hcw i h1) h2 h3
      exact ⟨i, x, ⟨h1, x1, x3⟩, (alP_i (by omega)).mpr (x5.mpr h4)⟩
  · exact ⟨fun ⟨i, x, _, _, _, h, _⟩ => by omega, fun z => z.elim⟩
/-! the cutter in the same words -/
set_option maxHeartbeats 200000 in
theorem cvR_T {d : Ct} {lo hi : Nat} {P Q : V2} (hPQ : P ≠ Q) {p D : Int} (hD : 0 < D) : cvR d lo hi P Q p D ↔ cvT (TR d lo hi) P Q p D := by
  rw [cvT_i hPQ hD]
  exact ⟨fun ⟨e, h1, h2⟩ => ⟨e, inTR.mpr h1, h2⟩, fun ⟨e, h1, h2⟩ => ⟨e, inTR.mp h1, h2⟩⟩
set_option maxHeartbeats 200000 in
theorem lieR_T {d : Ct} {lo hi : Nat} {P Q : V2} (hPQ : P ≠ Q) {p D : Int} (hD : 0 < D) : lieR d lo hi P Q p D = ifP (cvT (TR d lo hi) P Q p D) 4 (if paT (TR d lo hi) P Q p D then 1 else 2) := by
  unfold lieR
  rw [ifP_c (cvR_T hPQ hD), ptR_pa d lo hi P Q p hD]; rfl
set_option maxHeartbeats 200000 in
theorem wmk_0 {d : Ct} {lo hi : Nat} {P Q : V2} (hPQ : P ≠ Q) : wmk d lo hi P Q 0 ↔ InP (TR d lo hi) P Q := by
  unfold wmk InP
  constructor
  · rintro (⟨p, D, h1, h2, h3⟩ | ⟨h, _⟩)
    · rw [lieR_T hPQ (by omega)] at h3
      refine ⟨p, D, h1, h2, ?_⟩
      by_cases z : cvT (TR d lo hi) P Q p D
      · rw [ifP_t z] at h3; exact absurd h3 (by decide)
      · rw [ifP_f z] at h3
        refine ⟨z, ?_⟩
        cases y : paT (TR d lo hi) P Q p D with
        | true => rfl
        | false => rw [y] at h3; exact absurd h3 (by decide)
    · omega
  · rintro ⟨p, D, h1, h2, h3, h4⟩
    refine Or.inl ⟨p, D, h1, h2, ?_⟩
    rw [lieR_T hPQ (by omega), ifP_f h3, h4]; rfl
set_option maxHeartbeats 200000 in
theorem wmk_1 {d : Ct} {lo hi : Nat} {P Q : V2} (hPQ : P ≠ Q) : wmk d lo hi P Q 1 ↔ OuP (TR d lo hi) P Q := by
  unfold wmk OuP
  constructor
  · rintro (⟨p, D, h1, h2, h3⟩ | ⟨h, _⟩)
    · rw [lieR_T hPQ (by omega)] at h3
      refine ⟨p, D, h1, h2, ?_⟩
      by_cases z : cvT (TR d lo hi) P Q p D
      · rw [ifP_t z] at h3; exact absurd h3 (by decide)
      · rw [ifP_f z] at h3
        refine ⟨z, ?_⟩
        cases y : paT (TR d lo hi) P Q p D with
        | false => rfl
        | true => rw [y] at h3; exact absurd h3 (by decide)
    · omega
  · rintro ⟨p, D, h1, h2, h3, h4⟩
    refine Or.inl ⟨p, D, h1, h2, ?_⟩
    rw [lieR_T hPQ (by omega), ifP_f h3, h4]; rfl
set_option maxHeartbeats 200000 in
theorem wmk_2 {d : Ct} {lo hi : Nat} {P Q : V2} (hPQ : P ≠ Q) : wmk d lo hi P Q 2 ↔ AlP (TR d lo hi) P Q := by
  unfold wmk AlP
  constructor
  · rintro (⟨p, D, h1, h2, h3⟩ | ⟨h, _⟩)
    · rw [lieR_T hPQ (by omega)] at h3
      refine ⟨p, D, h1, h2, ?_⟩
      by_cases z : cvT (TR d lo hi) P Q p D
      · exact z
      · rw [ifP_f z] at h3
        cases y : paT (TR d lo hi) P Q p D with
        | false => rw [y] at h3; exact absurd h3 (by decide)
        | true => rw [y] at h3; exact absurd h3 (by decide)
    · omega
  · rintro ⟨p, D, h1, h2, h3⟩
    refine Or.inl ⟨p, D, h1, h2, ?_⟩
    rw [lieR_T hPQ (by omega), ifP_t h3]

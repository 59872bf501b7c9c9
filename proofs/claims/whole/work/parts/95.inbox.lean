/-! GEOMETRY: what does not leave a shape is in its box -/
set_option maxHeartbeats 200000 in
theorem x_in {d : Ct} {e : Nat} (he : e < cN d) : x0 d ≤ (cV d e).1 ∧ (cV d e).1 ≤ x1 d ∧ y0 d ≤ (cV d e).2 ∧ (cV d e).2 ≤ y1 d :=
  ⟨mn_le (fun i => (cV d i).1) (cN d - 1) e (by omega), mx_le (fun i => (cV d i).1) (cN d - 1) e (by omega), mn_le (fun i => (cV d i).2) (cN d - 1) e (by omega), mx_le (fun i => (cV d i).2) (cN d - 1) e (by omega)⟩
def outX (d : Ct) (D : Int) (X : V2) : Prop := D * x1 d < X.1 ∨ X.1 < D * x0 d ∨ D * y1 d < X.2 ∨ X.2 < D * y0 d
set_option maxHeartbeats 200000 in
theorem out_hp {d : Ct} {D : Int} (hD : 0 < D) {X : V2} (h : outX d D X) : ∃ k, ∀ e, inT (TC d) e → hp4 k (rl (TC d) D X e) ∧ hp4 k (rl (TC d) D X (e + 1)) := by
  have key : ∀ e, e < cN d → D * x0 d ≤ D * (cV d e).1 ∧ D * (cV d e).1 ≤ D * x1 d ∧ D * y0 d ≤ D * (cV d e).2 ∧ D * (cV d e).2 ≤ D * y1 d := by
    intro e he
    obtain ⟨a, b, c, f⟩ := x_in he
    exact ⟨Int.mul_le_mul_of_nonneg_left a (by omega), Int.mul_le_mul_of_nonneg_left b (by omega), Int.mul_le_mul_of_nonneg_left c (by omega), Int.mul_le_mul_of_nonneg_left f (by omega)⟩
  have r : ∀ e, rl (TC d) D X e = (D * (cV d e).1 - X.1, D * (cV d e).2 - X.2) := fun e => rfl
  have two : ∀ k, (∀ e, e < cN d → hp4 k (rl (TC d) D X e)) → ∀ e, inT (TC d) e → hp4 k (rl (TC d) D X e) ∧ hp4 k (rl (TC d) D X (e + 1)) := by
    intro k h e he
    have := (inTC.mp he).2.1
    exact ⟨h e (by omega), h (e + 1) this⟩
  rcases h with h | h | h | h
  · refine ⟨0, two 0 (fun e he => ?_)⟩
    have := key e he
    rw [r]; unfold hp4; rw [if_pos rfl]; simp only; omega
  · refine ⟨1, two 1 (fun e he => ?_)⟩
    have := key e he
    rw [r]; unfold hp4; rw [if_neg (by omega), if_pos rfl]; simp only; omega
  · refine ⟨2, two 2 (fun e he => ?_)⟩
    have := key e he
    rw [r]; unfold hp4; rw [if_neg (by omega), if_neg (by omega), if_pos rfl]; simp only; omega
  · refine ⟨3, two 3 (fun e he => ?_)⟩
    have := key e he
    rw [r]; unfold hp4; rw [if_neg (by omega), if_neg (by omega), if_neg (by omega)]; simp only; omega
set_option maxHeartbeats 200000 in
theorem out_no {d : Ct} {D : Int} (hD : 0 < D) {X : V2} (h : outX d D X) : ∀ g, ¬ HW (TC d) D X g := by
  obtain ⟨k, hk⟩ := out_hp hD h
  rintro g ⟨_, e, he, ho, _⟩
  exact half_no (hk e he).1 (hk e he).2 ho
set_option maxHeartbeats 200000 in
theorem out_pa {d : Ct} (G : GD (TC d)) {D : Int} (hD : 0 < D) {X s : V2} (hs' : nz s) (h : outX d D X) : pa (TC d) D X s = false := by
  obtain ⟨k, hk⟩ := out_hp hD h
  exact (pa_out G hD hs' hk).1
set_option maxHeartbeats 200000 in
theorem any_way {c : Ct} (F : WF c) (vc : Val c) (hk : cK c ≠ 0) {i : Nat} (hi : i < cN c) : wy c i ∨ (1 ≤ i ∧ wy c (i - 1)) := by
  have hK := F.k
  by_cases k1 : cK c = 1
  · have h2 := (Line_of vc k1).1
    by_cases z : i + 1 < cN c
    · exact Or.inl ((wy_line F k1).mpr z)
    · exact Or.inr ⟨by omega, (wy_line F k1).mpr (by omega)⟩
  · have g := (Good_of F vc (by omega)).1
    exact pl_way F hk g.2.2.1 hi
/-! a place beside the box: a part of a way is beside it -/
set_option maxHeartbeats 200000 in
theorem far {c d : Ct} (F : WF c) (vc : Val c) (hk : cK c ≠ 0) {i : Nat} (hi : i < cN c) (h : outX d 1 (cV c i)) : ∃ e p D, wy c e ∧ 0 ≤ p ∧ p < D ∧ outX d (D * 1) (pX (cV c e) (cV c (e + 1)) p D) := by
  rcases any_way F vc hk hi with w | ⟨w1, w⟩
  · exact ⟨i, 0, 1, w, by omega, by omega, by rw [pX_0]; exact h⟩
  · refine ⟨i - 1, ((cV c i).1 - (cV c (i - 1)).1).natAbs + ((cV c i).2 - (cV c (i - 1)).2).natAbs, ((cV c i).1 - (cV c (i - 1)).1).natAbs + ((cV c i).2 - (cV c (i - 1)).2).natAbs + 1, w, by omega, by omega, ?_⟩
    rw [show i - 1 + 1 = i by omega, Int.mul_one]
    generalize hm : ((((cV c i).1 - (cV c (i - 1)).1).natAbs : Int) + ((cV c i).2 - (cV c (i - 1)).2).natAbs) = m
    have e1 : (pX (cV c (i - 1)) (cV c i) m (m + 1)).1 = (m + 1) * (cV c i).1 - ((cV c i).1 - (cV c (i - 1)).1) := by unfold pX at2 sub2; simp only; grind
    have e2 : (pX (cV c (i - 1)) (cV c i) m (m + 1)).2 = (m + 1) * (cV c i).2 - ((cV c i).2 - (cV c (i - 1)).2) := by unfold pX at2 sub2; simp only; grind
    have up : ∀ u v : Int, u < v → (m + 1) * u + (m + 1) ≤ (m + 1) * v := by
      intro u v hu
      have := Int.mul_le_mul_of_nonneg_left (show u + 1 ≤ v by omega) (show 0 ≤ m + 1 by omega)
      rw [Int.mul_add, Int.mul_one] at this
      exact this
    unfold outX at h ⊢
    rw [e1, e2]
    simp only [Int.one_mul] at h
    rcases h with h | h | h | h
    · have := up _ _ h; left; omega
    · have := up _ _ h; right; left; omega
    · have := up _ _ h; right; right; left; omega
    · have := up _ _ h; right; right; right; omega
set_option maxHeartbeats 200000 in
theorem inB_of {c d : Ct} (F : WF c) (h : ∀ i, i < cN c → ¬ outX d 1 (cV c i)) : inB c d := by
  have hN := F.n
  unfold outX at h
  simp only [Int.one_mul] at h
  obtain ⟨i1, a1, b1⟩ := mn_ex (fun i => (cV c i).1) (cN c - 1)
  obtain ⟨i2, a2, b2⟩ := mx_ex (fun i => (cV c i).1) (cN c - 1)
  obtain ⟨i3, a3, b3⟩ := mn_ex (fun i => (cV c i).2) (cN c - 1)
  obtain ⟨i4, a4, b4⟩ := mx_ex (fun i => (cV c i).2) (cN c - 1)
  have h1 := h i1 (by omega)
  have h2 := h i2 (by omega)
  have h3 := h i3 (by omega)
  have h4 := h i4 (by omega)
  unfold inB
  have c1 : x0 c = (cV c i1).1 := b1
  have c2 : x1 c = (cV c i2).1 := b2
  have c3 : y0 c = (cV c i3).2 := b3
  have c4 : y1 c = (cV c i4).2 := b4
  rw [c1, c2, c3, c4]
  omega
set_option maxHeartbeats 200000 in
theorem inB_Ou {c d : Ct} (F : WF c) (vc : Val c) (hk : cK c ≠ 0) (hd : Good d) (h : ¬ OuW (wy c) (cV c) (TC d)) : inB c d := by
  refine inB_of F (fun i hi ho => ?_)
  obtain ⟨e, p, D, w, hp, hD, o⟩ := far F vc hk hi ho
  exact h ⟨e, w, p, D, hp, hD, fun ⟨g, hg, _⟩ => out_no (by omega) o g hg, out_pa hd.gd (by omega) (nz_sub (way_ne F vc w)) o⟩
set_option maxHeartbeats 200000 in
theorem inB_Un {c d : Ct} (F : WF c) (vc : Val c) (hk : cK c ≠ 0) (h : ¬ UnW (wy c) (cV c) (TC d)) : inB c d := by
  refine inB_of F (fun i hi ho => ?_)
  obtain ⟨e, p, D, w, hp, hD, o⟩ := far F vc hk hi ho
  exact h ⟨e, w, p, D, hp, hD, fun ⟨g, hg, _⟩ => out_no (by omega) o g hg⟩
set_option maxHeartbeats 200000 in
theorem inB_ap {c d : Ct} (F : WF c) (h : inB c d) : ¬ apB c d := by
  have hN := F.n
  have := x_in (d := c) (e := 0) (by omega)
  unfold inB at h
  unfold apB
  omega
set_option maxHeartbeats 200000 in
theorem inB_pt {c d : Ct} (F : WF c) (G : WF d) (vd : Val d) (hk : cK c = 0) (h : loc d (cV c 0) = 1) : inB c d := by
  have n1 : cN c = 1 := F.2.2.2.2.2.2 hk
  refine inB_of F (fun i hi ho => ?_)
  have : i = 0 := by omega
  subst this
  unfold outX at ho
  simp only [Int.one_mul] at ho
  have := loc_out G (Val.cl G vd) (p := cV c 0) (by omega)
  omega
/-- the common answer for WITHIN -/
def Wi (c d : Ct) : Prop := if cK c = 0 then loc d (cV c 0) = 1 else cK c ≤ cK d ∧ (if cK d = 1 then ¬ UnW (wy c) (cV c) (TC d) else ¬ OuW (wy c) (cV c) (TC d) ∧ (if cK c = 1 then InW (wy c) (cV c) (TC d) else ¬ InW (wy d) (cV d) (TC c) ∧ (InW (wy c) (cV c) (TC d) ∨ SaW c (TC d))))
set_option maxHeartbeats 200000 in
theorem Al_cm {c d : Ct} (F : WF c) (vc : Val c) (h : AlW (wy c) (cV c) (TC d)) : cmW c d := by
  obtain ⟨i, w, h⟩ := h
  obtain ⟨e, he, ho⟩ := (AlP_i (way_ne F vc w)).mp h
  exact ⟨i, e, w, inTC.mp he, ovl_cmn (way_ne F vc w) ho⟩
set_option maxHeartbeats 200000 in
theorem SaW_al {c : Ct} {T : Sy} (h : SaW c T) : AlW (wy c) (cV c) T := by
  obtain ⟨i, w, p, D, h1, h2, h3, _⟩ := h
  exact ⟨i, w, p, D, h1, h2, h3⟩
set_option maxHeartbeats 200000 in
theorem m_isWithin {n : Nat} {σ : xσ} {a b : Nat} {c d : Ct} (S : MH σ a c) (F : WF c) (vc : Val c) (T : MH σ b d) (G : WF d) (vd : Val d) : ∃ σ', FrZ σ σ' ∧ f_X14_isWithin n a b σ = some (tf (Wi c d), σ') := by
  have hN := F.n
  have hM := G.n
  have hK := F.k
  have hL := G.k
  have g0 : ∀ {α : Type} (x : Option α), gd (inb 0 40) x = x := fun x => gd_pos (by decide) x
  have sx : sI σ (a + 2) (0 : Int32).toNatClampNeg = iI (cV c 0).1 := S.X (i := 0) (by omega)
  have sy : sI σ (a + 3) (0 : Int32).toNatClampNeg = iI (cV c 0).2 := S.Y (i := 0) (by omega)
  rw [f_X14_isWithin, gd_pos S.1, gd_pos T.1, S.K, T.K]
  unfold Wi
  by_cases k0 : cK c = 0
  · rw [if_pos (show nI (cK c) = 0 by rw [k0]; rfl), if_pos k0, g0, g0, sx, sy, m_locate T G (F.b (by omega)), bd]
    refine ⟨σ, FrZ.refl, ?_⟩
    by_cases u : loc d (cV c 0) = 1
    · rw [if_pos ((loc_one d _).mpr u), tf_t u]
    · rw [if_neg (fun y => u ((loc_one d _).mp y)), tf_f u]
  · rw [if_neg (fun z => k0 ((nIq0 (by omega)).mp z)), if_neg k0]
    by_cases l : cK d < cK c
    · rw [if_pos ((nI_l' (by omega) (by omega)).mpr l), tf_f (fun h => by omega)]
      exact ⟨σ, FrZ.refl, rfl⟩
    · rw [if_neg (fun z => l ((nI_l' (by omega) (by omega)).mp z))]
      obtain ⟨σ1, a1, a2⟩ := m_overlap (n := n) S F vc T G vd
      have S1 := S.z a1
      have T1 := T.z a1
      rw [a2, bd]
      by_cases l1 : cK d = 1
      · have k1 : cK c = 1 := by omega
        rw [if_pos l1]
        -- covered lines meet in their interiors
        have imp : ¬ UnW (wy c) (cV c) (TC d) → Mt c d ∧ OvI c d := by
          intro h
          have w := way_0 F vc k0
          have al : AlW (wy c) (cV c) (TC d) := ⟨0, w, 0, 1, by omega, by omega, Classical.byContradiction (fun n => h ⟨0, w, 0, 1, by omega, by omega, n⟩)⟩
          refine ⟨⟨inB_ap F (inB_Un F vc k0 h), Or.inr (Or.inr (Al_cm F vc al))⟩, ?_⟩
          unfold OvI
          rw [if_neg k0, if_neg (by omega), if_pos l1, if_neg (by omega)]
          exact (lines_in F vc G vd k1 l1).mpr (Or.inl al)
        by_cases o : Mt c d ∧ OvI c d
        · obtain ⟨σ2, b1, b2, b3⟩ := m_goL (n := n) S1 F vc T1 G vd l1
          rw [if_neg (fun z => (tf_0.mp z) o), b1, bd, b3.2.1, (S1.z b2).K]
          by_cases u : UnW (wy c) (cV c) (TC d)
          · rw [if_neg (fun z => (tf_0.mp z) u), tf_f (fun h => h.2 u)]
            exact ⟨σ2, a1.trans b2, rfl⟩
          · rw [if_pos (tf_f u), if_pos (show nI (cK c) = 1 by rw [k1]; rfl), tf_t ⟨by omega, u⟩]
            exact ⟨σ2, a1.trans b2, rfl⟩
        · rw [if_pos (tf_f o), tf_f (fun h => o (imp h.2))]
          exact ⟨σ1, a1, rfl⟩
      · have l2 : cK d = 2 := by omega
        obtain ⟨hd, od⟩ := Good_of G vd l2
        rw [if_neg l1]
        have oi : OvI c d ↔ OvP c d := by unfold OvI; rw [if_neg k0, if_neg (by omega), if_neg l1]
        by_cases o : Mt c d ∧ OvI c d
        · obtain ⟨σ2, b1, b2, b3⟩ := m_goP (n := n) S1 F vc T1 hd
          have S2 := S1.z b2
          have T2 := T1.z b2
          rw [if_neg (fun z => (tf_0.mp z) o), b1, bd, b3.2.1, S2.K]
          by_cases u : OuW (wy c) (cV c) (TC d)
          · rw [if_neg (fun z => (tf_0.mp z) u), tf_f (fun h => h.2.1 u)]
            exact ⟨σ2, a1.trans b2, rfl⟩
          · rw [if_pos (tf_f u)]
            have op := oi.mp o.2
            unfold OvP at op
            by_cases k1 : cK c = 1
            · rw [if_pos (show nI (cK c) = 1 by rw [k1]; rfl), if_pos k1, tf_t ⟨by omega, u, by rcases op with y | y; exact y; omega⟩]
              exact ⟨σ2, a1.trans b2, rfl⟩
            · have k2 : cK c = 2 := by omega
              obtain ⟨hc, oc⟩ := Good_of F vc k2
              obtain ⟨σ3, d1, d2, d3⟩ := m_goP (n := n) T2 G vd S2 hc
              rw [if_neg (fun z => k1 ((nIq1 (by omega)).mp z)), if_neg k1, d1, bd, d3.1]
              by_cases v : InW (wy d) (cV d) (TC c)
              · rw [if_neg (fun z => (tf_0.mp z) v), tf_f (fun h => h.2.2.1 v)]
                exact ⟨σ3, (a1.trans b2).trans d2, rfl⟩
              · rw [if_pos (tf_f v), tf_t]
                · exact ⟨σ3, (a1.trans b2).trans d2, rfl⟩
                · refine ⟨by omega, u, v, ?_⟩
                  rcases op with y | ⟨_, y | y⟩
                  · exact Or.inl y
                  · exact Or.inr y
                  · exact (v y).elim
        · rw [if_pos (tf_f o), tf_f]
          · exact ⟨σ1, a1, rfl⟩
          · rintro ⟨_, u, h⟩
            refine o ⟨⟨inB_ap F (inB_Ou F vc k0 hd u), ?_⟩, oi.mpr ?_⟩
            · by_cases k1 : cK c = 1
              · rw [if_pos k1] at h
                exact (mt_lp F vc hd k1).mpr (Or.inl h)
              · rw [if_neg k1] at h
                rcases h.2 with y | y
                · exact (mt_pp (Good_of F vc (by omega)).1 vc hd vd).mpr (Or.inl y)
                · exact Or.inr (Or.inr (Al_cm F vc (SaW_al y)))
            · unfold OvP
              by_cases k1 : cK c = 1
              · rw [if_pos k1] at h
                exact Or.inl h
              · rw [if_neg k1] at h
                rcases h.2 with y | y
                · exact Or.inl y
                · exact Or.inr ⟨by omega, Or.inl y⟩

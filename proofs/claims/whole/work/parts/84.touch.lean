/-! GEOMETRY: what the scan calls a touch, and a common point -/
set_option maxHeartbeats 200000 in
theorem nu_s (P Q a b : V2) : nuP P Q a b = (if 0 < sid P Q b then sid a b P else -sid a b P) ∧ deP P Q a b = (if 0 < sid P Q b then sid P Q b - sid P Q a else sid P Q a - sid P Q b) := by
  unfold nuP deP nu de
  have e1 : crs (sub2 Q P) (sub2 a P) = sid P Q a := crs_s2 ..
  have e2 : crs (sub2 Q P) (sub2 b P) = sid P Q b := crs_s2 ..
  have e3 : crs (sub2 a P) (sub2 b P) = sid a b P := by unfold crs sub2 sid; grind
  rw [e1, e2, e3]
  exact ⟨rfl, rfl⟩
set_option maxHeartbeats 200000 in
theorem eT_i (P Q a b : V2) : eT P Q a b ↔ ((0 < sid P Q b ∧ sid P Q a ≤ 0 ∧ 0 ≤ sid a b P ∧ sid a b Q ≤ 0) ∨ (0 < sid P Q a ∧ sid P Q b ≤ 0 ∧ sid a b P ≤ 0 ∧ 0 ≤ sid a b Q)) := by
  unfold eT
  obtain ⟨n1, n2⟩ := nu_s P Q a b
  obtain ⟨k1, k2⟩ := kM_s P Q a b
  rw [n1, n2, xgP_eq]
  by_cases y : 0 < sid P Q b
  · rw [if_pos y, if_pos y, decide_eq_true y]
    by_cases x : 0 < sid P Q a
    · rw [decide_eq_true x]; simp; omega
    · rw [decide_eq_false x]; simp; omega
  · rw [if_neg y, if_neg y, decide_eq_false y]
    by_cases x : 0 < sid P Q a
    · rw [decide_eq_true x]; simp; omega
    · rw [decide_eq_false x]; simp; omega
set_option maxHeartbeats 200000 in
theorem eT_cmn {P Q a b : V2} (h : eT P Q a b) : cmn P Q a b := by
  refine cmn_M ((mM_s P Q a b).mpr ?_)
  have k := (kM_s P Q a b).1
  rcases (eT_i P Q a b).mp h with h | h <;> (refine ⟨?_, ?_, ?_, ?_, ?_⟩ <;> omega)
/-! an end of one way on the other -/
set_option maxHeartbeats 200000 in
theorem end_on {P Q a b : V2} (hPQ : P ≠ Q) (h : onS a b P) : onS P Q a ∨ onS P Q b ∨ opp (sid P Q a) (sid P Q b) ∨ ovl P Q a b := by
  by_cases za : a = P
  · left; rw [za]; exact onS_l P Q
  · by_cases zb : b = P
    · right; left; rw [zb]; exact onS_l P Q
    · right; right
      have ho := on_sid.mp h
      have na : nz (sub2 a P) := nz_sub (fun y => za y.symm)
      have nb : nz (sub2 b P) := nz_sub (fun y => zb y.symm)
      have ng' := on0_neg ho na nb
      have ev := al_vec (a := sub2 b P) (v := sub2 a P) (by rw [crs_sw, ho.1]; rfl)
      have cm : dt (sub2 b P) (sub2 a P) = dt (sub2 a P) (sub2 b P) := by unfold dt; rw [Int.mul_comm (sub2 b P).1, Int.mul_comm (sub2 b P).2]
      rw [cm] at ev
      have m := crs_l2 (sub2 Q P) (congrArg Prod.fst ev) (congrArg Prod.snd ev)
      rw [crs_s2, crs_s2] at m
      have hN := dt_pos na
      by_cases z : sid P Q a = 0
      · right
        have z2 : sid P Q b = 0 := by
          rw [z, Int.mul_zero] at m
          rcases Int.mul_eq_zero.mp m with u | u
          · omega
          · exact u
        rw [← ovl_i hPQ]
        refine ⟨0, 1, by omega, by omega, (cvE_i hPQ (by omega)).mpr ⟨?_, ?_⟩⟩
        · have e : ∀ x, sn P Q x 0 1 = sub2 x P := fun x => by unfold sn pq sub2; refine Prod.ext ?_ ?_ <;> simp only <;> omega
          rw [e, e]; exact ho
        · have e : ∀ x, sn P Q x 0 1 = sub2 x P := fun x => by unfold sn pq sub2; refine Prod.ext ?_ ?_ <;> simp only <;> omega
          rw [e, e]
          have c1 : crs (sub2 Q P) (sub2 a P) = 0 := by rw [crs_s2, z]
          have c2 : crs (sub2 Q P) (sub2 b P) = 0 := by rw [crs_s2, z2]
          by_cases y : 0 < dt (sub2 Q P) (sub2 a P)
          · exact Or.inl ⟨c1, y⟩
          · right
            refine ⟨c2, ?_⟩
            have md : dt (sub2 a P) (sub2 a P) * dt (sub2 Q P) (sub2 b P) = dt (sub2 a P) (sub2 b P) * dt (sub2 Q P) (sub2 a P) := by
              have g1 := congrArg Prod.fst ev
              have g2 := congrArg Prod.snd ev
              simp only at g1 g2
              have f1 : dt (sub2 a P) (sub2 a P) * dt (sub2 Q P) (sub2 b P) = (sub2 Q P).1 * (dt (sub2 a P) (sub2 a P) * (sub2 b P).1) + (sub2 Q P).2 * (dt (sub2 a P) (sub2 a P) * (sub2 b P).2) := by
                generalize dt (sub2 a P) (sub2 a P) = n
                unfold dt; grind
              have f2 : dt (sub2 a P) (sub2 b P) * dt (sub2 Q P) (sub2 a P) = (sub2 Q P).1 * (dt (sub2 a P) (sub2 b P) * (sub2 a P).1) + (sub2 Q P).2 * (dt (sub2 a P) (sub2 b P) * (sub2 a P).2) := by
                generalize dt (sub2 a P) (sub2 b P) = n
                unfold dt; grind
              rw [f1, f2, g1, g2]
            have ne : dt (sub2 Q P) (sub2 a P) ≠ 0 := by
              intro t
              have ev2 := al_vec (a := sub2 a P) (v := sub2 Q P) (by rw [crs_sw, c1]; rfl)
              have cm2 : dt (sub2 a P) (sub2 Q P) = dt (sub2 Q P) (sub2 a P) := by unfold dt; rw [Int.mul_comm (sub2 a P).1, Int.mul_comm (sub2 a P).2]
              rw [cm2, t] at ev2
              have g1 := congrArg Prod.fst ev2
              have g2 := congrArg Prod.snd ev2
              simp only [Int.zero_mul] at g1 g2
              have hN2 := dt_pos (nz_sub hPQ)
              exact na ⟨by rcases Int.mul_eq_zero.mp g1 with u | u; omega; exact u, by rcases Int.mul_eq_zero.mp g2 with u | u; omega; exact u⟩
            have := Int.mul_pos_of_neg_of_neg ng' (show dt (sub2 Q P) (sub2 a P) < 0 by omega)
            rw [← md] at this
            by_cases w : 0 < dt (sub2 Q P) (sub2 b P)
            · exact w
            · have := Int.mul_nonpos_of_nonneg_of_nonpos (show 0 ≤ dt (sub2 a P) (sub2 a P) by omega) (show dt (sub2 Q P) (sub2 b P) ≤ 0 by omega); omega
      · left
        unfold opp
        by_cases y : 0 < sid P Q a
        · right
          refine ⟨y, ?_⟩
          have := Int.mul_neg_of_neg_of_pos ng' y
          rw [← m] at this
          by_cases w : sid P Q b < 0
          · exact w
          · have := Int.mul_nonneg (show 0 ≤ dt (sub2 a P) (sub2 a P) by omega) (show 0 ≤ sid P Q b by omega); omega
        · left
          refine ⟨by omega, ?_⟩
          have := Int.mul_pos_of_neg_of_neg ng' (show sid P Q a < 0 by omega)
          rw [← m] at this
          by_cases w : 0 < sid P Q b
          · exact w
          · have := Int.mul_nonpos_of_nonneg_of_nonpos (show 0 ≤ dt (sub2 a P) (sub2 a P) by omega) (show sid P Q b ≤ 0 by omega); omega
set_option maxHeartbeats 200000 in
theorem sid_rev (P Q x : V2) : sid Q P x = -sid P Q x := by unfold sid; grind
set_option maxHeartbeats 200000 in
theorem cmn_tch {P Q a b : V2} (hPQ : P ≠ Q) (h : cmn P Q a b) : onS P Q a ∨ onS P Q b ∨ eT P Q a b ∨ ovl P Q a b := by
  obtain ⟨k1, k2⟩ := kM_s P Q a b
  rcases cmn_mt h with ⟨h1, h2⟩ | h1 | h1 | h1 | h1
  · right; right; left
    rw [eT_i]; unfold opp at h1 h2; omega
  · exact Or.inl h1
  · exact Or.inr (Or.inl h1)
  · rcases end_on hPQ h1 with u | u | u | u
    · exact Or.inl u
    · exact Or.inr (Or.inl u)
    · right; right; left
      have := h1.2
      rw [eT_i]; unfold opp at u; omega
    · exact Or.inr (Or.inr (Or.inr u))
  · rcases end_on (fun y => hPQ y.symm) h1 with u | u | u | u
    · exact Or.inl (onS_sym u)
    · exact Or.inr (Or.inl (onS_sym u))
    · right; right; left
      have := h1.2
      have r1 := sid_rev P Q a
      have r2 := sid_rev P Q b
      rw [eT_i]; unfold opp at u; omega
    · exact Or.inr (Or.inr (Or.inr (ovl_rev u)))
set_option maxHeartbeats 200000 in
theorem ovl_cmn {P Q a b : V2} (hPQ : P ≠ Q) (h : ovl P Q a b) : cmn P Q a b := by
  obtain ⟨p, D, hp, hD, c⟩ := (ovl_i hPQ).mpr h
  have ho := ((cvE_i hPQ (by omega)).mp c).1
  rw [sn_vw, sn_vw] at ho
  exact ⟨D, at2 P (sub2 Q P) D p, by omega, on_way P Q hp (by omega), ho⟩
set_option maxHeartbeats 200000 in
theorem rg_of {d : Ct} (G : WF d) {e : Nat} (h : e < cN d) : ∃ r, r < cR d ∧ sr d r ≤ e ∧ e < cE d r := by
  have hR := G.r
  have main : ∀ k, k ≤ cR d → (∀ r, r < k → cE d r ≤ e) ∨ ∃ r, r < k ∧ sr d r ≤ e ∧ e < cE d r := by
    intro k
    induction k with
    | zero => intro _; exact Or.inl (fun r hr => by omega)
    | succ k ih =>
      intro hk
      rcases ih (by omega) with h1 | ⟨r, r1, r2⟩
      · by_cases z : cE d k ≤ e
        · exact Or.inl (fun r hr => by
            by_cases y : r = k
            · rw [y]; exact z
            · exact h1 r (by omega))
        · refine Or.inr ⟨k, by omega, ?_, by omega⟩
          unfold sr
          split
          · omega
          · exact h1 (k - 1) (by omega)
      · exact Or.inr ⟨r, by omega, r2⟩
  rcases main (cR d) (Nat.le_refl _) with h1 | h
  · have := h1 (cR d - 1) (by omega)
    rw [G.el] at this; omega
  · exact h
/-! the ways of a polygon, as the scan sees them -/
set_option maxHeartbeats 200000 in
theorem pl_way {d : Ct} (G : WF d) (hk : cK d ≠ 0) (h2 : ∀ r, r < cR d → SmR d r) {j : Nat} (hj : j < cN d) : wy d j ∨ (1 ≤ j ∧ wy d (j - 1)) := by
  by_cases z : wy d j
  · exact Or.inl z
  · right
    obtain ⟨r, hr, a, b⟩ := rg_of G hj
    have hm := (h2 r hr).1
    have := sr_lt G hr
    by_cases y : j + 1 < cE d r
    · exact (z (wy_ring G hk hr a y)).elim
    · unfold ml at hm
      exact ⟨by omega, wy_ring G hk hr (by omega) (by omega)⟩
set_option maxHeartbeats 200000 in
theorem tch_i {d : Ct} (G : WF d) (hk : cK d ≠ 0) (h2 : ∀ r, r < cR d → SmR d r) {P Q : V2} (hPQ : P ≠ Q) : (gaT P Q d 0 (cN d) ∨ AlP (TC d) P Q) ↔ ∃ j, wy d j ∧ cmn P Q (cV d j) (cV d (j + 1)) := by
  rw [AlP_i hPQ]
  constructor
  · rintro ((⟨j, _, j2, j3, j4⟩ | ⟨e, _, e2, e3, e4⟩) | ⟨e, he, ho⟩)
    · have on : onS P Q (cV d j) := ⟨j4, j3⟩
      rcases pl_way G hk h2 (show j < cN d by omega) with w | ⟨w1, w⟩
      · exact ⟨j, w, cmn_on on⟩
      · refine ⟨j - 1, w, ?_⟩
        rw [show j - 1 + 1 = j by omega]
        obtain ⟨D, X, h1, h2, h3⟩ := cmn_on (q := cV d (j - 1)) on
        exact ⟨D, X, h1, h2, on0_sym h3⟩
    · exact ⟨e, ⟨hk, by omega, e3⟩, eT_cmn e4⟩
    · exact ⟨e, inTC.mp he, ovl_cmn hPQ ho⟩
  · rintro ⟨j, hj, hc⟩
    have := hj.2.1
    rcases cmn_tch hPQ hc with u | u | u | u
    · exact Or.inl (Or.inl ⟨j, by omega, by omega, u.2, u.1⟩)
    · exact Or.inl (Or.inl ⟨j + 1, by omega, by omega, u.2, u.1⟩)
    · exact Or.inl (Or.inr ⟨j, by omega, by omega, hj.2.2, u⟩)
    · exact Or.inr ⟨j, inTC.mpr hj, u⟩

/-! the window test of the system and that of the reference are one -/
set_option maxHeartbeats 200000 in
theorem wn_out {P Q : V2} (h1 : P.1 ≤ Q.1) (h2 : P.2 ≤ Q.2) {D : Int} {X : V2} : ¬ outX (winC P Q) D X ↔ inXB P Q D X := by
  obtain ⟨e1, e2, e3, e4⟩ := wn_box h1 h2
  unfold outX inXB
  rw [e1, e2, e3, e4]
  constructor
  · intro h; exact ⟨by omega, by omega, by omega, by omega⟩
  · intro h; omega
set_option maxHeartbeats 200000 in
theorem vw_eq {D : Int} (hD : 0 < D) {X a b : V2} (ha : zro (vw D X a)) (hb : zro (vw D X b)) : a = b := by
  have a1 : D * a.1 - X.1 = 0 := ha.1
  have a2 : D * a.2 - X.2 = 0 := ha.2
  have b1 : D * b.1 - X.1 = 0 := hb.1
  have b2 : D * b.2 - X.2 = 0 := hb.2
  exact Prod.ext (Int.eq_of_mul_eq_mul_left (show D ≠ 0 by omega) (by omega)) (Int.eq_of_mul_eq_mul_left (show D ≠ 0 by omega) (by omega))
set_option maxHeartbeats 200000 in
theorem wn_on {P Q : V2} (hP : bV P) (hQ : bV Q) (h1 : P.1 ≤ Q.1) (h2 : P.2 ≤ Q.2) {D : Int} (hD : 0 < D) {X : V2} {j : Nat} (hj : wy (winC P Q) j) (o : on0 (vw D X (cV (winC P Q) j)) (vw D X (cV (winC P Q) (j + 1)))) : inXB P Q D X := by
  rw [← wn_out h1 h2]
  intro y
  have ne := way_ne (wn_WF hP hQ) (win_Val P Q) hj
  by_cases z : nz (vw D X (cV (winC P Q) j))
  · exact out_no hD y _ ⟨z, j, inTC.mpr hj, o, Or.inl rfl⟩
  · have z' : zro (vw D X (cV (winC P Q) j)) := Classical.byContradiction z
    have z2 : nz (vw D X (cV (winC P Q) (j + 1))) := fun z2 => ne (vw_eq hD z' z2)
    exact out_no hD y _ ⟨z2, j, inTC.mpr hj, o, Or.inr rfl⟩
set_option maxHeartbeats 200000 in
theorem on0_h {a b : V2} (h1 : a.2 = 0) (h2 : b.2 = 0) (h3 : a.1 * b.1 ≤ 0) : on0 a b := ⟨by unfold crs; rw [h1, h2]; simp, by unfold dt; rw [h1, h2]; simp; exact h3⟩
set_option maxHeartbeats 200000 in
theorem on0_v {a b : V2} (h1 : a.1 = 0) (h2 : b.1 = 0) (h3 : a.2 * b.2 ≤ 0) : on0 a b := ⟨by unfold crs; rw [h1, h2]; simp, by unfold dt; rw [h1, h2]; simp; exact h3⟩
set_option maxHeartbeats 200000 in
theorem np {a b : Int} (h1 : a ≤ 0) (h2 : 0 ≤ b) : a * b ≤ 0 := Int.mul_nonpos_of_nonpos_of_nonneg h1 h2
set_option maxHeartbeats 200000 in
theorem pn {a b : Int} (h1 : 0 ≤ a) (h2 : b ≤ 0) : a * b ≤ 0 := by rw [Int.mul_comm]; exact np h2 h1
set_option maxHeartbeats 200000 in
theorem wn_hit {P Q : V2} (hP : bV P) (hQ : bV Q) (h1 : P.1 ≤ Q.1) (h2 : P.2 ≤ Q.2) {D : Int} (hD : 0 < D) {X : V2} (h : inXB P Q D X) : (P = Q ∧ zro (vw D X P)) ∨ (∃ j, wy (winC P Q) j ∧ on0 (vw D X (cV (winC P Q) j)) (vw D X (cV (winC P Q) (j + 1)))) ∨ (cK (winC P Q) = 2 ∧ ∀ s, nz s → pa (TC (winC P Q)) D X s = true) := by
  have W := wn_WF hP hQ
  have v0 : cV (winC P Q) 0 = P := wn_0 P Q
  obtain ⟨i1, i2, i3, i4⟩ := h
  by_cases e : P = Q
  · left
    refine ⟨e, ?_⟩
    subst e
    exact ⟨show D * P.1 - X.1 = 0 by omega, show D * P.2 - X.2 = 0 by omega⟩
  · right
    by_cases t : P.1 = Q.1 ∨ P.2 = Q.2
    · left
      have k1 : cK (winC P Q) = 1 := by show wnK P Q = 1; unfold wnK; rw [if_neg e, if_pos t]
      have nN : cN (winC P Q) = 2 := by show wnN P Q = 2; unfold wnN; rw [if_neg e, if_pos t]
      have v1 : cV (winC P Q) 1 = Q := by show wnV P Q 1 = Q; unfold wnV; rw [if_pos t, if_neg (by omega)]
      refine ⟨0, (wy_line W k1).mpr (by omega), ?_⟩
      rw [v0, v1]
      rcases t with t | t
      · rw [← t] at i2
        exact on0_v (show D * P.1 - X.1 = 0 by omega) (show D * Q.1 - X.1 = 0 by rw [← t]; omega) (np (show D * P.2 - X.2 ≤ 0 by omega) (show 0 ≤ D * Q.2 - X.2 by omega))
      · rw [← t] at i4
        exact on0_h (show D * P.2 - X.2 = 0 by omega) (show D * Q.2 - X.2 = 0 by rw [← t]; omega) (np (show D * P.1 - X.1 ≤ 0 by omega) (show 0 ≤ D * Q.1 - X.1 by omega))
    · have nN : cN (winC P Q) = 5 := by show wnN P Q = 5; unfold wnN; rw [if_neg e, if_neg t]
      have k2 : cK (winC P Q) = 2 := by show wnK P Q = 2; unfold wnK; rw [if_neg e, if_neg t]
      have s0 : sr (winC P Q) 0 = 0 := by unfold sr; rw [if_pos rfl]
      have m0 : ml (winC P Q) 0 = 4 := by unfold ml; rw [s0]; show wnN P Q - 1 - 0 = 4; have : wnN P Q = 5 := nN; omega
      have v1 : cV (winC P Q) 1 = (Q.1, P.2) := by show wnV P Q 1 = _; unfold wnV; rw [if_neg t, if_neg (by omega), if_pos rfl]
      have v2 : cV (winC P Q) 2 = Q := by show wnV P Q 2 = _; unfold wnV; rw [if_neg t, if_neg (by omega), if_neg (by omega), if_pos rfl]
      have v3 : cV (winC P Q) 3 = (P.1, Q.2) := by show wnV P Q 3 = _; unfold wnV; rw [if_neg t, if_neg (by omega), if_neg (by omega), if_neg (by omega), if_pos rfl]
      have v4 : cV (winC P Q) 4 = P := by show wnV P Q 4 = _; unfold wnV; rw [if_neg t, if_neg (by omega), if_neg (by omega), if_neg (by omega), if_neg (by omega)]
      have ww : ∀ j, j < 4 → wy (winC P Q) j := fun j hj => wy_ring' W (by omega) (show 0 < cR (winC P Q) from Nat.one_pos) (by omega) (by omega)
      by_cases b0 : X.2 = D * P.2
      · left; refine ⟨0, ww 0 (by omega), ?_⟩
        rw [v0, v1]
        exact on0_h (show D * P.2 - X.2 = 0 by omega) (show D * P.2 - X.2 = 0 by omega) (np (show D * P.1 - X.1 ≤ 0 by omega) (show 0 ≤ D * Q.1 - X.1 by omega))
      by_cases b1 : X.1 = D * Q.1
      · left; refine ⟨1, ww 1 (by omega), ?_⟩
        rw [v1, v2]
        exact on0_v (show D * Q.1 - X.1 = 0 by omega) (show D * Q.1 - X.1 = 0 by omega) (np (show D * P.2 - X.2 ≤ 0 by omega) (show 0 ≤ D * Q.2 - X.2 by omega))
      by_cases b2 : X.2 = D * Q.2
      · left; refine ⟨2, ww 2 (by omega), ?_⟩
        rw [v2, v3]
        exact on0_h (show D * Q.2 - X.2 = 0 by omega) (show D * Q.2 - X.2 = 0 by omega) (pn (show 0 ≤ D * Q.1 - X.1 by omega) (show D * P.1 - X.1 ≤ 0 by omega))
      by_cases b3 : X.1 = D * P.1
      · left; refine ⟨3, ww 3 (by omega), ?_⟩
        rw [v3, v4]
        exact on0_v (show D * P.1 - X.1 = 0 by omega) (show D * P.1 - X.1 = 0 by omega) (pn (show 0 ≤ D * Q.2 - X.2 by omega) (show D * P.2 - X.2 ≤ 0 by omega))
      right
      refine ⟨k2, ?_⟩
      have G : GD (TC (winC P Q)) := GD_TC W (by omega) (fun r hr => by
        have h1 : r < 1 := hr
        have h2 : r = 0 := by omega
        rw [h2]; exact win_SmR t)
      have p1 : D * P.1 - X.1 < 0 := by omega
      have p2 : D * P.2 - X.2 < 0 := by omega
      have q1 : 0 < D * Q.1 - X.1 := by omega
      have q2 : 0 < D * Q.2 - X.2 := by omega
      have r0 : rl (TC (winC P Q)) D X 0 = (D * P.1 - X.1, D * P.2 - X.2) := by show vw D X (cV (winC P Q) 0) = _; rw [v0]; rfl
      have r1 : rl (TC (winC P Q)) D X 1 = (D * Q.1 - X.1, D * P.2 - X.2) := by show vw D X (cV (winC P Q) 1) = _; rw [v1]; rfl
      have r2 : rl (TC (winC P Q)) D X 2 = (D * Q.1 - X.1, D * Q.2 - X.2) := by show vw D X (cV (winC P Q) 2) = _; rw [v2]; rfl
      have r3 : rl (TC (winC P Q)) D X 3 = (D * P.1 - X.1, D * Q.2 - X.2) := by show vw D X (cV (winC P Q) 3) = _; rw [v3]; rfl
      have r4 : rl (TC (winC P Q)) D X 4 = (D * P.1 - X.1, D * P.2 - X.2) := by show vw D X (cV (winC P Q) 4) = _; rw [v4]; rfl
      have sM4 : sM (TC (winC P Q)) = 4 := by show cN (winC P Q) - 1 = 4; omega
      have sL0 : sL (TC (winC P Q)) = 0 := rfl
      have sWt : ∀ j, j < 4 → sW (TC (winC P Q)) j = true := fun j hj => dB_t (ww j hj)
      generalize D * P.1 - X.1 = a1 at *
      generalize D * P.2 - X.2 = a2 at *
      generalize D * Q.1 - X.1 = c1 at *
      generalize D * Q.2 - X.2 = c2 at *
      have cx : ∀ a : V2, crs ex0 a = a.2 := fun a => by unfold crs ex0; simp
      have m1 := Int.mul_pos q1 q2
      have m2 : a2 * c1 < 0 := Int.mul_neg_of_neg_of_pos p2 q1
      have m3 : 0 < a1 * a2 := Int.mul_pos_of_neg_of_neg p1 p2
      have m4 : c2 * a1 < 0 := Int.mul_neg_of_pos_of_neg q2 p1
      have n2 : sg a2 = 0 := (sg_neg a2).mpr p2
      have n3 : sg c2 = 2 := (sg_pos c2).mpr q2
      have x1 : sg (crs (c1, a2) (c1, c2)) = 2 := (sg_pos _).mpr (by unfold crs; simp only; omega)
      have x3 : sg (crs (a1, c2) (a1, a2)) = 2 := (sg_pos _).mpr (by unfold crs; simp only; omega)
      have pe : pa (TC (winC P Q)) D X ex0 = true := by
        unfold pa XS
        rw [sM4, sL0]
        simp only [xs, Nat.zero_add]
        rw [sWt 0 (by omega), sWt 1 (by omega), sWt 2 (by omega), sWt 3 (by omega), r0, r1, r2, r3, r4]
        unfold cc
        rw [cx, cx, cx, cx]
        simp only
        rw [n2, n3, x1, x3]
        generalize sg (crs (a1, a2) (c1, a2)) = u
        generalize sg (crs (c1, c2) (a1, c2)) = v
        rfl
      intro s hs
      rw [pa_free G hD ?_ hs ex0_nz, pe]
      rintro g ⟨_, j, hj, ho, _⟩
      have hj' : j < 4 := by have := hj.2.1; omega
      have hb : ∀ a b : V2, on0 a b → a.1 * b.2 - a.2 * b.1 = 0 := fun a b o => o.1
      have hd : ∀ a b : V2, on0 a b → a.1 * b.1 + a.2 * b.2 ≤ 0 := fun a b o => o.2
      have k1 := hb _ _ ho
      rcases (show j = 0 ∨ j = 1 ∨ j = 2 ∨ j = 3 by omega) with rfl | rfl | rfl | rfl
      · rw [show 0 + 1 = 1 from rfl, r0, r1] at k1
        simp only at k1
        have m5 := Int.mul_pos_of_neg_of_neg p1 p2
        omega
      · rw [show 1 + 1 = 2 from rfl, r1, r2] at k1
        simp only at k1
        omega
      · rw [show 2 + 1 = 3 from rfl, r2, r3] at k1
        simp only at k1
        omega
      · rw [show 3 + 1 = 4 from rfl, r3, r4] at k1
        simp only at k1
        omega

set_option maxHeartbeats 200000 in
theorem loc_in {P Q : V2} (hP : bV P) (hQ : bV Q) (h1 : P.1 ≤ Q.1) (h2 : P.2 ≤ Q.2) (p : V2) : 0 ≤ loc (winC P Q) p ↔ inXB P Q 1 p := by
  have W := wn_WF hP hQ
  have hK := W.k
  constructor
  · intro h
    have on : onA (winC P Q) p → inXB P Q 1 p := fun ⟨j, hj, o⟩ => wn_on hP hQ h1 h2 (by omega) hj (by rw [vw_1, vw_1]; exact on_sid.mp o)
    rcases (show cK (winC P Q) = 0 ∨ cK (winC P Q) = 1 ∨ cK (winC P Q) = 2 by omega) with k | k | k
    · have := (lo_0 k p).mp h
      rw [show cV (winC P Q) 0 = P from wn_0 P Q] at this
      rw [← this]
      exact ⟨by omega, by omega, by omega, by omega⟩
    · exact on ((lo_1 k p).mp h)
    · rcases (lo_2 k p).mp h with o | o
      · exact on o
      · rw [oddP_pa] at o
        rw [← wn_out h1 h2]
        intro y
        rw [out_pa (Good_of W (win_Val P Q) k).1.gd (by omega) ex0_nz y] at o
        cases o
  · intro h
    rcases wn_hit hP hQ h1 h2 (by omega) h with ⟨e, z⟩ | ⟨j, hj, o⟩ | ⟨k, o⟩
    · have k : cK (winC P Q) = 0 := by show wnK P Q = 0; unfold wnK; rw [if_pos e]
      rw [lo_0 k, show cV (winC P Q) 0 = P from wn_0 P Q]
      exact vw_eq (D := 1) (X := p) (by omega) z (by rw [vw_1]; exact ⟨show p.1 - p.1 = 0 by omega, show p.2 - p.2 = 0 by omega⟩)
    · rw [vw_1, vw_1] at o
      have oa : onA (winC P Q) p := ⟨j, hj, on_sid.mpr o⟩
      have := hj.1
      by_cases k : cK (winC P Q) = 1
      · exact (lo_1 k p).mpr oa
      · exact (lo_2 (by omega) p).mpr (Or.inl oa)
    · rw [lo_2 k, oddP_pa]
      exact Or.inr (o _ ex0_nz)
set_option maxHeartbeats 200000 in
theorem win_i {c : Ct} (F : WF c) (vc : Val c) {P Q : V2} (hP : bV P) (hQ : bV Q) (h1 : P.1 ≤ Q.1) (h2 : P.2 ≤ Q.2) : WnS c P Q ↔ Mt c (winC P Q) := by
  have W := wn_WF hP hQ
  have vW := win_Val P Q
  have hK := F.k
  obtain ⟨e1, e2, e3, e4⟩ := wn_box h1 h2
  have v0 : cV (winC P Q) 0 = P := wn_0 P Q
  unfold WnS Mt apB
  rw [e1, e2, e3, e4]
  refine and_congr_right (fun nb => ?_)
  have pIn : inXB P Q 1 P := ⟨by omega, by omega, by omega, by omega⟩
  constructor
  · rintro (k | ⟨k, hk, m⟩ | ⟨k, l⟩)
    · rw [mt_pt W vW k, loc_in hP hQ h1 h2]
      have n1 := F.2.2.2.2.2.2 k
      have a1 : x0 c = (cV c 0).1 := by unfold x0; rw [n1]; rfl
      have a2 : x1 c = (cV c 0).1 := by unfold x1; rw [n1]; rfl
      have a3 : y0 c = (cV c 0).2 := by unfold y0; rw [n1]; rfl
      have a4 : y1 c = (cV c 0).2 := by unfold y1; rw [n1]; rfl
      rw [a1, a2, a3, a4] at nb
      exact ⟨by omega, by omega, by omega, by omega⟩
    · obtain ⟨D, X, hD, o, b⟩ := (sat_i (way_ne F vc hk) h1 h2).mp m
      rcases wn_hit hP hQ h1 h2 hD b with ⟨e, z⟩ | ⟨j, hj, o'⟩ | ⟨k2, pt⟩
      · have oa : onA c P := ⟨k, hk, onS_z hD z o⟩
        right; left
        rw [v0]
        have := hk.1
        by_cases q : cK c = 1
        · exact (lo_1 q _).mpr oa
        · exact (lo_2 (by omega) _).mpr (Or.inl oa)
      · exact Or.inr (Or.inr ⟨k, j, hk, hj, D, X, hD, o, o'⟩)
      · by_cases q : cmW c (winC P Q)
        · exact Or.inr (Or.inr q)
        · have gW := (Good_of W vW k2).1
          have ne := way_ne F vc hk
          have still := way_still gW.gd ne (fun p D a b e => no_HW q hk a b e)
          obtain ⟨N, p, n1, n2, n3, n4, _⟩ := par_of ne hD o
          have hND : 0 < N * D := Int.mul_pos n1 hD
          have t1 := still p (N * D) n2 n3 hND _ (nz_sub ne)
          rw [← n4, D1, pa_sc _ n1, pt _ (nz_sub ne)] at t1
          have t0 := still 0 1 (by omega) (by omega) (by omega) _ (nz_sub ne)
          rw [← t1] at t0
          have iw : InW (wy c) (cV c) (TC (winC P Q)) := ⟨k, hk, 0, 1, by omega, by omega, fun ⟨g, hg, _⟩ => no_HW q hk (p := 0) (D := 1) (by omega) (by omega) (by omega) g hg, t0⟩
          have := hk.1
          by_cases k1 : cK c = 1
          · exact (mt_lp F vc gW k1).mpr (Or.inl iw)
          · exact (mt_pp (Good_of F vc (by omega)).1 vc gW vW).mpr (Or.inl iw)
    · right; left
      rw [v0]; exact l
  · intro m
    by_cases k0 : cK c = 0
    · exact Or.inl k0
    · right
      rcases m with m | m | ⟨i, j, hi, hj, D, X, hD, o1, o2⟩
      · left
        have w := way_0 F vc k0
        refine ⟨0, w, (sat_i (way_ne F vc w) h1 h2).mpr ⟨1, cV c 0, by omega, on0_z1 ?_, (loc_in hP hQ h1 h2 _).mp m⟩⟩
        rw [vw_1]; exact ⟨show (cV c 0).1 - (cV c 0).1 = 0 by omega, show (cV c 0).2 - (cV c 0).2 = 0 by omega⟩
      · rw [v0] at m
        by_cases k1 : cK c = 1
        · left
          obtain ⟨k, hk, o⟩ := (lo_1 k1 _).mp m
          refine ⟨k, hk, (sat_i (way_ne F vc hk) h1 h2).mpr ⟨1, P, by omega, ?_, pIn⟩⟩
          rw [vw_1, vw_1]; exact on_sid.mp o
        · exact Or.inr ⟨by omega, m⟩
      · left
        exact ⟨i, hi, (sat_i (way_ne F vc hi) h1 h2).mpr ⟨D, X, hD, o1, wn_on hP hQ h1 h2 hD hj o2⟩⟩

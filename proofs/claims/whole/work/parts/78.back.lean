/-! GEOMETRY: behind and ahead of a part; half-ways along one another -/
set_option maxHeartbeats 200000 in
theorem pos_rev {P Q X : V2} (hPQ : P ≠ Q) : pos Q P X = whl P Q - pos P Q X ∧ whl Q P = whl P Q := by
  have hne : fX P Q Q - fX P Q P ≠ 0 := by
    by_cases q : P.1 = Q.1
    · rw [fX_v q, fX_v q]; intro e; exact hPQ (V2_eq.mpr ⟨q, by omega⟩)
    · rw [fX_h q, fX_h q]; omega
  have ef : ∀ Y, fX Q P Y = fX P Q Y := by
    intro Y
    unfold fX
    by_cases q : P.1 = Q.1
    · rw [if_pos q, if_pos q.symm]
    · rw [if_neg q, if_neg (fun z => q z.symm)]
  unfold pos whl
  rw [ef, ef, ef]
  constructor
  · split <;> split <;> omega
  · split <;> split <;> omega
/-! covered just ahead of a part: covered there on the way back -/
set_option maxHeartbeats 200000 in
theorem back_E {P Q A B : V2} (hPQ : P ≠ Q) {p D K : Int} (hp : 0 < p) (hD : p ≤ D) (hK : whl P Q ≤ K) (h : cvE P Q A B (p * K - 1) (D * K)) : cvE Q P A B (D - p) D := by
  have hw := whl_pos hPQ
  obtain ⟨h1, h2, h3, h4⟩ := h
  have es : ∀ x : V2, sid Q P x = -sid P Q x := by intro x; unfold sid; grind
  obtain ⟨ra, rw'⟩ := pos_rev (X := A) hPQ
  obtain ⟨rb, _⟩ := pos_rev (X := B) hPQ
  refine ⟨by rw [es, h1]; rfl, by rw [es, h2]; rfl, ?_, ?_⟩
  · -- the far end is not ahead of the part
    rw [ra, rb, rw']
    have e : min (whl P Q - pos P Q A) (whl P Q - pos P Q B) = whl P Q - max (pos P Q A) (pos P Q B) := by omega
    rw [e]
    have key : p * whl P Q ≤ max (pos P Q A) (pos P Q B) * D := by
      by_cases z : p * whl P Q ≤ max (pos P Q A) (pos P Q B) * D
      · exact z
      · exfalso
        generalize max (pos P Q A) (pos P Q B) = hi at *
        generalize whl P Q = W at *
        have t1 : (p * K - 1) * W = K * (p * W) - W := by grind
        have t2 : hi * (D * K) = K * (hi * D) := by grind
        rw [t1, t2] at h4
        have t3 : K * (hi * D + 1) ≤ K * (p * W) := Int.mul_le_mul_of_nonneg_left (by omega) (by omega)
        rw [Int.mul_add, Int.mul_one] at t3
        omega
    have e1 : (whl P Q - max (pos P Q A) (pos P Q B)) * D = D * whl P Q - max (pos P Q A) (pos P Q B) * D := by grind
    have e2 : (D - p) * whl P Q = D * whl P Q - p * whl P Q := by grind
    omega
  · rw [ra, rb, rw']
    have e : max (whl P Q - pos P Q A) (whl P Q - pos P Q B) = whl P Q - min (pos P Q A) (pos P Q B) := by omega
    rw [e]
    have key : min (pos P Q A) (pos P Q B) * D < p * whl P Q := by
      generalize min (pos P Q A) (pos P Q B) = lo at *
      generalize whl P Q = W at *
      have t1 : (p * K - 1) * W = K * (p * W) - W := by grind
      have t2 : lo * (D * K) = K * (lo * D) := by grind
      rw [t1, t2] at h3
      by_cases z : lo * D < p * W
      · exact z
      · have t3 : K * (p * W) ≤ K * (lo * D) := Int.mul_le_mul_of_nonneg_left (by omega) (by omega)
        omega
    have e1 : (whl P Q - min (pos P Q A) (pos P Q B)) * D = D * whl P Q - min (pos P Q A) (pos P Q B) * D := by grind
    have e2 : (D - p) * whl P Q = D * whl P Q - p * whl P Q := by grind
    omega
set_option maxHeartbeats 200000 in
theorem back_cov {T : Sy} {P Q : V2} (hPQ : P ≠ Q) {p D K : Int} (hp : 0 < p) (hD : p ≤ D) (hK : whl P Q ≤ K) (h : cvT T P Q (p * K - 1) (D * K)) : cov T (D * 1) (pX P Q p D) (ng (sub2 Q P)) := by
  have hw := whl_pos hPQ
  have hDK : 0 < D * K := Int.mul_pos (by omega) (by omega)
  obtain ⟨e, he, hc⟩ := (cvT_i hPQ hDK).mp h
  have := (cvT_i (T := T) (fun z => hPQ z.symm) (show 0 < D by omega)).mpr ⟨e, he, back_E hPQ hp hD hK hc⟩
  unfold cvT at this
  rw [pX_rev, ← ng_sub] at this
  exact this
/-! each half-way of a ring is there but once -/
set_option maxHeartbeats 200000 in
theorem al_ring {c : Ct} {r : Nat} (hS : SmR c r) {D : Int} (hD : 0 < D) {X g : V2} (hg : HW (TG c r) D X g) : al (TG c r) D X g = true := by
  have G := GD_TG hS
  obtain ⟨e, N, p, e1, e2, n1, n2, n3, n4, n5⟩ := HW_par hS hD hg
  have hne := ND_r hS ⟨e1, e2⟩
  have nd := hS.2.2.1 e e1 e2
  have hND : 0 < N * D := Int.mul_pos n1 hD
  -- the parity on both sides, forth and back, by parts
  have fo : ∀ p D, 0 ≤ p → p < D → pa (TG c r) (D * 1) (pX (cV c e) (cV c (e + 1)) p D) (dv (cV c) e) = sd (cV c) (sr c r) (ml c r) := by
    intro p D h1 h2
    obtain ⟨ho, _, f2⟩ := par_HW hS e1 e2 h1 (show p ≤ D by omega) (by omega)
    exact sd_forth hS e1 e2 (by omega) ho (by rw [f2]; exact (dir_nz (dir_pos (u := D - p) (by omega) nd)).2)
  have ba : ∀ p D, 0 < p → p ≤ D → pa (TG c r) (D * 1) (pX (cV c e) (cV c (e + 1)) p D) (ng (dv (cV c) e)) = !sd (cV c) (sr c r) (ml c r) := by
    intro p D h1 h2
    obtain ⟨ho, f1, _⟩ := par_HW hS e1 e2 (show 0 ≤ p by omega) h2 (by omega)
    exact sd_back hS e1 e2 (by omega) ho (by rw [f1]; exact (dir_nz (dir_neg (u := -p) (by omega) nd)).2)
  rcases n5 with ⟨q1, q2⟩ | ⟨q1, q2⟩
  · -- to the right of the way forth is to the left of the way back
    rw [← al_dir q2, ← al_sc (TG c r) n1, n4]
    have hne' : cV c (e + 1) ≠ cV c e := fun z => hne z.symm
    obtain ⟨B, b1, b2⟩ := lim_R (TG c r) 1 (cV c (e + 1)) (sub2 (cV c e) (cV c (e + 1)))
    have l2 := (b2 (N * D) (N * D - p) (B + 1) hND (by omega)).2
    have l3 := Av_l G hne' (N * D - p) hND
    rw [← l3] at l2
    unfold Av at l2
    simp only [D1] at l2
    rw [pX_rev, ng_sub, sub_dv] at l2
    have hK : 0 < N * D * (B + 1) := Int.mul_pos hND (by omega)
    have p1 : 1 ≤ (N * D - p) * (B + 1) := by
      have := Int.mul_le_mul (show 1 ≤ N * D - p by omega) (show 1 ≤ B + 1 by omega) (by omega) (by omega)
      omega
    have p2 : (N * D - p) * (B + 1) ≤ N * D * (B + 1) := Int.mul_le_mul_of_nonneg_right (by omega) (by omega)
    have eX : at2 (cV c (e + 1)) (sub2 (cV c e) (cV c (e + 1))) (N * D * (B + 1)) ((N * D - p) * (B + 1) - 1) = pX (cV c e) (cV c (e + 1)) (N * D * (B + 1) - ((N * D - p) * (B + 1) - 1)) (N * D * (B + 1)) := by
      have := pX_rev (cV c e) (cV c (e + 1)) (N * D * (B + 1) - ((N * D - p) * (B + 1) - 1)) (N * D * (B + 1))
      rw [show N * D * (B + 1) - (N * D * (B + 1) - ((N * D - p) * (B + 1) - 1)) = (N * D - p) * (B + 1) - 1 by omega] at this
      exact this
    have hb := ba (N * D * (B + 1) - ((N * D - p) * (B + 1) - 1)) (N * D * (B + 1)) (by omega) (by omega)
    rw [D1] at hb
    rw [eX, ← ng_sub, sub_dv, hb] at l2
    have f := fo p (N * D) n2 q1
    rw [D1] at f
    rw [f] at l2
    revert l2
    cases sd (cV c) (sr c r) (ml c r) <;> cases al (TG c r) (N * D) (pX (cV c e) (cV c (e + 1)) p (N * D)) (dv (cV c) e) <;> simp
  · rw [← al_dir q2, ← al_sc (TG c r) n1, n4]
    obtain ⟨B, b1, b2⟩ := lim_R (TG c r) 1 (cV c e) (dv (cV c) e)
    have l2 := (b2 (N * D) p (B + 1) hND (by omega)).2
    have l3 := Av_l G hne p hND
    rw [sub_dv] at l3
    rw [← l3] at l2
    unfold Av at l2
    simp only [D1] at l2
    rw [sub_dv] at l2
    have hK : 0 < N * D * (B + 1) := Int.mul_pos hND (by omega)
    have p1 : 1 ≤ p * (B + 1) := by
      have := Int.mul_le_mul (show 1 ≤ p by omega) (show 1 ≤ B + 1 by omega) (by omega) (by omega)
      omega
    have p2 : p * (B + 1) ≤ N * D * (B + 1) := Int.mul_le_mul_of_nonneg_right n3 (by omega)
    have f := fo (p * (B + 1) - 1) (N * D * (B + 1)) (by omega) (by omega)
    unfold pX at f
    rw [D1, sub_dv] at f
    rw [f] at l2
    have b := ba p (N * D) q1 n3
    rw [D1] at b
    rw [b] at l2
    revert l2
    cases sd (cV c) (sr c r) (ml c r) <;> cases al (TG c r) (N * D) (pX (cV c e) (cV c (e + 1)) p (N * D)) (ng (dv (cV c) e)) <;> simp
set_option maxHeartbeats 200000 in
theorem al_rings {d : Ct} (G : WF d) (hk : cK d ≠ 0) (D : Int) (X g : V2) : al (TC d) D X g = xs (fun q => al (TG d q) D X g) 0 (cR d) := XS_TC G hk _
set_option maxHeartbeats 200000 in
theorem al_cov {d : Ct} (G : WF d) (hk : cK d ≠ 0) (hS : ∀ r, r < cR d → SmR d r) (hR : RPd d) {D : Int} (hD : 0 < D) (X g : V2) : al (TC d) D X g = dB (cov (TC d) D X g) := by
  by_cases z : cov (TC d) D X g
  · obtain ⟨a, ha, da⟩ := z
    rw [dB_t ⟨a, ha, da⟩, al_dir da, al_rings G hk]
    obtain ⟨r, hr, hra⟩ := (HW_TC G hk).mp ha
    rw [xs_one r (Nat.zero_le r) (by omega) (fun q _ hq hne => (hR r q hr (by omega) (fun y => hne y.symm)).1.al hD hra), al_ring (hS r hr) hD hra]
  · rw [dB_f z]
    exact hs_none (fun a y => dB_f (dir_z y)) (fun a ha => dB_f (fun d => z ⟨a, ha, d⟩))
set_option maxHeartbeats 200000 in
theorem cov_dir {T : Sy} {D : Int} {X g h : V2} (d : dir g h) : cov T D X g ↔ cov T D X h := ⟨fun ⟨a, h1, h2⟩ => ⟨a, h1, dir_tr (dir_sym d) h2⟩, fun ⟨a, h1, h2⟩ => ⟨a, h1, dir_tr d h2⟩⟩
/-! a half-way of d that lies on none of c is not inside c -/
set_option maxHeartbeats 200000 in
theorem out_HW {c d : Ct} (F : WF c) (hc : GD (TC c)) (G : WF d) (hk : cK d ≠ 0) (hS : ∀ r, r < cR d → SmR d r) (hni : ¬ InW (wy d) (cV d) (TC c)) {D : Int} (hD : 0 < D) {X g : V2} (hg : HW (TC d) D X g) (hn : ¬ cov (TC c) D X g) : pa (TC c) D X g = false := by
  obtain ⟨r, hr, hrg⟩ := (HW_TC G hk).mp hg
  obtain ⟨e, N, p, e1, e2, n1, n2, n3, n4, n5⟩ := HW_par (hS r hr) hD hrg
  have hne := ND_r (hS r hr) ⟨e1, e2⟩
  have hND : 0 < N * D := Int.mul_pos n1 hD
  have wye := wy_ring' G hk hr e1 e2
  have no : ∀ p D, 0 ≤ p → p < D → ¬ cvT (TC c) (cV d e) (cV d (e + 1)) p D → paT (TC c) (cV d e) (cV d (e + 1)) p D = false := by
    intro p D h1 h2 h3
    cases z : paT (TC c) (cV d e) (cV d (e + 1)) p D with
    | false => rfl
    | true => exact (hni ⟨e, wye, p, D, h1, h2, h3, z⟩).elim
  rcases n5 with ⟨q1, q2⟩ | ⟨q1, q2⟩
  · have := no p (N * D) n2 q1 (fun z => hn (by
      unfold cvT at z
      rw [D1, sub_dv, ← n4, cov_sc _ n1] at z
      exact (cov_dir q2).mp z))
    unfold paT at this
    rw [D1, sub_dv, ← n4, pa_sc _ n1] at this
    rw [← pa_dir hc hD q2]; exact this
  · obtain ⟨B, b1, b2⟩ := lim_R (TC c) 1 (cV d e) (dv (cV d) e)
    have hw := whl_pos hne
    have l2 := (b2 (N * D) p (B + whl (cV d e) (cV d (e + 1))) hND (by omega)).2
    have l3 := Av_l hc hne p hND
    rw [sub_dv] at l3
    rw [← l3] at l2
    have hK : 1 ≤ B + whl (cV d e) (cV d (e + 1)) := by omega
    have p1 : 1 ≤ p * (B + whl (cV d e) (cV d (e + 1))) := by
      have := Int.mul_le_mul (show 1 ≤ p by omega) hK (by omega) (by omega)
      omega
    have p2 : p * (B + whl (cV d e) (cV d (e + 1))) ≤ N * D * (B + whl (cV d e) (cV d (e + 1))) := Int.mul_le_mul_of_nonneg_right n3 (by omega)
    have nb : ¬ cov (TC c) (N * D * 1) (pX (cV d e) (cV d (e + 1)) p (N * D)) (ng (sub2 (cV d (e + 1)) (cV d e))) := by
      intro z
      rw [D1, sub_dv, ← n4, cov_sc _ n1] at z
      exact hn ((cov_dir q2).mp z)
    have := no _ _ (show 0 ≤ p * (B + whl (cV d e) (cV d (e + 1))) - 1 by omega) (show p * (B + whl (cV d e) (cV d (e + 1))) - 1 < N * D * (B + whl (cV d e) (cV d (e + 1))) by omega) (fun z => nb (back_cov hne q1 n3 (by omega) z))
    unfold paT pX at this
    rw [sub_dv, l2] at this
    unfold Av at this
    have a0 : al (TC c) (N * D * 1) (pX (cV d e) (cV d (e + 1)) p (N * D)) (ng (sub2 (cV d (e + 1)) (cV d e))) = false := hs_none (fun a y => dB_f (dir_z y)) (fun a ha => dB_f (fun d' => nb ⟨a, ha, d'⟩))
    rw [a0, Bool.xor_false, D1, sub_dv, ← n4, pa_sc _ n1] at this
    rw [← pa_dir hc hD q2]; exact this

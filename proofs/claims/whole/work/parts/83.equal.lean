/-! GEOMETRY: two polygons of which neither enters the other -/
set_option maxHeartbeats 200000 in
theorem fo_HW {c : Ct} (hc : Good c) {i : Nat} (hi : wy c i) {p D : Int} (hp : 0 ≤ p) (hD : p < D) : ∃ g, HW (TC c) (D * 1) (pX (cV c i) (cV c (i + 1)) p D) g ∧ dir (dv (cV c) i) g := by
  obtain ⟨r, hr, h1, h2⟩ := wy_r hc.1 hi
  obtain ⟨g, hg, dg⟩ := HW_forth (hc.2.2.1 r hr) h1 h2 hp hD
  exact ⟨g, (HW_TC hc.1 hc.k).mpr ⟨r, hr, hg⟩, dg⟩
set_option maxHeartbeats 200000 in
theorem fo_pa {c : Ct} (hc : Good c) {i : Nat} (hi : wy c i) {p D : Int} (hp : 0 ≤ p) (hD : p < D) : pa (TC c) (D * 1) (pX (cV c i) (cV c (i + 1)) p D) (dv (cV c) i) = iL c (rO c i) := by
  obtain ⟨r, hr, h1, h2⟩ := wy_r hc.1 hi
  rw [rO_e hc.1 hr h1 h2]
  have hS := hc.2.2.1 r hr
  have nd := hS.2.2.1 i h1 h2
  obtain ⟨ho, _, f2⟩ := par_HW hS h1 h2 hp (show p ≤ D by omega) (by omega)
  have n2 : nz (rl (TG c r) (D * 1) (pX (cV c i) (cV c (i + 1)) p D) (i + 1)) := by rw [f2]; exact (dir_nz (dir_pos (u := D - p) (by omega) nd)).2
  exact (hc.LP r i hr h1 h2 _ _ (by omega) ho).1 n2
set_option maxHeartbeats 200000 in
theorem fo_bt {c d : Ct} (hc : Good c) (hd : Good d) {i : Nat} (hi : wy c i) {p D : Int} (hp : 0 ≤ p) (hD : p < D) : bt c d (D * 1) (pX (cV c i) (cV c (i + 1)) p D) (dv (cV c) i) = (paT (TC d) (cV c i) (cV c (i + 1)) p D ^^ (!iL c (rO c i) && dB (cvT (TC d) (cV c i) (cV c (i + 1)) p D))) := by
  obtain ⟨g, hg, dg⟩ := fo_HW hc hi hp hD
  unfold bt
  rw [dB_t (dir_nz dg).1, Bool.true_and, fo_pa hc hi hp hD, al_cov hd.1 hd.k hd.2.2.1 hd.2.2.2 (by omega)]
  rfl
/-! a way of the one lies along the other with the inside on the same side -/
set_option maxHeartbeats 200000 in
theorem SaW_no {c d : Ct} (hc : Good c) (hd : Good d) (hO : One c) (hni : ¬ InW (wy d) (cV d) (TC c)) (h : SaW c (TC d)) : ¬ OuW (wy c) (cV c) (TC d) := by
  obtain ⟨κ, hκ⟩ := Conn hc hd hO hni
  have all : ∀ i, wy c i → ∀ p D, 0 ≤ p → p < D → bt c d (D * 1) (pX (cV c i) (cV c (i + 1)) p D) (dv (cV c) i) = κ := by
    intro i hi p D hp hD
    obtain ⟨g, hg, dg⟩ := fo_HW hc hi hp hD
    rw [bt_dir hc.gd hd.gd (by omega) dg]
    exact hκ _ _ _ (by omega) hg
  obtain ⟨i, hi, p, D, hp, hD, h1, h2⟩ := h
  have a := all i hi p D hp hD
  rw [fo_bt hc hd hi hp hD, dB_t h1, h2] at a
  rintro ⟨j, hj, q, E, hq, hE, h3, h4⟩
  have b := all j hj q E hq hE
  rw [fo_bt hc hd hj hq hE, dB_f h3, h4, ← a] at b
  revert b
  cases iL c (rO c i) <;> cases iL c (rO c j) <;> decide
set_option maxHeartbeats 200000 in
theorem SaW_sym {c d : Ct} (hc : Good c) (hd : Good d) (h : SaW c (TC d)) : ∃ D X a, 0 < D ∧ HW (TC d) D X a ∧ bt d c D X a = true := by
  obtain ⟨i, hi, p, D, hp, hD, h1, h2⟩ := h
  obtain ⟨a, ha, da⟩ := h1
  refine ⟨D * 1, _, a, by omega, ha, ?_⟩
  obtain ⟨g, hg, dg⟩ := fo_HW hc hi hp hD
  have e : bt d c (D * 1) (pX (cV c i) (cV c (i + 1)) p D) a = bt d c (D * 1) (pX (cV c i) (cV c (i + 1)) p D) (dv (cV c) i) := (bt_dir hd.gd hc.gd (by omega) da).symm
  rw [e]
  have h2' : pa (TC d) (D * 1) (pX (cV c i) (cV c (i + 1)) p D) (dv (cV c) i) = iL c (rO c i) := h2
  have al1 : al (TC c) (D * 1) (pX (cV c i) (cV c (i + 1)) p D) (dv (cV c) i) = true := by rw [al_cov hc.1 hc.k hc.2.2.1 hc.2.2.2 (by omega)]; exact dB_t ⟨g, hg, dg⟩
  unfold bt
  rw [dB_t (dir_nz dg).1, Bool.true_and, fo_pa hc hi hp hD, h2', al1]
  cases iL c (rO c i) <;> rfl
set_option maxHeartbeats 200000 in
theorem SaW_no' {c d : Ct} (hc : Good c) (hd : Good d) (hO : One d) (hni : ¬ InW (wy c) (cV c) (TC d)) (h : SaW c (TC d)) : ¬ OuW (wy d) (cV d) (TC c) := by
  obtain ⟨κ, hκ⟩ := Conn hd hc hO hni
  obtain ⟨D, X, a, hD, ha, b⟩ := SaW_sym hc hd h
  rw [hκ D X a hD ha] at b
  subst b
  rintro ⟨j, hj, q, E, hq, hE, h3, h4⟩
  obtain ⟨g, hg, dg⟩ := fo_HW hd hj hq hE
  have k := hκ _ _ _ (by omega) hg
  rw [← bt_dir hd.gd hc.gd (by omega) dg, fo_bt hd hc hj hq hE, dB_f h3, h4] at k
  revert k
  cases iL d (rO d j) <;> decide
/-! where each lies along the other they are the same -/
set_option maxHeartbeats 200000 in
theorem cov_all {c d : Ct} (hc : Good c) (h1 : ¬ InW (wy c) (cV c) (TC d)) (h2 : ¬ OuW (wy c) (cV c) (TC d)) {D : Int} (hD : 0 < D) {X g : V2} (hg : HW (TC c) D X g) : cov (TC d) D X g := by
  obtain ⟨r, hr, hrg⟩ := (HW_TC hc.1 hc.k).mp hg
  have hS := hc.2.2.1 r hr
  have fw : ∀ e, sr c r ≤ e → e < sr c r + ml c r → ∀ p D, 0 ≤ p → p < D → cvT (TC d) (cV c e) (cV c (e + 1)) p D := by
    intro e e1 e2 p D hp hD
    have w := wy_ring' hc.1 hc.k hr e1 e2
    refine Classical.byContradiction (fun n => ?_)
    cases z : paT (TC d) (cV c e) (cV c (e + 1)) p D with
    | true => exact h1 ⟨e, w, p, D, hp, hD, n, z⟩
    | false => exact h2 ⟨e, w, p, D, hp, hD, n, z⟩
  obtain ⟨e, N, p, e1, e2, n1, n2, n3, n4, n5⟩ := HW_par hS hD hrg
  have hne := ND_r hS ⟨e1, e2⟩
  have hND : 0 < N * D := Int.mul_pos n1 hD
  rw [← cov_sc (TC d) n1, n4]
  rcases n5 with ⟨q1, q2⟩ | ⟨q1, q2⟩
  · have := fw e e1 e2 p (N * D) n2 q1
    unfold cvT at this
    rw [D1] at this
    exact (cov_dir q2).mp this
  · have hK : 0 < whl (cV c e) (cV c (e + 1)) := whl_pos hne
    have t1 : 1 ≤ p * whl (cV c e) (cV c (e + 1)) := Int.mul_pos q1 hK
    have t2 : p * whl (cV c e) (cV c (e + 1)) ≤ N * D * whl (cV c e) (cV c (e + 1)) := Int.mul_le_mul_of_nonneg_right n3 (by omega)
    have := fw e e1 e2 (p * whl (cV c e) (cV c (e + 1)) - 1) (N * D * whl (cV c e) (cV c (e + 1))) (by omega) (by omega)
    have b := back_cov hne q1 n3 (Int.le_refl _) this
    rw [D1] at b
    exact (cov_dir q2).mp b
set_option maxHeartbeats 200000 in
theorem SaW_of {c d : Ct} (hc : Good c) (hd : Good d) (h1 : ¬ InW (wy c) (cV c) (TC d)) (h2 : ¬ OuW (wy c) (cV c) (TC d)) (h3 : ¬ InW (wy d) (cV d) (TC c)) (h4 : ¬ OuW (wy d) (cV d) (TC c)) : SaW c (TC d) := by
  have hR := hc.1.r
  have hN := hc.1.n
  have psi : ∀ D X s, 0 < D → nz s → pa (TC c) D X s = pa (TC d) D X s := by
    intro D X s hD hs'
    have := Psi (ψ := fun x y _ => x ^^ y) (T := (TC c, TC d, TC d)) ⟨hc.gd, hd.gd, hd.gd⟩ (fun D X hD g hg => ?_) hD X hs'
    · have t : (pa (TC c) D X s ^^ pa (TC d) D X s) = false := this
      revert t
      cases pa (TC c) D X s <;> cases pa (TC d) D X s <;> simp
    · have both : al (TC c) D X g = true ∧ al (TC d) D X g = true := by
        have a : cov (TC c) D X g ∧ cov (TC d) D X g := by
          rcases hg with h | h | h
          · exact ⟨⟨g, h, dir_self h.1⟩, cov_all hc h1 h2 hD h⟩
          · exact ⟨cov_all hd h3 h4 hD h, ⟨g, h, dir_self h.1⟩⟩
          · exact ⟨cov_all hd h3 h4 hD h, ⟨g, h, dir_self h.1⟩⟩
        exact ⟨by rw [al_cov hc.1 hc.k hc.2.2.1 hc.2.2.2 hD]; exact dB_t a.1, by rw [al_cov hd.1 hd.k hd.2.2.1 hd.2.2.2 hD]; exact dB_t a.2⟩
      unfold pa3
      dsimp only
      rw [both.1, both.2]
      cases pa (TC c) D X g <;> cases pa (TC d) D X g <;> rfl
  have hS := hc.2.2.1 0 (by omega)
  have hm := hS.1
  have w := wy_ring' hc.1 hc.k (show 0 < cR c by omega) (Nat.le_refl _) (show sr c 0 < sr c 0 + ml c 0 by omega)
  obtain ⟨g, hg, dg⟩ := fo_HW hc w (p := 0) (D := 1) (by omega) (by omega)
  refine ⟨sr c 0, w, 0, 1, by omega, by omega, ?_, ?_⟩
  · exact (cov_dir dg).mpr (cov_all hc h1 h2 (by omega) hg)
  · rw [← fo_pa hc w (p := 0) (D := 1) (by omega) (by omega), psi _ _ _ (by omega) (dir_nz dg).1]
    rfl
/-! the two answers for polygons -/
set_option maxHeartbeats 200000 in
theorem same_iff {c d : Ct} (hc : Good c) (hd : Good d) (oc : One c) (od : One d) (h1 : ¬ InW (wy c) (cV c) (TC d)) (h3 : ¬ InW (wy d) (cV d) (TC c)) : SaW c (TC d) ↔ (¬ OuW (wy c) (cV c) (TC d) ∧ ¬ OuW (wy d) (cV d) (TC c)) :=
  ⟨fun h => ⟨SaW_no hc hd oc h3 h, SaW_no' hc hd od h1 h⟩, fun h => SaW_of hc hd h1 h.1 h3 h.2⟩
set_option maxHeartbeats 200000 in
theorem AlW_of {c d : Ct} (hc : Good c) (h1 : ¬ InW (wy c) (cV c) (TC d)) (h2 : ¬ OuW (wy c) (cV c) (TC d)) : AlW (wy c) (cV c) (TC d) := by
  have hR := hc.1.r
  have hS := hc.2.2.1 0 (by omega)
  have hm := hS.1
  have w := wy_ring' hc.1 hc.k (show 0 < cR c by omega) (Nat.le_refl _) (show sr c 0 < sr c 0 + ml c 0 by omega)
  obtain ⟨g, hg, dg⟩ := fo_HW hc w (p := 0) (D := 1) (by omega) (by omega)
  exact ⟨sr c 0, w, 0, 1, by omega, by omega, (cov_dir dg).mpr (cov_all hc h1 h2 (by omega) hg)⟩

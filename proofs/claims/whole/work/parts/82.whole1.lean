/-! GEOMETRY: the rings of one piece all have the same number -/
noncomputable def TU (c : Ct) (k : Nat → Bool) : Sy := (cV c, fun e => dB (∃ r, r < cR c ∧ k r = true ∧ rgw c r e), 0, cN c - 1)
set_option maxHeartbeats 200000 in
theorem XS_TU {c : Ct} (F : WF c) (hk : cK c ≠ 0) (k : Nat → Bool) (f : Nat → Bool) : XS (TU c k) f = xs (fun r => k r && XS (TG c r) f) 0 (cR c) := by
  have e1 : XS (TU c k) f = XS (TC c) (fun e => dB (∃ r, r < cR c ∧ k r = true ∧ rgw c r e) && f e) := by
    show xs (fun e => dB (∃ r, r < cR c ∧ k r = true ∧ rgw c r e) && f e) 0 (cN c - 1) = xs (fun e => dB (wy c e) && (dB (∃ r, r < cR c ∧ k r = true ∧ rgw c r e) && f e)) 0 (cN c - 1)
    refine xs_congr (fun e _ _ => ?_)
    by_cases q : ∃ r, r < cR c ∧ k r = true ∧ rgw c r e
    · obtain ⟨r, h1, h2, h3⟩ := id q
      rw [dB_t q, dB_t (wy_ring' F hk h1 h3.1 h3.2)]; rfl
    · rw [dB_f q, Bool.false_and, Bool.and_false]
  rw [e1, XS_TC F hk]
  refine xs_congr (fun r _ hr => ?_)
  rw [← XS_and]
  refine XS_congr (fun e he => ?_)
  obtain ⟨h1, h2⟩ := inTG.mp he
  have : dB (∃ r, r < cR c ∧ k r = true ∧ rgw c r e) = k r := by
    cases hkr : k r with
    | true => exact dB_t ⟨r, by omega, hkr, h1, h2⟩
    | false =>
      refine dB_f (fun ⟨q, q1, q2, q3⟩ => ?_)
      have a := rO_e F (show r < cR c by omega) h1 h2
      have b := rO_e F q1 q3.1 q3.2
      rw [a] at b
      rw [← b, hkr] at q2
      cases q2
  rw [this]
set_option maxHeartbeats 200000 in
theorem GD_TU {c : Ct} (F : WF c) (hk : cK c ≠ 0) (h : ∀ r, r < cR c → SmR c r) (k : Nat → Bool) : GD (TU c k) := by
  refine ⟨fun w => ?_, fun e he => ?_⟩
  · rw [XS_TU F hk]
    refine xs_none (fun r _ hr => ?_)
    have : XS (TG c r) (fun e => w (sV (TU c k) e) ^^ w (sV (TU c k) (e + 1))) = false := (GD_TG (h r (by omega))).1 w
    rw [this, Bool.and_false]
  · obtain ⟨_, _, h3⟩ := he
    obtain ⟨r, r1, _, r3⟩ := dB_i.mp h3
    exact ND_r (h r r1) r3
set_option maxHeartbeats 200000 in
theorem pa_TU {c : Ct} (F : WF c) (hk : cK c ≠ 0) (k : Nat → Bool) (D : Int) (X s : V2) : pa (TU c k) D X s = xs (fun r => k r && pa (TG c r) D X s) 0 (cR c) := XS_TU F hk k _
set_option maxHeartbeats 200000 in
theorem al_TU {c : Ct} (F : WF c) (hk : cK c ≠ 0) (k : Nat → Bool) (D : Int) (X g : V2) : al (TU c k) D X g = xs (fun r => k r && al (TG c r) D X g) 0 (cR c) := XS_TU F hk k _
set_option maxHeartbeats 200000 in
theorem HW_TU {c : Ct} (F : WF c) (hk : cK c ≠ 0) {k : Nat → Bool} {D : Int} {X g : V2} (h : HW (TU c k) D X g) : HW (TC c) D X g := by
  obtain ⟨hz, e, he, ho, hg⟩ := h
  obtain ⟨_, _, h3⟩ := he
  obtain ⟨r, r1, _, r3⟩ := dB_i.mp h3
  exact ⟨hz, e, inTC.mpr (wy_ring' F hk r1 r3.1 r3.2), ho, hg⟩
set_option maxHeartbeats 200000 in
theorem al_at {c : Ct} (hc : Good c) {r : Nat} (hr : r < cR c) {D : Int} (hD : 0 < D) {X g : V2} (hg : HW (TG c r) D X g) (k : Nat → Bool) : al (TU c k) D X g = k r := by
  rw [al_TU hc.1 hc.k, xs_one r (Nat.zero_le r) (by omega) (fun q _ hq hne => ?_), al_ring (hc.2.2.1 r hr) hD hg, Bool.and_true]
  rw [(hc.2.2.2 r q hr (by omega) (fun y => hne y.symm)).1.al hD hg, Bool.and_false]
set_option maxHeartbeats 200000 in
theorem Conn {c d : Ct} (hc : Good c) (hd : Good d) (hO : One c) (hni : ¬ InW (wy d) (cV d) (TC c)) : ∃ κ, ∀ D X g, 0 < D → HW (TC c) D X g → bt c d D X g = κ := by
  have hN := hc.1.n
  have hR := hc.1.r
  have ex : ∀ r, ∃ κ, r < cR c → ∀ D X g, 0 < D → HW (TG c r) D X g → bt c d D X g = κ := by
    intro r
    by_cases hr : r < cR c
    · obtain ⟨κ, h⟩ := ring_bt hc hd hr (fun D X hD => dl_zero hc hd hni hO hr hD X)
      exact ⟨κ, fun _ => h⟩
    · exact ⟨false, fun y => (hr y).elim⟩
  obtain ⟨κ, hκ⟩ := Classical.axiomOfChoice ex
  refine ⟨κ 0, ?_⟩
  have Gc := hc.gd
  have Gd := hd.gd
  have GU := GD_TU hc.1 hc.k hc.2.2.1 (fun r => κ r ^^ κ 0)
  have psi : ∀ D X s, 0 < D → nz s → ((pa (TC c) D X s && (pa (TC d) D X s ^^ κ 0)) ^^ pa (TU c (fun r => κ r ^^ κ 0)) D X s) = false := by
    intro D X s hD hs'
    have := Psi (ψ := fun x y z => (x && (y ^^ κ 0)) ^^ z) (T := (TC c, TC d, TU c (fun r => κ r ^^ κ 0))) ⟨Gc, Gd, GU⟩ (fun D X hD g hg => ?_) hD X hs'
    · unfold pa3 at this
      refine this.trans ?_
      cases κ 0 <;> rfl
    · unfold pa3
      dsimp only
      by_cases cv : cov (TC c) D X g
      · obtain ⟨a, ha, da⟩ := id cv
        obtain ⟨r, hr, hra⟩ := (HW_TC hc.1 hc.k).mp ha
        have b := hκ r hr D X a hD hra
        have ac : al (TC c) D X a = true := by rw [al_cov hc.1 hc.k hc.2.2.1 hc.2.2.2 hD]; exact dB_t ⟨a, ha, dir_self ha.1⟩
        rw [pa_dir Gc hD da, pa_dir Gd hD da, pa_dir GU hD da, al_dir da, al_dir da, al_dir da, al_at hc hr hD hra, ac]
        unfold bt at b
        rw [dB_t ha.1, Bool.true_and] at b
        revert b
        generalize pa (TU c (fun r => κ r ^^ κ 0)) D X a = u
        cases pa (TC c) D X a <;> cases pa (TC d) D X a <;> cases al (TC d) D X a <;> cases κ r <;> cases κ 0 <;> cases u <;> decide
      · have hdg : HW (TC d) D X g := by
          rcases hg with h | h | h
          · exact (cv ⟨g, h, dir_self h.1⟩).elim
          · exact h
          · exact (cv ⟨g, HW_TU hc.1 hc.k h, dir_self h.1⟩).elim
        have z1 := out_HW hc.1 Gc hd.1 hd.k hd.2.2.1 hni hD hdg cv
        have z2 : al (TC c) D X g = false := by rw [al_cov hc.1 hc.k hc.2.2.1 hc.2.2.2 hD]; exact dB_f cv
        have z3 : al (TU c (fun r => κ r ^^ κ 0)) D X g = false := by
          refine hs_none (fun b z => dB_f (dir_z z)) (fun b hb => dB_f (fun k => cv ⟨b, HW_TU hc.1 hc.k hb, k⟩))
        rw [z1, z2, z3, Bool.xor_false, Bool.xor_false, Bool.false_and, Bool.false_and]
  intro D X g hD hg
  obtain ⟨r, hr, hrg⟩ := (HW_TC hc.1 hc.k).mp hg
  rw [hκ r hr D X g hD hrg]
  by_cases z : r = 0
  · rw [z]
  · -- a hole with another number would be inside itself
    refine Classical.byContradiction (fun hne => ?_)
    have xr : (κ r ^^ κ 0) = true := by revert hne; cases κ r <;> cases κ 0 <;> simp
    have hS := hc.2.2.1 r hr
    have key : ∀ D X g, 0 < D → HW (TG c r) D X g → pa (TC c) D X g = true := by
      intro D X g hD hg
      have p := psi D X g hD hg.1
      have a := pa_at hc.1 hc.k hc.2.2.2 hr hD hg
      rw [decide_eq_true z] at a
      have u : pa (TU c (fun r => κ r ^^ κ 0)) D X g = pa (TG c r) D X g := by
        rw [pa_TU hc.1 hc.k, xs_one r (Nat.zero_le r) (by omega) (fun q _ hq hn => ?_), xr, Bool.true_and]
        by_cases q0 : q = 0
        · rw [q0, Bool.xor_self, Bool.false_and]
        · rw [(hc.2.2.2 r q hr (by omega) (fun y => hn y.symm)).2 D X g hD hg, decide_eq_false q0, Bool.and_false]
      rw [u] at p
      revert p a
      cases pa (TC c) D X g <;> cases pa (TG c r) D X g <;> simp
    have hm := hS.1
    obtain ⟨g1, hg1, dg1⟩ := HW_forth (p := 1) (D := 2) hS (Nat.le_refl _) (show sr c r < sr c r + ml c r by omega) (by omega) (by omega)
    obtain ⟨g2, hg2, dg2⟩ := HW_back (p := 1) (D := 2) hS (Nat.le_refl _) (show sr c r < sr c r + ml c r by omega) (by omega) (by omega)
    have k1 := key _ _ _ (by omega) hg1
    have k2 := key _ _ _ (by omega) hg2
    rw [← pa_dir Gc (by omega) dg1] at k1
    rw [← pa_dir Gc (by omega) dg2] at k2
    have nd := hS.2.2.1 (sr c r) (Nat.le_refl _) (by omega)
    obtain ⟨ho, f1, f2⟩ := par_HW (p := 1) (D := 2) hS (Nat.le_refl _) (show sr c r < sr c r + ml c r by omega) (by omega) (by omega) (by omega)
    have lp := hc.LP r (sr c r) hr (Nat.le_refl _) (by omega) _ _ (by omega) ho
    have l1 := lp.1 (show nz (rl (TG c r) (2 * 1) _ _) by rw [f2]; exact (dir_nz (dir_pos (u := 2 - 1) (by omega) nd)).2)
    have l2 := lp.2 (show nz (rl (TG c r) (2 * 1) _ _) by rw [f1]; exact (dir_nz (dir_neg (u := -1) (by omega) nd)).2)
    rw [k1] at l1
    rw [k2, ← l1] at l2
    cases l2

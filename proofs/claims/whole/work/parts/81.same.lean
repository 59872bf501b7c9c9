/-! GEOMETRY: without a circle nothing changes at a touching point -/
set_option maxHeartbeats 200000 in
theorem HW_on {c : Ct} (hc : Good c) {r : Nat} (hr : r < cR c) {Z g : V2} (h : HW (TG c r) 1 Z g) : onR c r Z := by
  obtain ⟨_, e, he, ho, _⟩ := h
  obtain ⟨e1, e2⟩ := inTG.mp he
  have ho' : on0 (vw 1 Z (cV c e)) (vw 1 Z (cV c (e + 1))) := ho
  rw [vw_1, vw_1] at ho'
  exact ⟨e, e1, by unfold ml at e2; omega, on_sid.mpr ho'⟩
set_option maxHeartbeats 200000 in
theorem dl_zero {c d : Ct} (hc : Good c) (hd : Good d) (hni : ¬ InW (wy d) (cV d) (TC c)) (hO : One c) {r : Nat} (hr : r < cR c) {D : Int} (hD : 0 < D) (X : V2) : dl c d r D X = false := by
  have at1 : ∀ Z, Z ∈ uqL c (cN c) 0 → ∀ r, r < cR c → dl c d r 1 Z = false := by
    refine one_zero (δ := fun r Z => dl c d r 1 Z) (fun r Z hr' h => ?_) (fun Z => dl_sum hc hd hni (by omega) Z) (cN c) 0 id hO (fun m => ?_)
    · by_cases q : ∀ g, ¬ HW (TG c r) 1 Z g
      · rw [dl_off q] at h; cases h
      · refine Classical.byContradiction (fun n => q (fun g hg => n (HW_on hc hr' hg)))
    · refine xs_none (fun q _ hq => ?_)
      rw [dl_ring hc hd hni (by omega), Bool.and_false]
  have place : ∀ k, k < cN c → zro (vw D X (cV c k)) → dl c d r D X = false := by
    intro k hk hz
    have e : X = scV D (cV c k) := by
      obtain ⟨z1, z2⟩ := hz
      unfold vw at z1 z2
      simp only at z1 z2
      unfold scV
      exact V2_eq.mpr ⟨by simp only; omega, by simp only; omega⟩
    have s := dl_sc (c := c) (d := d) hD r 1 (cV c k) hc.gd hd.gd (by omega)
    rw [Int.mul_one] at s
    rw [e, s]
    exact at1 _ (uq_all k hk) r hr
  by_cases q : ∀ q, q < cR c → q ≠ r → ∀ g, ¬ HW (TG c q) D X g
  · exact dl_alone hc hd hni hD hr q
  · obtain ⟨q1, h1, h2, g, hg⟩ : ∃ q, q < cR c ∧ q ≠ r ∧ ∃ g, HW (TG c q) D X g :=
      Classical.byContradiction (fun n => q (fun q1 h1 h2 g hg => n ⟨q1, h1, h2, g, hg⟩))
    by_cases y : ∀ g, ¬ HW (TG c r) D X g
    · exact dl_off y
    · obtain ⟨g', _, e, he, ho, _⟩ : ∃ g, HW (TG c r) D X g := Classical.byContradiction (fun n => y (fun g hg => n ⟨g, hg⟩))
      obtain ⟨e1, e2⟩ := inTG.mp he
      have hml : sr c r + ml c r < cN c := by have := sr_lt hc.1 hr; have := (hc.1.e hr).2; unfold ml; omega
      by_cases za : zro (rl (TG c r) D X e)
      · exact place e (by omega) za
      · by_cases zb : zro (rl (TG c r) D X (e + 1))
        · exact place (e + 1) (by omega) zb
        · obtain ⟨k, k1, k2⟩ := touch hc hr h1 (fun y => h2 y.symm) hD e1 e2 ho za zb hg
          exact place k k1 k2
/-! one number for each ring -/
set_option maxHeartbeats 200000 in
theorem ring_bt {c d : Ct} (hc : Good c) (hd : Good d) {r : Nat} (hr : r < cR c) (h0 : ∀ D X, 0 < D → dl c d r D X = false) : ∃ κ, ∀ D X g, 0 < D → HW (TG c r) D X g → bt c d D X g = κ := by
  have h := hc.2.2.1 r hr
  have hm := h.1
  have B := Bt_bt hc hd
  have way : ∀ e, sr c r ≤ e → e < sr c r + ml c r → ∃ κ, (∀ p D, 0 ≤ p → p < D → bt c d (D * 1) (pX (cV c e) (cV c (e + 1)) p D) (dv (cV c) e) = κ) ∧ (∀ p D, 0 < p → p ≤ D → bt c d (D * 1) (pX (cV c e) (cV c (e + 1)) p D) (ng (dv (cV c) e)) = κ) := by
    intro e e1 e2
    have hne := ND_r h ⟨e1, e2⟩
    have mid : ∀ p D, 0 < p → p < D → bt c d (D * 1) (pX (cV c e) (cV c (e + 1)) p D) (dv (cV c) e) = bt c d (D * 1) (pX (cV c e) (cV c (e + 1)) p D) (ng (dv (cV c) e)) := by
      intro p D hp hD
      have := dl_mid hc hd hr e1 e2 hp hD
      rw [h0 _ _ (by omega)] at this
      revert this
      cases bt c d (D * 1) (pX (cV c e) (cV c (e + 1)) p D) (dv (cV c) e) <;> cases bt c d (D * 1) (pX (cV c e) (cV c (e + 1)) p D) (ng (dv (cV c) e)) <;> simp
    obtain ⟨P, Q, hPQ, fo, ba⟩ := bt_way (d := d) hc hr e1 e2
    have ne' : P ≠ Q := by
      rcases hPQ with ⟨rfl, rfl⟩ | ⟨rfl, rfl⟩
      · exact hne
      · exact fun y => hne y.symm
    have mid' : ∀ p D, 0 < p → p < D → (Lv (TC d) P Q p D ^^ Av (TC d) P Q p D) = false := by
      intro p D hp hD
      rw [← fo p D (by omega) hD, ← ba p D hp (by omega)]
      rcases hPQ with ⟨rfl, rfl⟩ | ⟨rfl, rfl⟩
      · rw [sub_dv, mid p D hp hD, Bool.xor_self]
      · have ep : pX (cV c (e + 1)) (cV c e) p D = pX (cV c e) (cV c (e + 1)) (D - p) D := by rw [← pX_rev]
        rw [ep, ng_sub, sub_dv, ← ng_sub, sub_dv, mid (D - p) D (by omega) (by omega), Bool.xor_self]
    have all : ∀ p D, 0 ≤ p → p < D → Lv (TC d) P Q p D = Av (TC d) P Q 1 1 := by
      intro p D hp hD
      have := jw hd.gd ne' (L := []) (by simp) (fun p D a b y => by rw [mid' p D a b] at y; cases y) _ p D hp hD rfl
      rw [xl] at this
      revert this
      cases Lv (TC d) P Q p D <;> cases Av (TC d) P Q 1 1 <;> simp
    have fo' : ∀ p D, 0 ≤ p → p < D → bt c d (D * 1) (pX P Q p D) (sub2 Q P) = Av (TC d) P Q 1 1 := fun p D hp hD => by rw [fo p D hp hD, all p D hp hD]
    have ba' : ∀ p D, 0 < p → p ≤ D → bt c d (D * 1) (pX P Q p D) (ng (sub2 Q P)) = Av (TC d) P Q 1 1 := by
      intro p D hp hD
      by_cases z : p < D
      · have m := mid' p D hp z
        rw [all p D (by omega) z] at m
        rw [ba p D hp hD]
        revert m
        cases Av (TC d) P Q p D <;> cases Av (TC d) P Q 1 1 <;> simp
      · have : p = D := by omega
        subst this
        have one : pX P Q p p = scV p (pX P Q 1 1) := by unfold pX at2 scV sub2; refine Prod.ext ?_ ?_ <;> simp only <;> grind
        rw [one, ← ba 1 1 (by omega) (by omega), B.s' hp (by omega)]; rfl
    refine ⟨Av (TC d) P Q 1 1, fun p D hp hD => ?_, fun p D hp hD => ?_⟩
    · rcases hPQ with ⟨rfl, rfl⟩ | ⟨rfl, rfl⟩
      · exact fo' p D hp hD
      · have := ba' (D - p) D (by omega) (by omega)
        rw [pX_rev, ng_sub, sub_dv] at this
        exact this
    · rcases hPQ with ⟨rfl, rfl⟩ | ⟨rfl, rfl⟩
      · exact ba' p D hp hD
      · have := fo' (D - p) D (by omega) (by omega)
        rw [pX_rev, ← ng_sub, sub_dv] at this
        exact this
  have vtx : ∀ k, sr c r ≤ k → k + 1 < sr c r + ml c r → bt c d 1 (cV c (k + 1)) (dv (cV c) (k + 1)) = bt c d 1 (cV c (k + 1)) (ng (dv (cV c) k)) := by
    intro k h1 h2
    have s := h0 1 (cV c (k + 1)) (by omega)
    unfold dl at s
    rw [hs_vtx h h1 h2 _ (fun a z => bt_z z)] at s
    revert s
    cases bt c d 1 (cV c (k + 1)) (dv (cV c) (k + 1)) <;> cases bt c d 1 (cV c (k + 1)) (ng (dv (cV c) k)) <;> simp
  have ep : ∀ k, pX (cV c k) (cV c (k + 1)) 1 1 = cV c (k + 1) := fun k => by unfold pX at2 sub2; refine Prod.ext ?_ ?_ <;> simp only <;> omega
  have start : ∀ e, sr c r ≤ e → e < sr c r + ml c r → ∀ κ, (∀ p D, 0 ≤ p → p < D → bt c d (D * 1) (pX (cV c e) (cV c (e + 1)) p D) (dv (cV c) e) = κ) → bt c d 1 (cV c e) (dv (cV c) e) = κ := by
    intro e e1 e2 κ hk
    have := hk 0 1 (by omega) (by omega)
    rw [pX_0] at this
    exact this
  have all : ∀ k, k < ml c r → bt c d 1 (cV c (sr c r + k)) (dv (cV c) (sr c r + k)) = bt c d 1 (cV c (sr c r)) (dv (cV c) (sr c r)) := by
    intro k
    induction k with
    | zero => intro _; rfl
    | succ k ih =>
      intro hk
      rw [← ih (by omega)]
      obtain ⟨κ, w1, w2⟩ := way (sr c r + k) (by omega) (by omega)
      have a1 := start _ (by omega) (by omega) κ w1
      have a2 := w2 1 1 (by omega) (by omega)
      rw [ep] at a2
      have v := vtx (sr c r + k) (by omega) (by omega)
      rw [a1]
      exact v.trans a2
  refine ⟨bt c d 1 (cV c (sr c r)) (dv (cV c) (sr c r)), fun D X g hD hg => ?_⟩
  obtain ⟨e, N, p, e1, e2, n1, n2, n3, n4, n5⟩ := HW_par h hD hg
  obtain ⟨κ, w1, w2⟩ := way e e1 e2
  have ae : κ = bt c d 1 (cV c (sr c r)) (dv (cV c) (sr c r)) := by
    have := all (e - sr c r) (by omega)
    rw [show sr c r + (e - sr c r) = e by omega, start e e1 e2 κ w1] at this
    exact this
  have hND : 0 < N * D := Int.mul_pos n1 hD
  rw [← ae]
  rcases n5 with ⟨q1, q2⟩ | ⟨q1, q2⟩
  · rw [← bt_dir hc.gd hd.gd hD q2, ← B.s' n1 hD, n4]
    have := w1 p (N * D) n2 q1
    rw [D1] at this
    exact this
  · rw [← bt_dir hc.gd hd.gd hD q2, ← B.s' n1 hD, n4]
    have := w2 p (N * D) q1 n3
    rw [D1] at this
    exact this

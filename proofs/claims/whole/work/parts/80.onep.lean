/-! GEOMETRY: along one way nothing is lost -/
def Bt (β : Int → V2 → V2 → Bool) : Prop := (∀ D X a, zro a → β D X a = false) ∧ (∀ D X g h, 0 < D → dir g h → β D X g = β D X h) ∧ (∀ N D X g, 0 < N → 0 < D → β (N * D) (scV N X) (scV N g) = β D X g)
set_option maxHeartbeats 200000 in
theorem Bt.z {β : Int → V2 → V2 → Bool} (h : Bt β) : ∀ D X a, zro a → β D X a = false := h.1
set_option maxHeartbeats 200000 in
theorem Bt.d {β : Int → V2 → V2 → Bool} (h : Bt β) : ∀ D X g h, 0 < D → dir g h → β D X g = β D X h := h.2.1
set_option maxHeartbeats 200000 in
theorem Bt.s {β : Int → V2 → V2 → Bool} (h : Bt β) : ∀ N D X g, 0 < N → 0 < D → β (N * D) (scV N X) (scV N g) = β D X g := h.2.2
set_option maxHeartbeats 200000 in
theorem Bt.s' {β : Int → V2 → V2 → Bool} (h : Bt β) {N D : Int} (hN : 0 < N) (hD : 0 < D) (X g : V2) : β (N * D) (scV N X) g = β D X g := by
  by_cases z : zro g
  · rw [h.z _ _ _ z, h.z _ _ _ z]
  · rw [h.d _ _ g (scV N g) (Int.mul_pos hN hD) ((dir_sc hN).mpr (dir_self z)), h.s N D X g hN hD]
set_option maxHeartbeats 200000 in
theorem vw_1 (Z P : V2) : vw 1 Z P = sub2 P Z := by unfold vw sub2; refine Prod.ext ?_ ?_ <;> simp only <;> omega
set_option maxHeartbeats 200000 in
theorem sq_in {n q t : Int} (hn : 0 < n) (e : n * q = t * t) (h0 : 0 ≤ q) (h1 : q ≤ t) : 0 ≤ t ∧ t ≤ n := by
  refine ⟨by omega, ?_⟩
  by_cases z : t ≤ n
  · exact z
  · have a1 : (n + 1) * t ≤ t * t := Int.mul_le_mul_of_nonneg_right (by omega) (by omega)
    have a2 : n * q ≤ n * t := Int.mul_le_mul_of_nonneg_left h1 (by omega)
    rw [Int.add_mul, Int.one_mul] at a1
    omega
set_option maxHeartbeats 200000 in
theorem nW_pos {P Q : V2} (h : P ≠ Q) : 0 < nW P Q := dt_pos (nz_sub h)
set_option maxHeartbeats 200000 in
theorem sid_crs (P Q Z : V2) : crs (sub2 Z P) (sub2 Q P) = -sid P Q Z := by unfold crs sub2 sid; grind
set_option maxHeartbeats 200000 in
theorem on_par {P Q Z : V2} (hs : sid P Q Z = 0) : scV (nW P Q) Z = pX P Q (tW P Q Z) (nW P Q) := by
  have ev := al_vec (a := sub2 Z P) (v := sub2 Q P) (by rw [sid_crs, hs]; rfl)
  have g1 := congrArg Prod.fst ev
  have g2 := congrArg Prod.snd ev
  simp only at g1 g2
  unfold pX at2 scV nW tW
  refine Prod.ext ?_ ?_
  · show _ * Z.1 = _ * P.1 + _
    rw [← g1]
    have : dt (sub2 Q P) (sub2 Q P) * (sub2 Z P).1 = dt (sub2 Q P) (sub2 Q P) * Z.1 - dt (sub2 Q P) (sub2 Q P) * P.1 := by unfold sub2; rw [Int.mul_sub]
    omega
  · show _ * Z.2 = _ * P.2 + _
    rw [← g2]
    have : dt (sub2 Q P) (sub2 Q P) * (sub2 Z P).2 = dt (sub2 Q P) (sub2 Q P) * Z.2 - dt (sub2 Q P) (sub2 Q P) * P.2 := by unfold sub2; rw [Int.mul_sub]
    omega
set_option maxHeartbeats 200000 in
theorem sq_e {P Q Z : V2} (hs : sid P Q Z = 0) : nW P Q * dt (sub2 Z P) (sub2 Z P) = tW P Q Z * tW P Q Z := by
  have ev := al_vec (a := sub2 Z P) (v := sub2 Q P) (by rw [sid_crs, hs]; rfl)
  have g1 := congrArg Prod.fst ev
  have g2 := congrArg Prod.snd ev
  simp only at g1 g2
  unfold nW tW
  generalize hn : dt (sub2 Q P) (sub2 Q P) = n at *
  generalize ht : dt (sub2 Z P) (sub2 Q P) = t at *
  have e1 : n * dt (sub2 Z P) (sub2 Z P) = (n * (sub2 Z P).1) * (sub2 Z P).1 + (n * (sub2 Z P).2) * (sub2 Z P).2 := by unfold dt; grind
  have e2 : t * dt (sub2 Z P) (sub2 Q P) = (t * (sub2 Q P).1) * (sub2 Z P).1 + (t * (sub2 Q P).2) * (sub2 Z P).2 := by unfold dt; grind
  rw [e1, g1, g2, ← e2, ht]
set_option maxHeartbeats 200000 in
theorem dt_on (P Q Z : V2) : dt (sub2 P Z) (sub2 Q Z) = dt (sub2 Z P) (sub2 Z P) - tW P Q Z := by unfold tW dt sub2; grind
set_option maxHeartbeats 200000 in
theorem crs_on (P Q Z : V2) : crs (sub2 P Z) (sub2 Q Z) = sid P Q Z := by unfold crs sid sub2; grind
set_option maxHeartbeats 200000 in
theorem on_in {P Q Z : V2} (hPQ : P ≠ Q) (ho : on0 (vw 1 Z P) (vw 1 Z Q)) : sid P Q Z = 0 ∧ (Z ≠ P → 0 < tW P Q Z) ∧ (Z ≠ Q → tW P Q Z < nW P Q) := by
  rw [vw_1, vw_1] at ho
  have hs : sid P Q Z = 0 := by rw [← crs_on]; exact ho.1
  have h2 := ho.2
  rw [dt_on] at h2
  have hN := nW_pos hPQ
  have e := sq_e hs
  have h0 : 0 ≤ dt (sub2 Z P) (sub2 Z P) := by
    by_cases z : P = Z
    · subst z; unfold dt sub2; simp
    · have := dt_pos (nz_sub z); omega
  obtain ⟨t0, t1⟩ := sq_in hN e h0 (by omega)
  refine ⟨hs, fun hz => ?_, fun hz => ?_⟩
  · have := dt_pos (nz_sub (fun y => hz y.symm : P ≠ Z))
    omega
  · by_cases z : tW P Q Z = nW P Q
    · exfalso
      have p := on_par hs
      rw [z] at p
      have g1 := congrArg Prod.fst p
      have g2 := congrArg Prod.snd p
      unfold scV pX at2 sub2 at g1 g2
      simp only at g1 g2
      rw [← Int.mul_add] at g1 g2
      have k1 := Int.eq_of_mul_eq_mul_left (by omega) g1
      have k2 := Int.eq_of_mul_eq_mul_left (by omega) g2
      exact hz (V2_eq.mpr ⟨by omega, by omega⟩)
    · omega
set_option maxHeartbeats 200000 in
theorem in_on {P Q Z : V2} (hPQ : P ≠ Q) (h : inW P Q 0 1 Z) : on0 (vw 1 Z P) (vw 1 Z Q) := by
  obtain ⟨hs, t0, t1⟩ := h
  rw [Int.zero_mul, Int.one_mul] at t0
  rw [vw_1, vw_1]
  refine ⟨by rw [crs_on, hs], ?_⟩
  rw [dt_on]
  have e := sq_e hs
  have hN := nW_pos hPQ
  by_cases z : dt (sub2 Z P) (sub2 Z P) ≤ tW P Q Z
  · omega
  · have a1 : nW P Q * (tW P Q Z + 1) ≤ nW P Q * dt (sub2 Z P) (sub2 Z P) := Int.mul_le_mul_of_nonneg_left (by omega) (by omega)
    have a2 : tW P Q Z * tW P Q Z ≤ nW P Q * tW P Q Z := Int.mul_le_mul_of_nonneg_right (by omega) (by omega)
    rw [Int.mul_add, Int.mul_one] at a1
    omega
set_option maxHeartbeats 200000 in
theorem tW_P (P Q : V2) : tW P Q P = 0 := by unfold tW dt sub2; grind
set_option maxHeartbeats 200000 in
theorem tW_Q (P Q : V2) : tW P Q Q = nW P Q := rfl
set_option maxHeartbeats 200000 in
theorem WS {T : Sy} (G : GD T) {β : Int → V2 → V2 → Bool} (hβ : Bt β) {P Q : V2} (hPQ : P ≠ Q) {L : List V2} (hn : L.Nodup) (hP : P ∈ L) (hQ : Q ∈ L) (fo : ∀ p D, 0 ≤ p → p < D → β (D * 1) (pX P Q p D) (sub2 Q P) = Lv T P Q p D) (ba : ∀ p D, 0 < p → p ≤ D → β (D * 1) (pX P Q p D) (ng (sub2 Q P)) = Av T P Q p D) (hJ : ∀ p D, 0 < p → p < D → (Lv T P Q p D ^^ Av T P Q p D) = true → ∃ Z, Z ∈ L ∧ sid P Q Z = 0 ∧ p * nW P Q = D * tW P Q Z) : xl L (fun Z => dB (on0 (vw 1 Z P) (vw 1 Z Q)) && (β 1 Z (vw 1 Z P) ^^ β 1 Z (vw 1 Z Q))) = false := by
  have hN := nW_pos hPQ
  have sP : ∀ Z, zro (vw 1 Z P) ↔ Z = P := fun Z => by
    rw [vw_1]; unfold zro sub2; simp only; rw [V2_eq]; constructor <;> intro ⟨a, b⟩ <;> exact ⟨by omega, by omega⟩
  have sQ : ∀ Z, zro (vw 1 Z Q) ↔ Z = Q := fun Z => by
    rw [vw_1]; unfold zro sub2; simp only; rw [V2_eq]; constructor <;> intro ⟨a, b⟩ <;> exact ⟨by omega, by omega⟩
  have key : ∀ Z, Z ∈ L → (dB (on0 (vw 1 Z P) (vw 1 Z Q)) && (β 1 Z (vw 1 Z P) ^^ β 1 Z (vw 1 Z Q))) = (((dB (Z = P) && Lv T P Q 0 1) ^^ (dB (Z = Q) && Av T P Q 1 1)) ^^ (dB (inW P Q 0 1 Z) && (Lv T P Q (tW P Q Z) (nW P Q) ^^ Av T P Q (tW P Q Z) (nW P Q)))) := by
    intro Z _
    by_cases ho : on0 (vw 1 Z P) (vw 1 Z Q)
    · rw [dB_t ho, Bool.true_and]
      obtain ⟨i1, i2, i3⟩ := on_in hPQ ho
      by_cases z1 : Z = P
      · subst z1
        have f : β 1 Z (sub2 Q Z) = Lv T Z Q 0 1 := by
          have := fo 0 1 (by omega) (by omega)
          rw [pX_0] at this; exact this
        have nin : ¬ inW Z Q 0 1 Z := fun h => by have := h.2.1; rw [tW_P] at this; omega
        rw [hβ.z _ _ _ ((sP Z).mpr rfl), dB_t rfl, dB_f (show ¬ Z = Q from hPQ), dB_f nin, vw_1, f]
        cases Lv T Z Q 0 1 <;> rfl
      · by_cases z2 : Z = Q
        · subst z2
          have f : β 1 Z (sub2 P Z) = Av T P Z 1 1 := by
            have := ba 1 1 (by omega) (by omega)
            have ep : pX P Z 1 1 = Z := by unfold pX at2 sub2; refine Prod.ext ?_ ?_ <;> simp only <;> omega
            rw [ep, ng_sub] at this; exact this
          have nin : ¬ inW P Z 0 1 Z := fun h => by have := h.2.2; rw [tW_Q] at this; omega
          rw [hβ.z _ _ _ ((sQ Z).mpr rfl), dB_t rfl, dB_f z1, dB_f nin, vw_1, f]
          cases Av T P Z 1 1 <;> rfl
        · have iw : inW P Q 0 1 Z := ⟨i1, by have := i2 z1; omega, i3 z2⟩
          have hp := on_par i1
          have t0 := i2 z1
          have t1 := i3 z2
          have nd := nz_sub hPQ
          have sc : ∀ g, β 1 Z g = β (nW P Q * 1) (pX P Q (tW P Q Z) (nW P Q)) g := fun g => by rw [← hp, hβ.s' hN (by omega)]
          -- the two half-ways
          have vQ : dir (sub2 Q P) (vw 1 Z Q) := by
            have e : scV (nW P Q) (vw 1 Z Q) = ((nW P Q - tW P Q Z) * (sub2 Q P).1, (nW P Q - tW P Q Z) * (sub2 Q P).2) := by
              have g1 := congrArg Prod.fst hp
              have g2 := congrArg Prod.snd hp
              unfold scV pX at2 at g1 g2
              simp only at g1 g2
              unfold scV vw
              unfold sub2 at *
              refine Prod.ext ?_ ?_ <;> simp only at * <;> grind
            rw [← dir_sc hN, e]
            exact dir_pos (by omega) nd
          have vP : dir (ng (sub2 Q P)) (vw 1 Z P) := by
            have e : scV (nW P Q) (vw 1 Z P) = (-tW P Q Z * (sub2 Q P).1, -tW P Q Z * (sub2 Q P).2) := by
              have g1 := congrArg Prod.fst hp
              have g2 := congrArg Prod.snd hp
              unfold scV pX at2 at g1 g2
              simp only at g1 g2
              unfold scV vw
              refine Prod.ext ?_ ?_ <;> simp only at * <;> grind
            rw [← dir_sc hN, e]
            exact dir_neg (by omega) nd
          rw [dB_f z1, dB_f z2, dB_t iw, ← hβ.d 1 Z _ _ (by omega) vQ, ← hβ.d 1 Z _ _ (by omega) vP, sc, sc, fo _ _ (by omega) t1, ba _ _ t0 (by omega)]
          cases Lv T P Q (tW P Q Z) (nW P Q) <;> cases Av T P Q (tW P Q Z) (nW P Q) <;> rfl
    · have n1 : ¬ Z = P := fun z => ho (on0_z1 ((sP Z).mpr z))
      have n2 : ¬ Z = Q := fun z => ho (on0_z2 ((sQ Z).mpr z))
      rw [dB_f ho, dB_f n1, dB_f n2, dB_f (fun y => ho (in_on hPQ y))]; rfl
  rw [xl_congr key, xl_xor, xl_xor, xl_one hn hP (fun Z _ hne => by rw [dB_f hne]; rfl), xl_one hn hQ (fun Z _ hne => by rw [dB_f hne]; rfl), ← jw G hPQ hn hJ _ 0 1 (by omega) (by omega) rfl, dB_t rfl, dB_t rfl]
  cases Lv T P Q 0 1 <;> cases Av T P Q 1 1 <;> rfl

/-! the numbers of one polygon seen from another -/
set_option maxHeartbeats 200000 in
theorem Bt_bt {c d : Ct} (hc : Good c) (hd : Good d) : Bt (bt c d) := ⟨fun _ _ _ z => bt_z z, fun _ _ _ _ hD k => bt_dir hc.gd hd.gd hD k, fun _ D X g hN hD => bt_sc hN D X g hc.gd hd.gd hD⟩
set_option maxHeartbeats 200000 in
theorem bt_fo {c d : Ct} (hc : Good c) {r e : Nat} (hr : r < cR c) (e1 : sr c r ≤ e) (e2 : e < sr c r + ml c r) {p D : Int} (hp : 0 ≤ p) (hD : p < D) : bt c d (D * 1) (pX (cV c e) (cV c (e + 1)) p D) (dv (cV c) e) = (pa (TC d) (D * 1) (pX (cV c e) (cV c (e + 1)) p D) (dv (cV c) e) ^^ (!iL c r && al (TC d) (D * 1) (pX (cV c e) (cV c (e + 1)) p D) (dv (cV c) e))) := by
  have hS := hc.2.2.1 r hr
  have nd := hS.2.2.1 e e1 e2
  obtain ⟨ho, _, f2⟩ := par_HW hS e1 e2 hp (show p ≤ D by omega) (by omega)
  have n2 : nz (rl (TG c r) (D * 1) (pX (cV c e) (cV c (e + 1)) p D) (e + 1)) := by rw [f2]; exact (dir_nz (dir_pos (u := D - p) (by omega) nd)).2
  unfold bt
  rw [dB_t nd, Bool.true_and, (hc.LP r e hr e1 e2 _ _ (by omega) ho).1 n2]
set_option maxHeartbeats 200000 in
theorem bt_ba {c d : Ct} (hc : Good c) {r e : Nat} (hr : r < cR c) (e1 : sr c r ≤ e) (e2 : e < sr c r + ml c r) {p D : Int} (hp : 0 < p) (hD : p ≤ D) : bt c d (D * 1) (pX (cV c e) (cV c (e + 1)) p D) (ng (dv (cV c) e)) = (pa (TC d) (D * 1) (pX (cV c e) (cV c (e + 1)) p D) (ng (dv (cV c) e)) ^^ (iL c r && al (TC d) (D * 1) (pX (cV c e) (cV c (e + 1)) p D) (ng (dv (cV c) e)))) := by
  have hS := hc.2.2.1 r hr
  have nd := hS.2.2.1 e e1 e2
  obtain ⟨ho, f1, _⟩ := par_HW hS e1 e2 (show 0 ≤ p by omega) hD (by omega)
  have n2 : nz (rl (TG c r) (D * 1) (pX (cV c e) (cV c (e + 1)) p D) e) := by rw [f1]; exact (dir_nz (dir_neg (u := -p) (by omega) nd)).2
  unfold bt
  rw [dB_t (ng_nz nd), Bool.true_and, (hc.LP r e hr e1 e2 _ _ (by omega) ho).2 n2, Bool.not_not]
/-! a way of the ring, turned so that the inside is to its left -/
set_option maxHeartbeats 200000 in
theorem bt_way {c d : Ct} (hc : Good c) {r e : Nat} (hr : r < cR c) (e1 : sr c r ≤ e) (e2 : e < sr c r + ml c r) : ∃ P Q, ((P = cV c e ∧ Q = cV c (e + 1)) ∨ (P = cV c (e + 1) ∧ Q = cV c e)) ∧ (∀ p D, 0 ≤ p → p < D → bt c d (D * 1) (pX P Q p D) (sub2 Q P) = Lv (TC d) P Q p D) ∧ (∀ p D, 0 < p → p ≤ D → bt c d (D * 1) (pX P Q p D) (ng (sub2 Q P)) = Av (TC d) P Q p D) := by
  cases hl : iL c r with
  | true =>
    refine ⟨cV c e, cV c (e + 1), Or.inl ⟨rfl, rfl⟩, fun p D hp hD => ?_, fun p D hp hD => ?_⟩
    · have := bt_fo (d := d) hc hr e1 e2 hp hD
      rw [hl] at this
      rw [sub_dv, this]
      exact Bool.xor_false _
    · have := bt_ba (d := d) hc hr e1 e2 hp hD
      rw [hl] at this
      rw [sub_dv, this]
      rfl
  | false =>
    refine ⟨cV c (e + 1), cV c e, Or.inr ⟨rfl, rfl⟩, fun p D hp hD => ?_, fun p D hp hD => ?_⟩
    · have := bt_ba (d := d) hc hr e1 e2 (p := D - p) (D := D) (by omega) (by omega)
      rw [hl] at this
      have ep : pX (cV c (e + 1)) (cV c e) p D = pX (cV c e) (cV c (e + 1)) (D - p) D := by rw [← pX_rev]
      unfold Lv paT
      rw [← ng_sub, sub_dv, ep, this]
      exact Bool.xor_false _
    · have := bt_fo (d := d) hc hr e1 e2 (p := D - p) (D := D) (by omega) (by omega)
      rw [hl] at this
      have ep : pX (cV c (e + 1)) (cV c e) p D = pX (cV c e) (cV c (e + 1)) (D - p) D := by rw [← pX_rev]
      unfold Av
      rw [ng_sub, sub_dv, ep, this]
      rfl
set_option maxHeartbeats 200000 in
theorem dl_mid {c d : Ct} (hc : Good c) (hd : Good d) {r e : Nat} (hr : r < cR c) (e1 : sr c r ≤ e) (e2 : e < sr c r + ml c r) {p D : Int} (hp : 0 < p) (hD : p < D) : dl c d r (D * 1) (pX (cV c e) (cV c (e + 1)) p D) = (bt c d (D * 1) (pX (cV c e) (cV c (e + 1)) p D) (dv (cV c) e) ^^ bt c d (D * 1) (pX (cV c e) (cV c (e + 1)) p D) (ng (dv (cV c) e))) := by
  have hS := hc.2.2.1 r hr
  have nd := hS.2.2.1 e e1 e2
  obtain ⟨ho, f1, f2⟩ := par_HW hS e1 e2 (show 0 ≤ p by omega) (show p ≤ D by omega) (by omega)
  have d1 := dir_neg (u := -p) (by omega) nd
  have d2 := dir_pos (u := D - p) (by omega) nd
  unfold dl
  rw [hs_mid hS e1 e2 (by omega) ho (by rw [f1]; exact (dir_nz d1).2) (by rw [f2]; exact (dir_nz d2).2), f1, f2, ← bt_dir hc.gd hd.gd (by omega) d1, ← bt_dir hc.gd hd.gd (by omega) d2, Bool.xor_comm]
/-! what changes in the middle of a way, changes at a place -/
set_option maxHeartbeats 200000 in
theorem dl_place {c d : Ct} (hc : Good c) (hd : Good d) (hni : ¬ InW (wy d) (cV d) (TC c)) {r e : Nat} (hr : r < cR c) (e1 : sr c r ≤ e) (e2 : e < sr c r + ml c r) {p D : Int} (hp : 0 < p) (hD : p < D) (h : dl c d r (D * 1) (pX (cV c e) (cV c (e + 1)) p D) = true) : ∃ k, k < cN c ∧ zro (vw D (pX (cV c e) (cV c (e + 1)) p D) (cV c k)) := by
  have hS := hc.2.2.1 r hr
  have nd := hS.2.2.1 e e1 e2
  by_cases q : ∀ q, q < cR c → q ≠ r → ∀ g, ¬ HW (TG c q) (D * 1) (pX (cV c e) (cV c (e + 1)) p D) g
  · rw [dl_alone hc hd hni (by omega) hr q] at h; cases h
  · have : ∃ q, q < cR c ∧ q ≠ r ∧ ∃ g, HW (TG c q) (D * 1) (pX (cV c e) (cV c (e + 1)) p D) g := by
      refine Classical.byContradiction (fun n => q (fun q1 h1 h2 g hg => n ⟨q1, h1, h2, g, hg⟩))
    obtain ⟨q1, h1, h2, g, hg⟩ := this
    obtain ⟨ho, f1, f2⟩ := par_HW hS e1 e2 (show 0 ≤ p by omega) (show p ≤ D by omega) (by omega)
    have t := touch hc hr h1 (fun y => h2 y.symm) (by omega) e1 e2 ho (by rw [f1]; exact (dir_nz (dir_neg (u := -p) (by omega) nd)).2) (by rw [f2]; exact (dir_nz (dir_pos (u := D - p) (by omega) nd)).2) hg
    rw [D1] at t
    exact t
set_option maxHeartbeats 200000 in
theorem par_Z {P Q Z : V2} {p D : Int} (hD : 0 < D) (h : zro (vw D (pX P Q p D) Z)) : sid P Q Z = 0 ∧ p * nW P Q = D * tW P Q Z := by
  obtain ⟨h1, h2⟩ := h
  unfold vw pX at2 at h1 h2
  simp only at h1 h2
  have a1 : D * (sub2 Z P).1 = p * (sub2 Q P).1 := by
    have : D * (sub2 Z P).1 = D * Z.1 - D * P.1 := by unfold sub2; rw [Int.mul_sub]
    omega
  have a2 : D * (sub2 Z P).2 = p * (sub2 Q P).2 := by
    have : D * (sub2 Z P).2 = D * Z.2 - D * P.2 := by unfold sub2; rw [Int.mul_sub]
    omega
  refine ⟨?_, ?_⟩
  · have : D * crs (sub2 Z P) (sub2 Q P) = 0 := by
      have e : D * crs (sub2 Z P) (sub2 Q P) = (D * (sub2 Z P).1) * (sub2 Q P).2 - (D * (sub2 Z P).2) * (sub2 Q P).1 := by unfold crs; grind
      rw [e, a1, a2]; grind
    have z := Int.mul_eq_zero.mp this
    rw [sid_crs] at z
    omega
  · unfold nW tW
    have e : D * dt (sub2 Z P) (sub2 Q P) = (D * (sub2 Z P).1) * (sub2 Q P).1 + (D * (sub2 Z P).2) * (sub2 Q P).2 := by unfold dt; grind
    rw [e, a1, a2]; unfold dt; grind
set_option maxHeartbeats 200000 in
theorem dl_ring {c d : Ct} (hc : Good c) (hd : Good d) (hni : ¬ InW (wy d) (cV d) (TC c)) {r : Nat} (hr : r < cR c) : xl (uqL c (cN c) 0) (fun Z => dl c d r 1 Z) = false := by
  unfold dl hs
  rw [xl_XS]
  refine XS_none (fun e he => ?_)
  obtain ⟨e1, e2⟩ := inTG.mp he
  have hS := hc.2.2.1 r hr
  have hne := ND_r hS ⟨e1, e2⟩
  have hml : sr c r + ml c r < cN c := by have := sr_lt hc.1 hr; have := (hc.1.e hr).2; unfold ml; omega
  have m1 : cV c e ∈ uqL c (cN c) 0 := uq_all e (by omega)
  have m2 : cV c (e + 1) ∈ uqL c (cN c) 0 := uq_all (e + 1) (by omega)
  obtain ⟨P, Q, hPQ, fo, ba⟩ := bt_way (d := d) hc hr e1 e2
  have jmp : ∀ p D, 0 < p → p < D → (Lv (TC d) P Q p D ^^ Av (TC d) P Q p D) = true → ∃ Z, Z ∈ uqL c (cN c) 0 ∧ sid P Q Z = 0 ∧ p * nW P Q = D * tW P Q Z := by
    intro p D hp hD h
    rw [← fo p D (by omega) hD, ← ba p D hp (by omega)] at h
    have : ∃ k, k < cN c ∧ zro (vw D (pX P Q p D) (cV c k)) := by
      rcases hPQ with ⟨rfl, rfl⟩ | ⟨rfl, rfl⟩
      · refine dl_place hc hd hni hr e1 e2 hp hD ?_
        rw [dl_mid hc hd hr e1 e2 hp hD]; exact h
      · have ep : pX (cV c (e + 1)) (cV c e) p D = pX (cV c e) (cV c (e + 1)) (D - p) D := by rw [← pX_rev]
        rw [ep] at h ⊢
        refine dl_place hc hd hni hr e1 e2 (by omega) (by omega) ?_
        rw [dl_mid hc hd hr e1 e2 (by omega) (by omega), Bool.xor_comm]
        rw [ng_sub, ← ng_sub] at h
        exact h
    obtain ⟨k, k1, k2⟩ := this
    exact ⟨cV c k, uq_all k k1, par_Z (by omega) k2⟩
  rcases hPQ with ⟨rfl, rfl⟩ | ⟨rfl, rfl⟩
  · exact WS hd.gd (Bt_bt hc hd) hne (uq_nd _ _) m1 m2 fo ba jmp
  · have := WS hd.gd (Bt_bt hc hd) (fun y => hne y.symm) (uq_nd _ _) m2 m1 fo ba jmp
    rw [← this]
    refine xl_congr (fun Z _ => ?_)
    rw [Bool.xor_comm]
    exact congrArg (· && _) (dB_c ⟨on0_sym, on0_sym⟩)

/-! GEOMETRY: the rings of a valid polygon -/
def ovl (P Q A B : V2) : Prop := sid P Q A = 0 ∧ sid P Q B = 0 ∧ cnl P Q A B = 2
set_option maxHeartbeats 200000 in
theorem cn1_2 (a b p q : Int) : cn1 a b p q = 2 ↔ max (min a b) (min p q) < min (max a b) (max p q) := by
  unfold cn1
  split
  · split
    · exact ⟨fun h => absurd h (by decide), fun h => by omega⟩
    · exact ⟨fun _ => by omega, fun _ => rfl⟩
  · exact ⟨fun h => absurd h (by decide), fun h => by omega⟩
set_option maxHeartbeats 200000 in
theorem cnl_f (P Q A B : V2) : cnl P Q A B = cn1 (fX P Q P) (fX P Q Q) (fX P Q A) (fX P Q B) := by
  unfold cnl fX
  split <;> rfl
set_option maxHeartbeats 200000 in
theorem ovl_i {P Q A B : V2} (hPQ : P ≠ Q) : (∃ p D, 0 ≤ p ∧ p < D ∧ cvE P Q A B p D) ↔ ovl P Q A B := by
  have hw := whl_pos hPQ
  have key : cnl P Q A B = 2 ↔ max (min (pos P Q A) (pos P Q B)) 0 < min (max (pos P Q A) (pos P Q B)) (whl P Q) := by
    rw [cnl_f, cn1_2]
    unfold pos whl
    split <;> omega
  constructor
  · rintro ⟨p, D, h1, h2, h3, h4, h5, h6⟩
    refine ⟨h3, h4, key.mpr ?_⟩
    generalize min (pos P Q A) (pos P Q B) = lo at *
    generalize max (pos P Q A) (pos P Q B) = hi at *
    generalize whl P Q = W at *
    have t1 : p * W < D * W := Int.mul_lt_mul_of_pos_right h2 hw
    have t0 : 0 ≤ p * W := Int.mul_nonneg h1 (by omega)
    have a1 : lo < W := by
      by_cases z : lo < W
      · exact z
      · have := Int.mul_le_mul_of_nonneg_right (show W ≤ lo by omega) (show 0 ≤ D by omega); rw [Int.mul_comm W D] at this; omega
    have a2 : 0 < hi := by
      by_cases z : 0 < hi
      · exact z
      · have := Int.mul_nonpos_of_nonpos_of_nonneg (show hi ≤ 0 by omega) (show 0 ≤ D by omega); omega
    have a3 : lo < hi := by
      by_cases z : lo < hi
      · exact z
      · have := Int.mul_le_mul_of_nonneg_right (show hi ≤ lo by omega) (show 0 ≤ D by omega); omega
    omega
  · rintro ⟨h3, h4, h5⟩
    have h6 := key.mp h5
    refine ⟨max (min (pos P Q A) (pos P Q B)) 0, whl P Q, by omega, by omega, h3, h4, ?_, ?_⟩
    · exact Int.mul_le_mul_of_nonneg_right (by omega) (by omega)
    · exact Int.mul_lt_mul_of_pos_right (by omega) hw
set_option maxHeartbeats 200000 in
theorem ovl_rev {P Q A B : V2} (h : ovl P Q A B) : ovl Q P A B := by
  obtain ⟨h1, h2, h3⟩ := h
  have e : ∀ x : V2, sid Q P x = -sid P Q x := by intro x; unfold sid; grind
  refine ⟨by rw [e, h1]; rfl, by rw [e, h2]; rfl, ?_⟩
  unfold cnl at *
  by_cases z : P.1 = Q.1
  · rw [if_pos z, cn1_2] at h3
    rw [if_pos z.symm, cn1_2]; omega
  · rw [if_neg z, cn1_2] at h3
    rw [if_neg (fun y => z y.symm), cn1_2]; omega
set_option maxHeartbeats 200000 in
theorem ovl_sym {P Q A B : V2} (hPQ : P ≠ Q) (hAB : A ≠ B) (h : ovl P Q A B) : ovl A B P Q := by
  obtain ⟨h1, h2, h3⟩ := h
  obtain ⟨c1, c2⟩ := col_sym hPQ h1 h2
  obtain ⟨x1, x2⟩ := col_x hPQ hAB h1 h2
  obtain ⟨x3, x4⟩ := col_x hAB hPQ c1 c2
  refine ⟨c1, c2, ?_⟩
  unfold cnl at *
  by_cases z : P.1 = Q.1
  · have z' : A.1 = B.1 := by
      by_cases y : A.1 = B.1
      · exact y
      · exact ((x4 y) z).elim
    rw [if_pos z, cn1_2] at h3
    rw [if_pos z', cn1_2]; omega
  · rw [if_neg z, cn1_2] at h3
    rw [if_neg (x2 z), cn1_2]; omega
set_option maxHeartbeats 200000 in
theorem AlP_i {T : Sy} {P Q : V2} (hPQ : P ≠ Q) : AlP T P Q ↔ ∃ e, inT T e ∧ ovl P Q (sV T e) (sV T (e + 1)) := by
  constructor
  · rintro ⟨p, D, h1, h2, h3⟩
    obtain ⟨e, he, hc⟩ := (cvT_i hPQ (by omega)).mp h3
    exact ⟨e, he, (ovl_i hPQ).mp ⟨p, D, h1, h2, hc⟩⟩
  · rintro ⟨e, he, ho⟩
    obtain ⟨p, D, h1, h2, h3⟩ := (ovl_i hPQ).mpr ho
    exact ⟨p, D, h1, h2, (cvT_i hPQ (by omega)).mpr ⟨e, he, h3⟩⟩
set_option maxHeartbeats 200000 in
theorem AlP_rev {T : Sy} {P Q : V2} (hPQ : P ≠ Q) (h : AlP T Q P) : AlP T P Q := by
  obtain ⟨e, he, ho⟩ := (AlP_i (fun z => hPQ z.symm)).mp h
  exact (AlP_i hPQ).mpr ⟨e, he, ovl_rev ho⟩
set_option maxHeartbeats 200000 in
theorem pX_rev (P Q : V2) (p D : Int) : pX Q P (D - p) D = pX P Q p D := by unfold pX at2 sub2; refine Prod.ext ?_ ?_ <;> simp only <;> grind
set_option maxHeartbeats 200000 in
theorem ng_sub (P Q : V2) : ng (sub2 Q P) = sub2 P Q := by unfold ng sub2; refine Prod.ext ?_ ?_ <;> simp only <;> omega
/-- rings that lie nowhere on one another have no half-ways alike -/
def NA (T U : Sy) : Prop := ∀ D X a b, 0 < D → HW T D X a → HW U D X b → ¬ dir a b
set_option maxHeartbeats 200000 in
theorem NA.al {T U : Sy} (h : NA T U) {D : Int} (hD : 0 < D) {X g : V2} (hg : HW T D X g) : al U D X g = false := hs_none (fun a z => dB_f (dir_z z)) (fun b hb => dB_f (h D X g b hD hg hb))
set_option maxHeartbeats 200000 in
theorem NA.sym {T U : Sy} (h : NA T U) : NA U T := fun D X a b hD ha hb d => h D X b a hD hb ha (dir_sym d)
set_option maxHeartbeats 200000 in
theorem NA_of {c : Ct} {r : Nat} (hS : SmR c r) {U : Sy} (h : ¬ AlW (rgw c r) (cV c) U) : NA (TG c r) U := by
  intro D X a b hD ha hb d
  obtain ⟨e, N, p, e1, e2, n1, n2, n3, n4, n5⟩ := HW_par hS hD ha
  have hne := ND_r hS ⟨e1, e2⟩
  have cv : ∀ s, dir s a → cov U (N * D) (scV N X) s := fun s hs => (cov_sc U n1 D X s).mpr ⟨b, hb, dir_tr hs d⟩
  apply h
  refine ⟨e, ⟨e1, e2⟩, ?_⟩
  rcases n5 with ⟨q1, q2⟩ | ⟨q1, q2⟩
  · refine ⟨p, N * D, n2, q1, ?_⟩
    unfold cvT
    rw [D1, sub_dv, ← n4]
    exact cv _ q2
  · refine AlP_rev hne ⟨N * D - p, N * D, by omega, by omega, ?_⟩
    unfold cvT
    rw [D1, pX_rev, ← ng_sub, sub_dv, ← n4]
    exact cv _ q2
/-! a parity that is the same just behind all parts of a ring is so forth and back -/
set_option maxHeartbeats 200000 in
theorem RP_of {c : Ct} {r : Nat} (hS : SmR c r) {U : Sy} (GU : GD U) (hna : NA (TG c r) U) {v : Bool} (hv : ∀ e p D, rgw c r e → 0 ≤ p → p < D → paT U (cV c e) (cV c (e + 1)) p D = v) : ∀ D X g, 0 < D → HW (TG c r) D X g → pa U D X g = v := by
  intro D X g hD hg
  have a0 := hna.al hD hg
  obtain ⟨e, N, p, e1, e2, n1, n2, n3, n4, n5⟩ := HW_par hS hD hg
  have hne := ND_r hS ⟨e1, e2⟩
  have hND : 0 < N * D := Int.mul_pos n1 hD
  rcases n5 with ⟨q1, q2⟩ | ⟨q1, q2⟩
  · have := hv e p (N * D) ⟨e1, e2⟩ n2 q1
    unfold paT at this
    rw [D1, sub_dv, ← n4, pa_sc U n1] at this
    rw [← pa_dir GU hD q2]; exact this
  · obtain ⟨B, b1, b2⟩ := lim_R U 1 (cV c e) (dv (cV c) e)
    have l2 := (b2 (N * D) p (B + 1) hND (by omega)).2
    have l3 := Av_l GU hne p hND
    rw [sub_dv] at l3
    rw [← l3] at l2
    have hK : 0 < N * D * (B + 1) := Int.mul_pos hND (by omega)
    have p1 : 1 ≤ p * (B + 1) := by
      have := Int.mul_le_mul (show 1 ≤ p by omega) (show 1 ≤ B + 1 by omega) (by omega) (by omega)
      omega
    have p2 : p * (B + 1) ≤ N * D * (B + 1) := Int.mul_le_mul_of_nonneg_right n3 (by omega)
    have l4 := hv e (p * (B + 1) - 1) (N * D * (B + 1)) ⟨e1, e2⟩ (by omega) (by omega)
    unfold paT pX at l4
    rw [sub_dv, l2] at l4
    unfold Av at l4
    rw [D1, sub_dv, ← n4, pa_sc U n1, al_sc U n1, al_dir q2, a0, Bool.xor_false] at l4
    rw [← pa_dir GU hD q2]; exact l4
set_option maxHeartbeats 200000 in
theorem hs_const {T : Sy} (G : GD T) {D : Int} {X : V2} {φ : V2 → Bool} {v : Bool} (h : ∀ g, HW T D X g → φ g = v) (hz : ∀ a, zro a → φ a = false) : hs T D X φ = false := by
  rw [hs_congr (χ := fun a => v && dB (nz a)) (fun a z => by rw [hz a z, dB_f (fun y => y z), Bool.and_false]) (fun a ha => by rw [h a ha, dB_t ha.1, Bool.and_true])]
  cases v with
  | false => exact XS_none (fun e _ => by simp)
  | true => exact hs_even G D X
/-! one ring within another: the other is not within it -/
set_option maxHeartbeats 200000 in
theorem ring_in {c d : Ct} {r q : Nat} (hS : SmR c r) (hQ : SmR d q) (hna : NA (TG c r) (TG d q)) (hin : ∀ D X g, 0 < D → HW (TG d q) D X g → pa (TG c r) D X g = true) : ∀ D X g, 0 < D → HW (TG c r) D X g → pa (TG d q) D X g = false := by
  have G1 := GD_TG hS
  have G2 := GD_TG hQ
  have hpa : ∀ D X, 0 < D → hs (TG c r) D X (paD (TG d q) D X) = false := by
    intro D X hD
    have i := inter G1 G2 hD X
    have z1 : hs (TG d q) D X (paD (TG c r) D X) = false := hs_const G2 (v := true) (fun g hg => by unfold paD; rw [dB_t hg.1, hin D X g hD hg]; rfl) (fun a z => paD_z z)
    have z2 : dd (TG c r) (TG d q) D X = false := hs_none (fun a z => hs_none (fun b _ => dB_f (fun d => (dir_nz d).1 z)) (fun b _ => dB_f (fun d => (dir_nz d).1 z))) (fun g hg => hna.al hD hg)
    rw [z1, z2, Bool.xor_false] at i
    exact i
  obtain ⟨κ, hκ⟩ := ring_const hS G2 (fun D X g hD hg => hna.al hD hg) hpa
  cases κ with
  | false => exact hκ
  | true =>
    -- nothing would tell their union from all
    exfalso
    have T3 : S3 := (TG c r, TG d q, TG d q)
    have hN : ∀ D X, 0 < D → NoC (fun x y _ => x || y) (TG c r, TG d q, TG d q) D X := by
      intro D X hD g hg
      have hb : HW (TG d q) D X g → ((pa (TG c r) D X g || pa (TG d q) D X g) : Bool) = ((pa (TG c r) D X g ^^ al (TG c r) D X g) || (pa (TG d q) D X g ^^ al (TG d q) D X g)) := by
        intro hg
        rw [hin D X g hD hg, hna.sym.al hD hg]; rfl
      rcases hg with hg | hg | hg
      · show ((pa (TG c r) D X g || pa (TG d q) D X g) : Bool) = ((pa (TG c r) D X g ^^ al (TG c r) D X g) || (pa (TG d q) D X g ^^ al (TG d q) D X g))
        have hg' : HW (TG c r) D X g := hg
        rw [hκ D X g hD hg', hna.al hD hg']; simp
      · exact hb hg
      · exact hb hg
    obtain ⟨g, hg, dg⟩ := HW_forth hS (Nat.le_refl (sr c r)) (by have := hS.1; omega) (p := 0) (D := 1) (by omega) (by omega)
    have := Psi (T := (TG c r, TG d q, TG d q)) ⟨G1, G2, G2⟩ hN (D := 1 * 1) (by omega) (pX (cV c (sr c r)) (cV c (sr c r + 1)) 0 1) hg.1
    have h2 := hκ _ _ g (by omega) hg
    unfold pa3 at this
    dsimp only at this
    rw [h2] at this
    simp at this
/-- what a valid polygon's rings know of each other -/
def RPd (d : Ct) : Prop := ∀ r q, r < cR d → q < cR d → r ≠ q → NA (TG d r) (TG d q) ∧ ∀ D X g, 0 < D → HW (TG d r) D X g → pa (TG d q) D X g = decide (q = 0)
set_option maxHeartbeats 200000 in
theorem RP_val {d : Ct} (hS : ∀ r, r < cR d → SmR d r) (hF : Fit d) : RPd d := by
  have first : ∀ r q, 1 ≤ r → r < cR d → q < cR d → r ≠ q → NA (TG d r) (TG d q) ∧ ∀ D X g, 0 < D → HW (TG d r) D X g → pa (TG d q) D X g = decide (q = 0) := by
    intro r q h1 hr hq hne
    obtain ⟨f1, f2⟩ := hF r h1 hr q hq (fun z => hne z.symm)
    have na := NA_of (hS r hr) f2
    refine ⟨na, RP_of (hS r hr) (GD_TG (hS q hq)) na (fun e p D he hp hD => ?_)⟩
    have ncv : ¬ cvT (TG d q) (cV d e) (cV d (e + 1)) p D := fun z => f2 ⟨e, he, p, D, hp, hD, z⟩
    by_cases q0 : q = 0
    · rw [if_pos q0] at f1
      rw [decide_eq_true q0]
      cases z : paT (TG d q) (cV d e) (cV d (e + 1)) p D with
      | true => rfl
      | false => exact (f1 ⟨e, he, p, D, hp, hD, ncv, z⟩).elim
    · rw [if_neg q0] at f1
      rw [decide_eq_false q0]
      cases z : paT (TG d q) (cV d e) (cV d (e + 1)) p D with
      | false => rfl
      | true => exact (f1 ⟨e, he, p, D, hp, hD, ncv, z⟩).elim
  intro r q hr hq hne
  by_cases r0 : r = 0
  · subst r0
    obtain ⟨n1, n2⟩ := first q 0 (by omega) hq hr (fun z => hne z.symm)
    refine ⟨n1.sym, fun D X g hD hg => ?_⟩
    rw [decide_eq_false (fun z => hne z.symm)]
    exact ring_in (hS 0 hr) (hS q hq) n1.sym (fun D X g hD hg => by rw [n2 D X g hD hg]; rfl) D X g hD hg
  · exact first r q (by omega) hr hq hne
set_option maxHeartbeats 200000 in
theorem pa_rings {d : Ct} (G : WF d) (hk : cK d ≠ 0) (D : Int) (X s : V2) : pa (TC d) D X s = xs (fun q => pa (TG d q) D X s) 0 (cR d) := XS_TC G hk _
set_option maxHeartbeats 200000 in
theorem HW_TC {d : Ct} (G : WF d) (hk : cK d ≠ 0) {D : Int} {X g : V2} : HW (TC d) D X g ↔ ∃ r, r < cR d ∧ HW (TG d r) D X g := by
  constructor
  · rintro ⟨h1, e, h2, h3⟩
    obtain ⟨r, r1, r2, r3⟩ := wy_r G (inTC.mp h2)
    exact ⟨r, r1, h1, e, inTG.mpr ⟨r2, r3⟩, h3⟩
  · rintro ⟨r, r1, h1, e, h2, h3⟩
    obtain ⟨e1, e2⟩ := inTG.mp h2
    exact ⟨h1, e, inTC.mpr (wy_ring' G hk r1 e1 e2), h3⟩
/-! the parity of all rings at a half-way of the ring r -/
set_option maxHeartbeats 200000 in
theorem pa_at {d : Ct} (G : WF d) (hk : cK d ≠ 0) (hR : RPd d) {r : Nat} (hr : r < cR d) {D : Int} (hD : 0 < D) {X g : V2} (hg : HW (TG d r) D X g) : pa (TC d) D X g = (pa (TG d r) D X g ^^ decide (r ≠ 0)) := by
  rw [pa_rings G hk]
  by_cases r0 : r = 0
  · subst r0
    rw [xs_one 0 (Nat.le_refl 0) (by omega) (fun q _ hq hne => by rw [(hR 0 q hr (by omega) (fun z => hne z.symm)).2 D X g hD hg, decide_eq_false hne])]
    simp
  · rw [xs_two 0 r (Nat.le_refl 0) (by omega) (by omega) (fun q _ hq h0 hne => by rw [(hR r q hr (by omega) (fun z => hne z.symm)).2 D X g hD hg, decide_eq_false h0]), (hR r 0 hr (by omega) r0).2 D X g hD hg, decide_eq_true r0, Bool.xor_comm]; rfl
set_option maxHeartbeats 200000 in
theorem LP_val {d : Ct} (G : WF d) (hk : cK d ≠ 0) (hS : ∀ r, r < cR d → SmR d r) (hR : RPd d) : LPd d := by
  intro r e hr h1 h2 D X hD ho
  have hG := GD_TC G hk hS
  have df : rl (TC d) D X (e + 1) = ((rl (TC d) D X e).1 + D * (dv (cV d) e).1, (rl (TC d) D X e).2 + D * (dv (cV d) e).2) := rl_dv d r D X e
  have dd' := dir_fv hD df ho
  constructor
  · intro hb
    have hg : HW (TG d r) D X (rl (TC d) D X (e + 1)) := ⟨hb, e, inTG.mpr ⟨h1, h2⟩, ho, Or.inr rfl⟩
    rw [pa_dir hG hD (dd'.1 hb), pa_at G hk hR hr hD hg, ← pa_dir (GD_TG (hS r hr)) hD (dd'.1 hb), sd_forth (hS r hr) h1 h2 hD ho hb]
    unfold iL
    by_cases r0 : r = 0
    · rw [decide_eq_true r0, decide_eq_false (by omega)]; cases sd (cV d) (sr d r) (ml d r) <;> rfl
    · rw [decide_eq_false r0, decide_eq_true (by omega)]; cases sd (cV d) (sr d r) (ml d r) <;> rfl
  · intro ha
    have hg : HW (TG d r) D X (rl (TC d) D X e) := ⟨ha, e, inTG.mpr ⟨h1, h2⟩, ho, Or.inl rfl⟩
    rw [pa_dir hG hD (dd'.2 ha), pa_at G hk hR hr hD hg, ← pa_dir (GD_TG (hS r hr)) hD (dd'.2 ha), sd_back (hS r hr) h1 h2 hD ho ha]
    unfold iL
    by_cases r0 : r = 0
    · rw [decide_eq_true r0, decide_eq_false (by omega)]; cases sd (cV d) (sr d r) (ml d r) <;> rfl
    · rw [decide_eq_false r0, decide_eq_true (by omega)]; cases sd (cV d) (sr d r) (ml d r) <;> rfl
/-! inside a valid polygon: within the first ring, within no other -/
set_option maxHeartbeats 200000 in
theorem hole_in {d : Ct} (hS : ∀ r, r < cR d → SmR d r) (hR : RPd d) {q : Nat} (hq : q < cR d) (h0 : q ≠ 0) {D : Int} (hD : 0 < D) (X : V2) {s : V2} (hs' : nz s) (h : pa (TG d q) D X s = true) : pa (TG d 0) D X s = true := by
  have h00 : 0 < cR d := by omega
  have hN : ∀ D X, 0 < D → NoC (fun x y _ => x && !y) (TG d q, TG d 0, TG d 0) D X := by
    intro D X hD g hg
    have hb : HW (TG d 0) D X g → ((pa (TG d q) D X g && !pa (TG d 0) D X g) : Bool) = ((pa (TG d q) D X g ^^ al (TG d q) D X g) && !(pa (TG d 0) D X g ^^ al (TG d 0) D X g)) := by
      intro hg
      have := hR 0 q h00 hq (fun z => h0 z.symm)
      rw [this.2 D X g hD hg, this.1.al hD hg, decide_eq_false h0]; rfl
    rcases hg with hg | hg | hg
    · have := hR q 0 hq h00 h0
      have hg' : HW (TG d q) D X g := hg
      show ((pa (TG d q) D X g && !pa (TG d 0) D X g) : Bool) = ((pa (TG d q) D X g ^^ al (TG d q) D X g) && !(pa (TG d 0) D X g ^^ al (TG d 0) D X g))
      rw [this.2 D X g hD hg', this.1.al hD hg']; simp
    · exact hb hg
    · exact hb hg
  have := Psi (T := (TG d q, TG d 0, TG d 0)) ⟨GD_TG (hS q hq), GD_TG (hS 0 h00), GD_TG (hS 0 h00)⟩ hN hD X hs'
  unfold pa3 at this
  dsimp only at this
  rw [h] at this
  revert this
  cases pa (TG d 0) D X s <;> simp
set_option maxHeartbeats 200000 in
theorem holes_apart {d : Ct} (hS : ∀ r, r < cR d → SmR d r) (hR : RPd d) {p q : Nat} (hp : p < cR d) (hq : q < cR d) (h0 : p ≠ 0) (h1 : q ≠ 0) (hne : p ≠ q) {D : Int} (hD : 0 < D) (X : V2) {s : V2} (hs' : nz s) (h : pa (TG d p) D X s = true) : pa (TG d q) D X s = false := by
  have hN : ∀ D X, 0 < D → NoC (fun x y _ => x && y) (TG d p, TG d q, TG d q) D X := by
    intro D X hD g hg
    have hb : HW (TG d q) D X g → ((pa (TG d p) D X g && pa (TG d q) D X g) : Bool) = ((pa (TG d p) D X g ^^ al (TG d p) D X g) && (pa (TG d q) D X g ^^ al (TG d q) D X g)) := by
      intro hg
      have := hR q p hq hp (fun z => hne z.symm)
      rw [this.2 D X g hD hg, this.1.al hD hg, decide_eq_false h0]; rfl
    rcases hg with hg | hg | hg
    · have := hR p q hp hq hne
      have hg' : HW (TG d p) D X g := hg
      show ((pa (TG d p) D X g && pa (TG d q) D X g) : Bool) = ((pa (TG d p) D X g ^^ al (TG d p) D X g) && (pa (TG d q) D X g ^^ al (TG d q) D X g))
      rw [this.2 D X g hD hg', this.1.al hD hg', decide_eq_false h1]; simp
    · exact hb hg
    · exact hb hg
  have := Psi (T := (TG d p, TG d q, TG d q)) ⟨GD_TG (hS p hp), GD_TG (hS q hq), GD_TG (hS q hq)⟩ hN hD X hs'
  unfold pa3 at this
  dsimp only at this
  rw [h] at this
  revert this
  cases pa (TG d q) D X s <;> simp
set_option maxHeartbeats 200000 in
theorem pa_in {d : Ct} (G : WF d) (hk : cK d ≠ 0) (hS : ∀ r, r < cR d → SmR d r) (hR : RPd d) {D : Int} (hD : 0 < D) (X : V2) {s : V2} (hs' : nz s) : pa (TC d) D X s = true ↔ (pa (TG d 0) D X s = true ∧ ∀ q, q < cR d → q ≠ 0 → pa (TG d q) D X s = false) := by
  have h00 : 0 < cR d := by have := G.r; omega
  rw [pa_rings G hk]
  constructor
  · intro h
    by_cases y : ∃ q, q < cR d ∧ q ≠ 0 ∧ pa (TG d q) D X s = true
    · exfalso
      obtain ⟨q, y1, y2, y3⟩ := y
      have y0 := hole_in hS hR y1 y2 hD X hs' y3
      rw [xs_two 0 q (Nat.le_refl 0) (by omega) (by omega) (fun i _ hi h0 hne => holes_apart hS hR y1 (by omega) y2 h0 (fun z => hne z.symm) hD X hs' y3), y0, y3] at h
      cases h
    · have no : ∀ q, q < cR d → q ≠ 0 → pa (TG d q) D X s = false := by
        intro q a b
        cases z : pa (TG d q) D X s with
        | false => rfl
        | true => exact (y ⟨q, a, b, z⟩).elim
      rw [xs_one 0 (Nat.le_refl 0) (by omega) (fun i _ hi hne => no i (by omega) hne)] at h
      exact ⟨h, no⟩
  · rintro ⟨h1, h2⟩
    rw [xs_one 0 (Nat.le_refl 0) (by omega) (fun i _ hi hne => h2 i (by omega) hne)]
    exact h1

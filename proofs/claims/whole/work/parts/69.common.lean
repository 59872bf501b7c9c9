/-! common points of two ways -/
set_option maxHeartbeats 200000 in
theorem look_met' {P Q A B : V2} {p D : Int} (hp : 0 ≤ p) (hD : p ≤ D) (h0 : 0 < D) (h : kM P Q A B ≠ 0) : (on0 (sn P Q A p D) (sn P Q B p D) ↔ (mM P Q A B ∧ D * mP P Q A B = p * mW P Q A B)) ∧ (on0 (sn P Q A p D) (sn P Q B p D) → (zro (sn P Q A p D) ↔ mO P Q A B = 0) ∧ (zro (sn P Q B p D) ↔ mO P Q A B = mW P Q A B)) := by
  have hW : 0 < mW P Q A B := by unfold mW; rw [if_neg h]; split <;> omega
  have nzf : nz (sub2 B A) := by
    intro z
    apply h
    unfold kM crs
    rw [z.1, z.2]; simp
  have dif : sn P Q B p D = ((sn P Q A p D).1 + D * (sub2 B A).1, (sn P Q A p D).2 + D * (sub2 B A).2) := by
    unfold sn pq sub2; refine Prod.ext ?_ ?_ <;> simp only <;> grind
  have c1 : crs (sn P Q A p D) (sn P Q B p D) = D * (D * crs (sub2 A P) (sub2 B A) - p * kM P Q A B) := by
    rw [dif]; unfold sn pq kM
    generalize sub2 Q P = s
    generalize sub2 A P = u
    generalize sub2 B A = f
    unfold crs; grind
  -- with the sign of kM
  have sgP : D * crs (sub2 A P) (sub2 B A) - p * kM P Q A B = 0 ↔ D * mP P Q A B = p * mW P Q A B := by
    unfold mP mW
    rw [if_neg h, if_neg h]
    by_cases q : kM P Q A B < 0
    · rw [if_pos q, if_pos q]
      have e1 : D * -crs (sub2 A P) (sub2 B A) = -(D * crs (sub2 A P) (sub2 B A)) := by grind
      have e2 : p * -kM P Q A B = -(p * kM P Q A B) := by grind
      omega
    · rw [if_neg q, if_neg q]; omega
  have par : crs (sn P Q A p D) (sn P Q B p D) = 0 ↔ D * mP P Q A B = p * mW P Q A B := by
    rw [c1, ← sgP]
    constructor
    · intro z
      rcases Int.mul_eq_zero.mp z with y | y
      · omega
      · exact y
    · intro z; rw [z, Int.mul_zero]
  have form : D * mP P Q A B = p * mW P Q A B → (mW P Q A B * (sn P Q A p D).1, mW P Q A B * (sn P Q A p D).2) = ((-(D * mO P Q A B)) * (sub2 B A).1, (-(D * mO P Q A B)) * (sub2 B A).2) ∧ (mW P Q A B * (sn P Q B p D).1, mW P Q A B * (sn P Q B p D).2) = ((D * (mW P Q A B - mO P Q A B)) * (sub2 B A).1, (D * (mW P Q A B - mO P Q A B)) * (sub2 B A).2) := by
    intro hz
    have z := sgP.mpr hz
    have k1 : kM P Q A B * (sn P Q A p D).1 = -(D * crs (sub2 A P) (sub2 Q P)) * (sub2 B A).1 := by
      have : kM P Q A B * (sn P Q A p D).1 = (D * crs (sub2 A P) (sub2 B A) - p * kM P Q A B) * (sub2 Q P).1 - D * crs (sub2 A P) (sub2 Q P) * (sub2 B A).1 := by
        unfold sn pq kM
        generalize sub2 Q P = s
        generalize sub2 A P = u
        generalize sub2 B A = f
        unfold crs; grind
      rw [this, z]; grind
    have k2 : kM P Q A B * (sn P Q A p D).2 = -(D * crs (sub2 A P) (sub2 Q P)) * (sub2 B A).2 := by
      have : kM P Q A B * (sn P Q A p D).2 = (D * crs (sub2 A P) (sub2 B A) - p * kM P Q A B) * (sub2 Q P).2 - D * crs (sub2 A P) (sub2 Q P) * (sub2 B A).2 := by
        unfold sn pq kM
        generalize sub2 Q P = s
        generalize sub2 A P = u
        generalize sub2 B A = f
        unfold crs; grind
      rw [this, z]; grind
    have hA : mW P Q A B * (sn P Q A p D).1 = (-(D * mO P Q A B)) * (sub2 B A).1 ∧ mW P Q A B * (sn P Q A p D).2 = (-(D * mO P Q A B)) * (sub2 B A).2 := by
      unfold mW mO
      rw [if_neg h, if_neg h]
      by_cases q : kM P Q A B < 0
      · rw [if_pos q, if_pos q]
        constructor
        · have : -kM P Q A B * (sn P Q A p D).1 = -(kM P Q A B * (sn P Q A p D).1) := by grind
          rw [this, k1]; grind
        · have : -kM P Q A B * (sn P Q A p D).2 = -(kM P Q A B * (sn P Q A p D).2) := by grind
          rw [this, k2]; grind
      · rw [if_neg q, if_neg q]; exact ⟨k1, k2⟩
    refine ⟨Prod.ext hA.1 hA.2, ?_⟩
    rw [dif]
    refine Prod.ext ?_ ?_
    · show mW P Q A B * ((sn P Q A p D).1 + D * (sub2 B A).1) = _
      rw [Int.mul_add, hA.1]; grind
    · show mW P Q A B * ((sn P Q A p D).2 + D * (sub2 B A).2) = _
      rw [Int.mul_add, hA.2]; grind
  have on_iff : D * mP P Q A B = p * mW P Q A B → (on0 (sn P Q A p D) (sn P Q B p D) ↔ (0 ≤ mO P Q A B ∧ mO P Q A B ≤ mW P Q A B)) := by
    intro hz
    obtain ⟨f1, f2⟩ := form hz
    rw [← on0_mul hW, f1, f2, on0_sc' nzf]
    generalize mO P Q A B = o at *
    generalize mW P Q A B = W at *
    have e : -(D * o) * (D * (W - o)) = -((D * D) * (o * (W - o))) := by grind
    have hDD : 0 < D * D := Int.mul_pos (by omega) (by omega)
    rw [e]
    constructor
    · intro z
      have t : 0 ≤ o * (W - o) := by
        by_cases y : 0 ≤ o * (W - o)
        · exact y
        · have := Int.mul_neg_of_pos_of_neg hDD (show o * (W - o) < 0 by omega); omega
      by_cases y1 : 0 ≤ o
      · by_cases y2 : o ≤ W
        · exact ⟨y1, y2⟩
        · have := Int.mul_neg_of_pos_of_neg (show 0 < o by omega) (show W - o < 0 by omega); omega
      · have := Int.mul_neg_of_neg_of_pos (show o < 0 by omega) (show 0 < W - o by omega); omega
    · rintro ⟨y1, y2⟩
      have := Int.mul_nonneg (Int.le_of_lt hDD) (Int.mul_nonneg y1 (show 0 ≤ W - o by omega))
      omega
  refine ⟨⟨fun ho => ?_, fun ⟨hm, hz⟩ => (on_iff hz).mpr ⟨hm.2.2.2.1, hm.2.2.2.2⟩⟩, fun ho => ?_⟩
  · have hz := par.mp ho.1
    have o := (on_iff hz).mp ho
    refine ⟨⟨h, ?_, ?_, o.1, o.2⟩, hz⟩
    · have : 0 ≤ p * mW P Q A B := Int.mul_nonneg hp (by omega)
      by_cases y : 0 ≤ mP P Q A B
      · exact y
      · have := Int.mul_neg_of_pos_of_neg (show 0 < D by omega) (show mP P Q A B < 0 by omega); omega
    · have t1 : p * mW P Q A B ≤ D * mW P Q A B := Int.mul_le_mul_of_nonneg_right hD (by omega)
      by_cases y : mP P Q A B ≤ mW P Q A B
      · exact y
      · have := Int.mul_lt_mul_of_pos_left (show mW P Q A B < mP P Q A B by omega) (show 0 < D by omega); omega
  · have hz := par.mp ho.1
    obtain ⟨f1, f2⟩ := form hz
    constructor
    · rw [← zro_mul hW, f1, zro_sc' nzf]
      constructor
      · intro z
        have : D * mO P Q A B = 0 := by omega
        rcases Int.mul_eq_zero.mp this with y | y
        · omega
        · exact y
      · intro z; rw [z]; simp
    · rw [← zro_mul hW, f2, zro_sc' nzf]
      constructor
      · intro z
        rcases Int.mul_eq_zero.mp z with y | y
        · omega
        · omega
      · intro z; rw [z]; simp
def vw (D : Int) (X x : V2) : V2 := (D * x.1 - X.1, D * x.2 - X.2)
def cmn (a b p q : V2) : Prop := ∃ D X, 0 < D ∧ on0 (vw D X a) (vw D X b) ∧ on0 (vw D X p) (vw D X q)
set_option maxHeartbeats 200000 in
theorem on0_sym {a b : V2} (h : on0 a b) : on0 b a := ⟨by rw [crs_sw, h.1]; rfl, by have := h.2; unfold dt at *; rw [Int.mul_comm b.1, Int.mul_comm b.2]; exact this⟩
set_option maxHeartbeats 200000 in
theorem cmn_sym {a b p q : V2} (h : cmn a b p q) : cmn p q a b := by obtain ⟨D, X, h1, h2, h3⟩ := h; exact ⟨D, X, h1, h3, h2⟩
set_option maxHeartbeats 200000 in
theorem onS_sym {a b x : V2} (h : onS a b x) : onS b a x := on_sid.mpr (on0_sym (on_sid.mp h))
set_option maxHeartbeats 200000 in
theorem vw_sub {D : Int} {X a : V2} (x : V2) (h : zro (vw D X a)) : vw D X x = (D * (sub2 x a).1, D * (sub2 x a).2) := by
  unfold zro vw at h
  simp only at h
  unfold vw sub2
  refine Prod.ext ?_ ?_
  · show D * x.1 - X.1 = D * (x.1 - a.1)
    rw [Int.mul_sub]; omega
  · show D * x.2 - X.2 = D * (x.2 - a.2)
    rw [Int.mul_sub]; omega
set_option maxHeartbeats 200000 in
theorem onS_z {D : Int} {X a p q : V2} (hD : 0 < D) (h : zro (vw D X a)) (ho : on0 (vw D X p) (vw D X q)) : onS p q a := by
  rw [vw_sub p h, vw_sub q h, on0_mul hD] at ho
  exact on_sid.mpr ho
set_option maxHeartbeats 200000 in
theorem cmn_on {a b p q : V2} (h : onS a b p) : cmn a b p q := by
  refine ⟨1, p, by omega, ?_, on0_z1 ⟨by show 1 * p.1 - p.1 = 0; omega, by show 1 * p.2 - p.2 = 0; omega⟩⟩
  have e : ∀ x : V2, vw 1 p x = sub2 x p := fun x => by unfold vw sub2; simp
  rw [e, e]; exact on_sid.mp h
set_option maxHeartbeats 200000 in
theorem sn_vw (P Q x : V2) (p D : Int) : sn P Q x p D = vw D (at2 P (sub2 Q P) D p) x := by
  unfold sn pq vw at2 sub2; refine Prod.ext ?_ ?_ <;> simp only <;> grind
set_option maxHeartbeats 200000 in
theorem on_way (P Q : V2) {p D : Int} (hp : 0 ≤ p) (hD : p ≤ D) : on0 (vw D (at2 P (sub2 Q P) D p) P) (vw D (at2 P (sub2 Q P) D p) Q) := by
  have e1 : vw D (at2 P (sub2 Q P) D p) P = (-p * (sub2 Q P).1, -p * (sub2 Q P).2) := by unfold vw at2 sub2; refine Prod.ext ?_ ?_ <;> simp only <;> grind
  have e2 : vw D (at2 P (sub2 Q P) D p) Q = ((D - p) * (sub2 Q P).1, (D - p) * (sub2 Q P).2) := by unfold vw at2 sub2; refine Prod.ext ?_ ?_ <;> simp only <;> grind
  rw [e1, e2]
  exact on0_sc (Int.mul_nonpos_of_nonpos_of_nonneg (by omega) (by omega))
set_option maxHeartbeats 200000 in
theorem cmn_M {P Q A B : V2} (h : mM P Q A B) : cmn P Q A B := by
  have hW : 0 < mW P Q A B := by unfold mW; rw [if_neg h.1]; have := h.1; split <;> omega
  refine ⟨mW P Q A B, at2 P (sub2 Q P) (mW P Q A B) (mP P Q A B), hW, on_way P Q h.2.1 h.2.2.1, ?_⟩
  rw [← sn_vw, ← sn_vw]
  exact (look_met' h.2.1 h.2.2.1 hW h.1).1.mpr ⟨h, Int.mul_comm _ _⟩
/-! by sides -/
set_option maxHeartbeats 200000 in
theorem kM_s (P Q A B : V2) : kM P Q A B = sid P Q B - sid P Q A ∧ kM P Q A B = sid A B P - sid A B Q := by
  unfold kM; constructor <;> (unfold crs sub2 sid; grind)
set_option maxHeartbeats 200000 in
theorem mM_s (P Q A B : V2) : mM P Q A B ↔ (kM P Q A B ≠ 0 ∧ ¬ (0 < sid P Q A ∧ 0 < sid P Q B) ∧ ¬ (sid P Q A < 0 ∧ sid P Q B < 0) ∧ ¬ (0 < sid A B P ∧ 0 < sid A B Q) ∧ ¬ (sid A B P < 0 ∧ sid A B Q < 0)) := by
  obtain ⟨k1, k2⟩ := kM_s P Q A B
  have e1 : crs (sub2 A P) (sub2 B A) = sid A B P := by unfold crs sub2 sid; grind
  have e2 : crs (sub2 A P) (sub2 Q P) = -sid P Q A := by unfold crs sub2 sid; grind
  unfold mM mP mO mW
  rw [e1, e2]
  by_cases z : kM P Q A B = 0
  · exact ⟨fun h => (h.1 z).elim, fun h => (h.1 z).elim⟩
  · simp only [if_neg z]
    by_cases y : kM P Q A B < 0
    · simp only [if_pos y]
      constructor
      · rintro ⟨_, h⟩; exact ⟨z, by omega, by omega, by omega, by omega⟩
      · rintro ⟨_, h⟩; exact ⟨z, by omega, by omega, by omega, by omega⟩
    · simp only [if_neg y]
      constructor
      · rintro ⟨_, h⟩; exact ⟨z, by omega, by omega, by omega, by omega⟩
      · rintro ⟨_, h⟩; exact ⟨z, by omega, by omega, by omega, by omega⟩
set_option maxHeartbeats 200000 in
theorem mt_cmn {a b p q : V2} (h : mt a b p q) : cmn a b p q := by
  rcases h with ⟨h1, h2⟩ | h | h | h | h
  · refine cmn_M ((mM_s a b p q).mpr ?_)
    have k := (kM_s a b p q).1
    unfold opp at h1 h2
    exact ⟨by omega, by omega, by omega, by omega, by omega⟩
  · exact cmn_on h
  · obtain ⟨D, X, h1, h2, h3⟩ := cmn_on (q := p) h
    exact ⟨D, X, h1, h2, on0_sym h3⟩
  · exact cmn_sym (cmn_on h)
  · obtain ⟨D, X, h1, h2, h3⟩ := cmn_on (q := a) h
    exact ⟨D, X, h1, on0_sym h3, h2⟩
set_option maxHeartbeats 200000 in
theorem lin1 {N M u w : Int} (h : N * w = M * u) : N * (u - w) = (N - M) * u := by rw [Int.mul_sub, h, Int.sub_mul]
set_option maxHeartbeats 200000 in
theorem lin2 {N M k u v w : Int} (h1 : N * v = k * u) (h : N * w = M * u) : N * (v - w) = (k - M) * u := by rw [Int.mul_sub, h1, h, Int.sub_mul]
set_option maxHeartbeats 200000 in
theorem lin3 {N M n u w : Int} (h : N * w = M * u) : N * n * (w - u) = n * (M - N) * u := by grind
set_option maxHeartbeats 200000 in
theorem lin4 {N M n k u w z : Int} (h : N * w = M * u) (h2 : n * z = k * w) : N * n * (z - u) = (k * M - N * n) * u := by grind
set_option maxHeartbeats 200000 in
theorem crs_l1 {N k : Int} {u v : V2} (w : V2) (h1 : N * v.1 = k * u.1) (h2 : N * v.2 = k * u.2) : N * crs v w = k * crs u w := by
  unfold crs
  have e : N * (v.1 * w.2 - v.2 * w.1) = (N * v.1) * w.2 - (N * v.2) * w.1 := by grind
  rw [e, h1, h2]; grind
set_option maxHeartbeats 200000 in
theorem crs_l2 {N k : Int} {u v : V2} (w : V2) (h1 : N * v.1 = k * u.1) (h2 : N * v.2 = k * u.2) : N * crs w v = k * crs w u := by
  unfold crs
  have e : N * (w.1 * v.2 - w.2 * v.1) = w.1 * (N * v.2) - w.2 * (N * v.1) := by grind
  rw [e, h1, h2]; grind
set_option maxHeartbeats 200000 in
theorem dt_l1 {N k : Int} {u v : V2} (w : V2) (h1 : N * v.1 = k * u.1) (h2 : N * v.2 = k * u.2) : N * dt v w = k * dt u w := by
  unfold dt
  have e : N * (v.1 * w.1 + v.2 * w.2) = (N * v.1) * w.1 + (N * v.2) * w.2 := by grind
  rw [e, h1, h2]; grind
/-! opposite vectors -/
set_option maxHeartbeats 200000 in
theorem on0_neg {u v : V2} (h : on0 u v) (hu : nz u) (hv : nz v) : dt u v < 0 := by
  have e := al_vec (a := v) (v := u) (by rw [crs_sw, h.1]; rfl)
  have c : dt v u = dt u v := by unfold dt; rw [Int.mul_comm v.1, Int.mul_comm v.2]
  rw [c] at e
  by_cases z : dt u v < 0
  · exact z
  · have z0 : dt u v = 0 := by have := h.2; omega
    rw [z0] at e
    have e1 := congrArg Prod.fst e
    have e2 := congrArg Prod.snd e
    simp only [Int.zero_mul] at e1 e2
    have hN := dt_pos hu
    exact (hv ⟨by rcases Int.mul_eq_zero.mp e1 with y | y; omega; exact y, by rcases Int.mul_eq_zero.mp e2 with y | y; omega; exact y⟩).elim
set_option maxHeartbeats 200000 in
theorem vw_dif (D : Int) (X x y : V2) : (D * (sub2 x y).1, D * (sub2 x y).2) = ((vw D X x).1 - (vw D X y).1, (vw D X x).2 - (vw D X y).2) := by
  unfold vw sub2; refine Prod.ext ?_ ?_ <;> simp only <;> grind
/-! all on one line, p on the side of a -/
set_option maxHeartbeats 200000 in
theorem lineB {D : Int} (hD : 0 < D) {X a b p q : V2} (h1 : on0 (vw D X a) (vw D X b)) (h2 : on0 (vw D X p) (vw D X q)) (hu : nz (vw D X a)) (hv : nz (vw D X b)) (hw : nz (vw D X p)) (hz : nz (vw D X q)) (hc : crs (vw D X a) (vw D X p) = 0) (hd : 0 < dt (vw D X a) (vw D X p)) : onS a b p ∨ onS p q a := by
  have k1 := on0_neg h1 hu hv
  have k2 := on0_neg h2 hw hz
  have ev := al_vec (a := vw D X b) (v := vw D X a) (by rw [crs_sw, h1.1]; rfl)
  have ew := al_vec (a := vw D X p) (v := vw D X a) (by rw [crs_sw, hc]; rfl)
  have ez := al_vec (a := vw D X q) (v := vw D X p) (by rw [crs_sw, h2.1]; rfl)
  have c1 : dt (vw D X b) (vw D X a) = dt (vw D X a) (vw D X b) := by unfold dt; rw [Int.mul_comm (vw D X b).1, Int.mul_comm (vw D X b).2]
  have c2 : dt (vw D X p) (vw D X a) = dt (vw D X a) (vw D X p) := by unfold dt; rw [Int.mul_comm (vw D X p).1, Int.mul_comm (vw D X p).2]
  have c3 : dt (vw D X q) (vw D X p) = dt (vw D X p) (vw D X q) := by unfold dt; rw [Int.mul_comm (vw D X q).1, Int.mul_comm (vw D X q).2]
  rw [c1] at ev
  rw [c2] at ew
  rw [c3] at ez
  have hN := dt_pos hu
  have hM := dt_pos hw
  have d1 := vw_dif D X a p
  have d2 := vw_dif D X b p
  have d3 := vw_dif D X p a
  have d4 := vw_dif D X q a
  rw [on_sid, on_sid, ← on0_mul hD (u := sub2 a p), ← on0_mul hD (u := sub2 p a), d1, d2, d3, d4]
  generalize vw D X a = u at *
  generalize vw D X b = v at *
  generalize vw D X p = w at *
  generalize vw D X q = z at *
  generalize dt u u = N at *
  generalize dt u w = M at *
  generalize dt u v = k at *
  generalize dt w w = N' at *
  generalize dt w z = k' at *
  have v1 := congrArg Prod.fst ev
  have v2 := congrArg Prod.snd ev
  have w1 := congrArg Prod.fst ew
  have w2 := congrArg Prod.snd ew
  have z1 := congrArg Prod.fst ez
  have z2 := congrArg Prod.snd ez
  simp only at v1 v2 w1 w2 z1 z2
  rcases Int.le_total M N with y | y
  · refine Or.inl ?_
    rw [← on0_mul hN]
    have f1 : (N * ((u.1 - w.1, u.2 - w.2) : V2).1, N * ((u.1 - w.1, u.2 - w.2) : V2).2) = ((N - M) * u.1, (N - M) * u.2) := Prod.ext (lin1 w1) (lin1 w2)
    have f2 : (N * ((v.1 - w.1, v.2 - w.2) : V2).1, N * ((v.1 - w.1, v.2 - w.2) : V2).2) = ((k - M) * u.1, (k - M) * u.2) := Prod.ext (lin2 v1 w1) (lin2 v2 w2)
    rw [f1, f2]
    exact on0_sc (Int.mul_nonpos_of_nonneg_of_nonpos (by omega) (by omega))
  · refine Or.inr ?_
    have hNN : 0 < N * N' := Int.mul_pos hN hM
    rw [← on0_mul hNN]
    have f1 : (N * N' * ((w.1 - u.1, w.2 - u.2) : V2).1, N * N' * ((w.1 - u.1, w.2 - u.2) : V2).2) = ((N' * (M - N)) * u.1, (N' * (M - N)) * u.2) := Prod.ext (lin3 w1) (lin3 w2)
    have f2 : (N * N' * ((z.1 - u.1, z.2 - u.2) : V2).1, N * N' * ((z.1 - u.1, z.2 - u.2) : V2).2) = ((k' * M - N * N') * u.1, (k' * M - N * N') * u.2) := Prod.ext (lin4 w1 z1) (lin4 w2 z2)
    rw [f1, f2]
    have t1 : 0 ≤ N' * (M - N) := Int.mul_nonneg (by omega) (by omega)
    have t2 : k' * M < 0 := Int.mul_neg_of_neg_of_pos k2 hd
    exact on0_sc (Int.mul_nonpos_of_nonneg_of_nonpos t1 (by omega))
set_option maxHeartbeats 200000 in
theorem sid_vw (D : Int) (X a b p : V2) : D * D * sid a b p = crs (vw D X b) (vw D X p) - crs (vw D X b) (vw D X a) - crs (vw D X a) (vw D X p) := by
  unfold sid crs vw; grind
set_option maxHeartbeats 200000 in
theorem sgD {D : Int} (hD : 0 < D) {x : Int} : (D * D * x < 0 ↔ x < 0) ∧ (0 < D * D * x ↔ 0 < x) := by
  have h : 0 < D * D := Int.mul_pos hD hD
  constructor
  · rw [← sg_neg, ← sg_neg, sg_mulp h]
  · rw [← sg_pos, ← sg_pos, sg_mulp h]
set_option maxHeartbeats 200000 in
theorem cmn_mt {a b p q : V2} (h : cmn a b p q) : mt a b p q := by
  obtain ⟨D, X, hD, h1, h2⟩ := h
  unfold mt
  by_cases zu : zro (vw D X a)
  · exact Or.inr (Or.inr (Or.inr (Or.inl (onS_z hD zu h2))))
  · by_cases zv : zro (vw D X b)
    · exact Or.inr (Or.inr (Or.inr (Or.inr (onS_z hD zv h2))))
    · by_cases zw : zro (vw D X p)
      · exact Or.inr (Or.inl (onS_z hD zw h1))
      · by_cases zz : zro (vw D X q)
        · exact Or.inr (Or.inr (Or.inl (onS_z hD zz h1)))
        · by_cases c0 : crs (vw D X a) (vw D X p) = 0
          · -- all on one line
            have sym : onS a b p ∨ onS p q a ∨ onS p q b := by
              have k := on0_neg h1 zu zv
              have ev := al_vec (a := vw D X b) (v := vw D X a) (by rw [crs_sw, h1.1]; rfl)
              have c1 : dt (vw D X b) (vw D X a) = dt (vw D X a) (vw D X b) := by unfold dt; rw [Int.mul_comm (vw D X b).1, Int.mul_comm (vw D X b).2]
              rw [c1] at ev
              have hN := dt_pos zu
              have e1 := congrArg Prod.fst ev
              have e2 := congrArg Prod.snd ev
              simp only at e1 e2
              have cb := crs_l1 (vw D X p) e1 e2
              have db := dt_l1 (vw D X p) e1 e2
              by_cases pos' : 0 < dt (vw D X a) (vw D X p)
              · rcases lineB hD h1 h2 zu zv zw zz c0 pos' with y | y
                · exact Or.inl y
                · exact Or.inr (Or.inl y)
              · have ne : dt (vw D X a) (vw D X p) ≠ 0 := by
                  intro y
                  have ew := al_vec (a := vw D X p) (v := vw D X a) (by rw [crs_sw, c0]; rfl)
                  have c2 : dt (vw D X p) (vw D X a) = dt (vw D X a) (vw D X p) := by unfold dt; rw [Int.mul_comm (vw D X p).1, Int.mul_comm (vw D X p).2]
                  rw [c2, y] at ew
                  have g1 := congrArg Prod.fst ew
                  have g2 := congrArg Prod.snd ew
                  simp only [Int.zero_mul] at g1 g2
                  exact zw ⟨by rcases Int.mul_eq_zero.mp g1 with t | t; omega; exact t, by rcases Int.mul_eq_zero.mp g2 with t | t; omega; exact t⟩
                have cb0 : crs (vw D X b) (vw D X p) = 0 := by
                  rw [c0, Int.mul_zero] at cb
                  rcases Int.mul_eq_zero.mp cb with t | t
                  · omega
                  · exact t
                have db0 : 0 < dt (vw D X b) (vw D X p) := by
                  have := Int.mul_pos_of_neg_of_neg k (show dt (vw D X a) (vw D X p) < 0 by omega)
                  rw [← db] at this
                  by_cases t : 0 < dt (vw D X b) (vw D X p)
                  · exact t
                  · have := Int.mul_nonpos_of_nonneg_of_nonpos (show 0 ≤ dt (vw D X a) (vw D X a) by omega) (show dt (vw D X b) (vw D X p) ≤ 0 by omega); omega
                rcases lineB hD (on0_sym h1) h2 zv zu zw zz cb0 db0 with y | y
                · exact Or.inl (onS_sym y)
                · exact Or.inr (Or.inr y)
            rcases sym with y | y | y
            · exact Or.inr (Or.inl y)
            · exact Or.inr (Or.inr (Or.inr (Or.inl y)))
            · exact Or.inr (Or.inr (Or.inr (Or.inr y)))
          · -- they pass each other
            have k1 := on0_neg h1 zu zv
            have k2 := on0_neg h2 zw zz
            have ev := al_vec (a := vw D X b) (v := vw D X a) (by rw [crs_sw, h1.1]; rfl)
            have ez := al_vec (a := vw D X q) (v := vw D X p) (by rw [crs_sw, h2.1]; rfl)
            have c1 : dt (vw D X b) (vw D X a) = dt (vw D X a) (vw D X b) := by unfold dt; rw [Int.mul_comm (vw D X b).1, Int.mul_comm (vw D X b).2]
            have c3 : dt (vw D X q) (vw D X p) = dt (vw D X p) (vw D X q) := by unfold dt; rw [Int.mul_comm (vw D X q).1, Int.mul_comm (vw D X q).2]
            rw [c1] at ev
            rw [c3] at ez
            have hN := dt_pos zu
            have hM := dt_pos zw
            have s1 := sid_vw D X a b p
            have s2 := sid_vw D X a b q
            have s3 := sid_vw D X p q a
            have s4 := sid_vw D X p q b
            have g1 := (sgD hD (x := sid a b p))
            have g2 := (sgD hD (x := sid a b q))
            have g3 := (sgD hD (x := sid p q a))
            have g4 := (sgD hD (x := sid p q b))
            have e0 : crs (vw D X b) (vw D X a) = 0 := by rw [crs_sw, h1.1]; rfl
            have e0' : crs (vw D X q) (vw D X p) = 0 := by rw [crs_sw, h2.1]; rfl
            rw [e0] at s1 s2
            rw [e0'] at s3 s4
            generalize vw D X a = u at *
            generalize vw D X b = v at *
            generalize vw D X p = w at *
            generalize vw D X q = z at *
            have v1 := congrArg Prod.fst ev
            have v2 := congrArg Prod.snd ev
            have z1 := congrArg Prod.fst ez
            have z2 := congrArg Prod.snd ez
            simp only at v1 v2 z1 z2
            have m1 := crs_l1 w v1 v2
            have m2 := crs_l2 u z1 z2
            have r1 : crs z u = -crs u z := crs_sw _ _
            have r2 : crs w u = -crs u w := crs_sw _ _
            have r3 : crs z v = -crs v z := crs_sw _ _
            have r4 : crs w v = -crs v w := crs_sw _ _
            rw [r1, r2] at s3
            rw [r3, r4] at s4
            -- signs
            have sgn1 : ∀ {N x y t : Int}, 0 < N → t < 0 → N * x = t * y → (0 < y → x < 0) ∧ (y < 0 → 0 < x) := by
              intro N x y t hN' ht e
              constructor
              · intro hy
                have := Int.mul_neg_of_neg_of_pos ht hy
                by_cases q' : x < 0
                · exact q'
                · have := Int.mul_nonneg (show 0 ≤ N by omega) (show 0 ≤ x by omega); omega
              · intro hy
                have := Int.mul_pos_of_neg_of_neg ht hy
                by_cases q' : 0 < x
                · exact q'
                · have := Int.mul_nonpos_of_nonneg_of_nonpos (show 0 ≤ N by omega) (show x ≤ 0 by omega); omega
            have q1 := sgn1 hN k1 m1
            have q2 := sgn1 hM k2 m2
            have q3 := crs_l2 v z1 z2
            have q3' := sgn1 hM k2 q3
            refine Or.inl ?_
            unfold opp
            rcases Int.lt_trichotomy (crs u w) 0 with y | y | y
            · have a1 := q1.2 y
              have a2 := q2.2 y
              have a3 := q3'.1 a1
              exact ⟨Or.inr ⟨g1.2.mp (by omega), g2.1.mp (by omega)⟩, Or.inl ⟨g3.1.mp (by omega), g4.2.mp (by omega)⟩⟩
            · exact (c0 y).elim
            · have a1 := q1.1 y
              have a2 := q2.1 y
              have a3 := q3'.2 a1
              exact ⟨Or.inl ⟨g1.1.mp (by omega), g2.2.mp (by omega)⟩, Or.inr ⟨g3.2.mp (by omega), g4.1.mp (by omega)⟩⟩

/-! a way seen from a part of another way -/
set_option maxHeartbeats 200000 in
theorem al_key {P Q x : V2} (hPQ : P ≠ Q) (hx : sid P Q x = 0) : whl P Q * (sub2 x P).1 = pos P Q x * (sub2 Q P).1 ∧ whl P Q * (sub2 x P).2 = pos P Q x * (sub2 Q P).2 := by
  unfold sid at hx
  unfold whl pos sub2
  by_cases q : P.1 = Q.1
  · rw [fX_v q, fX_v q, fX_v q]
    have e : (Q.2 - P.2) * (x.1 - P.1) = 0 := by
      have : Q.1 - P.1 = 0 := by omega
      rw [this] at hx; omega
    have hy : Q.2 - P.2 ≠ 0 := fun z => hPQ (V2_eq.mpr ⟨q, by omega⟩)
    have e2 : x.1 - P.1 = 0 := by rcases Int.mul_eq_zero.mp e with z | z; exact (hy z).elim; exact z
    have e3 : Q.1 - P.1 = 0 := by omega
    simp only
    split
    · exact ⟨by rw [e2, e3]; simp, by rw [Int.mul_comm]⟩
    · exact ⟨by rw [e2, e3]; simp, by grind⟩
  · rw [fX_h q, fX_h q, fX_h q]
    simp only
    split
    · exact ⟨by rw [Int.mul_comm], by grind⟩
    · exact ⟨by grind, by grind⟩
set_option maxHeartbeats 200000 in
theorem on0_mul {W : Int} (hW : 0 < W) {u v : V2} : on0 (W * u.1, W * u.2) (W * v.1, W * v.2) ↔ on0 u v := by
  have w2 : 0 < W * W := Int.mul_pos hW hW
  have c : crs (W * u.1, W * u.2) (W * v.1, W * v.2) = (W * W) * crs u v := by unfold crs; grind
  have t : dt (W * u.1, W * u.2) (W * v.1, W * v.2) = (W * W) * dt u v := by unfold dt; grind
  unfold on0
  rw [c, t]
  constructor
  · rintro ⟨o1, o2⟩
    refine ⟨?_, ?_⟩
    · rcases Int.mul_eq_zero.mp o1 with z | z
      · omega
      · exact z
    · by_cases z : dt u v ≤ 0
      · exact z
      · have := Int.mul_pos w2 (show 0 < dt u v by omega); omega
  · rintro ⟨o1, o2⟩
    exact ⟨by rw [o1, Int.mul_zero], Int.mul_nonpos_of_nonneg_of_nonpos (by omega) o2⟩
set_option maxHeartbeats 200000 in
theorem zro_mul {W : Int} (hW : 0 < W) {u : V2} : zro (W * u.1, W * u.2) ↔ zro u := by
  unfold zro
  simp only
  constructor
  · rintro ⟨a, b⟩
    exact ⟨by rcases Int.mul_eq_zero.mp a with z | z; omega; exact z, by rcases Int.mul_eq_zero.mp b with z | z; omega; exact z⟩
  · rintro ⟨a, b⟩; rw [a, b]; simp
set_option maxHeartbeats 200000 in
theorem on0_sc' {u v : Int} {s : V2} (hs : nz s) : on0 (u * s.1, u * s.2) (v * s.1, v * s.2) ↔ u * v ≤ 0 := by
  refine ⟨fun h => ?_, on0_sc⟩
  have : dt (u * s.1, u * s.2) (v * s.1, v * s.2) = (u * v) * dt s s := by unfold dt; grind
  have h2 := h.2
  rw [this] at h2
  by_cases z : u * v ≤ 0
  · exact z
  · have := Int.mul_pos (show 0 < u * v by omega) (dt_pos hs); omega
set_option maxHeartbeats 200000 in
theorem zro_sc' {u : Int} {s : V2} (hs : nz s) : zro (u * s.1, u * s.2) ↔ u = 0 := ⟨fun h => zro_sc hs h, fun h => by subst h; unfold zro; simp⟩
/-- seen from the part p / D of the way from P to Q -/
def sn (P Q x : V2) (p D : Int) : V2 := pq (sub2 Q P) D p (sub2 x P)
set_option maxHeartbeats 200000 in
theorem sn_al {P Q x : V2} {p D : Int} (hPQ : P ≠ Q) (hx : sid P Q x = 0) : (whl P Q * (sn P Q x p D).1, whl P Q * (sn P Q x p D).2) = ((D * pos P Q x - p * whl P Q) * (sub2 Q P).1, (D * pos P Q x - p * whl P Q) * (sub2 Q P).2) := by
  obtain ⟨a1, a2⟩ := al_key hPQ hx
  unfold sn pq
  generalize sub2 Q P = s at *
  generalize sub2 x P = u at *
  generalize whl P Q = W at *
  generalize pos P Q x = y at *
  refine Prod.ext ?_ ?_ <;> simp only <;> grind
set_option maxHeartbeats 200000 in
theorem inL_sid {P Q A B : V2} (h : inL P Q A B) : sid P Q A = 0 ∧ sid P Q B = 0 := by
  obtain ⟨h1, h2⟩ := h
  rw [crs_s2] at h2
  refine ⟨h2, ?_⟩
  unfold kM at h1
  have : sid P Q B = crs (sub2 Q P) (sub2 B A) + sid P Q A := by unfold sid crs sub2; grind
  rw [this, h1, h2]; rfl
set_option maxHeartbeats 200000 in
theorem look_in {P Q A B : V2} {p D : Int} (hPQ : P ≠ Q) (h : inL P Q A B) : (on0 (sn P Q A p D) (sn P Q B p D) ↔ (D * mP P Q A B - p * mW P Q A B) * (D * mO P Q A B - p * mW P Q A B) ≤ 0) ∧ (zro (sn P Q A p D) ↔ D * mP P Q A B = p * mW P Q A B) ∧ (zro (sn P Q B p D) ↔ D * mO P Q A B = p * mW P Q A B) := by
  obtain ⟨sA, sB⟩ := inL_sid h
  have e1 : mP P Q A B = pos P Q A := by unfold mP; rw [if_pos h.1]
  have e2 : mO P Q A B = pos P Q B := by unfold mO; rw [if_pos h.1]
  have e3 : mW P Q A B = whl P Q := by unfold mW; rw [if_pos h.1]
  rw [e1, e2, e3]
  have hw := whl_pos hPQ
  have hs := nz_sub hPQ
  refine ⟨?_, ?_, ?_⟩
  · rw [← on0_mul hw, sn_al hPQ sA, sn_al hPQ sB, on0_sc' hs]
  · rw [← zro_mul hw, sn_al hPQ sA, zro_sc' hs]; omega
  · rw [← zro_mul hw, sn_al hPQ sB, zro_sc' hs]; omega
set_option maxHeartbeats 200000 in
theorem look_met {P Q A B : V2} {p D : Int} (hp : 0 ≤ p) (hD : p < D) (h : kM P Q A B ≠ 0) : (on0 (sn P Q A p D) (sn P Q B p D) ↔ (mM P Q A B ∧ D * mP P Q A B = p * mW P Q A B)) ∧ (on0 (sn P Q A p D) (sn P Q B p D) → (zro (sn P Q A p D) ↔ mO P Q A B = 0) ∧ (zro (sn P Q B p D) ↔ mO P Q A B = mW P Q A B)) := by
  have hW : 0 < mW P Q A B := by unfold mW; rw [if_neg h]; split <;> omega
  have nzf : nz (sub2 B A) := by
    intro z
    apply h
    unfold kM crs
    rw [z.1, z.2]; simp
  have dif : sn P Q B p D = ((sn P Q A p D).1 + D * (sub2 B A).1, (sn P Q A p D).2 + D * (sub2 B A).2) := by
    unfold sn pq sub2; refine Prod.ext ?_ ?_ <;> simp only <;> grind
  have c1 : crs (sn P Q A p D) (sn P Q B p D) = D * (D * crs (sub2 A P) (sub2 B A) - p * kM P Q A B) := by
    rw [dif]; unfold sn pq kM
    generalize sub2 Q P = s
    generalize sub2 A P = u
    generalize sub2 B A = f
    unfold crs; grind
  -- with the sign of kM
  have sgP : D * crs (sub2 A P) (sub2 B A) - p * kM P Q A B = 0 ↔ D * mP P Q A B = p * mW P Q A B := by
    unfold mP mW
    rw [if_neg h, if_neg h]
    by_cases q : kM P Q A B < 0
    · rw [if_pos q, if_pos q]
      have e1 : D * -crs (sub2 A P) (sub2 B A) = -(D * crs (sub2 A P) (sub2 B A)) := by grind
      have e2 : p * -kM P Q A B = -(p * kM P Q A B) := by grind
      omega
    · rw [if_neg q, if_neg q]; omega
  have par : crs (sn P Q A p D) (sn P Q B p D) = 0 ↔ D * mP P Q A B = p * mW P Q A B := by
    rw [c1, ← sgP]
    constructor
    · intro z
      rcases Int.mul_eq_zero.mp z with y | y
      · omega
      · exact y
    · intro z; rw [z, Int.mul_zero]
  have form : D * mP P Q A B = p * mW P Q A B → (mW P Q A B * (sn P Q A p D).1, mW P Q A B * (sn P Q A p D).2) = ((-(D * mO P Q A B)) * (sub2 B A).1, (-(D * mO P Q A B)) * (sub2 B A).2) ∧ (mW P Q A B * (sn P Q B p D).1, mW P Q A B * (sn P Q B p D).2) = ((D * (mW P Q A B - mO P Q A B)) * (sub2 B A).1, (D * (mW P Q A B - mO P Q A B)) * (sub2 B A).2) := by
    intro hz
    have z := sgP.mpr hz
    have k1 : kM P Q A B * (sn P Q A p D).1 = -(D * crs (sub2 A P) (sub2 Q P)) * (sub2 B A).1 := by
      have : kM P Q A B * (sn P Q A p D).1 = (D * crs (sub2 A P) (sub2 B A) - p * kM P Q A B) * (sub2 Q P).1 - D * crs (sub2 A P) (sub2 Q P) * (sub2 B A).1 := by
        unfold sn pq kM
        generalize sub2 Q P = s
        generalize sub2 A P = u
        generalize sub2 B A = f
        unfold crs; grind
      rw [this, z]; grind
    have k2 : kM P Q A B * (sn P Q A p D).2 = -(D * crs (sub2 A P) (sub2 Q P)) * (sub2 B A).2 := by
      have : kM P Q A B * (sn P Q A p D).2 = (D * crs (sub2 A P) (sub2 B A) - p * kM P Q A B) * (sub2 Q P).2 - D * crs (sub2 A P) (sub2 Q P) * (sub2 B A).2 := by
        unfold sn pq kM
        generalize sub2 Q P = s
        generalize sub2 A P = u
        generalize sub2 B A = f
        unfold crs; grind
      rw [this, z]; grind
    have hA : mW P Q A B * (sn P Q A p D).1 = (-(D * mO P Q A B)) * (sub2 B A).1 ∧ mW P Q A B * (sn P Q A p D).2 = (-(D * mO P Q A B)) * (sub2 B A).2 := by
      unfold mW mO
      rw [if_neg h, if_neg h]
      by_cases q : kM P Q A B < 0
      · rw [if_pos q, if_pos q]
        constructor
        · have : -kM P Q A B * (sn P Q A p D).1 = -(kM P Q A B * (sn P Q A p D).1) := by grind
          rw [this, k1]; grind
        · have : -kM P Q A B * (sn P Q A p D).2 = -(kM P Q A B * (sn P Q A p D).2) := by grind
          rw [this, k2]; grind
      · rw [if_neg q, if_neg q]; exact ⟨k1, k2⟩
    refine ⟨Prod.ext hA.1 hA.2, ?_⟩
    rw [dif]
    refine Prod.ext ?_ ?_
    · show mW P Q A B * ((sn P Q A p D).1 + D * (sub2 B A).1) = _
      rw [Int.mul_add, hA.1]; grind
    · show mW P Q A B * ((sn P Q A p D).2 + D * (sub2 B A).2) = _
      rw [Int.mul_add, hA.2]; grind
  have on_iff : D * mP P Q A B = p * mW P Q A B → (on0 (sn P Q A p D) (sn P Q B p D) ↔ (0 ≤ mO P Q A B ∧ mO P Q A B ≤ mW P Q A B)) := by
    intro hz
    obtain ⟨f1, f2⟩ := form hz
    rw [← on0_mul hW, f1, f2, on0_sc' nzf]
    generalize mO P Q A B = o at *
    generalize mW P Q A B = W at *
    have e : -(D * o) * (D * (W - o)) = -((D * D) * (o * (W - o))) := by grind
    have hDD : 0 < D * D := Int.mul_pos (by omega) (by omega)
    rw [e]
    constructor
    · intro z
      have t : 0 ≤ o * (W - o) := by
        by_cases y : 0 ≤ o * (W - o)
        · exact y
        · have := Int.mul_neg_of_pos_of_neg hDD (show o * (W - o) < 0 by omega); omega
      by_cases y1 : 0 ≤ o
      · by_cases y2 : o ≤ W
        · exact ⟨y1, y2⟩
        · have := Int.mul_neg_of_pos_of_neg (show 0 < o by omega) (show W - o < 0 by omega); omega
      · have := Int.mul_neg_of_neg_of_pos (show o < 0 by omega) (show 0 < W - o by omega); omega
    · rintro ⟨y1, y2⟩
      have := Int.mul_nonneg (Int.le_of_lt hDD) (Int.mul_nonneg y1 (show 0 ≤ W - o by omega))
      omega
  refine ⟨⟨fun ho => ?_, fun ⟨hm, hz⟩ => (on_iff hz).mpr ⟨hm.2.2.2.1, hm.2.2.2.2⟩⟩, fun ho => ?_⟩
  · have hz := par.mp ho.1
    have o := (on_iff hz).mp ho
    refine ⟨⟨h, ?_, ?_, o.1, o.2⟩, hz⟩
    · have : 0 ≤ p * mW P Q A B := Int.mul_nonneg hp (by omega)
      by_cases y : 0 ≤ mP P Q A B
      · exact y
      · have := Int.mul_neg_of_pos_of_neg (show 0 < D by omega) (show mP P Q A B < 0 by omega); omega
    · have t1 : p * mW P Q A B < D * mW P Q A B := Int.mul_lt_mul_of_pos_right hD hW
      by_cases y : mP P Q A B ≤ mW P Q A B
      · exact y
      · have := Int.mul_lt_mul_of_pos_left (show mW P Q A B < mP P Q A B by omega) (show 0 < D by omega); omega
  · have hz := par.mp ho.1
    obtain ⟨f1, f2⟩ := form hz
    constructor
    · rw [← zro_mul hW, f1, zro_sc' nzf]
      constructor
      · intro z
        have : D * mO P Q A B = 0 := by omega
        rcases Int.mul_eq_zero.mp this with y | y
        · omega
        · exact y
      · intro z; rw [z]; simp
    · rw [← zro_mul hW, f2, zro_sc' nzf]
      constructor
      · intro z
        rcases Int.mul_eq_zero.mp z with y | y
        · omega
        · omega
      · intro z; rw [z]; simp
/-- the half-way from the part on towards B, and towards A -/
def foH (P Q A B : V2) (p D : Int) : Prop := on0 (sn P Q A p D) (sn P Q B p D) ∧ nz (sn P Q B p D)
def baH (P Q A B : V2) (p D : Int) : Prop := on0 (sn P Q A p D) (sn P Q B p D) ∧ nz (sn P Q A p D)
set_option maxHeartbeats 200000 in
theorem cmN_lt (a b : Nat) : cmN a b < 0 ↔ a < b := by
  unfold cmN
  split
  · exact ⟨fun _ => by omega, fun _ => by decide⟩
  · split
    · exact ⟨fun h => absurd h (by decide), fun h => by omega⟩
    · exact ⟨fun h => absurd h (by decide), fun h => by omega⟩
set_option maxHeartbeats 200000 in
theorem cmN_eq (a b : Nat) : cmN a b = 0 ↔ a = b := by
  unfold cmN
  split
  · exact ⟨fun h => absurd h (by decide), fun h => by omega⟩
  · split
    · exact ⟨fun _ => by omega, fun _ => rfl⟩
    · exact ⟨fun h => absurd h (by decide), fun h => by omega⟩
set_option maxHeartbeats 200000 in
theorem cmN_gt (a b : Nat) : 0 < cmN a b ↔ b < a := by
  unfold cmN
  split
  · exact ⟨fun h => absurd h (by decide), fun h => by omega⟩
  · split
    · exact ⟨fun h => absurd h (by decide), fun h => by omega⟩
    · exact ⟨fun _ => by omega, fun _ => by decide⟩
abbrev P63 (z : Int) : Prop := 0 ≤ z ∧ z < 9223372036854775808
set_option maxHeartbeats 200000 in
theorem ti_mul' {a b : Int} (ha : 0 ≤ a) (hb : 0 ≤ b) : ((a.toNat * b.toNat : Nat) : Int) = a * b := by rw [Int.natCast_mul, Int.toNat_of_nonneg ha, Int.toNat_of_nonneg hb]
set_option maxHeartbeats 200000 in
theorem m_cmpJ {n : Nat} {σ : xσ} {a b c d : Int} (ha : P63 a) (hb : P63 b) (hc : P63 c) (hd : P63 d) : ∃ v σ', f_X14_compare_ n (jJ a) (jJ b) (jJ c) (jJ d) σ = some (v, σ') ∧ Fr A47 σ σ' ∧ (v < 0 ↔ a * d < c * b) ∧ (v = 0 ↔ a * d = c * b) ∧ (0 < v ↔ c * b < a * d) := by
  rw [lN_j ha.1, lN_j hb.1, lN_j hc.1, lN_j hd.1]
  obtain ⟨σ', e, f⟩ := m_cmpQ (n := n) (σ := σ) (a := a.toNat) (b := b.toNat) (c := c.toNat) (d := d.toNat) (by omega) (by omega) (by omega) (by omega)
  have m1 := ti_mul' ha.1 hd.1
  have m2 := ti_mul' hc.1 hb.1
  refine ⟨_, σ', e, f, ?_, ?_, ?_⟩
  · rw [cmN_lt]; omega
  · rw [cmN_eq]; omega
  · rw [cmN_gt]; omega

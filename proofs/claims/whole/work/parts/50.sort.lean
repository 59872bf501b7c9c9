/-! THE CUTTER: sorting the cuts -/
def sm (f : Nat → Int) : Nat → Int
  | 0 => 0
  | k + 1 => sm f k + f k
set_option maxHeartbeats 200000 in
theorem sm_congr {f g : Nat → Int} {N : Nat} (h : ∀ i, i < N → f i = g i) : sm f N = sm g N := by
  induction N with
  | zero => rfl
  | succ k ih => rw [sm, sm, ih (fun i hi => h i (by omega)), h k (by omega)]
/-- the same cuts in another order -/
def Eqv (f g : Nat → Cut) (N : Nat) : Prop := ∀ ψ : Cut → Int, sm (fun i => ψ (f i)) N = sm (fun i => ψ (g i)) N
set_option maxHeartbeats 200000 in
theorem Eqv.refl {f : Nat → Cut} {N : Nat} : Eqv f f N := fun _ => rfl
set_option maxHeartbeats 200000 in
theorem Eqv.trans {f g h : Nat → Cut} {N : Nat} (a : Eqv f g N) (b : Eqv g h N) : Eqv f h N := fun ψ => (a ψ).trans (b ψ)
set_option maxHeartbeats 200000 in
theorem Eqv.symm {f g : Nat → Cut} {N : Nat} (a : Eqv f g N) : Eqv g f N := fun ψ => (a ψ).symm
set_option maxHeartbeats 200000 in
theorem sm_nn {f : Nat → Int} {N : Nat} (h : ∀ i, i < N → 0 ≤ f i) : 0 ≤ sm f N := by
  induction N with
  | zero => exact Int.le_refl 0
  | succ k ih => rw [sm]; have := ih (fun i hi => h i (by omega)); have := h k (by omega); omega
set_option maxHeartbeats 200000 in
theorem sm_pos {f : Nat → Int} {N : Nat} (h : ∀ i, i < N → 0 ≤ f i) : 0 < sm f N ↔ ∃ i, i < N ∧ 0 < f i := by
  induction N with
  | zero => exact ⟨fun z => by simp [sm] at z, fun ⟨i, hi, _⟩ => by omega⟩
  | succ k ih =>
    have h1 := ih (fun i hi => h i (by omega))
    have h2 := h k (by omega)
    have h3 := sm_nn (fun i hi => h i (show i < k + 1 by omega)) (N := k)
    rw [sm]
    constructor
    · intro z
      by_cases q : 0 < f k
      · exact ⟨k, by omega, q⟩
      · obtain ⟨i, a, b⟩ := h1.mp (by omega)
        exact ⟨i, by omega, b⟩
    · rintro ⟨i, a, b⟩
      by_cases q : i = k
      · subst q; omega
      · have := h1.mpr ⟨i, by omega, b⟩; omega
set_option maxHeartbeats 200000 in
theorem Eqv.ex {f g : Nat → Cut} {N : Nat} (a : Eqv f g N) (P : Cut → Prop) : (∃ i, i < N ∧ P (f i)) ↔ ∃ i, i < N ∧ P (g i) := by
  have h := a (fun c => ifP (P c) 1 0)
  have k : ∀ u : Nat → Cut, (∃ i, i < N ∧ P (u i)) ↔ 0 < sm (fun i => ifP (P (u i)) (1 : Int) 0) N := by
    intro u
    rw [sm_pos (fun i _ => by by_cases q : P (u i); rw [ifP_t q]; decide; rw [ifP_f q]; decide)]
    constructor
    · rintro ⟨i, x, y⟩; exact ⟨i, x, by rw [ifP_t y]; decide⟩
    · rintro ⟨i, x, y⟩
      by_cases q : P (u i)
      · exact ⟨i, x, q⟩
      · rw [ifP_f q] at y; exact absurd y (by decide)
  rw [k, k, h]
set_option maxHeartbeats 200000 in
theorem Eqv.all {f g : Nat → Cut} {N : Nat} (a : Eqv f g N) {P : Cut → Prop} (h : ∀ i, i < N → P (f i)) : ∀ i, i < N → P (g i) := by
  intro i hi
  by_cases q : P (g i)
  · exact q
  · obtain ⟨j, x, y⟩ := (a.ex (fun c => ¬ P c)).mpr ⟨i, hi, q⟩
    exact (y (h j x)).elim
def swp2 (f : Nat → Cut) (j : Nat) : Nat → Cut := fun i => if i = j then f (j + 1) else if i = j + 1 then f j else f i
set_option maxHeartbeats 200000 in
theorem Eqv.swap (f : Nat → Cut) {j N : Nat} (h : j + 1 < N) : Eqv f (swp2 f j) N := by
  intro ψ
  induction N with
  | zero => omega
  | succ k ih =>
    rw [sm, sm]
    by_cases q : j + 1 = k
    · subst q
      rw [sm, sm]
      have e : sm (fun i => ψ (swp2 f j i)) j = sm (fun i => ψ (f i)) j := sm_congr (fun i hi => by unfold swp2; rw [if_neg (by omega), if_neg (by omega)])
      rw [e]
      have e1 : swp2 f j j = f (j + 1) := by unfold swp2; rw [if_pos rfl]
      have e2 : swp2 f j (j + 1) = f j := by unfold swp2; rw [if_neg (by omega), if_pos rfl]
      rw [e1, e2]; omega
    · rw [ih (by omega)]
      have e1 : swp2 f j k = f k := by unfold swp2; rw [if_neg (by omega), if_neg (by omega)]
      rw [e1]
/-- the rows of the cutter hold the cuts f -/
def cel (σ : xσ) (i : Nat) (c : Cut) : Prop := sJ σ 24 i = jJ c.1 ∧ sJ σ 25 i = jJ c.2.1 ∧ sI σ 26 i = iI c.2.2
def AR (σ : xσ) (N : Nat) (f : Nat → Cut) : Prop := ∀ i, i < N → cel σ i (f i)
/-- a cut within the way -/
def cvl (c : Cut) : Prop := 0 < c.1 ∧ c.1 < c.2.1 ∧ c.2.1 < 9223372036854775808 ∧ (c.2.2 = 0 ∨ c.2.2 = 1 ∨ c.2.2 = -1)
def wC (σ : xσ) (j : Nat) (c : Cut) : xσ := wI (wJ (wJ σ 24 j (jJ c.1)) 25 j (jJ c.2.1)) 26 j (iI c.2.2)
set_option maxHeartbeats 200000 in
theorem cel_w (σ : xσ) (j : Nat) (c : Cut) : cel (wC σ j c) j c := by
  unfold cel wC
  refine ⟨?_, ?_, ?_⟩
  · rw [sJ_wI, sJ_wJ, if_neg (by omega), sJ_wJ, if_pos ⟨rfl, rfl⟩]
  · rw [sJ_wI, sJ_wJ, if_pos ⟨rfl, rfl⟩]
  · rw [sI_wI, if_pos ⟨rfl, rfl⟩]
set_option maxHeartbeats 200000 in
theorem cel_n {σ : xσ} {j i : Nat} {c d : Cut} (h : i ≠ j) (k : cel σ i d) : cel (wC σ j c) i d := by
  unfold cel wC
  obtain ⟨k1, k2, k3⟩ := k
  refine ⟨?_, ?_, ?_⟩
  · rw [sJ_wI, sJ_wJ, if_neg (by omega), sJ_wJ, if_neg (by omega)]; exact k1
  · rw [sJ_wI, sJ_wJ, if_neg (by omega), sJ_wJ, if_neg (by omega)]; exact k2
  · rw [sI_wI, if_neg (by omega)]; exact k3
/-- nothing but the rows of cuts -/
def FrA (σ σ' : xσ) : Prop := FrC σ σ' ∧ ∀ k, sI σ' 18 k = sI σ 18 k
set_option maxHeartbeats 200000 in
theorem FrA.refl {σ : xσ} : FrA σ σ := ⟨FrC.refl, fun _ => rfl⟩
set_option maxHeartbeats 200000 in
theorem FrA.trans {σ1 σ2 σ3 : xσ} (h : FrA σ1 σ2) (k : FrA σ2 σ3) : FrA σ1 σ3 := ⟨h.1.trans k.1, fun j => (k.2 j).trans (h.2 j)⟩
set_option maxHeartbeats 200000 in
theorem FrA_wC {σ : xσ} {j : Nat} {c : Cut} : FrA σ (wC σ j c) := ⟨(FrC.wJ (Or.inl rfl)).trans ((FrC.wJ (Or.inr rfl)).trans FrC.w26), fun k => by unfold wC; rw [sI_wI, if_neg (by omega)]; rfl⟩
/-- a cut that is not behind another one -/
def cLe (c d : Cut) : Prop := c.1 * d.2.1 ≤ d.1 * c.2.1
set_option maxHeartbeats 200000 in
theorem cLe_t {c d e : Cut} (hd : 0 < d.2.1) (hc : 0 < c.2.1) (he : 0 < e.2.1) (h1 : cLe c d) (h2 : cLe d e) : cLe c e := by
  unfold cLe at *
  have a : c.1 * d.2.1 * e.2.1 ≤ d.1 * c.2.1 * e.2.1 := Int.mul_le_mul_of_nonneg_right h1 (by omega)
  have b : d.1 * e.2.1 * c.2.1 ≤ e.1 * d.2.1 * c.2.1 := Int.mul_le_mul_of_nonneg_right h2 (by omega)
  have e1 : c.1 * d.2.1 * e.2.1 = (c.1 * e.2.1) * d.2.1 := by grind
  have e2 : e.1 * d.2.1 * c.2.1 = (e.1 * c.2.1) * d.2.1 := by grind
  have e3 : d.1 * c.2.1 * e.2.1 = d.1 * e.2.1 * c.2.1 := by grind
  rw [e1] at a; rw [e2] at b
  exact Int.le_of_mul_le_mul_right (by omega) hd
def Srt (f : Nat → Cut) (N : Nat) : Prop := ∀ i j, i < j → j < N → cLe (f i) (f j)
set_option maxHeartbeats 200000 in
theorem cmN_le (a b : Nat) : cmN a b ≤ 0 ↔ a ≤ b := by
  unfold cmN
  split
  · exact ⟨fun _ => by omega, fun _ => by decide⟩
  · split
    · exact ⟨fun _ => by omega, fun _ => by decide⟩
    · exact ⟨fun h => absurd h (by decide), fun h => by omega⟩
set_option maxHeartbeats 200000 in
theorem ti_mul {a b c d : Int} (ha : 0 ≤ a) (hb : 0 ≤ b) (hc : 0 ≤ c) (hd : 0 ≤ d) : a.toNat * b.toNat ≤ c.toNat * d.toNat ↔ a * b ≤ c * d := by
  have e1 : ((a.toNat * b.toNat : Nat) : Int) = a * b := by rw [Int.natCast_mul, Int.toNat_of_nonneg ha, Int.toNat_of_nonneg hb]
  have e2 : ((c.toNat * d.toNat : Nat) : Int) = c * d := by rw [Int.natCast_mul, Int.toNat_of_nonneg hc, Int.toNat_of_nonneg hd]
  rw [← e1, ← e2]; omega
set_option maxHeartbeats 200000 in
theorem e_cmpP {n : Nat} {σ : xσ} {a b c d : Int} (ha : 0 ≤ a ∧ a < 9223372036854775808) (hb : 0 ≤ b ∧ b < 9223372036854775808) (hc : 0 ≤ c ∧ c < 9223372036854775808) (hd : 0 ≤ d ∧ d < 9223372036854775808) : ∃ v, f_X4_compareProducts n (jJ a) (jJ b) (jJ c) (jJ d) σ = some (v, σ) ∧ (v ≤ 0 ↔ a * b ≤ c * d) := by
  rw [lN_j ha.1, lN_j hb.1, lN_j hc.1, lN_j hd.1]
  refine ⟨_, e_compareProducts (by omega) (by omega) (by omega) (by omega), ?_⟩
  rw [cmN_le, ti_mul ha.1 hb.1 hc.1 hd.1]
set_option maxHeartbeats 200000 in
theorem nI_m1' {j : Nat} (h : 1 ≤ j) : nI j + -1 = nI (j - 1) := by
  have : nI j + -1 = nI j - 1 := by rw [Int32.sub_eq_add_neg]
  rw [this, nIm1 h]
set_option maxHeartbeats 200000 in
theorem l_sortIn {n : Nat} {N i : Nat} {c : Cut} (hN : N ≤ 80) (hi : i < N) (hc : cvl c) (K : Int32 → xσ → Option (Unit × xσ)) : ∀ (fu j : Nat) (σ : xσ) (A : Nat → Cut), j < fu → j ≤ i → (∀ k, k < N → cvl (A k)) → A j = c → (∀ k, k < N → k ≠ j → cel σ k (A k)) →
    (∀ x y, x < y → y ≤ i → x ≠ j → y ≠ j → cLe (A x) (A y)) → (∀ y, j < y → y ≤ i → cLe c (A y)) →
    ∃ σ' B, l_X1_sortCuts_36 n K fu (nI i) (jJ c.1) (jJ c.2.1) (iI c.2.2) (nI j) σ = K (nI (i + 1)) σ' ∧ FrA σ σ' ∧ AR σ' N B ∧ Eqv A B N ∧ Srt B (i + 1) := by
  intro fu
  induction fu with
  | zero => intro j σ A h; omega
  | succ fu ih =>
    intro j σ A hf hj hv hA hC hs hg
    -- laid down here
    have lay : (∀ x, x < j → cLe (A x) c) → ∃ σ' B, K (nI (i + 1)) (wC σ j c) = K (nI (i + 1)) σ' ∧ FrA σ σ' ∧ AR σ' N B ∧ Eqv A B N ∧ Srt B (i + 1) := by
      intro hl
      refine ⟨_, A, rfl, FrA_wC, ?_, Eqv.refl, ?_⟩
      · intro k hk
        by_cases q : k = j
        · subst q; rw [hA]; exact cel_w _ _ _
        · exact cel_n q (hC k hk q)
      · intro x y h1 h2
        by_cases q1 : x = j
        · subst q1; rw [hA]; exact hg y h1 (by omega)
        · by_cases q2 : y = j
          · subst q2; rw [hA]; exact hl x h1
          · exact hs x y h1 (by omega) q1 q2
    rw [l_X1_sortCuts_36]
    simp (disch := omega) only [nIe0, gd_in, nI_k, st, nI_s]
    by_cases q : j ≤ 0
    · rw [if_pos q]
      exact lay (fun x hx => by omega)
    · rw [if_neg q, nIm1 (by omega)]
      simp (disch := omega) only [gd_in, nI_k]
      obtain ⟨p1, p2, p3⟩ := hC (j - 1) (by omega) (by omega)
      have v1 := hv (j - 1) (by omega)
      obtain ⟨v, e1, e2⟩ := e_cmpP (n := n) (σ := σ) (a := (A (j - 1)).1) (b := c.2.1) (c := c.1) (d := (A (j - 1)).2.1) ⟨by have := v1.1; omega, by have := v1.2.1; have := v1.2.2.1; omega⟩ ⟨by have := hc.1; have := hc.2.1; omega, hc.2.2.1⟩ ⟨by have := hc.1; omega, by have := hc.2.1; have := hc.2.2.1; omega⟩ ⟨by have := v1.1; have := v1.2.1; omega, v1.2.2.1⟩
      rw [p1, p2, e1, bd]
      by_cases w : v ≤ 0
      · rw [if_pos w]
        refine lay (fun x hx => ?_)
        by_cases y : x = j - 1
        · rw [y]; exact e2.mp w
        · have h1 := hs x (j - 1) (by omega) (by omega) (by omega) (by omega)
          have v2 := hv x (by omega)
          exact cLe_t (by have := v1.1; have := v1.2.1; omega) (by have := v2.1; have := v2.2.1; omega) (by have := hc.1; have := hc.2.1; omega) h1 (e2.mp w)
      · rw [if_neg w]
        have eA : wI (wJ (wJ σ 24 j (jJ (A (j - 1)).1)) 25 j (sJ (wJ σ 24 j (jJ (A (j - 1)).1)) 25 (j - 1))) 26 j (sI (wJ (wJ σ 24 j (jJ (A (j - 1)).1)) 25 j (sJ (wJ σ 24 j (jJ (A (j - 1)).1)) 25 (j - 1))) 26 (j - 1)) = wC σ j (A (j - 1)) := by
          have z1 : sJ (wJ σ 24 j (jJ (A (j - 1)).1)) 25 (j - 1) = jJ (A (j - 1)).2.1 := by rw [sJ_wJ, if_neg (by omega)]; exact p2
          rw [z1]
          have z2 : sI (wJ (wJ σ 24 j (jJ (A (j - 1)).1)) 25 j (jJ (A (j - 1)).2.1)) 26 (j - 1) = iI (A (j - 1)).2.2 := p3
          rw [z2]; rfl
        rw [p1, eA, nI_m1' (by omega)]
        have hsw : ∀ k, k ≠ j - 1 → k ≠ j → swp2 A (j - 1) k = A k := fun k a b => by unfold swp2; rw [if_neg a, if_neg (by omega)]
        have hs1 : swp2 A (j - 1) (j - 1) = c := by unfold swp2; rw [if_pos rfl, show j - 1 + 1 = j by omega, hA]
        have hs2 : swp2 A (j - 1) j = A (j - 1) := by unfold swp2; rw [if_neg (by omega), if_pos (by omega)]
        obtain ⟨σ', B, d1, d2, d3, d4, d5⟩ := ih (j - 1) (wC σ j (A (j - 1))) (swp2 A (j - 1)) (by omega) (by omega) ((Eqv.swap A (by omega)).all hv) hs1
          (fun k hk hkj => by
            by_cases y : k = j
            · subst y; rw [hs2]; exact cel_w _ _ _
            · rw [hsw k hkj y]; exact cel_n y (hC k hk y))
          (fun x y h1 h2 h3 h4 => by
            by_cases y1 : x = j
            · subst y1
              rw [hs2, hsw y h4 (by omega)]
              exact hs (x - 1) y (by omega) h2 (by omega) (by omega)
            · by_cases y2 : y = j
              · subst y2
                rw [hs2, hsw x h3 y1]
                exact hs x (y - 1) (by omega) (by omega) (by omega) (by omega)
              · rw [hsw x h3 y1, hsw y h4 y2]
                exact hs x y h1 h2 y1 y2)
          (fun y h1 h2 => by
            by_cases y1 : y = j
            · subst y1
              rw [hs2]
              have : ¬ (A (y - 1)).1 * c.2.1 ≤ c.1 * (A (y - 1)).2.1 := fun z => w (e2.mpr z)
              unfold cLe; omega
            · rw [hsw y (by omega) y1]; exact hg y (by omega) h2)
        exact ⟨σ', B, d1, FrA_wC.trans d2, d3, (Eqv.swap A (by omega)).trans d4, d5⟩
set_option maxHeartbeats 200000 in
theorem l_sort {n : Nat} {N : Nat} (hN : N ≤ 80) : ∀ (fu i : Nat) (σ : xσ) (A : Nat → Cut), N - i < fu → 1 ≤ i → i ≤ 81 → sI σ 18 10 = nI N → AR σ N A → (∀ k, k < N → cvl (A k)) → Srt A (min i N) →
    ∃ σ' B, l_X1_sortCuts_2 n fu (nI i) σ = some ((), σ') ∧ FrA σ σ' ∧ AR σ' N B ∧ Eqv A B N ∧ Srt B N := by
  intro fu
  induction fu with
  | zero => intro i σ A h; omega
  | succ fu ih =>
    intro i σ A hf hi h81 hc hA hv hs
    rw [l_X1_sortCuts_2, hc]
    · simp (disch := omega) only [nI_e']
      by_cases q : N ≤ i
      · rw [if_pos q]
        exact ⟨σ, A, rfl, FrA.refl, hA, Eqv.refl, by rw [Nat.min_eq_right q] at hs; exact hs⟩
      · rw [if_neg q]
        simp (disch := omega) only [gd_in, nI_k, st]
        obtain ⟨p1, p2, p3⟩ := hA i (by omega)
        rw [p1, p2, p3]
        rw [Nat.min_eq_left (by omega)] at hs
        obtain ⟨σ1, B, d1, d2, d3, d4, d5⟩ := l_sortIn (n := n) hN (show i < N by omega) (hv i (by omega)) (l_X1_sortCuts_2 n fu) xFU i σ A (xFU_lt (by omega)) (Nat.le_refl i) hv rfl (fun k hk _ => hA k hk) (fun x y h1 h2 h3 h4 => hs x y h1 (by omega)) (fun y h1 h2 => by omega)
        rw [d1]
        obtain ⟨σ2, C, f1, f2, f3, f4, f5⟩ := ih (i + 1) σ1 B (by omega) (by omega) (by omega) ((d2.2 10).trans hc) d3 (d4.all hv) (by rw [Nat.min_eq_left (by omega)]; exact d5)
        exact ⟨σ2, C, f1, d2.trans f2, f3, d4.trans f4, f5⟩

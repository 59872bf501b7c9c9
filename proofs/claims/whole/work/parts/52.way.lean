/-! THE CUTTER: one way against the region -/
def lsm (ψ : Cut → Int) : List Cut → Int
  | [] => 0
  | c :: L => ψ c + lsm ψ L
set_option maxHeartbeats 200000 in
theorem lsm_app (ψ : Cut → Int) (L M : List Cut) : lsm ψ (L ++ M) = lsm ψ L + lsm ψ M := by
  induction L with
  | nil => rw [List.nil_append, lsm]; omega
  | cons c L ih => rw [List.cons_append, lsm, lsm, ih]; omega
def lf (L : List Cut) (i : Nat) : Cut := L.getD i (0, 0, 0)
set_option maxHeartbeats 200000 in
theorem sm_head (f : Nat → Int) (N : Nat) : sm f (N + 1) = f 0 + sm (fun i => f (i + 1)) N := by
  induction N with
  | zero => rw [sm, sm, sm]; omega
  | succ k ih => rw [sm, ih, sm]; omega
set_option maxHeartbeats 200000 in
theorem sm_lf (ψ : Cut → Int) (L : List Cut) : sm (fun i => ψ (lf L i)) L.length = lsm ψ L := by
  induction L with
  | nil => rfl
  | cons c L ih => rw [List.length_cons, sm_head, lsm, ← ih]; rfl
set_option maxHeartbeats 200000 in
theorem xs_sm (b : Nat → Bool) (N : Nat) : xs b 0 N = decide (sm (fun i => if b i then 1 else 0) N % 2 = 1) := by
  induction N with
  | zero => rfl
  | succ k ih =>
    rw [xs, sm, Nat.zero_add, ih]
    generalize sm (fun i => if b i then 1 else 0) k = S
    cases b k
    · rw [Bool.xor_false, if_neg (by decide), Int.add_zero]
    · rw [if_pos rfl, Bool.xor_true, ← decide_not]
      apply decide_eq_decide.mpr
      omega
noncomputable def cO (p D : Int) (c : Cut) : Int := ifP (c.2.2 = 0 ∧ cle c p D) 1 0
noncomputable def cT (p D : Int) (c : Cut) : Int := ifP (cle c p D) c.2.2 0
noncomputable def lieL (L : List Cut) (o : Bool) (k : Int) (p D : Int) : Nat := lieN (o ^^ decide (lsm (cO p D) L % 2 = 1)) (k + lsm (cT p D) L)
set_option maxHeartbeats 200000 in
theorem lieA_L {L : List Cut} {B : Nat → Cut} {o : Bool} {k p D : Int} (h : Eqv (lf L) B L.length) : lieA B L.length o k p D = lieL L o k p D := by
  unfold lieA lieL
  have e1 := h (cO p D)
  have e2 := h (cT p D)
  rw [sm_lf] at e1 e2
  rw [xs_sm, e1, e2]
  have : (fun i => if dB ((B i).2.2 = 0 ∧ cle (B i) p D) = true then (1 : Int) else 0) = fun i => cO p D (B i) := by
    funext i
    unfold cO
    by_cases z : (B i).2.2 = 0 ∧ cle (B i) p D
    · rw [dB_t z, ifP_t z]; rfl
    · rw [dB_f z, ifP_f z]; rfl
  rw [this]; rfl
set_option maxHeartbeats 200000 in
theorem CU.AR {σ : xσ} {L : List Cut} {o : Bool} {k : Int} {t : Prop} (C : CU σ L o k t) : AR σ L.length (lf L) := by
  intro i hi
  have := C.2.1 i hi
  unfold cel lf
  rw [List.getD_eq_getElem?_getD, List.getElem?_eq_getElem hi]
  exact this
/-! sorted and swept -/
set_option maxHeartbeats 200000 in
theorem e_sorted {n : Nat} {σ : xσ} {L : List Cut} {o : Bool} {k : Int} {t : Prop} (C : CU σ L o k t) (hL : L.length ≤ 80) (hv : ∀ c, c ∈ L → cvl c) (hk : -100 ≤ k ∧ k ≤ 100) :
    ∃ σ1 σ2 m, f_X1_sortCuts n σ = some ((), σ1) ∧ f_X1_sweep n σ1 = some (nI m, σ2) ∧ FrC σ σ2 ∧ sI σ2 18 13 = tf t ∧ m < 16 ∧ ∀ b, (m.testBit b = true ↔ ∃ P D, 0 ≤ P ∧ P < D ∧ lieL L o k P D = 2 ^ b) := by
  have hA := C.AR
  have hv' : ∀ i, i < L.length → cvl (lf L i) := fun i hi => hv _ (by unfold lf; rw [List.getD_eq_getElem?_getD, List.getElem?_eq_getElem hi]; exact List.getElem_mem hi)
  obtain ⟨σ1, B, d1, d2, d3, d4, d5⟩ := l_sort (n := n) hL xFU 1 σ (lf L) (xFU_lt (by omega)) (by omega) (by omega) C.1 hA hv' (fun i j h1 h2 => by omega)
  have hB := d4.all hv'
  have g11 : sI σ1 18 11 = bI (oA B o 0) := by rw [d2.2 11, C.2.2.1]; unfold oA xs; rw [Bool.xor_false]
  have g12 : sI σ1 18 12 = iI (kA B k 0) := by rw [d2.2 12, C.2.2.2.1]; unfold kA sm; rw [Int.add_zero]
  obtain ⟨σ2, e1, e2⟩ := l_sweep (n := n) hL hB hk L.length xFU 0 σ1 0 1 0 (by omega) (xFU_lt (by omega)) (by omega) ⟨by omega, by omega⟩ ⟨by omega, by omega⟩ ((d2.2 10).trans C.1) d3 g11 g12
  refine ⟨σ1, σ2, _, d1, e1, d2.1.trans e2.1, ?_, swp_lt _ _ _ _ _ _ _ _ (by omega), fun b => ?_⟩
  · rw [e2.2.2.2, d2.2 13]; exact C.2.2.2.2
  · rw [swp_bit hB d5 b L.length 0 0 1 0 (by omega) (by omega) (by omega) (fun j hj => by omega)]
    constructor
    · rintro (h | ⟨P, D, h1, h2, h3, h4⟩)
      · simp at h
      · exact ⟨P, D, h1, h2, by rw [← lieA_L d4]; exact h4⟩
    · rintro ⟨P, D, h1, h2, h4⟩
      exact Or.inr ⟨P, D, h1, h2, by omega, by rw [lieA_L d4]; exact h4⟩
/-! by ways of the region -/
set_option maxHeartbeats 200000 in
theorem whl_pos {P Q : V2} (h : P ≠ Q) : 0 < whl P Q := by
  unfold whl
  have : fX P Q Q - fX P Q P ≠ 0 := by
    by_cases q : P.1 = Q.1
    · rw [fX_v q, fX_v q]
      intro e
      exact h (V2_eq.mpr ⟨q, by omega⟩)
    · rw [fX_h q, fX_h q]; omega
  split <;> omega
/-- the way of the region lies on the way from P to Q, just behind its part p / D -/
def cvE (P Q a b : V2) (p D : Int) : Prop := sid P Q a = 0 ∧ sid P Q b = 0 ∧ min (pos P Q a) (pos P Q b) * D ≤ p * whl P Q ∧ p * whl P Q < max (pos P Q a) (pos P Q b) * D
set_option maxHeartbeats 200000 in
theorem lsm1 (ψ : Cut → Int) (c : Cut) : lsm ψ [c] = ψ c := by rw [lsm, lsm]; omega
set_option maxHeartbeats 200000 in
theorem edge_o {P Q a b : V2} {p D : Int} (hp : 0 ≤ p) (hD : p < D) : (eO P Q a b ^^ decide (lsm (cO p D) (eL P Q a b) % 2 = 1)) = (xgP P Q a b && decide (p * deP P Q a b < D * nuP P Q a b)) := by
  unfold eO eL
  cases hx : xgP P Q a b with
  | false =>
    rw [if_neg (by decide), Bool.false_and, Bool.false_and, Bool.false_xor]
    have : lsm (cO p D) (if sid P Q a = 0 ∧ sid P Q b = 0 then alL P Q a b else []) = 0 := by
      have z : ∀ x y : Int, cO p D (x, y, 1) = 0 := fun x y => ifP_f (fun h => absurd (show (1 : Int) = 0 from h.1) (by decide))
      have z' : ∀ x y : Int, cO p D (x, y, -1) = 0 := fun x y => ifP_f (fun h => absurd (show (-1 : Int) = 0 from h.1) (by decide))
      unfold alL
      repeat' split
      all_goals simp only [List.nil_append, List.append_nil, List.cons_append, lsm, z, z', Int.add_zero]
    rw [this]; rfl
  | true =>
    rw [if_pos rfl, Bool.true_and, Bool.true_and]
    have hd : 0 < deP P Q a b := de_pos hx
    unfold crL
    by_cases h1 : 0 < nuP P Q a b
    · by_cases h2 : nuP P Q a b < deP P Q a b
      · rw [if_pos ⟨h1, h2⟩, lsm1, decide_eq_true h1, Bool.true_xor]
        unfold cO
        by_cases z : cle (nuP P Q a b, deP P Q a b, 0) p D
        · rw [ifP_t ⟨rfl, z⟩]
          have z' : nuP P Q a b * D ≤ p * deP P Q a b := z
          rw [decide_eq_false (p := p * deP P Q a b < D * nuP P Q a b) (by rw [Int.mul_comm D]; omega)]; rfl
        · rw [ifP_f (fun h => z h.2)]
          have z' : ¬ nuP P Q a b * D ≤ p * deP P Q a b := z
          rw [decide_eq_true (p := p * deP P Q a b < D * nuP P Q a b) (by rw [Int.mul_comm D]; omega)]; rfl
      · rw [if_neg (fun h => h2 h.2), lsm, decide_eq_true h1]
        have h3 : p * deP P Q a b < D * deP P Q a b := Int.mul_lt_mul_of_pos_right hD hd
        have h4 : D * deP P Q a b ≤ D * nuP P Q a b := Int.mul_le_mul_of_nonneg_left (by omega) (by omega)
        rw [decide_eq_true (p := p * deP P Q a b < D * nuP P Q a b) (by omega)]; rfl
    · rw [if_neg (fun h => h1 h.1), lsm, decide_eq_false h1]
      have h3 : 0 ≤ p * deP P Q a b := Int.mul_nonneg hp (by omega)
      have h4 : D * nuP P Q a b ≤ 0 := Int.mul_nonpos_of_nonneg_of_nonpos (by omega) (by omega)
      rw [decide_eq_false (p := p * deP P Q a b < D * nuP P Q a b) (by omega)]; rfl
set_option maxHeartbeats 200000 in
theorem edge_k {P Q a b : V2} {p D : Int} (hp : 0 ≤ p) (hD : p < D) (hPQ : P ≠ Q) : eK P Q a b + lsm (cT p D) (eL P Q a b) = ifP (cvE P Q a b p D) 1 0 := by
  unfold eK eL
  have hw := whl_pos hPQ
  cases hx : xgP P Q a b with
  | true =>
    rw [if_pos rfl, if_pos rfl]
    have hn : ¬ cvE P Q a b p D := by
      rintro ⟨h1, h2, -⟩
      rw [xgP_eq, h1, h2] at hx
      simp at hx
    rw [ifP_f hn]
    have z : ∀ x y : Int, cT p D (x, y, 0) = 0 := fun x y => by unfold cT; by_cases q : cle (x, y, 0) p D; rw [ifP_t q]; rw [ifP_f q]
    unfold crL
    split
    · rw [lsm1, z]; rfl
    · rfl
  | false =>
    simp only [Bool.false_eq_true, if_false]
    by_cases hc : sid P Q a = 0 ∧ sid P Q b = 0
    · rw [if_pos hc, if_pos hc]
      have e1 : cvE P Q a b p D ↔ (min (pos P Q a) (pos P Q b) * D ≤ p * whl P Q ∧ p * whl P Q < max (pos P Q a) (pos P Q b) * D) := ⟨fun h => h.2.2, fun h => ⟨hc.1, hc.2, h⟩⟩
      rw [ifP_c e1]
      unfold alK alL
      have hlh : min (pos P Q a) (pos P Q b) ≤ max (pos P Q a) (pos P Q b) := by omega
      generalize min (pos P Q a) (pos P Q b) = lo at *
      generalize max (pos P Q a) (pos P Q b) = hi at *
      have hlh' : lo * D ≤ hi * D := Int.mul_le_mul_of_nonneg_right hlh (by omega)
      generalize whl P Q = W at *
      have p0 : 0 ≤ p * W := Int.mul_nonneg hp (by omega)
      have p1 : p * W < D * W := Int.mul_lt_mul_of_pos_right hD hw
      have t1 : ∀ x : Int, x ≤ 0 → x * D ≤ 0 := fun x h => Int.mul_nonpos_of_nonpos_of_nonneg h (by omega)
      have t2 : ∀ x : Int, W ≤ x → D * W ≤ x * D := fun x h => by rw [Int.mul_comm D W]; exact Int.mul_le_mul_of_nonneg_right h (by omega)
      have cT1 : cT p D (lo, W, 1) = ifP (lo * D ≤ p * W) 1 0 := rfl
      have cT2 : cT p D (hi, W, -1) = ifP (hi * D ≤ p * W) (-1) 0 := rfl
      by_cases h1 : hi ≤ 0 ∨ W ≤ lo
      · rw [if_pos h1, if_pos h1, lsm, ifP_f]
        · rfl
        · rintro ⟨a1, a2⟩
          rcases h1 with h1 | h1
          · have := t1 hi h1; omega
          · have := t2 lo h1; omega
      · rw [if_neg h1, if_neg h1, lsm_app]
        by_cases h2 : 0 < lo
        · rw [if_pos h2, if_pos h2, lsm1, cT1]
          by_cases h3 : hi < W
          · rw [if_pos h3, lsm1, cT2]
            by_cases a1 : lo * D ≤ p * W <;> by_cases a2 : hi * D ≤ p * W
            · rw [ifP_t a1, ifP_t a2, ifP_f (fun z => by omega)]; rfl
            · rw [ifP_t a1, ifP_f a2, ifP_t ⟨a1, by omega⟩]; rfl
            · omega
            · rw [ifP_f a1, ifP_f a2, ifP_f (fun z => a1 z.1)]; rfl
          · rw [if_neg h3, lsm]
            have := t2 hi (by omega)
            by_cases a1 : lo * D ≤ p * W
            · rw [ifP_t a1, ifP_t ⟨a1, by omega⟩]; rfl
            · rw [ifP_f a1, ifP_f (fun z => a1 z.1)]; rfl
        · rw [if_neg h2, if_neg h2, lsm]
          have := t1 lo (by omega)
          by_cases h3 : hi < W
          · rw [if_pos h3, lsm1, cT2]
            by_cases a2 : hi * D ≤ p * W
            · rw [ifP_t a2, ifP_f (fun z => by omega)]; rfl
            · rw [ifP_f a2, ifP_t ⟨by omega, by omega⟩]; rfl
          · rw [if_neg h3, lsm]
            have := t2 hi (by omega)
            rw [ifP_t ⟨by omega, by omega⟩]; rfl
    · rw [if_neg hc, if_neg hc, lsm, ifP_f (fun z => hc ⟨z.1, z.2.1⟩)]; rfl

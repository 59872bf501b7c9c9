/-! THE CUTTER: the sweep over the sorted cuts -/
def lieN (o : Bool) (k : Int) : Nat := if 0 < k then 4 else if o then 1 else 2
set_option maxHeartbeats 200000 in
theorem or16 : ∀ a : Fin 16, ∀ b : Fin 16, nI a.val ||| nI b.val = nI (a.val ||| b.val) := by decide +kernel
set_option maxHeartbeats 200000 in
theorem nI_or {a b : Nat} (ha : a < 16) (hb : b < 16) : nI a ||| nI b = nI (a ||| b) := or16 ⟨a, ha⟩ ⟨b, hb⟩
set_option maxHeartbeats 200000 in
theorem and16 : ∀ a : Fin 16, ∀ b : Fin 16, nI a.val &&& nI b.val = nI (a.val &&& b.val) := by decide +kernel
set_option maxHeartbeats 200000 in
theorem nI_and {a b : Nat} (ha : a < 16) (hb : b < 16) : nI a &&& nI b = nI (a &&& b) := and16 ⟨a, ha⟩ ⟨b, hb⟩
set_option maxHeartbeats 200000 in
theorem or_lt16 {a b : Nat} (ha : a < 16) (hb : b < 16) : a ||| b < 16 := Nat.or_lt_two_pow (n := 4) ha hb
set_option maxHeartbeats 200000 in
theorem lieN_lt (o : Bool) (k : Int) : lieN o k < 16 := by
  unfold lieN
  repeat' split
  all_goals decide
/-- behind the first i cuts -/
def oA (f : Nat → Cut) (o : Bool) (i : Nat) : Bool := o ^^ xs (fun j => decide ((f j).2.2 = 0)) 0 i
def kA (f : Nat → Cut) (k : Int) (i : Nat) : Int := k + sm (fun j => (f j).2.2) i
def swp (f : Nat → Cut) (o : Bool) (k : Int) : Nat → Nat → Int → Int → Nat → Nat
  | 0, i, _, _, m => m ||| lieN (oA f o i) (kA f k i)
  | d + 1, i, p, w, m => if (f i).1 * w ≤ p * (f i).2.1 then swp f o k d (i + 1) p w m else swp f o k d (i + 1) (f i).1 (f i).2.1 (m ||| lieN (oA f o i) (kA f k i))
set_option maxHeartbeats 200000 in
theorem swp_lt (f : Nat → Cut) (o : Bool) (k : Int) : ∀ d i p w m, m < 16 → swp f o k d i p w m < 16 := by
  intro d
  induction d with
  | zero => intro i p w m h; exact or_lt16 h (lieN_lt _ _)
  | succ d ih =>
    intro i p w m h
    rw [swp]
    split
    · exact ih _ _ _ _ h
    · exact ih _ _ _ _ (or_lt16 h (lieN_lt _ _))
set_option maxHeartbeats 200000 in
theorem oA_s (f : Nat → Cut) (o : Bool) (i : Nat) : oA f o (i + 1) = (oA f o i ^^ decide ((f i).2.2 = 0)) := by
  unfold oA; rw [xs, Nat.zero_add, Bool.xor_assoc]
set_option maxHeartbeats 200000 in
theorem kA_s (f : Nat → Cut) (k : Int) (i : Nat) : kA f k (i + 1) = kA f k i + (f i).2.2 := by
  unfold kA; rw [sm]; omega
set_option maxHeartbeats 200000 in
theorem e_lie {n : Nat} {σ : xσ} {o : Bool} {k : Int} (h1 : sI σ 18 11 = bI o) (h2 : sI σ 18 12 = iI k) (hk : R32 k) : f_X1_lieOfPiece n σ = some (nI (lieN o k), σ) := by
  rw [f_X1_lieOfPiece, h1, h2, show (0 : Int32) = iI 0 from rfl]
  simp only [iI_le hk (show R32 0 by decide)]
  unfold lieN
  by_cases q : 0 < k
  · rw [if_neg (by omega), if_pos q]; rfl
  · rw [if_pos (by omega), if_neg q]
    cases o <;> rfl
set_option maxHeartbeats 200000 in
theorem kA_b {f : Nat → Cut} {k : Int} {N : Nat} (hk : -100 ≤ k ∧ k ≤ 100) (hv : ∀ i, i < N → cvl (f i)) : ∀ i, i ≤ N → -100 - (i : Int) ≤ kA f k i ∧ kA f k i ≤ 100 + (i : Int) := by
  intro i
  induction i with
  | zero => intro _; unfold kA sm; omega
  | succ i ih =>
    intro h
    have := ih (by omega)
    have v := (hv i (by omega)).2.2.2
    rw [kA_s]; omega
/-- what the sweep changes: two numbers of the cutter -/
def FrS (σ σ' : xσ) : Prop := FrC σ σ' ∧ (∀ i, sJ σ' 24 i = sJ σ 24 i ∧ sJ σ' 25 i = sJ σ 25 i ∧ sI σ' 26 i = sI σ 26 i) ∧ sI σ' 18 10 = sI σ 18 10 ∧ sI σ' 18 13 = sI σ 18 13
set_option maxHeartbeats 200000 in
theorem FrS.refl {σ : xσ} : FrS σ σ := ⟨FrC.refl, fun _ => ⟨rfl, rfl, rfl⟩, rfl, rfl⟩
set_option maxHeartbeats 200000 in
theorem FrS.trans {σ1 σ2 σ3 : xσ} (h : FrS σ1 σ2) (k : FrS σ2 σ3) : FrS σ1 σ3 := ⟨h.1.trans k.1, fun i => ⟨(k.2.1 i).1.trans (h.2.1 i).1, (k.2.1 i).2.1.trans (h.2.1 i).2.1, (k.2.1 i).2.2.trans (h.2.1 i).2.2⟩, k.2.2.1.trans h.2.2.1, k.2.2.2.trans h.2.2.2⟩
set_option maxHeartbeats 200000 in
theorem FrS.w {σ : xσ} {k : Nat} {v : Int32} (h : k = 11 ∨ k = 12) : FrS σ (wI σ 18 k v) := ⟨FrC.w18 (by omega), fun i => ⟨rfl, rfl, by rw [sI_wI, if_neg (by omega)]⟩, by rw [sI_wI, if_neg (by omega)], by rw [sI_wI, if_neg (by omega)]⟩
set_option maxHeartbeats 200000 in
theorem AR.s {σ σ' : xσ} {N : Nat} {f : Nat → Cut} (h : AR σ N f) (k : FrS σ σ') : AR σ' N f := fun i hi => ⟨(k.2.1 i).1.trans (h i hi).1, (k.2.1 i).2.1.trans (h i hi).2.1, (k.2.1 i).2.2.trans (h i hi).2.2⟩
set_option maxHeartbeats 200000 in
theorem l_sweep {n : Nat} {N : Nat} {f : Nat → Cut} {o : Bool} {k : Int} (hN : N ≤ 80) (hv : ∀ i, i < N → cvl (f i)) (hk : -100 ≤ k ∧ k ≤ 100) : ∀ (d fu i : Nat) (σ : xσ) (p w : Int) (m : Nat), i + d = N → d < fu → m < 16 → 0 ≤ p ∧ p < 9223372036854775808 → 0 < w ∧ w < 9223372036854775808 → sI σ 18 10 = nI N → AR σ N f → sI σ 18 11 = bI (oA f o i) → sI σ 18 12 = iI (kA f k i) →
    ∃ σ', l_X1_sweep_10 n fu (nI m) (jJ p) (jJ w) (nI i) σ = some (nI (swp f o k d i p w m), σ') ∧ FrS σ σ' := by
  have g0 : ∀ {α : Type} (x : Option α), gd ((0 : Int32) = 0 ∨ (0 : Int32) = 1) x = x := fun x => gd_pos (Or.inl rfl) x
  have g1 : ∀ {α : Type} (x : Option α), gd ((1 : Int32) = 0 ∨ (1 : Int32) = 1) x = x := fun x => gd_pos (Or.inr rfl) x
  intro d
  induction d with
  | zero =>
    intro fu i σ p w m hi hf hm hp hw h10 hA h11 h12
    obtain ⟨fu, rfl⟩ : ∃ g, fu = g + 1 := ⟨fu - 1, by omega⟩
    rw [l_X1_sweep_10, h10]
    have kb := kA_b hk hv i (by omega)
    simp (disch := omega) only [nI_e']
    rw [if_pos (by omega), e_lie h11 h12 ⟨by omega, by omega⟩, bd, nI_or hm (lieN_lt _ _)]
    exact ⟨σ, rfl, FrS.refl⟩
  | succ d ih =>
    intro fu i σ p w m hi hf hm hp hw h10 hA h11 h12
    obtain ⟨fu, rfl⟩ : ∃ g, fu = g + 1 := ⟨fu - 1, by omega⟩
    have kb := kA_b hk hv i (by omega)
    obtain ⟨p1, p2, p3⟩ := hA i (by omega)
    have v1 := hv i (by omega)
    have kb' := kA_b hk hv (i + 1) (by omega)
    -- the cut itself
    have step : ∀ (σ0 : xσ) (p' w' : Int) (m' : Nat), FrS σ σ0 → sI σ0 18 11 = bI (oA f o i) → sI σ0 18 12 = iI (kA f k i) → m' < 16 → 0 ≤ p' ∧ p' < 9223372036854775808 → 0 < w' ∧ w' < 9223372036854775808 →
        ∃ σ', b_X1_sweep_66 n (l_X1_sweep_10 n fu) (nI m') (jJ p') (jJ w') (nI i) σ0 = some (nI (swp f o k d (i + 1) p' w' m'), σ') ∧ FrS σ σ' := by
      intro σ0 p' w' m' f0 g11 g12 hm' hp' hw'
      rw [b_X1_sweep_66]
      simp (disch := omega) only [gd_in, nI_k]
      have q3 : sI σ0 26 i = iI (f i).2.2 := (f0.2.1 i).2.2.trans p3
      rw [q3]
      have hR : R32 (f i).2.2 := by have := v1.2.2.2; constructor <;> omega
      by_cases z : (f i).2.2 = 0
      · rw [if_pos (by rw [z]; rfl), g11]
        have eo : oA f o (i + 1) = !(oA f o i) := by rw [oA_s, decide_eq_true z]; cases oA f o i <;> rfl
        have ek : kA f k (i + 1) = kA f k i := by rw [kA_s, z]; omega
        have fin : ∀ v : Int32, v = bI (oA f o (i + 1)) → ∃ σ', l_X1_sweep_10 n fu (nI m') (jJ p') (jJ w') (nI (i + 1)) (wI σ0 18 11 v) = some (nI (swp f o k d (i + 1) p' w' m'), σ') ∧ FrS σ σ' := by
          intro v hv'
          have f1 := f0.trans (FrS.w (σ := σ0) (k := 11) (v := v) (Or.inl rfl))
          obtain ⟨σ', a1, a2⟩ := ih fu (i + 1) (wI σ0 18 11 v) p' w' m' (by omega) (by omega) hm' hp' hw' (f1.2.2.1.trans h10) (hA.s f1) (by rw [sI_wI, if_pos ⟨rfl, rfl⟩, hv']) (by rw [sI_wI, if_neg (by omega), g12, ek])
          exact ⟨σ', a1, f1.trans a2⟩
        cases q : oA f o i with
        | false =>
          rw [if_pos (show bI false = 0 from rfl), b_X1_sweep_89, g1, st, b_X1_sweep_111, nI_s]
          exact fin 1 (by rw [eo, q]; rfl)
        | true =>
          rw [if_neg (show ¬ bI true = 0 by decide), b_X1_sweep_89, g0, st, b_X1_sweep_111, nI_s]
          exact fin 0 (by rw [eo, q]; rfl)
      · rw [if_neg (show ¬ iI (f i).2.2 = 0 from fun e => z ((iI_eq hR (show R32 0 by decide)).mp e)), st, b_X1_sweep_111, nI_s, g12, iI_add]
        have eo : oA f o (i + 1) = oA f o i := by rw [oA_s, decide_eq_false z, Bool.xor_false]
        have f1 := f0.trans (FrS.w (σ := σ0) (k := 12) (v := iI (kA f k i + (f i).2.2)) (Or.inr rfl))
        obtain ⟨σ', a1, a2⟩ := ih fu (i + 1) (wI σ0 18 12 (iI (kA f k i + (f i).2.2))) p' w' m' (by omega) (by omega) hm' hp' hw' (f1.2.2.1.trans h10) (hA.s f1) (by rw [sI_wI, if_neg (by omega), g11, eo]) (by rw [sI_wI, if_pos ⟨rfl, rfl⟩, kA_s])
        exact ⟨σ', a1, f1.trans a2⟩
    rw [l_X1_sweep_10, h10]
    simp (disch := omega) only [nI_e']
    rw [if_neg (by omega)]
    simp (disch := omega) only [gd_in, nI_k]
    obtain ⟨v, e1, e2⟩ := e_cmpP (n := n) (σ := σ) (a := (f i).1) (b := w) (c := p) (d := (f i).2.1) ⟨by have := v1.1; omega, by have := v1.2.1; have := v1.2.2.1; omega⟩ ⟨by omega, by omega⟩ ⟨by omega, by omega⟩ ⟨by have := v1.1; have := v1.2.1; omega, v1.2.2.1⟩
    rw [p1, p2, e1, bd]
    by_cases z : v ≤ 0
    · rw [if_pos z, swp, if_pos (e2.mp z)]
      have := step σ p w m FrS.refl h11 h12 hm hp hw
      rw [b_X1_sweep_66] at this
      simp (disch := omega) only [gd_in, nI_k] at this
      exact this
    · rw [if_neg z, swp, if_neg (fun y => z (e2.mpr y)), e_lie h11 h12 ⟨by omega, by omega⟩, bd]
      simp only [st]
      rw [nI_or hm (lieN_lt _ _), p1, p2]
      exact step σ (f i).1 (f i).2.1 _ FrS.refl h11 h12 (or_lt16 hm (lieN_lt _ _)) ⟨by have := v1.1; omega, by have := v1.2.1; have := v1.2.2.1; omega⟩ ⟨by have := v1.1; have := v1.2.1; omega, v1.2.2.1⟩
/-! what the sweep finds -/
def cle (c : Cut) (p D : Int) : Prop := c.1 * D ≤ p * c.2.1
/-- how the way lies just behind its part p / D -/
noncomputable def lieA (f : Nat → Cut) (N : Nat) (o : Bool) (k : Int) (p D : Int) : Nat :=
  lieN (o ^^ xs (fun j => dB ((f j).2.2 = 0 ∧ cle (f j) p D)) 0 N) (k + sm (fun j => ifP (cle (f j) p D) (f j).2.2 0) N)
set_option maxHeartbeats 200000 in
theorem lieA_i {f : Nat → Cut} {N i : Nat} {o : Bool} {k p D : Int} (hi : i ≤ N) (h1 : ∀ j, j < i → cle (f j) p D) (h2 : ∀ j, i ≤ j → j < N → ¬ cle (f j) p D) : lieA f N o k p D = lieN (oA f o i) (kA f k i) := by
  obtain ⟨d, rfl⟩ : ∃ d, N = i + d := ⟨N - i, by omega⟩
  have e1 : xs (fun j => dB ((f j).2.2 = 0 ∧ cle (f j) p D)) 0 (i + d) = xs (fun j => decide ((f j).2.2 = 0)) 0 i := by
    rw [xs_split, xs_none (f := fun j => dB ((f j).2.2 = 0 ∧ cle (f j) p D)) (lo := 0 + i) (fun j a b => dB_f (fun z => h2 j (by omega) (by omega) z.2)), Bool.xor_false]
    refine xs_congr (fun j a b => ?_)
    by_cases z : (f j).2.2 = 0
    · rw [dB_t ⟨z, h1 j (by omega)⟩, decide_eq_true z]
    · rw [dB_f (fun y => z y.1), decide_eq_false z]
  have e2 : ∀ d, (∀ j, i ≤ j → j < i + d → ¬ cle (f j) p D) → sm (fun j => ifP (cle (f j) p D) (f j).2.2 0) (i + d) = sm (fun j => (f j).2.2) i := by
    intro d
    induction d with
    | zero => intro _; exact sm_congr (fun j hj => ifP_t (h1 j hj))
    | succ d ih =>
      intro h
      rw [show i + (d + 1) = i + d + 1 by omega, sm, ih (fun j a b => h j a (by omega)), ifP_f (h (i + d) (by omega) (by omega)), Int.add_zero]
  unfold lieA oA kA
  rw [e1, e2 d h2]
/-! the bits of a row of masks -/
set_option maxHeartbeats 200000 in
theorem lie_bit {o : Bool} {k : Int} {b : Nat} : (lieN o k).testBit b = decide (lieN o k = 2 ^ b) := by
  unfold lieN
  have h4 : ∀ b, Nat.testBit 4 b = decide (4 = 2 ^ b) := fun b => by rw [show (4 : Nat) = 2 ^ 2 from rfl, Nat.testBit_two_pow]; congr 1; exact propext ⟨fun h => by rw [h], fun h => (Nat.pow_right_inj (a := 2) (by decide)).mp h⟩
  have h1 : ∀ b, Nat.testBit 1 b = decide (1 = 2 ^ b) := fun b => by rw [show (1 : Nat) = 2 ^ 0 from rfl, Nat.testBit_two_pow]; congr 1; exact propext ⟨fun h => by rw [h], fun h => (Nat.pow_right_inj (a := 2) (by decide)).mp h⟩
  have h2 : ∀ b, Nat.testBit 2 b = decide (2 = 2 ^ b) := fun b => by
    have : Nat.testBit (2 ^ 1) b = decide (1 = b) := Nat.testBit_two_pow
    rw [show Nat.testBit 2 b = decide (1 = b) from this]; congr 1; exact propext ⟨fun h => by rw [← h], fun h => (Nat.pow_right_inj (a := 2) (by decide)).mp h⟩
  split
  · exact h4 b
  · split
    · exact h1 b
    · exact h2 b
set_option maxHeartbeats 200000 in
theorem swp_bit {f : Nat → Cut} {o : Bool} {k : Int} {N : Nat} (hv : ∀ i, i < N → cvl (f i)) (hs : Srt f N) (b : Nat) : ∀ (d i : Nat) (p w : Int) (m : Nat), i + d = N → 0 ≤ p → p < w → (∀ j, j < i → cle (f j) p w) →
    ((swp f o k d i p w m).testBit b = true ↔ (m.testBit b = true ∨ ∃ P D, 0 ≤ P ∧ P < D ∧ p * D ≤ P * w ∧ lieA f N o k P D = 2 ^ b)) := by
  intro d
  induction d with
  | zero =>
    intro i p w m hi hp hw hl
    have e : ∀ P D, 0 ≤ P → P < D → p * D ≤ P * w → lieA f N o k P D = lieN (oA f o i) (kA f k i) := by
      intro P D h1 h2 h3
      refine lieA_i (by omega) (fun j hj => ?_) (fun j a b => by omega)
      have v := hv j (by omega)
      exact cLe_t (c := f j) (d := (p, w, 0)) (e := (P, D, 0)) (by show 0 < w; omega) (by have := v.1; have := v.2.1; omega) (by show 0 < D; omega) (hl j hj) h3
    rw [swp, Nat.testBit_or, Bool.or_eq_true, lie_bit, decide_eq_true_iff]
    constructor
    · rintro (h | h)
      · exact Or.inl h
      · exact Or.inr ⟨p, w, hp, hw, Int.le_refl _, by rw [e p w hp hw (Int.le_refl _)]; exact h⟩
    · rintro (h | ⟨P, D, h1, h2, h3, h4⟩)
      · exact Or.inl h
      · exact Or.inr (by rw [← e P D h1 h2 h3]; exact h4)
  | succ d ih =>
    intro i p w m hi hp hw hl
    have v := hv i (by omega)
    have vp : 0 < (f i).2.1 := by have := v.1; have := v.2.1; omega
    rw [swp]
    by_cases z : (f i).1 * w ≤ p * (f i).2.1
    · rw [if_pos z]
      exact ih (i + 1) p w m (by omega) hp hw (fun j hj => by
        by_cases y : j = i
        · rw [y]; exact z
        · exact hl j (by omega))
    · rw [if_neg z, ih (i + 1) (f i).1 (f i).2.1 _ (by omega) (by have := v.1; omega) v.2.1 (fun j hj => by
        by_cases y : j = i
        · rw [y]; exact Int.le_refl _
        · exact hs j i (by omega) (by omega)), Nat.testBit_or, Bool.or_eq_true, lie_bit, decide_eq_true_iff]
      have e : ∀ P D, 0 ≤ P → P < D → p * D ≤ P * w → P * (f i).2.1 < (f i).1 * D → lieA f N o k P D = lieN (oA f o i) (kA f k i) := by
        intro P D h1 h2 h3 h5
        refine lieA_i (by omega) (fun j hj => ?_) (fun j a b h => ?_)
        · have v := hv j (by omega)
          exact cLe_t (c := f j) (d := (p, w, 0)) (e := (P, D, 0)) (by show 0 < w; omega) (by have := v.1; have := v.2.1; omega) (by show 0 < D; omega) (hl j hj) h3
        · have vj := hv j (by omega)
          have : cLe (f i) (P, D, 0) := by
            by_cases y : j = i
            · rw [y] at h; exact h
            · exact cLe_t (d := f j) (by have := vj.1; have := vj.2.1; omega) vp (by show 0 < D; omega) (hs i j (by omega) (by omega)) h
          have t : (f i).1 * D ≤ P * (f i).2.1 := this
          omega
      constructor
      · rintro ((h | h) | ⟨P, D, h1, h2, h3, h4⟩)
        · exact Or.inl h
        · exact Or.inr ⟨p, w, hp, hw, Int.le_refl _, by rw [e p w hp hw (Int.le_refl _) (by omega)]; exact h⟩
        · refine Or.inr ⟨P, D, h1, h2, ?_, h4⟩
          exact cLe_t (c := (p, w, 0)) (d := f i) (e := (P, D, 0)) vp (by show 0 < w; omega) (by show 0 < D; omega) (by show p * (f i).2.1 ≤ (f i).1 * w; omega) h3
      · rintro (h | ⟨P, D, h1, h2, h3, h4⟩)
        · exact Or.inl (Or.inl h)
        · by_cases y : P * (f i).2.1 < (f i).1 * D
          · exact Or.inl (Or.inr (by rw [← e P D h1 h2 h3 y]; exact h4))
          · exact Or.inr ⟨P, D, h1, h2, by omega, h4⟩

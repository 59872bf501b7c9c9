/-! where a point lies: both sides -/
set_option maxHeartbeats 200000 in
theorem btw1 {u v s t : Int} (h : u * s = v * t) (hv : v < 0 ∨ 0 < v) (hs : (0 ≤ s ∧ s ≤ v) ∨ (v ≤ s ∧ s ≤ 0)) : min 0 u ≤ t ∧ t ≤ max 0 u := by
  have g : u * (v - s) = v * (u - t) := by grind
  have key : ∀ x y z : Int, (v < 0 ∨ 0 < v) → x * y = v * z → ((0 ≤ y ∧ 0 < v) ∨ (y ≤ 0 ∧ v < 0)) → (0 ≤ x → 0 ≤ z) ∧ (x ≤ 0 → z ≤ 0) := by
    intro x y z hv e hy
    constructor
    · intro hx
      by_cases q : 0 ≤ z
      · exact q
      · exfalso
        rcases hy with ⟨a, b⟩ | ⟨a, b⟩
        · have h1 := Int.mul_nonneg hx a
          have h2 := Int.mul_neg_of_pos_of_neg b (show z < 0 by omega)
          omega
        · have h1 := Int.mul_nonpos_of_nonneg_of_nonpos hx a
          have h2 := Int.mul_pos_of_neg_of_neg b (show z < 0 by omega)
          omega
    · intro hx
      by_cases q : z ≤ 0
      · exact q
      · exfalso
        rcases hy with ⟨a, b⟩ | ⟨a, b⟩
        · have h1 := Int.mul_nonpos_of_nonpos_of_nonneg hx a
          have h2 := Int.mul_pos b (show 0 < z by omega)
          omega
        · have h1 := Int.mul_nonneg_of_nonpos_of_nonpos hx a
          have h2 := Int.mul_neg_of_neg_of_pos b (show 0 < z by omega)
          omega
  have k1 := key u s t hv h (by omega)
  have k2 := key u (v - s) (u - t) hv g (by omega)
  omega
set_option maxHeartbeats 200000 in
theorem on_y {a b p : V2} (h : sid a b p = 0) (hy : a.2 ≠ b.2) (h1 : min a.2 b.2 ≤ p.2) (h2 : p.2 ≤ max a.2 b.2) : onS a b p := by
  have := btw1 (u := b.1 - a.1) (v := b.2 - a.2) (s := p.2 - a.2) (t := p.1 - a.1) (by unfold sid at h; omega) (by omega) (by omega)
  exact ⟨⟨by omega, by omega, h1, h2⟩, h⟩
set_option maxHeartbeats 200000 in
theorem on_x {a b p : V2} (h : sid a b p = 0) (hx : a.1 ≠ b.1) (h1 : min a.1 b.1 ≤ p.1) (h2 : p.1 ≤ max a.1 b.1) : onS a b p := by
  have := btw1 (u := b.2 - a.2) (v := b.1 - a.1) (s := p.1 - a.1) (t := p.2 - a.2) (by unfold sid at h; omega) (by omega) (by omega)
  exact ⟨⟨h1, h2, by omega, by omega⟩, h⟩
def sub2 (a p : V2) : V2 := (a.1 - p.1, a.2 - p.2)
set_option maxHeartbeats 200000 in
theorem crs_sid (a b p : V2) : crs (sub2 a p) (sub2 b p) = sid a b p := by unfold crs sub2 sid; grind
def ex0 : V2 := (1, 0)
set_option maxHeartbeats 200000 in
theorem crs_ex (a p : V2) : crs ex0 (sub2 a p) = a.2 - p.2 := by unfold crs sub2 ex0; simp
set_option maxHeartbeats 200000 in
theorem cc_ex (a b p : V2) : cc ex0 (sub2 a p) (sub2 b p) = ((decide (p.2 < a.2) != decide (p.2 < b.2)) && (if p.2 < b.2 then decide (0 < sid a b p) else decide (sid a b p < 0))) := by
  unfold cc cS
  rw [crs_ex, crs_ex, crs_sid, sg2, sg2, sg2, sg0]
  have e1 : decide (0 < a.2 - p.2) = decide (p.2 < a.2) := decide_eq_decide.mpr (by omega)
  have e2 : decide (0 < b.2 - p.2) = decide (p.2 < b.2) := decide_eq_decide.mpr (by omega)
  rw [e1, e2]
  by_cases h : p.2 < b.2 <;> simp [h]
set_option maxHeartbeats 200000 in
theorem xs_head (f : Nat → Bool) (lo m : Nat) : xs f lo (m + 1) = (f lo ^^ xs f (lo + 1) m) := by
  induction m with
  | zero => simp [xs]
  | succ k ih =>
    rw [xs, ih, xs]
    have : lo + (k + 1) = lo + 1 + k := by omega
    rw [this, Bool.xor_assoc]
noncomputable def dB (p : Prop) : Bool := @decide p (Classical.propDecidable p)
set_option maxHeartbeats 200000 in
theorem dB_t {p : Prop} (h : p) : dB p = true := @decide_eq_true p (Classical.propDecidable p) h
set_option maxHeartbeats 200000 in
theorem dB_f {p : Prop} (h : ¬ p) : dB p = false := @decide_eq_false p (Classical.propDecidable p) h
set_option maxHeartbeats 200000 in
theorem dB_i {p : Prop} : dB p = true ↔ p := by
  refine ⟨fun e => ?_, dB_t⟩
  by_cases h : p
  · exact h
  · rw [dB_f h] at e; cases e
set_option maxHeartbeats 200000 in
theorem dB_c {p q : Prop} (h : p ↔ q) : dB p = dB q := by rw [propext h]
def bI (b : Bool) : Int32 := if b then 1 else 0
noncomputable def oddF (c : Ct) (p : V2) (i : Nat) : Bool := dB (wy c i) && cc ex0 (sub2 (cV c i) p) (sub2 (cV c (i + 1)) p)
noncomputable def oddP (c : Ct) (p : V2) : Bool := xs (oddF c p) 0 (cN c - 1)
def onA (c : Ct) (p : V2) : Prop := ∃ i, wy c i ∧ onS (cV c i) (cV c (i + 1)) p
def tip (c : Ct) (p : V2) : Prop := opn c ∧ (cV c 0 = p ∨ cV c (cN c - 1) = p)
noncomputable def ifP {α : Type} (p : Prop) (x y : α) : α := @ite α p (Classical.propDecidable p) x y
set_option maxHeartbeats 200000 in
theorem ifP_t {α : Type} {p : Prop} (h : p) {x y : α} : ifP p x y = x := if_pos h
set_option maxHeartbeats 200000 in
theorem ifP_f {α : Type} {p : Prop} (h : ¬ p) {x y : α} : ifP p x y = y := if_neg h
set_option maxHeartbeats 200000 in
theorem ifP_c {α : Type} {p q : Prop} (h : p ↔ q) {x y : α} : ifP p x y = ifP q x y := by rw [propext h]
/-- 1 interior, 0 boundary, -1 exterior -/
noncomputable def loc (c : Ct) (p : V2) : Int := if cK c = 0 then ifP (cV c 0 = p) 1 (-1) else if cK c = 1 then ifP (onA c p) (ifP (tip c p) 0 1) (-1) else ifP (onA c p) 0 (if oddP c p then 1 else -1)
set_option maxHeartbeats 200000 in
theorem isE_in {c : Ct} (F : WF c) (hk : cK c ≠ 2) {i : Nat} (hi : i + 1 < cN c) : ¬ isE c i := by
  rintro ⟨r, h1, h2⟩
  have h3 := F.2.2.2.2.2.1 hk
  have h4 := F.el
  rw [h3] at h4
  have : r = 0 := by omega
  subst this
  simp at h4
  omega
set_option maxHeartbeats 200000 in
theorem wy_line {c : Ct} (F : WF c) (hk : cK c = 1) {i : Nat} : wy c i ↔ i + 1 < cN c := ⟨fun h => h.2.1, fun h => ⟨by omega, h, isE_in F (by omega) h⟩⟩
set_option maxHeartbeats 200000 in
theorem l_locL {n : Nat} {σ : xσ} {a : Nat} {c : Ct} (S : SH n σ a c) (F : WF c) {p : V2} (hp : bV p) : ∀ f i, 40 - i < f → i ≤ 40 → l_X4_locateOnLine_78 n f a (iI p.1) (iI p.2) (nI (cN c - 1)) (nI i) σ = some (ifP (∃ k, i ≤ k ∧ k + 1 < cN c ∧ onS (cV c k) (cV c (k + 1)) p) 1 (-1), σ) := by
  have hN := F.n
  intro f
  induction f with
  | zero => intro i h; omega
  | succ f ih =>
    intro i h hi
    rw [l_X4_locateOnLine_78]
    simp (disch := omega) only [gd_in, nI_k, nI_s, nI_l', nI_e', nI_q']
    by_cases q : i + 1 < cN c
    · rw [if_neg (by omega), e_isOnWay S F (by omega) hp, bd]
      simp only [ih (i + 1) (by omega) (by omega)]
      by_cases w : onS (cV c i) (cV c (i + 1)) p
      · rw [if_neg (tn w), ifP_t ⟨i, Nat.le_refl i, q, w⟩]
      · rw [if_pos (tf_f w)]
        congr 2
        refine ifP_c ⟨fun ⟨k, a, b, d⟩ => ⟨k, by omega, b, d⟩, fun ⟨k, a, b, d⟩ => ⟨k, ?_, b, d⟩⟩
        by_cases z : k = i
        · subst z; exact (w d).elim
        · omega
    · rw [if_pos (by omega), ifP_f]
      rintro ⟨k, a, b, d⟩
      omega
set_option maxHeartbeats 200000 in
theorem onS_l (a b : V2) : onS a b a := by unfold onS inBx sid; refine ⟨⟨by omega, by omega, by omega, by omega⟩, by grind⟩
set_option maxHeartbeats 200000 in
theorem onS_r (a b : V2) : onS a b b := by unfold onS inBx sid; refine ⟨⟨by omega, by omega, by omega, by omega⟩, by grind⟩
set_option maxHeartbeats 200000 in
theorem tip_on {c : Ct} (F : WF c) {p : V2} (h : tip c p) : onA c p := by
  have hN := F.n
  obtain ⟨⟨h1, h2⟩, h3⟩ := h
  have h4 : 2 ≤ cN c := by
    by_cases q : cN c = 1
    · rw [q] at h2; exact (h2 rfl).elim
    · omega
  rcases h3 with rfl | rfl
  · exact ⟨0, (wy_line F h1).mpr (by omega), onS_l _ _⟩
  · refine ⟨cN c - 2, (wy_line F h1).mpr (by omega), ?_⟩
    rw [show cN c - 2 + 1 = cN c - 1 by omega]
    exact onS_r _ _
set_option maxHeartbeats 200000 in
theorem lit_1 : (1 : Int32) = iI 1 := rfl
set_option maxHeartbeats 200000 in
theorem lit_m1 : (-1 : Int32) = iI (-1) := rfl
set_option maxHeartbeats 200000 in
theorem lit_0 : (0 : Int32) = iI 0 := rfl
set_option maxHeartbeats 200000 in
theorem ifP_ap {α β : Type} {p : Prop} (f : α → β) (x y : α) : f (ifP p x y) = ifP p (f x) (f y) := by
  by_cases h : p
  · rw [ifP_t h, ifP_t h]
  · rw [ifP_f h, ifP_f h]
set_option maxHeartbeats 200000 in
theorem e_locateOnLine {n : Nat} {σ : xσ} {a : Nat} {c : Ct} (S : SH n σ a c) (F : WF c) {p : V2} (hp : bV p) (hk : cK c = 1) : f_X4_locateOnLine n a (iI p.1) (iI p.2) σ = some (iI (loc c p), σ) := by
  have hN := F.n
  have base := l_locL S F hp xFU 0 (xFU_lt (by omega)) (by omega)
  have hA : (∃ k, 0 ≤ k ∧ k + 1 < cN c ∧ onS (cV c k) (cV c (k + 1)) p) ↔ onA c p := ⟨fun ⟨k, _, b, d⟩ => ⟨k, (wy_line F hk).mpr b, d⟩, fun ⟨k, b, d⟩ => ⟨k, by omega, (wy_line F hk).mp b, d⟩⟩
  rw [ifP_c hA] at base
  have hl : loc c p = ifP (onA c p) (ifP (tip c p) 0 1) (-1) := by unfold loc; rw [if_neg (by omega), if_pos hk]
  have notip : ¬ tip c p → l_X4_locateOnLine_78 n xFU a (iI p.1) (iI p.2) (nI (cN c - 1)) 0 σ = some (iI (loc c p), σ) := by
    intro h
    rw [show (0 : Int32) = nI 0 from rfl, base, hl, ifP_f h, ifP_ap iI]; rfl
  have istip : tip c p → some ((0 : Int32), σ) = some (iI (loc c p), σ) := by
    intro h
    rw [hl, ifP_t (tip_on F h), ifP_t h]; rfl
  have e := e_isAlike (n := n) S F (i := 0) (j := cN c - 1) (by omega) (by omega)
  rw [f_X4_locateOnLine, gd_pos S.1, S.N, st]
  simp (disch := omega) only [gd_in, nI_k, nI_s, nI_l', nI_e', nI_q', nIl0, nIe0, nIg0, nIh0, nIq0, nIl1, nIe1, nIg1, nIh1, nIq1, nIl2, nIe2, nIg2, nIh2, nIq2, nIl3, nIe3, nIg3, nIh3, nIq3, nIl4, nIe4, nIg4, nIh4, nIq4, nIl8, nIe8, nIg8, nIh8, nIq8, nIl40, nIe40, nIg40, nIh40, nIq40, nIl80, nIe80, nIg80, nIh80, nIq80, nIl200, nIe200, nIg200, nIh200, nIq200, nIm1, nIp2]
  by_cases h1 : cN c - 1 < 1
  · rw [if_pos h1]
    refine notip (fun h => ?_)
    have := h.1.2
    rw [show cN c - 1 = 0 by omega] at this
    exact this rfl
  · rw [if_neg h1, show f_X7_isAlike n a 0 (nI (cN c - 1)) σ = _ from e, bd]
    by_cases h2 : cV c 0 = cV c (cN c - 1)
    · rw [if_neg (tn h2)]
      exact notip (fun h => h.1.2 h2)
    · rw [if_pos (tf_f h2)]
      have g0 : ∀ {α : Type} (x : Option α), gd (inb 0 40) x = x := fun x => gd_pos (by decide) x
      have c0 : (0 : Int32).toNatClampNeg = 0 := rfl
      simp (disch := omega) only [g0, c0, S.X, S.Y, b_X4_locateOnLine_46, gd_in, nI_k]
      have p1 := hp.1.r
      have p2 := hp.2.r
      simp (disch := first | assumption | exact F.xr (by omega) | exact F.yr (by omega)) only [iI_eq]
      have ho : opn c := ⟨hk, h2⟩
      have q1 : ∀ i, ((cV c i).1 = p.1 ∧ (cV c i).2 = p.2) ↔ cV c i = p := fun i => V2_eq.symm
      by_cases k1 : (cV c 0).1 = p.1 ∧ (cV c 0).2 = p.2
      · rw [if_pos k1.1, if_pos k1.2, if_neg (by decide)]
        exact istip ⟨ho, Or.inl ((q1 0).mp k1)⟩
      · by_cases k2 : (cV c (cN c - 1)).1 = p.1 ∧ (cV c (cN c - 1)).2 = p.2
        · have t := istip ⟨ho, Or.inr ((q1 _).mp k2)⟩
          by_cases a1 : (cV c 0).1 = p.1
          · rw [if_pos a1, if_neg (fun q => k1 ⟨a1, q⟩), if_pos trivial, if_pos k2.1, if_pos k2.2]; exact t
          · rw [if_neg a1, if_pos trivial, if_pos k2.1, if_pos k2.2]; exact t
        · have t := notip (fun h => by rcases h.2 with z | z; exact k1 ((q1 0).mpr z); exact k2 ((q1 _).mpr z))
          have w : (if (cV c (cN c - 1)).1 = p.1 then (if (cV c (cN c - 1)).2 = p.2 then some ((0 : Int32), σ) else l_X4_locateOnLine_78 n xFU a (iI p.1) (iI p.2) (nI (cN c - 1)) 0 σ) else l_X4_locateOnLine_78 n xFU a (iI p.1) (iI p.2) (nI (cN c - 1)) 0 σ) = some (iI (loc c p), σ) := by
            by_cases a1 : (cV c (cN c - 1)).1 = p.1
            · rw [if_pos a1, if_neg (fun q => k2 ⟨a1, q⟩), t]
            · rw [if_neg a1, t]
          by_cases a1 : (cV c 0).1 = p.1
          · rw [if_pos a1, if_neg (fun q => k1 ⟨a1, q⟩), if_pos trivial]; exact w
          · rw [if_neg a1, if_pos trivial]; exact w

set_option maxHeartbeats 200000 in
theorem cc_code {a b p : V2} (h : ¬ onS a b p) : cc ex0 (sub2 a p) (sub2 b p) = ((decide (p.2 < a.2) != decide (p.2 < b.2)) && (decide (0 < sid a b p) == decide (p.2 < b.2))) := by
  rw [cc_ex]
  by_cases h1 : p.2 < a.2 <;> by_cases h2 : p.2 < b.2
  · simp [h1, h2]
  · have : sid a b p ≠ 0 := fun e => h (on_y e (by omega) (by omega) (by omega))
    simp only [h1, h2, decide_true, decide_false, if_false, Bool.true_bne, Bool.not_false, Bool.true_and, Bool.false_eq_true]
    by_cases q : 0 < sid a b p
    · have : ¬ sid a b p < 0 := by omega
      simp [q, this]
    · have : sid a b p < 0 := by omega
      simp [q, this]
  · simp [h1, h2]
  · simp [h1, h2]
set_option maxHeartbeats 200000 in
theorem bI_0 (o : Bool) : bI o = 0 ↔ o = false := by cases o <;> decide
noncomputable def lp (c : Ct) (p : V2) (i : Nat) (o : Bool) : Int := ifP (∃ k, i ≤ k ∧ wy c k ∧ onS (cV c k) (cV c (k + 1)) p) 0 (if (o ^^ xs (oddF c p) i (cN c - 1 - i)) then 1 else -1)
set_option maxHeartbeats 200000 in
theorem lp_st {c : Ct} {p : V2} {i : Nat} {o : Bool} (hi : i + 1 < cN c) (h : ¬ (wy c i ∧ onS (cV c i) (cV c (i + 1)) p)) : lp c p (i + 1) (o ^^ oddF c p i) = lp c p i o := by
  unfold lp
  have e : cN c - 1 - i = (cN c - 1 - (i + 1)) + 1 := by omega
  rw [e, xs_head, ← Bool.xor_assoc]
  refine ifP_c ⟨fun ⟨k, a, b⟩ => ⟨k, by omega, b⟩, fun ⟨k, a, b⟩ => ⟨k, ?_, b⟩⟩
  by_cases z : k = i
  · subst z; exact (h b).elim
  · omega
set_option maxHeartbeats 200000 in
theorem l_locP {n : Nat} {σ : xσ} {a : Nat} {c : Ct} (S : SH n σ a c) (F : WF c) {p : V2} (hp : bV p) (hk : cK c = 2) : ∀ f i o, 40 - i < f → i ≤ 40 → l_X4_locateInPolygon_5 n f a (iI p.1) (iI p.2) (bI o) (nI i) σ = some (iI (lp c p i o), σ) := by
  have hN := F.n
  have p1 := hp.1.r
  have p2 := hp.2.r
  intro f
  induction f with
  | zero => intro i o h; omega
  | succ f ih =>
    intro i o h hi
    rw [l_X4_locateInPolygon_5, S.N]
    simp (disch := omega) only [nI_s, nI_e', gd_in, nI_k]
    by_cases q : i + 1 < cN c
    · rw [if_neg (by omega)]
      simp (disch := omega) only [S.L, gd_in, nI_k]
      by_cases w : isE c i
      · rw [if_neg (tn w), b_X4_locateInPolygon_118]
        simp only [nI_s]
        rw [ih (i + 1) o (by omega) (by omega)]
        have z : oddF c p i = false := by unfold oddF; rw [dB_f (fun h => h.2.2 w)]; rfl
        rw [← lp_st (o := o) q (fun h => h.1.2.2 w), z, Bool.xor_false]
      · have hw : wy c i := ⟨by omega, q, w⟩
        rw [if_pos (tf_f w), e_isOnWay S F q hp, bd]
        by_cases v : onS (cV c i) (cV c (i + 1)) p
        · rw [if_neg (tn v)]
          unfold lp
          rw [ifP_t ⟨i, Nat.le_refl i, hw, v⟩]; rfl
        · rw [if_pos (tf_f v)]
          have y1 := F.yr (show i < cN c by omega)
          have y2 := F.yr q
          have rr := sid_r (F.b (show i < cN c by omega)) (F.b q) hp
          have e : ∀ o', o' = (o ^^ oddF c p i) → l_X4_locateInPolygon_5 n f a (iI p.1) (iI p.2) (bI o') (nI (i + 1)) σ = some (iI (lp c p i o), σ) := by
            intro o' h'
            rw [h', ih (i + 1) _ (by omega) (by omega), lp_st q (fun h => v h.2)]
          have ef : oddF c p i = ((decide (p.2 < (cV c i).2) != decide (p.2 < (cV c (i + 1)).2)) && (decide (0 < sid (cV c i) (cV c (i + 1)) p) == decide (p.2 < (cV c (i + 1)).2))) := by
            unfold oddF; rw [dB_t hw, Bool.true_and, cc_code v]
          simp (disch := omega) only [S.Y, gd_in, nI_k, b_X4_locateInPolygon_60, b_X4_locateInPolygon_78, b_X4_locateInPolygon_103, b_X4_locateInPolygon_117, b_X4_locateInPolygon_118, nI_s, iI_le, iI_64, e_sideOf S F q, bd, lz_le]
          by_cases a1 : (cV c (i + 1)).2 ≤ p.2
          · by_cases a2 : (cV c i).2 ≤ p.2
            · rw [if_pos a1, if_pos a2, if_pos trivial]
              refine e o ?_
              rw [ef, decide_eq_false (by omega), decide_eq_false (by omega)]; simp
            · by_cases a3 : sid (cV c i) (cV c (i + 1)) p ≤ 0
              · rw [if_pos a1, if_neg a2, if_neg (by decide), if_pos a3, if_pos trivial]
                have : (o ^^ oddF c p i) = !o := by
                  rw [ef, decide_eq_false (show ¬ p.2 < (cV c (i + 1)).2 by omega), decide_eq_true (show p.2 < (cV c i).2 by omega), decide_eq_false (by omega)]; simp
                cases o
                · exact e true this.symm
                · exact e false this.symm
              · rw [if_pos a1, if_neg a2, if_neg (by decide), if_neg a3, if_neg (by decide)]
                refine e o ?_
                rw [ef, decide_eq_false (show ¬ p.2 < (cV c (i + 1)).2 by omega), decide_eq_true (show p.2 < (cV c i).2 by omega), decide_eq_true (show 0 < sid (cV c i) (cV c (i + 1)) p by omega)]; simp
          · by_cases a2 : (cV c i).2 ≤ p.2
            · by_cases a3 : sid (cV c i) (cV c (i + 1)) p ≤ 0
              · rw [if_neg a1, if_pos a2, if_neg (by decide), if_pos a3, if_neg (by decide)]
                refine e o ?_
                rw [ef, decide_eq_true (show p.2 < (cV c (i + 1)).2 by omega), decide_eq_false (show ¬ p.2 < (cV c i).2 by omega), decide_eq_false (by omega)]; simp
              · rw [if_neg a1, if_pos a2, if_neg (by decide), if_neg a3, if_pos trivial]
                have : (o ^^ oddF c p i) = !o := by
                  rw [ef, decide_eq_true (show p.2 < (cV c (i + 1)).2 by omega), decide_eq_false (show ¬ p.2 < (cV c i).2 by omega), decide_eq_true (show 0 < sid (cV c i) (cV c (i + 1)) p by omega)]; simp
                cases o
                · exact e true this.symm
                · exact e false this.symm
            · rw [if_neg a1, if_neg a2, if_pos trivial]
              refine e o ?_
              rw [ef, decide_eq_true (show p.2 < (cV c (i + 1)).2 by omega), decide_eq_true (show p.2 < (cV c i).2 by omega)]; simp
    · rw [if_pos (by omega)]
      unfold lp
      rw [ifP_f (fun ⟨k, a, b, d⟩ => by have := b.2.1; omega), show cN c - 1 - i = 0 by omega]
      cases o <;> rfl
set_option maxHeartbeats 200000 in
theorem mn_le (f : Nat → Int) (k i : Nat) (h : i ≤ k) : mn f k ≤ f i := by
  induction k with
  | zero => rw [show i = 0 by omega, mn]; omega
  | succ k ih =>
    rw [mn]
    by_cases q : i = k + 1
    · subst q; omega
    · have := ih (by omega); omega
set_option maxHeartbeats 200000 in
theorem mx_le (f : Nat → Int) (k i : Nat) (h : i ≤ k) : f i ≤ mx f k := by
  induction k with
  | zero => rw [show i = 0 by omega, mx]; omega
  | succ k ih =>
    rw [mx]
    by_cases q : i = k + 1
    · subst q; omega
    · have := ih (by omega); omega
set_option maxHeartbeats 200000 in
theorem mn_ex (f : Nat → Int) (k : Nat) : ∃ i, i ≤ k ∧ mn f k = f i := by
  induction k with
  | zero => exact ⟨0, by omega, rfl⟩
  | succ k ih =>
    obtain ⟨i, h1, h2⟩ := ih
    rw [mn]
    by_cases q : mn f k ≤ f (k + 1)
    · exact ⟨i, by omega, by omega⟩
    · exact ⟨k + 1, by omega, by omega⟩
set_option maxHeartbeats 200000 in
theorem mx_ex (f : Nat → Int) (k : Nat) : ∃ i, i ≤ k ∧ mx f k = f i := by
  induction k with
  | zero => exact ⟨0, by omega, rfl⟩
  | succ k ih =>
    obtain ⟨i, h1, h2⟩ := ih
    rw [mx]
    by_cases q : f (k + 1) ≤ mx f k
    · exact ⟨i, by omega, by omega⟩
    · exact ⟨k + 1, by omega, by omega⟩
def x0 (c : Ct) : Int := mn (fun i => (cV c i).1) (cN c - 1)
def y0 (c : Ct) : Int := mn (fun i => (cV c i).2) (cN c - 1)
def x1 (c : Ct) : Int := mx (fun i => (cV c i).1) (cN c - 1)
def y1 (c : Ct) : Int := mx (fun i => (cV c i).2) (cN c - 1)
set_option maxHeartbeats 200000 in
theorem SH.x0 {n : Nat} {σ : xσ} {a : Nat} {c : Ct} (S : SH n σ a c) : sI σ a 4 = iI (x0 c) := S.2.2.1.1
set_option maxHeartbeats 200000 in
theorem SH.y0 {n : Nat} {σ : xσ} {a : Nat} {c : Ct} (S : SH n σ a c) : sI σ a 5 = iI (y0 c) := S.2.2.1.2.1
set_option maxHeartbeats 200000 in
theorem SH.x1 {n : Nat} {σ : xσ} {a : Nat} {c : Ct} (S : SH n σ a c) : sI σ a 6 = iI (x1 c) := S.2.2.1.2.2.1
set_option maxHeartbeats 200000 in
theorem SH.y1 {n : Nat} {σ : xσ} {a : Nat} {c : Ct} (S : SH n σ a c) : sI σ a 7 = iI (y1 c) := S.2.2.1.2.2.2
set_option maxHeartbeats 200000 in
theorem bx_in (c : Ct) {i : Nat} (h : i < cN c) : x0 c ≤ (cV c i).1 ∧ (cV c i).1 ≤ x1 c ∧ y0 c ≤ (cV c i).2 ∧ (cV c i).2 ≤ y1 c := ⟨mn_le _ _ i (by omega), mx_le (fun i => (cV c i).1) _ i (by omega), mn_le (fun i => (cV c i).2) _ i (by omega), mx_le (fun i => (cV c i).2) _ i (by omega)⟩
set_option maxHeartbeats 200000 in
theorem WF.bx {c : Ct} (F : WF c) : b30 (x0 c) ∧ b30 (y0 c) ∧ b30 (x1 c) ∧ b30 (y1 c) := by
  have hN := F.n
  obtain ⟨i1, h1, e1⟩ := mn_ex (fun i => (cV c i).1) (cN c - 1)
  obtain ⟨i2, h2, e2⟩ := mn_ex (fun i => (cV c i).2) (cN c - 1)
  obtain ⟨i3, h3, e3⟩ := mx_ex (fun i => (cV c i).1) (cN c - 1)
  obtain ⟨i4, h4, e4⟩ := mx_ex (fun i => (cV c i).2) (cN c - 1)
  refine ⟨?_, ?_, ?_, ?_⟩
  · unfold x0; rw [e1]; exact F.x (by omega)
  · unfold y0; rw [e2]; exact F.y (by omega)
  · unfold x1; rw [e3]; exact F.x (by omega)
  · unfold y1; rw [e4]; exact F.y (by omega)
set_option maxHeartbeats 200000 in
theorem xs_split (f : Nat → Bool) (lo a b : Nat) : xs f lo (a + b) = (xs f lo a ^^ xs f (lo + a) b) := by
  induction b with
  | zero => simp [xs]
  | succ b ih => rw [← Nat.add_assoc, xs, ih, xs, Nat.add_assoc, Bool.xor_assoc]
set_option maxHeartbeats 200000 in
theorem WF.em {c : Ct} (F : WF c) {r q : Nat} (h : r < q) (hq : q < cR c) : cE c r < cE c q := by
  induction q with
  | zero => omega
  | succ q ih =>
    have h1 := F.e1 hq
    by_cases z : r = q
    · subst z; exact h1
    · have := ih (by omega) (by omega); omega
set_option maxHeartbeats 200000 in
theorem WF.eml {c : Ct} (F : WF c) {r q : Nat} (h : r ≤ q) (hq : q < cR c) : cE c r ≤ cE c q := by
  by_cases z : r = q
  · subst z; omega
  · have := F.em (show r < q by omega) hq; omega
/-! within a ring -/
set_option maxHeartbeats 200000 in
theorem isE_ring {c : Ct} (F : WF c) {r i : Nat} (hr : r < cR c) (h1 : sr c r ≤ i) (h2 : i + 1 < cE c r) : ¬ isE c i := by
  rintro ⟨q, hq, e⟩
  by_cases z : q < r
  · have g : cE c q ≤ sr c r := by
      unfold sr; rw [if_neg (by omega)]; exact F.eml (by omega) (by omega)
    omega
  · have := F.eml (show r ≤ q by omega) hq; omega
set_option maxHeartbeats 200000 in
theorem wy_ring {c : Ct} (F : WF c) (hk : cK c ≠ 0) {r i : Nat} (hr : r < cR c) (h1 : sr c r ≤ i) (h2 : i + 1 < cE c r) : wy c i := ⟨hk, by have := (F.e hr).2; omega, isE_ring F hr h1 h2⟩
def ml (c : Ct) (r : Nat) : Nat := cE c r - 1 - sr c r
set_option maxHeartbeats 200000 in
theorem sr_lt {c : Ct} (F : WF c) {r : Nat} (hr : r < cR c) : sr c r < cE c r := by
  unfold sr
  split
  · have := F.e hr; omega
  · exact F.em (by omega) hr
/-! the ways of all rings, ring by ring -/
set_option maxHeartbeats 200000 in
theorem ring_sum {c : Ct} (F : WF c) (hk : cK c ≠ 0) (g : Nat → Bool) : xs (fun i => dB (wy c i) && g i) 0 (cN c - 1) = xs (fun r => xs g (sr c r) (ml c r)) 0 (cR c) := by
  have hR := F.r
  have key : ∀ r, r < cR c → xs (fun i => dB (wy c i) && g i) 0 (cE c r - 1) = xs (fun r => xs g (sr c r) (ml c r)) 0 (r + 1) := by
    intro r
    induction r with
    | zero =>
      intro h
      rw [xs, xs, Bool.false_xor]
      have e : sr c 0 = 0 := rfl
      unfold ml
      rw [Nat.add_zero, e, Nat.sub_zero]
      refine xs_congr (fun i h1 h2 => ?_)
      rw [dB_t (wy_ring F hk h (by rw [e]; omega) (by omega)), Bool.true_and]
    | succ r ih =>
      intro h
      rw [xs, ← ih (by omega), Nat.zero_add]
      have h1 := F.e1 h
      have h0 := F.e (show r < cR c by omega)
      have e : sr c (r + 1) = cE c r := by unfold sr; rw [if_neg (by omega)]; rfl
      have e2 : cE c (r + 1) - 1 = (cE c r - 1) + (1 + ml c (r + 1)) := by unfold ml; rw [e]; omega
      rw [e2, xs_split]
      congr 1
      rw [xs_split, Nat.zero_add, e, show cE c r - 1 + 1 = cE c r by omega]
      have z : xs (fun i => dB (wy c i) && g i) (cE c r - 1) 1 = false := by
        rw [xs, xs, Nat.add_zero, dB_f]
        · rfl
        · intro hw
          exact hw.2.2 ⟨r, by omega, by omega⟩
      rw [z, Bool.false_xor]
      refine xs_congr (fun i h1 h2 => ?_)
      rw [dB_t (wy_ring F hk h (by rw [e]; omega) (by unfold ml at h2; rw [e] at h2; omega)), Bool.true_and]
  have := key (cR c - 1) (by omega)
  rw [F.el, show cR c - 1 + 1 = cR c by omega] at this
  exact this
/-- closed rings -/
def Cl (c : Ct) : Prop := ∀ r, r < cR c → cV c (cE c r - 1) = cV c (sr c r)
set_option maxHeartbeats 200000 in
theorem sid_uv (a b p : V2) : sid a b p = -((p.1 - b.1) * (p.2 - a.2)) - (p.1 - a.1) * (b.2 - p.2) := by unfold sid; grind
/-! a point beside the box is outside -/
set_option maxHeartbeats 200000 in
theorem loc_out {c : Ct} (F : WF c) (hC : cK c = 2 → Cl c) {p : V2} (h : p.1 < x0 c ∨ x1 c < p.1 ∨ p.2 < y0 c ∨ y1 c < p.2) : loc c p = -1 := by
  have hN := F.n
  have hA : ¬ onA c p := by
    rintro ⟨i, hw, ⟨h1, h2, h3, h4⟩, h5⟩
    have g1 := bx_in c (show i < cN c by have := hw.2.1; omega)
    have g2 := bx_in c hw.2.1
    omega
  have hV : ¬ cV c 0 = p := by
    rintro rfl
    have g1 := bx_in c (show 0 < cN c by omega)
    omega
  unfold loc
  rw [ifP_f hV, ifP_f hA, ifP_f hA]
  split
  · rfl
  · split
    · rfl
    · have hk : cK c = 2 := by have := F.k; omega
      have : oddP c p = false := by
        unfold oddP
        by_cases q : y0 c ≤ p.2 ∧ p.2 ≤ y1 c ∧ p.1 ≤ x1 c
        · have ec : xs (oddF c p) 0 (cN c - 1) = xs (fun i => dB (wy c i) && (decide (p.2 < (cV c i).2) ^^ decide (p.2 < (cV c (i + 1)).2))) 0 (cN c - 1) := by
            refine xs_congr (fun i h1 h2 => ?_)
            unfold oddF
            congr 1
            have g1 := bx_in c (show i < cN c by omega)
            have g2 := bx_in c (show i + 1 < cN c by omega)
            rw [cc_ex]
            by_cases a1 : p.2 < (cV c i).2 <;> by_cases a2 : p.2 < (cV c (i + 1)).2
            · simp [a1, a2]
            · have m1 := Int.mul_pos_of_neg_of_neg (show p.1 - (cV c (i + 1)).1 < 0 by omega) (show p.2 - (cV c i).2 < 0 by omega)
              have m2 := Int.mul_nonneg_of_nonpos_of_nonpos (show p.1 - (cV c i).1 ≤ 0 by omega) (show (cV c (i + 1)).2 - p.2 ≤ 0 by omega)
              have : sid (cV c i) (cV c (i + 1)) p < 0 := by rw [sid_uv]; omega
              simp [a1, a2, this]
            · have m1 := Int.mul_nonpos_of_nonpos_of_nonneg (show p.1 - (cV c (i + 1)).1 ≤ 0 by omega) (show 0 ≤ p.2 - (cV c i).2 by omega)
              have m2 := Int.mul_neg_of_neg_of_pos (show p.1 - (cV c i).1 < 0 by omega) (show 0 < (cV c (i + 1)).2 - p.2 by omega)
              have : 0 < sid (cV c i) (cV c (i + 1)) p := by rw [sid_uv]; omega
              simp [a1, a2, this]
            · simp [a1, a2]
          rw [ec, ring_sum F (by omega) (fun i => (decide (p.2 < (cV c i).2) ^^ decide (p.2 < (cV c (i + 1)).2)))]
          refine xs_none (fun r h1 h2 => ?_)
          rw [Nat.zero_add] at h2
          have := sr_lt F h2
          rw [xs_tel (fun i => decide (p.2 < (cV c i).2)), show sr c r + ml c r = cE c r - 1 by unfold ml; omega, hC hk r h2]
          simp
        · refine xs_none (fun i h1 h2 => ?_)
          unfold oddF
          have g1 := bx_in c (show i < cN c by omega)
          have g2 := bx_in c (show i + 1 < cN c by omega)
          rw [cc_ex]
          by_cases a1 : p.2 < (cV c i).2 <;> by_cases a2 : p.2 < (cV c (i + 1)).2
          · simp [a1, a2]
          · have m1 := Int.mul_nonpos_of_nonneg_of_nonpos (show 0 ≤ p.1 - (cV c (i + 1)).1 by omega) (show p.2 - (cV c i).2 ≤ 0 by omega)
            have m2 := Int.mul_nonpos_of_nonneg_of_nonpos (show 0 ≤ p.1 - (cV c i).1 by omega) (show (cV c (i + 1)).2 - p.2 ≤ 0 by omega)
            have : ¬ sid (cV c i) (cV c (i + 1)) p < 0 := by rw [sid_uv]; omega
            simp [a1, a2, this]
          · have m1 := Int.mul_nonneg (show 0 ≤ p.1 - (cV c (i + 1)).1 by omega) (show 0 ≤ p.2 - (cV c i).2 by omega)
            have m2 := Int.mul_nonneg (show 0 ≤ p.1 - (cV c i).1 by omega) (show 0 ≤ (cV c (i + 1)).2 - p.2 by omega)
            have : ¬ 0 < sid (cV c i) (cV c (i + 1)) p := by rw [sid_uv]; omega
            simp [a1, a2, this]
          · simp [a1, a2]
      rw [this]; rfl
set_option maxHeartbeats 200000 in
theorem e_locate {n : Nat} {σ : xσ} {a : Nat} {c : Ct} (S : SH n σ a c) (F : WF c) {p : V2} (hp : bV p) (hC : cK c = 2 → Cl c) : f_X4_locate n a (iI p.1) (iI p.2) σ = some (iI (loc c p), σ) := by
  have hN := F.n
  have hK := F.k
  have p1 := hp.1.r
  have p2 := hp.2.r
  have b := F.bx
  have q1 := b.1.r
  have q2 := b.2.1.r
  have q3 := b.2.2.1.r
  have q4 := b.2.2.2.r
  have out : (p.1 < x0 c ∨ x1 c < p.1 ∨ p.2 < y0 c ∨ y1 c < p.2) → some ((-1 : Int32), σ) = some (iI (loc c p), σ) := by
    intro h; rw [loc_out F hC h]; rfl
  rw [f_X4_locate, gd_pos S.1, S.x0, S.y0, S.x1, S.y1, S.K]
  simp (disch := first | assumption | omega) only [iI_lt, iI_le, nIl0, nIe0, nIg0, nIh0, nIq0, nIl1, nIe1, nIg1, nIh1, nIq1, nIl2, nIe2, nIg2, nIh2, nIq2, nIl3, nIe3, nIg3, nIh3, nIq3, nIl4, nIe4, nIg4, nIh4, nIq4, nIl8, nIe8, nIg8, nIh8, nIq8, nIl40, nIe40, nIg40, nIh40, nIq40, nIl80, nIe80, nIg80, nIh80, nIq80, nIl200, nIe200, nIg200, nIh200, nIq200, nIm1, nIp2]
  by_cases h1 : p.1 < x0 c
  · rw [if_pos h1]; exact out (Or.inl h1)
  · by_cases h2 : x1 c < p.1
    · rw [if_neg h1, if_pos h2]; exact out (Or.inr (Or.inl h2))
    · by_cases h3 : p.2 < y0 c
      · rw [if_neg h1, if_neg h2, if_pos h3]; exact out (Or.inr (Or.inr (Or.inl h3)))
      · by_cases h4 : p.2 ≤ y1 c
        · rw [if_neg h1, if_neg h2, if_neg h3, if_pos h4]
          by_cases k0 : cK c = 0
          · rw [if_pos k0]
            have e1 := F.2.2.2.2.2.2 k0
            have : cV c 0 = p := by
              unfold x0 x1 y0 y1 at *
              rw [e1] at h1 h2 h3 h4
              simp only [Nat.sub_self, mn, mx] at h1 h2 h3 h4
              exact Prod.ext (by omega) (by omega)
            unfold loc
            rw [if_pos k0, ifP_t this]; rfl
          · rw [if_neg k0]
            by_cases k1 : cK c = 1
            · rw [if_pos k1, e_locateOnLine S F hp k1, bd]
            · rw [if_neg k1, f_X4_locateInPolygon, gd_pos S.1]
              have := l_locP S F hp (by omega) xFU 0 false (xFU_lt (by omega)) (by omega)
              rw [show (0 : Int32) = bI false from rfl, show l_X4_locateInPolygon_5 n xFU a (iI p.1) (iI p.2) (bI false) (bI false) σ = _ from this, bd]
              congr 2
              unfold lp loc
              rw [if_neg k0, if_neg k1, Bool.false_xor, Nat.sub_zero]
              exact congrArg iI (ifP_c ⟨fun ⟨k, _, b⟩ => ⟨k, b⟩, fun ⟨k, b⟩ => ⟨k, by omega, b⟩⟩)
        · rw [if_neg h1, if_neg h2, if_neg h3, if_neg h4]; exact out (Or.inr (Or.inr (Or.inr (by omega))))

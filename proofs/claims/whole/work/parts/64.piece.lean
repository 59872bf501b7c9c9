/-! THE REFERENCE: the side of a ring; one piece of a way -/
set_option maxHeartbeats 200000 in
theorem mod_prv {m low : Nat} (h : low < m) : (low + m - 1) % m = if low = 0 then m - 1 else low - 1 := by
  by_cases q : low = 0
  · rw [if_pos q, q, Nat.zero_add, Nat.mod_eq_of_lt (by omega)]
  · rw [if_neg q, show low + m - 1 = (low - 1) + m by omega, Nat.add_mod_right, Nat.mod_eq_of_lt (by omega)]
set_option maxHeartbeats 200000 in
theorem mod_nxt {m low : Nat} (h : low < m) : (low + 1) % m = if low + 1 = m then 0 else low + 1 := by
  by_cases q : low + 1 = m
  · rw [if_pos q, q, Nat.mod_self]
  · rw [if_neg q, Nat.mod_eq_of_lt (by omega)]
set_option maxHeartbeats 200000 in
theorem l_leftR {n : Nat} {σ : xσ} {a : Nat} {c : Ct} (S : MH σ a c) (F : WF c) {lo m : Nat} (hh : lo + m < cN c) (hcl : cV c (lo + m) = cV c lo) : ∀ (fu low k : Nat), m - k < fu → low < m → k ≤ m → 1 ≤ m → (∀ t, t < k → loW (cV c (lo + low)) (cV c (lo + t))) →
    ∃ j, lo ≤ j ∧ j < lo + m ∧ (∀ i, lo ≤ i → i < lo + m → loW (cV c j) (cV c i)) ∧ l_X14_isLeftRound_23 n fu a (nI lo) (nI m) (nI low) (nI k) σ = some (bI (decide (0 < crs (dv (cV c) (prv lo m j)) (dv (cV c) j))), σ) := by
  have hN := F.n
  intro fu
  induction fu with
  | zero => intro low k h; omega
  | succ fu ih =>
    intro low k hf hl hk hm hw
    rw [l_X14_isLeftRound_23]
    by_cases q : m ≤ k
    · rw [if_pos ((nI_e' (by omega) (by omega)).mpr q)]
      refine ⟨lo + low, by omega, by omega, fun i h1 h2 => ?_, ?_⟩
      · have := hw (i - lo) (by omega)
        rw [show lo + (i - lo) = i by omega] at this
        exact this
      · have m0 : ¬ nI m = 0 := fun z => by have := (nIq0 (by omega)).mp z; omega
        rw [gd_pos m0, st, nI_ad low m, nIm1 (by omega), pk_rem (by omega) (by omega) (by omega), nI_ad, gd_pos m0, st, nI_s, pk_rem (by omega) (by omega) (by omega), nI_ad, st, nI_ad]
        have e1 : lo + (low + m - 1) % m = prv lo m (lo + low) := by
          rw [mod_prv hl]; unfold prv
          by_cases z : low = 0
          · rw [if_pos z, if_pos (by omega)]; omega
          · rw [if_neg z, if_neg (by omega)]; omega
        have e2 : cV c (lo + (low + 1) % m) = cV c (lo + low + 1) := by
          rw [mod_nxt hl]
          by_cases z : low + 1 = m
          · rw [if_pos z, Nat.add_zero, ← hcl, show lo + m = lo + low + 1 by omega]
          · rw [if_neg z]; rfl
        have e3 : cV c (prv lo m (lo + low) + 1) = cV c (lo + low) := by
          unfold prv
          by_cases z : lo + low = lo
          · rw [if_pos z, show lo + m - 1 + 1 = lo + m by omega, hcl, z]
          · rw [if_neg z, show lo + low - 1 + 1 = lo + low by omega]
        have i1 : prv lo m (lo + low) < cN c := by unfold prv; split <;> omega
        have i2 : lo + (low + 1) % m < cN c := by have := Nat.mod_lt (low + 1) (show 0 < m by omega); omega
        rw [e1]
        simp (disch := omega) only [gd_in, nI_k]
        rw [S.X (show lo + low < cN c by omega), S.X i1, S.Y (show lo + low < cN c by omega), S.Y i1, S.X i2, S.Y i2, e2, iI_64 (F.xr (by omega)), iI_64 (F.xr i1), iI_64 (F.yr (by omega)), iI_64 (F.yr i1), iI_64 (F.xr (show lo + low + 1 < cN c by omega)), iI_64 (F.yr (show lo + low + 1 < cN c by omega))]
        simp only [jJ_sub, m_cross, bd]
        have ec : ((cV c (lo + low)).1 - (cV c (prv lo m (lo + low))).1) * ((cV c (lo + low + 1)).2 - (cV c (lo + low)).2) - ((cV c (lo + low)).2 - (cV c (prv lo m (lo + low))).2) * ((cV c (lo + low + 1)).1 - (cV c (lo + low)).1) = crs (dv (cV c) (prv lo m (lo + low))) (dv (cV c) (lo + low)) := by
          unfold crs dv; rw [e3]
        rw [ec]
        have r : R64 (crs (dv (cV c) (prv lo m (lo + low))) (dv (cV c) (lo + low))) := by
          rw [← ec]
          exact crs_r (b31.s (F.x (by omega)) (F.x i1)) (b31.s (F.y (by omega)) (F.y (by omega))) (b31.s (F.y (by omega)) (F.y i1)) (b31.s (F.x (by omega)) (F.x (by omega)))
        simp only [lz_le r]
        by_cases z : 0 < crs (dv (cV c) (prv lo m (lo + low))) (dv (cV c) (lo + low))
        · rw [if_neg (by omega), decide_eq_true z]; rfl
        · rw [if_pos (by omega), decide_eq_false z]; rfl
    · rw [if_neg (fun z => q ((nI_e' (by omega) (by omega)).mp z)), nI_ad, nI_ad]
      simp (disch := omega) only [gd_in, nI_k, S.X, S.Y, b_X14_isLeftRound_96, nI_s]
      have yk := F.yr (show lo + k < cN c by omega)
      have yl := F.yr (show lo + low < cN c by omega)
      have xk := F.xr (show lo + k < cN c by omega)
      have xl := F.xr (show lo + low < cN c by omega)
      simp only [iI_lt yk yl, iI_eq yk yl, iI_le xl xk]
      have take : (cV c (lo + k)).2 < (cV c (lo + low)).2 ∨ ((cV c (lo + k)).2 = (cV c (lo + low)).2 ∧ (cV c (lo + k)).1 ≤ (cV c (lo + low)).1) → ∀ t, t < k + 1 → loW (cV c (lo + k)) (cV c (lo + t)) := by
        intro hlt t ht
        by_cases z : t = k
        · subst z; unfold loW; omega
        · have := hw t (by omega)
          unfold loW at *; omega
      have keep : ¬ ((cV c (lo + k)).2 < (cV c (lo + low)).2) → ((cV c (lo + k)).2 = (cV c (lo + low)).2 → (cV c (lo + low)).1 ≤ (cV c (lo + k)).1) → ∀ t, t < k + 1 → loW (cV c (lo + low)) (cV c (lo + t)) := by
        intro h1 h2 t ht
        by_cases z : t = k
        · subst z
          unfold loW
          by_cases y : (cV c (lo + t)).2 = (cV c (lo + low)).2
          · have := h2 y; omega
          · omega
        · exact hw t (by omega)
      by_cases q1 : (cV c (lo + k)).2 < (cV c (lo + low)).2
      · rw [if_pos q1]; exact ih k (k + 1) (by omega) (by omega) (by omega) hm (take (Or.inl q1))
      · rw [if_neg q1]
        by_cases q2 : (cV c (lo + k)).2 = (cV c (lo + low)).2
        · rw [if_pos q2]
          by_cases q3 : (cV c (lo + low)).1 ≤ (cV c (lo + k)).1
          · rw [if_pos q3]; exact ih low (k + 1) (by omega) (by omega) (by omega) hm (keep q1 (fun _ => q3))
          · rw [if_neg q3]; exact ih k (k + 1) (by omega) (by omega) (by omega) hm (take (Or.inr ⟨q2, by omega⟩))
        · rw [if_neg q2]; exact ih low (k + 1) (by omega) (by omega) (by omega) hm (keep q1 (fun z => (q2 z).elim))
def SmR (c : Ct) (r : Nat) : Prop := Smp (cV c) (sr c r) (ml c r)
set_option maxHeartbeats 200000 in
theorem m_isLeftRound {n : Nat} {σ : xσ} {a : Nat} {c : Ct} (S : MH σ a c) (F : WF c) {r : Nat} (hr : r < cR c) (hS : SmR c r) : f_X14_isLeftRound n a (nI r) σ = some (bI (sd (cV c) (sr c r) (ml c r)), σ) := by
  have hN := F.n
  have hR := F.r
  have he := F.e hr
  have hm := hS.1
  have hsl := sr_lt F hr
  rw [f_X14_isLeftRound, gd_pos S.1, m_beginOf S F (by omega), bd]
  simp (disch := omega) only [gd_in, nI_k, S.E, st]
  rw [nI_m (by omega), nIm1 (by omega), show cE c r - sr c r - 1 = ml c r by unfold ml; omega]
  have e : sr c r + ml c r < cN c := by unfold ml; omega
  obtain ⟨j, j1, j2, j3, j4⟩ := l_leftR (n := n) S F e hS.2.1 xFU 0 1 (xFU_lt (by omega)) (by omega) (by omega) (by omega) (fun t ht => by
    have : t = 0 := by omega
    subst this; unfold loW; omega)
  rw [show l_X14_isLeftRound_23 n xFU a (nI (sr c r)) (nI (ml c r)) 0 1 σ = _ from j4, Smp.low hS j1 j2 j3]
/-- the interior is to the left of the ring -/
def iL (c : Ct) (r : Nat) : Bool := sd (cV c) (sr c r) (ml c r) == decide (r = 0)
set_option maxHeartbeats 200000 in
theorem m_isInteriorLeft {n : Nat} {σ : xσ} {a : Nat} {c : Ct} (S : MH σ a c) (F : WF c) {r : Nat} (hr : r < cR c) (hS : SmR c r) : f_X14_isInteriorLeft n a (nI r) σ = some (bI (iL c r), σ) := by
  have hR := F.r
  rw [f_X14_isInteriorLeft, gd_pos S.1, m_isLeftRound S F hr hS, bd]
  unfold iL
  by_cases q : r = 0
  · rw [if_pos (show nI r = 0 by rw [q]; rfl), b_X14_isInteriorLeft_14, decide_eq_true q]
    cases sd (cV c) (sr c r) (ml c r) <;> rfl
  · rw [if_neg (fun z => q ((nIq0 (by omega)).mp z)), b_X14_isInteriorLeft_14, decide_eq_false q]
    cases sd (cV c) (sr c r) (ml c r) <;> rfl
/-! one piece -/
def SAW (σ : xσ) (I O A S : Prop) : Prop := sI σ 233 4 = tf I ∧ sI σ 233 5 = tf O ∧ sI σ 233 6 = tf A ∧ sI σ 233 7 = tf S
def FrG (σ σ' : xσ) : Prop := Fr (fun b => b = 233 ∨ A47 b) σ σ' ∧ (∀ k, k = 13 ∨ 23 ≤ k → sI σ' 233 k = sI σ 233 k)
set_option maxHeartbeats 200000 in
theorem FrG.refl {σ : xσ} : FrG σ σ := ⟨Fr.refl, fun _ _ => rfl⟩
set_option maxHeartbeats 200000 in
theorem FrG.trans {σ1 σ2 σ3 : xσ} (h : FrG σ1 σ2) (k : FrG σ2 σ3) : FrG σ1 σ3 := ⟨h.1.trans k.1, fun j a => (k.2 j a).trans (h.2 j a)⟩
set_option maxHeartbeats 200000 in
theorem FrG.w {σ : xσ} {k : Nat} {v : Int32} (h : 4 ≤ k ∧ k ≤ 7) : FrG σ (wI σ 233 k v) := ⟨Fr.wI (Or.inl rfl), fun j a => by rw [sI_wI, if_neg (by omega)]⟩
set_option maxHeartbeats 200000 in
theorem FrL.G {σ σ' : xσ} (f : FrL σ σ') : FrG σ σ' := ⟨f.1, fun k a => f.2 k (by omega)⟩
set_option maxHeartbeats 200000 in
theorem MH.g {σ σ' : xσ} {a : Nat} {c : Ct} (S : MH σ a c) (f : FrG σ σ') : MH σ' a c := S.fr f.1 (by
  have := S.1
  unfold okM at this
  intro j hj h
  unfold A47 at h
  omega)
set_option maxHeartbeats 200000 in
theorem LF.g {σ σ' : xσ} {d : Ct} {lf : Nat → Bool} (h : LF σ d lf) (f : FrG σ σ') : LF σ' d lf := fun hk r hr => ((f.1 240 (by unfold A47; omega) r).1).trans (h hk r hr)
set_option maxHeartbeats 200000 in
theorem tf_or0 {p q : Prop} (h : p) : tf (p ∨ q) = 1 := tf_t (Or.inl h)
set_option maxHeartbeats 200000 in
theorem tf_or1 {p q : Prop} (h : ¬ p) : tf (p ∨ q) = tf q := tf_c ⟨fun z => z.elim (fun y => (h y).elim) id, Or.inr⟩
set_option maxHeartbeats 200000 in
theorem SAW.cg {σ : xσ} {I O A S I' O' A' S' : Prop} (h : SAW σ I O A S) (h1 : I ↔ I') (h2 : O ↔ O') (h3 : A ↔ A') (h4 : S ↔ S') : SAW σ I' O' A' S' := by
  rw [← propext h1, ← propext h2, ← propext h3, ← propext h4]; exact h
set_option maxHeartbeats 200000 in
theorem m_gp42 {n : Nat} {σ : xσ} {I O A S X : Prop} (h : SAW σ I O A S) : ∃ σ', b_X14_goPiece_42 n (tf X) σ = some ((), σ') ∧ FrG σ σ' ∧ SAW σ' (I ∨ X) (O ∨ ¬ X) A S := by
  obtain ⟨h1, h2, h3, h4⟩ := h
  have g0 : ∀ {α : Type} (x : Option α), gd ((0 : Int32) = 0 ∨ (0 : Int32) = 1) x = x := fun x => gd_pos (Or.inl rfl) x
  have g1 : ∀ {α : Type} (x : Option α), gd ((1 : Int32) = 0 ∨ (1 : Int32) = 1) x = x := fun x => gd_pos (Or.inr rfl) x
  have e83 : ∀ (σ1 : xσ) (v : Int32), v = tf (I ∨ X) → sI σ1 233 4 = v → sI σ1 233 5 = tf O → sI σ1 233 6 = tf A → sI σ1 233 7 = tf S → FrG σ σ1 → ∃ σ', (if sI σ1 233 5 = 0 then if tf X = 0 then b_X14_goPiece_83 n 1 σ1 else b_X14_goPiece_83 n 0 σ1 else b_X14_goPiece_83 n 1 σ1) = some ((), σ') ∧ FrG σ σ' ∧ SAW σ' (I ∨ X) (O ∨ ¬ X) A S := by
    intro σ1 v hv k1 k2 k3 k4 f1
    simp only [b_X14_goPiece_83, g0, g1, st]
    have put : ∀ w : Int32, w = tf (O ∨ ¬ X) → ∃ σ', some ((), wI σ1 233 5 w) = some ((), σ') ∧ FrG σ σ' ∧ SAW σ' (I ∨ X) (O ∨ ¬ X) A S := by
      intro w hw
      refine ⟨_, rfl, f1.trans (FrG.w (by omega)), ?_, ?_, ?_, ?_⟩
      · rw [sI_wI, if_neg (by omega), k1, hv]
      · rw [sI_wI, if_pos ⟨rfl, rfl⟩, hw]
      · rw [sI_wI, if_neg (by omega), k3]
      · rw [sI_wI, if_neg (by omega), k4]
    rw [k2]
    by_cases q : O
    · rw [if_neg (tn q)]; exact put 1 (tf_or0 q).symm
    · rw [if_pos (tf_f q)]
      by_cases r : X
      · rw [if_neg (tn r)]; exact put 0 (by rw [tf_or1 q, tf_f (fun z => z r)])
      · rw [if_pos (tf_f r)]; exact put 1 (by rw [tf_or1 q, tf_t r])
  have e62 : ∀ v : Int32, v = tf (I ∨ X) → ∃ σ', b_X14_goPiece_62 n (tf X) v σ = some ((), σ') ∧ FrG σ σ' ∧ SAW σ' (I ∨ X) (O ∨ ¬ X) A S := by
    intro v hv
    rw [b_X14_goPiece_62, gd_pos (by rw [hv]; exact tf_01 _), st]
    exact e83 (wI σ 233 4 v) v hv (by rw [sI_wI, if_pos ⟨rfl, rfl⟩]) (by rw [sI_wI, if_neg (by omega)]; exact h2) (by rw [sI_wI, if_neg (by omega)]; exact h3) (by rw [sI_wI, if_neg (by omega)]; exact h4) (FrG.w (by omega))
  rw [b_X14_goPiece_42, h1]
  by_cases q : I
  · rw [if_neg (tn q)]; exact e62 1 (tf_or0 q).symm
  · rw [if_pos (tf_f q)]
    by_cases r : X
    · rw [if_neg (tn r)]; exact e62 1 (by rw [tf_or1 q, tf_t r])
    · rw [if_pos (tf_f r)]; exact e62 0 (by rw [tf_or1 q, tf_f r])
set_option maxHeartbeats 200000 in
theorem gp196 : @b_X14_goPiece_196 = @b_X14_goPiece_42 := rfl
set_option maxHeartbeats 200000 in
theorem m_goPiece {n : Nat} {σ : xσ} {a b : Nat} {c d : Ct} (S : MH σ a c) (F : WF c) (T : MH σ b d) (G : WF d) {i : Nat} (hi : i + 1 < cN c) (hPQ : cV c i ≠ cV c (i + 1)) (hd : ∀ e, wy d e → cV d e ≠ cV d (e + 1)) (hc : cK c = 2 → ∀ r, r < cR c → SmR c r) {lf : Nat → Bool} (hl : LF σ d lf) {p D : Int} (hp : 0 ≤ p ∧ p < D) (hD : D < 9223372036854775808) {Q : Bool}
    (hq1 : cK d = 2 → ∀ g l, HH d lf (cV c i) (cV c (i + 1)) p D g l → ¬ dir g (sub2 (cV c (i + 1)) (cV c i)) → (¬ ∃ h l', HH d lf (cV c i) (cV c (i + 1)) p D h l' ∧ dir h (sub2 (cV c (i + 1)) (cV c i))) → (∀ h l', HH d lf (cV c i) (cV c (i + 1)) p D h l' → ¬ dir h (sub2 (cV c (i + 1)) (cV c i)) → hal (sub2 (cV c (i + 1)) (cV c i)) g < hal (sub2 (cV c (i + 1)) (cV c i)) h ∨ (hal (sub2 (cV c (i + 1)) (cV c i)) g = hal (sub2 (cV c (i + 1)) (cV c i)) h ∧ crs g h ≤ 0)) → l = Q)
    (hq2 : cK d = 2 → ∀ g l, HH d lf (cV c i) (cV c (i + 1)) p D g l → dir g (sub2 (cV c (i + 1)) (cV c i)) → l = Q)
    {I O A SS : Prop} (hw : SAW σ I O A SS) :
    ∃ σ', f_X14_goPiece n a (nI i) b (jJ p) (jJ D) σ = some ((), σ') ∧ FrG σ σ' ∧
      SAW σ' (I ∨ ((¬ (∃ g l, HH d lf (cV c i) (cV c (i + 1)) p D g l) ∧ 0 ≤ loc d (cV c i)) ∨ ((∃ g l, HH d lf (cV c i) (cV c (i + 1)) p D g l ∧ dir g (sub2 (cV c (i + 1)) (cV c i))) ∧ cK d = 1) ∨ ((∃ g l, HH d lf (cV c i) (cV c (i + 1)) p D g l) ∧ (¬ ∃ g l, HH d lf (cV c i) (cV c (i + 1)) p D g l ∧ dir g (sub2 (cV c (i + 1)) (cV c i))) ∧ cK d = 2 ∧ Q = true)))
        (O ∨ ((¬ (∃ g l, HH d lf (cV c i) (cV c (i + 1)) p D g l) ∧ loc d (cV c i) < 0) ∨ ((∃ g l, HH d lf (cV c i) (cV c (i + 1)) p D g l) ∧ (¬ ∃ g l, HH d lf (cV c i) (cV c (i + 1)) p D g l ∧ dir g (sub2 (cV c (i + 1)) (cV c i))) ∧ ¬ (cK d = 2 ∧ Q = true))))
        (A ∨ ∃ g l, HH d lf (cV c i) (cV c (i + 1)) p D g l ∧ dir g (sub2 (cV c (i + 1)) (cV c i)))
        (SS ∨ ((∃ g l, HH d lf (cV c i) (cV c (i + 1)) p D g l ∧ dir g (sub2 (cV c (i + 1)) (cV c i))) ∧ cK c = 2 ∧ cK d = 2 ∧ Q = iL c (rO c i))) := by
  have hN := F.n
  obtain ⟨σ1, a1, a2, a3⟩ := m_lookRound (n := n) S F T G hi hPQ hd hl hp hD
  obtain ⟨L1, L2, L3, L4, L5⟩ := a3
  have hs := nz_sub hPQ
  generalize hH : HH d lf (cV c i) (cV c (i + 1)) p D = H at *
  generalize sub2 (cV c (i + 1)) (cV c i) = s at *
  have w1 : SAW σ1 I O A SS := ⟨(a2.2 4 (by omega)).trans hw.1, (a2.2 5 (by omega)).trans hw.2.1, (a2.2 6 (by omega)).trans hw.2.2.1, (a2.2 7 (by omega)).trans hw.2.2.2⟩
  have S1 := S.l a2
  have T1 := T.l a2
  rw [f_X14_goPiece, gd_pos S.1, gd_pos T.1, a1, bd, L1, L2]
  by_cases q1 : ∃ g l, H g l
  · rw [if_neg (tn q1)]
    by_cases q2 : ∃ g l, H g l ∧ dir g s
    · -- along
      rw [if_neg (tn q2), st]
      obtain ⟨g, l, k1, k2, k3⟩ := L3 q2
      have w2 : SAW (wI σ1 233 6 1) I O (A ∨ ∃ g l, H g l ∧ dir g s) SS := by
        refine ⟨?_, ?_, ?_, ?_⟩
        · rw [sI_wI, if_neg (by omega)]; exact w1.1
        · rw [sI_wI, if_neg (by omega)]; exact w1.2.1
        · rw [sI_wI, if_pos ⟨rfl, rfl⟩, tf_t (Or.inr q2)]
        · rw [sI_wI, if_neg (by omega)]; exact w1.2.2.2
      have f2 := a2.G.trans (FrG.w (σ := σ1) (k := 6) (v := 1) (by omega))
      have e18 : sI (wI σ1 233 6 1) 233 18 = bI l := by rw [sI_wI, if_neg (by omega)]; exact k3
      have S2 := S1.g (FrG.w (σ := σ1) (k := 6) (v := 1) (by omega))
      have T2 := T1.g (FrG.w (σ := σ1) (k := 6) (v := 1) (by omega))
      generalize wI σ1 233 6 1 = σ2 at *
      have e170 : ∀ (σ3 : xσ) (v : Int32) (Y : Prop), FrG σ σ3 → v = tf (SS ∨ Y) → SAW σ3 (I ∨ cK d = 1) O (A ∨ ∃ g l, H g l ∧ dir g s) SS → ∃ σ', b_X14_goPiece_170 n v σ3 = some ((), σ') ∧ FrG σ σ' ∧ SAW σ' (I ∨ cK d = 1) O (A ∨ ∃ g l, H g l ∧ dir g s) (SS ∨ Y) := by
        intro σ3 v Y f3 hv w3
        rw [b_X14_goPiece_170, gd_pos (by rw [hv]; exact tf_01 _), st]
        refine ⟨_, rfl, f3.trans (FrG.w (by omega)), ?_, ?_, ?_, ?_⟩
        · rw [sI_wI, if_neg (by omega)]; exact w3.1
        · rw [sI_wI, if_neg (by omega)]; exact w3.2.1
        · rw [sI_wI, if_neg (by omega)]; exact w3.2.2.1
        · rw [sI_wI, if_pos ⟨rfl, rfl⟩, hv]
      have fin : ∀ {σ' : xσ}, SAW σ' (I ∨ cK d = 1) O (A ∨ ∃ g l, H g l ∧ dir g s) (SS ∨ (cK c = 2 ∧ cK d = 2 ∧ Q = iL c (rO c i))) → SAW σ' (I ∨ ((¬ (∃ g l, H g l) ∧ 0 ≤ loc d (cV c i)) ∨ ((∃ g l, H g l ∧ dir g s) ∧ cK d = 1) ∨ ((∃ g l, H g l) ∧ (¬ ∃ g l, H g l ∧ dir g s) ∧ cK d = 2 ∧ Q = true)))
        (O ∨ ((¬ (∃ g l, H g l) ∧ loc d (cV c i) < 0) ∨ ((∃ g l, H g l) ∧ (¬ ∃ g l, H g l ∧ dir g s) ∧ ¬ (cK d = 2 ∧ Q = true))))
        (A ∨ ∃ g l, H g l ∧ dir g s) (SS ∨ ((∃ g l, H g l ∧ dir g s) ∧ cK c = 2 ∧ cK d = 2 ∧ Q = iL c (rO c i))) := fun h => h.cg
          ⟨fun z => z.imp id (fun y => Or.inr (Or.inl ⟨q2, y⟩)), fun z => z.imp id (fun y => by rcases y with y | y | y; exact (y.1 q1).elim; exact y.2; exact (y.2.1 q2).elim)⟩
          ⟨Or.inl, fun z => z.elim id (fun y => by rcases y with y | y; exact (y.1 q1).elim; exact (y.2.1 q2).elim)⟩ Iff.rfl
          ⟨fun z => z.imp id (fun y => ⟨q2, y⟩), fun z => z.imp id (fun y => y.2)⟩
      have e122 : ∀ v : Int32, v = tf (I ∨ cK d = 1) → ∃ σ', b_X14_goPiece_122 n a (nI i) b v σ2 = some ((), σ') ∧ FrG σ σ' ∧ SAW σ' (I ∨ cK d = 1) O (A ∨ ∃ g l, H g l ∧ dir g s) (SS ∨ (cK c = 2 ∧ cK d = 2 ∧ Q = iL c (rO c i))) := by
        intro v hv
        rw [b_X14_goPiece_122, gd_pos (by rw [hv]; exact tf_01 _), st]
        have fw : FrG σ2 (wI σ2 233 4 v) := FrG.w (by omega)
        have w3 : SAW (wI σ2 233 4 v) (I ∨ cK d = 1) O (A ∨ ∃ g l, H g l ∧ dir g s) SS := by
          refine ⟨?_, ?_, ?_, ?_⟩
          · rw [sI_wI, if_pos ⟨rfl, rfl⟩, hv]
          · rw [sI_wI, if_neg (by omega)]; exact w2.2.1
          · rw [sI_wI, if_neg (by omega)]; exact w2.2.2.1
          · rw [sI_wI, if_neg (by omega)]; exact w2.2.2.2
        have e18' : sI (wI σ2 233 4 v) 233 18 = bI l := by rw [sI_wI, if_neg (by omega)]; exact e18
        have S3 := S2.g fw
        have T3 := T2.g fw
        have f3 := f2.trans fw
        generalize wI σ2 233 4 v = σ3 at *
        rw [S3.K, T3.K, w3.2.2.2]
        have hkc := F.k
        have hkd := G.k
        simp (disch := omega) only [nIq2]
        by_cases r1 : cK c = 2
        · rw [if_pos r1]
          by_cases r2 : cK d = 2
          · rw [if_pos r2]
            by_cases r3 : SS
            · rw [if_neg (tn r3)]
              exact e170 σ3 1 _ f3 (tf_or0 r3).symm w3
            · rw [if_pos (tf_f r3)]
              obtain ⟨o1, o2, o3, o4⟩ := m_ringOf (n := n) S3 F (show i < cN c by omega)
              rw [o1, bd, m_isInteriorLeft S3 F o2 (hc r1 _ o2), bd, e18', hq2 r2 g l k1 k2]
              have eB : bI Q = bI (iL c (rO c i)) ↔ Q = iL c (rO c i) := by cases Q <;> cases iL c (rO c i) <;> decide
              by_cases r4 : Q = iL c (rO c i)
              · rw [if_pos (eB.mpr r4)]
                exact e170 σ3 1 _ f3 (by rw [tf_or1 r3, tf_t ⟨r1, r2, r4⟩]) w3
              · rw [if_neg (fun z => r4 (eB.mp z))]
                exact e170 σ3 0 _ f3 (by rw [tf_or1 r3, tf_f (fun z => r4 z.2.2)]) w3
          · rw [if_neg r2]
            exact ⟨σ3, rfl, f3, w3.cg Iff.rfl Iff.rfl Iff.rfl ⟨Or.inl, fun z => z.elim id (fun y => (r2 y.2.1).elim)⟩⟩
        · rw [if_neg r1]
          exact ⟨σ3, rfl, f3, w3.cg Iff.rfl Iff.rfl Iff.rfl ⟨Or.inl, fun z => z.elim id (fun y => (r1 y.1).elim)⟩⟩
      have all : ∃ σ', (if sI σ2 233 4 = 0 then if sI σ2 b 1 = 1 then b_X14_goPiece_122 n a (nI i) b 1 σ2 else b_X14_goPiece_122 n a (nI i) b 0 σ2 else b_X14_goPiece_122 n a (nI i) b 1 σ2) = some ((), σ') ∧ FrG σ σ' ∧ SAW σ' (I ∨ cK d = 1) O (A ∨ ∃ g l, H g l ∧ dir g s) (SS ∨ (cK c = 2 ∧ cK d = 2 ∧ Q = iL c (rO c i))) := by
        rw [w2.1, T2.K]
        have hkd := G.k
        simp (disch := omega) only [nIq1]
        by_cases r1 : I
        · rw [if_neg (tn r1)]; exact e122 1 (tf_or0 r1).symm
        · rw [if_pos (tf_f r1)]
          by_cases r2 : cK d = 1
          · rw [if_pos r2]; exact e122 1 (by rw [tf_or1 r1, tf_t r2])
          · rw [if_neg r2]; exact e122 0 (by rw [tf_or1 r1, tf_f r2])
      obtain ⟨σ', z1, z2, z3⟩ := all
      exact ⟨σ', z1, z2, fin z3⟩
    · -- beside
      rw [if_pos (tf_f q2)]
      have q3 : ∃ g l, H g l ∧ ¬ dir g s := by
        obtain ⟨g, l, h⟩ := q1
        exact ⟨g, l, h, fun z => q2 ⟨g, l, h, z⟩⟩
      obtain ⟨g, l, k1, k2, k3, k4, k5, k6, k7, k8, k9⟩ := L5 q3
      have main : ∃ σ', (if sI σ1 b 1 = 2 then if sI σ1 233 22 = 0 then b_X14_goPiece_196 n 0 σ1 else b_X14_goPiece_196 n 1 σ1 else b_X14_goPiece_196 n 0 σ1) = some ((), σ') ∧ FrG σ1 σ' ∧ SAW σ' (I ∨ (cK d = 2 ∧ Q = true)) (O ∨ ¬ (cK d = 2 ∧ Q = true)) A SS := by
        rw [gp196, T1.K, k6]
        have hkd := G.k
        simp (disch := omega) only [nIq2]
        by_cases r1 : cK d = 2
        · rw [if_pos r1, hq1 r1 g l k1 k2 q2 k9]
          cases hQ : Q with
          | false =>
            rw [if_pos (show bI false = 0 from rfl), show (0 : Int32) = tf (cK d = 2 ∧ false = true) from (tf_f (fun z => Bool.noConfusion z.2)).symm]
            exact m_gp42 w1
          | true =>
            rw [if_neg (show ¬ bI true = 0 by decide), show (1 : Int32) = tf (cK d = 2 ∧ true = true) from (tf_t ⟨r1, rfl⟩).symm]
            exact m_gp42 w1
        · rw [if_neg r1, show (0 : Int32) = tf (cK d = 2 ∧ Q = true) from (tf_f (fun z => r1 z.1)).symm]
          exact m_gp42 w1
      obtain ⟨σ', z1, z2, z3⟩ := main
      refine ⟨σ', z1, a2.G.trans z2, z3.cg ?_ ?_ ?_ ?_⟩
      · exact ⟨fun z => z.imp id (fun y => Or.inr (Or.inr ⟨q1, q2, y⟩)), fun z => z.imp id (fun y => by rcases y with y | y | y; exact (y.1 q1).elim; exact (q2 y.1).elim; exact y.2.2)⟩
      · exact ⟨fun z => z.imp id (fun y => Or.inr ⟨q1, q2, y⟩), fun z => z.imp id (fun y => by rcases y with y | y; exact (y.1 q1).elim; exact y.2.2)⟩
      · exact ⟨Or.inl, fun z => z.elim id (fun y => (q2 y).elim)⟩
      · exact ⟨Or.inl, fun z => z.elim id (fun y => (q2 y.1).elim)⟩
  · rw [if_pos (tf_f q1)]
    have q2 : ¬ ∃ g l, H g l ∧ dir g s := fun ⟨g, l, h, _⟩ => q1 ⟨g, l, h⟩
    simp (disch := omega) only [gd_in, nI_k, S1.X, S1.Y]
    rw [m_locate T1 G (F.b (show i < cN c by omega)), bd]
    have rloc : R32 (loc d (cV c i)) := by
      unfold loc
      split
      · by_cases z : cV d 0 = cV c i
        · rw [ifP_t z]; decide
        · rw [ifP_f z]; decide
      · split
        · by_cases z : onA d (cV c i)
          · rw [ifP_t z]
            by_cases y : tip d (cV c i)
            · rw [ifP_t y]; decide
            · rw [ifP_f y]; decide
          · rw [ifP_f z]; decide
        · by_cases z : onA d (cV c i)
          · rw [ifP_t z]; decide
          · rw [ifP_f z]; split <;> decide
    rw [show (0 : Int32) = iI 0 from rfl]
    simp only [iI_lt rloc (show R32 0 by decide)]
    have main : ∃ σ', (if loc d (cV c i) < 0 then b_X14_goPiece_42 n 0 σ1 else b_X14_goPiece_42 n 1 σ1) = some ((), σ') ∧ FrG σ1 σ' ∧ SAW σ' (I ∨ 0 ≤ loc d (cV c i)) (O ∨ ¬ 0 ≤ loc d (cV c i)) A SS := by
      by_cases r : loc d (cV c i) < 0
      · rw [if_pos r, show (0 : Int32) = tf (0 ≤ loc d (cV c i)) from (tf_f (by omega)).symm]; exact m_gp42 w1
      · rw [if_neg r, show (1 : Int32) = tf (0 ≤ loc d (cV c i)) from (tf_t (by omega)).symm]; exact m_gp42 w1
    obtain ⟨σ', z1, z2, z3⟩ := main
    refine ⟨σ', z1, a2.G.trans z2, z3.cg ?_ ?_ ?_ ?_⟩
    · exact ⟨fun z => z.imp id (fun y => Or.inl ⟨q1, y⟩), fun z => z.imp id (fun y => by rcases y with y | y | y; exact y.2; exact (q2 y.1).elim; exact (q1 y.1).elim)⟩
    · exact ⟨fun z => z.imp id (fun y => Or.inl ⟨q1, by omega⟩), fun z => z.imp id (fun y => by rcases y with y | y; have := y.2; omega; exact (q1 y.1).elim)⟩
    · exact ⟨Or.inl, fun z => z.elim id (fun y => (q2 y).elim)⟩
    · exact ⟨Or.inl, fun z => z.elim id (fun y => (q2 y.1).elim)⟩

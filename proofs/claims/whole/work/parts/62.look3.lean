/-! THE REFERENCE: lookRound -/
def A3 (b : Nat) : Prop := b = 233 ∨ A47 b
set_option maxHeartbeats 200000 in
theorem MH.l {σ σ' : xσ} {a : Nat} {c : Ct} (S : MH σ a c) (f : FrL σ σ') : MH σ' a c := S.fr f.1 (by
  have := S.1
  unfold okM at this
  intro j hj h
  unfold A47 at h
  omega)
def LF (σ : xσ) (d : Ct) (lf : Nat → Bool) : Prop := cK d = 2 → ∀ r, r < cR d → sI σ 240 r = bI (lf r)
set_option maxHeartbeats 200000 in
theorem LF.l {σ σ' : xσ} {d : Ct} {lf : Nat → Bool} (h : LF σ d lf) (f : FrL σ σ') : LF σ' d lf := fun hk r hr => ((f.1 240 (by unfold A47; omega) r).1).trans (h hk r hr)
def lft (d : Ct) (lf : Nat → Bool) (j : Nat) : Bool := if cK d = 2 then lf (rO d j) else false
def oneH (d : Ct) (lf : Nat → Bool) (e : Nat) (fo ba : Prop) (g : V2) (l : Bool) : Prop := (fo ∧ g = sub2 (cV d (e + 1)) (cV d e) ∧ l = lft d lf e) ∨ (ba ∧ g = ng (sub2 (cV d (e + 1)) (cV d e)) ∧ l = !lft d lf e)
set_option maxHeartbeats 200000 in
theorem b31n {z : Int} (h : b31 z) : b31 (-z) := ⟨by have := h.2; omega, by have := h.1; omega⟩
set_option maxHeartbeats 200000 in
theorem m_444 {n : Nat} {σ : xσ} {b : Nat} {d : Ct} {s : V2} {lf : Nat → Bool} {H : V2 → Bool → Prop} {a1 : Nat} {x2 : Int32} {l4 l6 : Int64} (T : MH σ b d) (G : WF d) (hs : nz s) (s1 : b31 s.1) (s2 : b31 s.2) {j : Nat} (hj : j + 1 < cN d) (hl : LF σ d lf) (L : LK σ s H) (fo ba : Prop) (K : Nat → Int32 → Nat → Int64 → Int64 → Int64 → Int64 → Int32 → xσ → Option (Unit × xσ)) :
    ∃ σ', b_X14_lookRound_444 n K a1 x2 b l4 l6 (jJ s.1) (jJ s.2) (nI j) (tf fo) (tf ba) σ = K a1 x2 b l4 l6 (jJ s.1) (jJ s.2) (nI (j + 1)) σ' ∧ FrL σ σ' ∧ LK σ' s (fun g l => H g l ∨ oneH d lf j fo ba g l) := by
  have hM := G.n
  have hR := G.r
  have b3 := G.b (show j < cN d by omega)
  have b4 := G.b hj
  have x3 := b3.1.r
  have y3 := b3.2.r
  have x4 := b4.1.r
  have y4 := b4.2.r
  have f1 := b31.s b4.1 b3.1
  have f2 := b31.s b4.2 b3.2
  rw [b_X14_lookRound_444]
  simp (disch := omega) only [gd_in, nI_k, nI_s, st, T.X, T.Y]
  simp (disch := assumption) only [iI_64]
  simp only [jJ_sub]
  rw [T.K]
  -- once it is known what is to the left
  have tail : ∀ (l : Bool), l = lft d lf j → ∃ σ', b_X14_lookRound_513 n K a1 x2 b l4 l6 (jJ s.1) (jJ s.2) (nI j) (tf fo) (tf ba) (jJ ((cV d (j + 1)).1 - (cV d j).1)) (jJ ((cV d (j + 1)).2 - (cV d j).2)) (bI l) σ = K a1 x2 b l4 l6 (jJ s.1) (jJ s.2) (nI (j + 1)) σ' ∧ FrL σ σ' ∧ LK σ' s (fun g l => H g l ∨ oneH d lf j fo ba g l) := by
    intro l hl'
    -- back
    have back : ∀ (σ1 : xσ) (H1 : V2 → Bool → Prop), ba → FrL σ σ1 → LK σ1 s H1 → (∀ g l', (H1 g l' ∨ (g = ng (sub2 (cV d (j + 1)) (cV d j)) ∧ l' = !l)) ↔ (H g l' ∨ oneH d lf j fo ba g l')) →
        ∃ σ', (if bI l = 0 then b_X14_lookRound_556 n K a1 x2 b l4 l6 (jJ s.1) (jJ s.2) (nI j) 1 (-jJ ((cV d (j + 1)).2 - (cV d j).2)) (-jJ ((cV d (j + 1)).1 - (cV d j).1)) σ1 else b_X14_lookRound_556 n K a1 x2 b l4 l6 (jJ s.1) (jJ s.2) (nI j) 0 (-jJ ((cV d (j + 1)).2 - (cV d j).2)) (-jJ ((cV d (j + 1)).1 - (cV d j).1)) σ1) = K a1 x2 b l4 l6 (jJ s.1) (jJ s.2) (nI (j + 1)) σ' ∧ FrL σ σ' ∧ LK σ' s (fun g l => H g l ∨ oneH d lf j fo ba g l) := by
      intro σ1 H1 hb f0 L1 hH
      obtain ⟨σ', a1', a2, a3⟩ := m_begins (n := n) (g := ng (sub2 (cV d (j + 1)) (cV d j))) (l := !l) L1 hs (b31n f1) (b31n f2) s1 s2
      have e1 : -jJ ((cV d (j + 1)).1 - (cV d j).1) = jJ (ng (sub2 (cV d (j + 1)) (cV d j))).1 := jJ_neg _
      have e2 : -jJ ((cV d (j + 1)).2 - (cV d j).2) = jJ (ng (sub2 (cV d (j + 1)) (cV d j))).2 := jJ_neg _
      rw [e1, e2, b_X14_lookRound_556, b_X14_lookRound_556]
      cases l with
      | false =>
        rw [if_pos (show bI false = 0 from rfl)]
        rw [show f_X14_begins n (jJ (ng (sub2 (cV d (j + 1)) (cV d j))).1) (jJ (ng (sub2 (cV d (j + 1)) (cV d j))).2) 1 (jJ s.1) (jJ s.2) σ1 = _ from a1', bd, b_X14_lookRound_563, nI_s]
        exact ⟨σ', rfl, f0.trans a2, a3.cg hH⟩
      | true =>
        rw [if_neg (show ¬ bI true = 0 by decide)]
        rw [show f_X14_begins n (jJ (ng (sub2 (cV d (j + 1)) (cV d j))).1) (jJ (ng (sub2 (cV d (j + 1)) (cV d j))).2) 0 (jJ s.1) (jJ s.2) σ1 = _ from a1', bd, b_X14_lookRound_563, nI_s]
        exact ⟨σ', rfl, f0.trans a2, a3.cg hH⟩
    rw [b_X14_lookRound_513]
    by_cases q1 : fo
    · rw [if_neg (tn q1)]
      obtain ⟨σ1, c1, c2, c3⟩ := m_begins (n := n) (g := sub2 (cV d (j + 1)) (cV d j)) (l := l) L hs f1 f2 s1 s2
      rw [show f_X14_begins n (jJ ((cV d (j + 1)).1 - (cV d j).1)) (jJ ((cV d (j + 1)).2 - (cV d j).2)) (bI l) (jJ s.1) (jJ s.2) σ = _ from c1, bd, b_X14_lookRound_534]
      by_cases q2 : ba
      · rw [if_neg (tn q2)]
        refine back σ1 _ q2 c2 c3 (fun g l' => ?_)
        unfold oneH
        rw [← hl']
        constructor
        · rintro ((h | h) | h)
          · exact Or.inl h
          · exact Or.inr (Or.inl ⟨q1, h⟩)
          · exact Or.inr (Or.inr ⟨q2, h⟩)
        · rintro (h | h | h)
          · exact Or.inl (Or.inl h)
          · exact Or.inl (Or.inr h.2)
          · exact Or.inr h.2
      · rw [if_pos (tf_f q2), nI_s]
        refine ⟨σ1, rfl, c2, c3.cg (fun g l' => ?_)⟩
        unfold oneH
        rw [← hl']
        exact ⟨fun h => h.imp id (fun y => Or.inl ⟨q1, y⟩), fun h => h.imp id (fun y => y.elim (fun z => z.2) (fun z => (q2 z.1).elim))⟩
    · rw [if_pos (tf_f q1)]
      by_cases q2 : ba
      · rw [if_neg (tn q2)]
        refine back σ H q2 FrL.refl L (fun g l' => ?_)
        unfold oneH
        rw [← hl']
        exact ⟨fun h => h.imp id (fun y => Or.inr ⟨q2, y⟩), fun h => h.imp id (fun y => y.elim (fun z => (q1 z.1).elim) (fun z => z.2))⟩
      · rw [if_pos (tf_f q2), nI_s]
        refine ⟨σ, rfl, FrL.refl, L.cg (fun g l' => ?_)⟩
        unfold oneH
        exact ⟨Or.inl, fun h => h.elim id (fun y => y.elim (fun z => (q1 z.1).elim) (fun z => (q2 z.1).elim))⟩
  simp (disch := (first | omega | (have := G.k; omega))) only [nIq2]
  by_cases q : cK d = 2
  · rw [if_pos q]
    obtain ⟨r1, r2, r3, r4⟩ := m_ringOf (n := n) T G (show j < cN d by omega)
    rw [r1, bd]
    simp (disch := omega) only [gd_in, nI_k]
    rw [hl q _ r2]
    have e : lft d lf j = lf (rO d j) := by unfold lft; rw [if_pos q]
    cases z : lf (rO d j) with
    | false => rw [if_pos (show bI false = 0 from rfl)]; exact tail false (by rw [e, z])
    | true => rw [if_neg (show ¬ bI true = 0 by decide)]; exact tail true (by rw [e, z])
  · rw [if_neg q]
    exact tail false (by unfold lft; rw [if_neg q])
/-! in line -/
set_option maxHeartbeats 200000 in
theorem m_282 {n : Nat} {σ : xσ} {a1 b : Nat} {x2 x12 : Int32} {l4 l6 l8 l10 : Int64} {p o : Int} (K : Nat → Int32 → Nat → Int64 → Int64 → Int64 → Int64 → Int32 → xσ → Option (Unit × xσ)) (h1 : sJ σ 233 11 = jJ p) (h2 : sJ σ 233 12 = jJ o) (rp : R64 p) (ro : R64 o) (bL bH aL aH : Prop) :
    b_X14_lookRound_282 n K a1 x2 b l4 l6 l8 l10 x12 (tf bL) (tf bH) (tf aL) (tf aH) σ = b_X14_lookRound_444 n K a1 x2 b l4 l6 l8 l10 x12 (tf ((bL ∧ bH) ∧ ¬ (if p ≤ o then aH else aL))) (tf ((bL ∧ bH) ∧ ¬ (if p ≤ o then aL else aH))) σ := by
  have e299 : ∀ I : Prop, b_X14_lookRound_299 n K a1 x2 b l4 l6 l8 l10 x12 (tf aL) (tf aH) (tf I) σ = b_X14_lookRound_444 n K a1 x2 b l4 l6 l8 l10 x12 (tf (I ∧ ¬ (if p ≤ o then aH else aL))) (tf (I ∧ ¬ (if p ≤ o then aL else aH))) σ := by
    intro I
    rw [b_X14_lookRound_299, h1, h2]
    simp only [lc_gt rp ro]
    have n1 : ¬ (1 : Int32) = 0 := by decide
    by_cases q : p ≤ o
    · rw [if_neg (by omega)]
      simp only [if_pos q, b_X14_lookRound_318, b_X14_lookRound_347, b_X14_lookRound_348, b_X14_lookRound_377, b_X14_lookRound_378, if_neg n1]
      by_cases i1 : I
      · by_cases i2 : aH <;> by_cases i3 : aL
        · rw [tf_f (fun z : I ∧ ¬ aH => z.2 i2), tf_f (fun z : I ∧ ¬ aL => z.2 i3)]; simp only [tf_t i1, tf_t i2, tf_t i3, if_neg n1, if_true]
        · rw [tf_f (fun z : I ∧ ¬ aH => z.2 i2), tf_t (show I ∧ ¬ aL from ⟨i1, i3⟩)]; simp only [tf_t i1, tf_t i2, tf_f i3, if_neg n1, if_true]
        · rw [tf_t (show I ∧ ¬ aH from ⟨i1, i2⟩), tf_f (fun z : I ∧ ¬ aL => z.2 i3)]; simp only [tf_t i1, tf_f i2, tf_t i3, if_neg n1, if_true]
        · rw [tf_t (show I ∧ ¬ aH from ⟨i1, i2⟩), tf_t (show I ∧ ¬ aL from ⟨i1, i3⟩)]; simp only [tf_t i1, tf_f i2, tf_f i3, if_neg n1, if_true]
      · rw [tf_f (fun z : I ∧ ¬ aH => i1 z.1), tf_f (fun z : I ∧ ¬ aL => i1 z.1)]; simp only [tf_f i1, if_true]
    · rw [if_pos (by omega)]
      simp only [if_neg q, b_X14_lookRound_318, b_X14_lookRound_348, b_X14_lookRound_378, if_true]
      by_cases i1 : I
      · by_cases i2 : aH <;> by_cases i3 : aL
        · rw [tf_f (fun z : I ∧ ¬ aH => z.2 i2), tf_f (fun z : I ∧ ¬ aL => z.2 i3)]; simp only [tf_t i1, tf_t i2, tf_t i3, if_neg n1, if_true]
        · rw [tf_f (fun z : I ∧ ¬ aH => z.2 i2), tf_t (show I ∧ ¬ aL from ⟨i1, i3⟩)]; simp only [tf_t i1, tf_t i2, tf_f i3, if_neg n1, if_true]
        · rw [tf_t (show I ∧ ¬ aH from ⟨i1, i2⟩), tf_f (fun z : I ∧ ¬ aL => z.2 i3)]; simp only [tf_t i1, tf_f i2, tf_t i3, if_neg n1, if_true]
        · rw [tf_t (show I ∧ ¬ aH from ⟨i1, i2⟩), tf_t (show I ∧ ¬ aL from ⟨i1, i3⟩)]; simp only [tf_t i1, tf_f i2, tf_f i3, if_neg n1, if_true]
      · rw [tf_f (fun z : I ∧ ¬ aH => i1 z.1), tf_f (fun z : I ∧ ¬ aL => i1 z.1)]; simp only [tf_f i1, if_true]
  rw [b_X14_lookRound_282]
  by_cases j1 : bL
  · rw [if_neg (tn j1)]
    by_cases j2 : bH
    · rw [if_neg (tn j2), show (1 : Int32) = tf (bL ∧ bH) from (tf_t ⟨j1, j2⟩).symm]; exact e299 _
    · rw [if_pos (tf_f j2), show (0 : Int32) = tf (bL ∧ bH) from (tf_f (fun z => j2 z.2)).symm]; exact e299 _
  · rw [if_pos (tf_f j1), show (0 : Int32) = tf (bL ∧ bH) from (tf_f (fun z => j1 z.1)).symm]; exact e299 _
set_option maxHeartbeats 200000 in
theorem m_156 {n : Nat} {σ : xσ} {a1 b : Nat} {x2 x12 v : Int32} {l8 l10 : Int64} {W p o at' of : Int} (K : Nat → Int32 → Nat → Int64 → Int64 → Int64 → Int64 → Int32 → xσ → Option (Unit × xσ)) (h0 : sJ σ 233 10 = jJ W) (h1 : sJ σ 233 11 = jJ p) (h2 : sJ σ 233 12 = jJ o) (rp : R64 p) (ro : R64 o) (hW : 0 < W ∧ W < 9223372036854775808) (ha : 0 ≤ at' ∧ at' < of) (hof : of < 9223372036854775808)
    (v0 : 0 < v ↔ at' * W < max (min p o) 0 * of) (v1 : v = 0 ↔ max (min p o) 0 * of = at' * W) :
    ∃ σ', b_X14_lookRound_156 n K a1 x2 b (jJ at') (jJ of) l8 l10 x12 v σ = b_X14_lookRound_444 n K a1 x2 b (jJ at') (jJ of) l8 l10 x12 (tf ((of * p - at' * W) * (of * o - at' * W) ≤ 0 ∧ of * o ≠ at' * W)) (tf ((of * p - at' * W) * (of * o - at' * W) ≤ 0 ∧ of * p ≠ at' * W)) σ' ∧ Fr A47 σ σ' := by
  have rl : R64 (min p o) := by constructor <;> omega
  have rh : R64 (max p o) := by constructor <;> omega
  have k233 : ∀ {s t : xσ}, Fr A47 s t → ∀ k, sJ t 233 k = sJ s 233 k := fun f k => (f 233 (by unfold A47; omega) k).2.1
  rw [b_X14_lookRound_156, h1, h2, lmin_j rp ro, lmax_j rp ro, st, st]
  simp only [lz_lt rl]
  have aW : 0 ≤ at' * W := Int.mul_nonneg ha.1 (by omega)
  have hofp : 0 < of := by omega
  -- the bounds as they are
  have key : ∀ (bL bH aL aH : Prop), (bL ↔ min p o * of ≤ at' * W) → (bH ↔ at' * W ≤ max p o * of) → (aL ↔ min p o * of = at' * W) → (aH ↔ max p o * of = at' * W) →
      tf ((bL ∧ bH) ∧ ¬ (if p ≤ o then aH else aL)) = tf ((of * p - at' * W) * (of * o - at' * W) ≤ 0 ∧ of * o ≠ at' * W) ∧ tf ((bL ∧ bH) ∧ ¬ (if p ≤ o then aL else aH)) = tf ((of * p - at' * W) * (of * o - at' * W) ≤ 0 ∧ of * p ≠ at' * W) := by
    intro bL bH aL aH i1 i2 i3 i4
    rw [propext i1, propext i2, propext i3, propext i4]
    have c1 : p * of = of * p := Int.mul_comm _ _
    have c2 : o * of = of * o := Int.mul_comm _ _
    have prod : ∀ x y : Int, x ≤ y → (x * y ≤ 0 ↔ x ≤ 0 ∧ 0 ≤ y) := by
      intro x y hxy
      constructor
      · intro z
        by_cases y1 : x ≤ 0
        · by_cases y2 : 0 ≤ y
          · exact ⟨y1, y2⟩
          · have := Int.mul_pos_of_neg_of_neg (show x < 0 by omega) (show y < 0 by omega); omega
        · have := Int.mul_pos (show 0 < x by omega) (show 0 < y by omega); omega
      · rintro ⟨y1, y2⟩; exact Int.mul_nonpos_of_nonpos_of_nonneg y1 y2
    by_cases q : p ≤ o
    · have m1 : of * p ≤ of * o := Int.mul_le_mul_of_nonneg_left q (by omega)
      simp only [if_pos q]
      rw [Int.min_eq_left q, Int.max_eq_right q, c1, c2, prod _ _ (by omega)]
      exact ⟨tf_c ⟨fun z => ⟨⟨by omega, by omega⟩, z.2⟩, fun z => ⟨⟨by omega, by omega⟩, z.2⟩⟩, tf_c ⟨fun z => ⟨⟨by omega, by omega⟩, z.2⟩, fun z => ⟨⟨by omega, by omega⟩, z.2⟩⟩⟩
    · have m1 : of * o ≤ of * p := Int.mul_le_mul_of_nonneg_left (by omega) (by omega)
      simp only [if_neg q]
      rw [Int.min_eq_right (by omega), Int.max_eq_left (by omega), c1, c2, Int.mul_comm (of * p - at' * W), prod _ _ (by omega)]
      exact ⟨tf_c ⟨fun z => ⟨⟨by omega, by omega⟩, z.2⟩, fun z => ⟨⟨by omega, by omega⟩, z.2⟩⟩, tf_c ⟨fun z => ⟨⟨by omega, by omega⟩, z.2⟩, fun z => ⟨⟨by omega, by omega⟩, z.2⟩⟩⟩
  have neg : ∀ x : Int, x < 0 → x * of < 0 := fun x hx => Int.mul_neg_of_neg_of_pos hx hofp
  -- at the high end
  have e251 : ∀ (σ1 : xσ) (bL bH aL : Prop), Fr A47 σ σ1 → (bL ↔ min p o * of ≤ at' * W) → (bH ↔ at' * W ≤ max p o * of) → (aL ↔ min p o * of = at' * W) →
      ∃ σ', b_X14_lookRound_251 n K a1 x2 b (jJ at') (jJ of) l8 l10 x12 (jJ (max p o)) (tf bL) (tf bH) (tf aL) σ1 = b_X14_lookRound_444 n K a1 x2 b (jJ at') (jJ of) l8 l10 x12 (tf ((of * p - at' * W) * (of * o - at' * W) ≤ 0 ∧ of * o ≠ at' * W)) (tf ((of * p - at' * W) * (of * o - at' * W) ≤ 0 ∧ of * p ≠ at' * W)) σ' ∧ Fr A47 σ σ' := by
    intro σ1 bL bH aL f1 i1 i2 i3
    rw [b_X14_lookRound_251]
    simp only [lz_lt rh]
    have g0 : sJ σ1 233 10 = jJ W := (k233 f1 10).trans h0
    by_cases q : max p o < 0
    · rw [if_pos q, show (0 : Int32) = tf (max p o * of = at' * W) from (tf_f (fun z => by have := neg _ q; omega)).symm, m_282 K ((k233 f1 11).trans h1) ((k233 f1 12).trans h2) rp ro]
      obtain ⟨t1, t2⟩ := key bL bH aL (max p o * of = at' * W) i1 i2 i3 Iff.rfl
      rw [t1, t2]
      exact ⟨σ1, rfl, f1⟩
    · rw [if_neg q, g0]
      obtain ⟨w, σ2, w1, w2, w3, w4, w5⟩ := m_cmpJ (n := n) (σ := σ1) (a := max p o) (b := W) (c := at') (d := of) ⟨by omega, by omega⟩ ⟨by omega, hW.2⟩ ⟨ha.1, by omega⟩ ⟨by omega, hof⟩
      rw [w1, bd]
      have f2 := f1.trans w2
      have fin : ∀ aH : Prop, (aH ↔ max p o * of = at' * W) → b_X14_lookRound_282 n K a1 x2 b (jJ at') (jJ of) l8 l10 x12 (tf bL) (tf bH) (tf aL) (tf aH) σ2 = b_X14_lookRound_444 n K a1 x2 b (jJ at') (jJ of) l8 l10 x12 (tf ((of * p - at' * W) * (of * o - at' * W) ≤ 0 ∧ of * o ≠ at' * W)) (tf ((of * p - at' * W) * (of * o - at' * W) ≤ 0 ∧ of * p ≠ at' * W)) σ2 := by
        intro aH i4
        rw [m_282 K ((k233 f2 11).trans h1) ((k233 f2 12).trans h2) rp ro]
        obtain ⟨t1, t2⟩ := key bL bH aL aH i1 i2 i3 i4
        rw [t1, t2]
      by_cases q2 : w = 0
      · rw [if_pos q2, show (1 : Int32) = tf (max p o * of = at' * W) from (tf_t (w4.mp q2)).symm, fin _ Iff.rfl]
        exact ⟨σ2, rfl, f2⟩
      · rw [if_neg q2, show (0 : Int32) = tf (max p o * of = at' * W) from (tf_f (fun z => q2 (w4.mpr z))).symm, fin _ Iff.rfl]
        exact ⟨σ2, rfl, f2⟩
  -- at the low end
  have e232 : ∀ (σ1 : xσ) (bL bH : Prop), Fr A47 σ σ1 → (bL ↔ min p o * of ≤ at' * W) → (bH ↔ at' * W ≤ max p o * of) →
      ∃ σ', b_X14_lookRound_232 n K a1 x2 b (jJ at') (jJ of) l8 l10 x12 v (jJ (min p o)) (jJ (max p o)) (tf bL) (tf bH) σ1 = b_X14_lookRound_444 n K a1 x2 b (jJ at') (jJ of) l8 l10 x12 (tf ((of * p - at' * W) * (of * o - at' * W) ≤ 0 ∧ of * o ≠ at' * W)) (tf ((of * p - at' * W) * (of * o - at' * W) ≤ 0 ∧ of * p ≠ at' * W)) σ' ∧ Fr A47 σ σ' := by
    intro σ1 bL bH f1 i1 i2
    rw [b_X14_lookRound_232]
    simp only [lz_lt rl]
    by_cases q : min p o < 0
    · rw [if_pos q, show (0 : Int32) = tf (min p o * of = at' * W) from (tf_f (fun z => by have := neg _ q; omega)).symm]
      exact e251 σ1 bL bH _ f1 i1 i2 Iff.rfl
    · rw [if_neg q]
      rw [Int.max_eq_left (show 0 ≤ min p o by omega)] at v1
      by_cases q2 : v = 0
      · rw [if_pos q2, show (1 : Int32) = tf (min p o * of = at' * W) from (tf_t (v1.mp q2)).symm]
        exact e251 σ1 bL bH _ f1 i1 i2 Iff.rfl
      · rw [if_neg q2, show (0 : Int32) = tf (min p o * of = at' * W) from (tf_f (fun z => q2 (v1.mpr z))).symm]
        exact e251 σ1 bL bH _ f1 i1 i2 Iff.rfl
  have e201 : ∀ (bL : Prop), (bL ↔ min p o * of ≤ at' * W) →
      ∃ σ', b_X14_lookRound_201 n K a1 x2 b (jJ at') (jJ of) l8 l10 x12 v (jJ (min p o)) (jJ (max p o)) (tf bL) σ = b_X14_lookRound_444 n K a1 x2 b (jJ at') (jJ of) l8 l10 x12 (tf ((of * p - at' * W) * (of * o - at' * W) ≤ 0 ∧ of * o ≠ at' * W)) (tf ((of * p - at' * W) * (of * o - at' * W) ≤ 0 ∧ of * p ≠ at' * W)) σ' ∧ Fr A47 σ σ' := by
    intro bL i1
    rw [b_X14_lookRound_201]
    simp only [lz_lt rh]
    by_cases q : max p o < 0
    · rw [if_pos q, show (0 : Int32) = tf (at' * W ≤ max p o * of) from (tf_f (fun z => by have := neg _ q; omega)).symm]
      exact e232 σ bL _ Fr.refl i1 Iff.rfl
    · rw [if_neg q, h0]
      obtain ⟨w, σ2, w1, w2, w3, w4, w5⟩ := m_cmpJ (n := n) (σ := σ) (a := max p o) (b := W) (c := at') (d := of) ⟨by omega, by omega⟩ ⟨by omega, hW.2⟩ ⟨ha.1, by omega⟩ ⟨by omega, hof⟩
      rw [w1, bd]
      by_cases q2 : w < 0
      · rw [if_pos q2, show (0 : Int32) = tf (at' * W ≤ max p o * of) from (tf_f (fun z => by have := w3.mp q2; omega)).symm]
        exact e232 σ2 bL _ w2 i1 Iff.rfl
      · rw [if_neg q2, show (1 : Int32) = tf (at' * W ≤ max p o * of) from (tf_t (by
          by_cases z : max p o * of < at' * W
          · exact (q2 (w3.mpr z)).elim
          · omega)).symm]
        exact e232 σ2 bL _ w2 i1 Iff.rfl
  by_cases q : min p o < 0
  · rw [if_pos q, show (1 : Int32) = tf (min p o * of ≤ at' * W) from (tf_t (by have := neg _ q; omega)).symm]
    exact e201 _ Iff.rfl
  · rw [if_neg q]
    rw [Int.max_eq_left (show 0 ≤ min p o by omega)] at v0
    by_cases q2 : 0 < v
    · rw [if_pos q2, show (0 : Int32) = tf (min p o * of ≤ at' * W) from (tf_f (fun z => by have := v0.mp q2; omega)).symm]
      exact e201 _ Iff.rfl
    · rw [if_neg q2, show (1 : Int32) = tf (min p o * of ≤ at' * W) from (tf_t (by
        by_cases z : at' * W < min p o * of
        · exact (q2 (v0.mpr z)).elim
        · omega)).symm]
      exact e201 _ Iff.rfl

/-! JOIN of the reference -/
set_option maxHeartbeats 200000 in
theorem jn_ar {e : Nat} {d m x : Int} (h1 : x ≤ d) (h2 : m < x) : e + 2 + 2 * (d - x).toNat ≤ e + 2 * (d - m).toNat := by omega
set_option maxHeartbeats 200000 in
theorem jn_a2 {w e : Nat} {d m x : Int} (h1 : x ≤ d) (h2 : m < x) (h : w + 2 + (e + 2 * (d - m).toNat) < 30000) : w + 2 + (e + 2 + 2 * (d - x).toNat) < 30000 ∧ w + 2 + (e + 1) < 30000 ∧ w + 2 + e < 30000 := by omega
set_option maxHeartbeats 200000 in
theorem lm_join78 {n : Nat} {k : Kp} (o : okK k) {rel : Nat} (hr : rel < 5) {a b c d : Int} (ha : b30 a) (hb : b30 b) (hc : b30 c) (hd : b30 d) {w : Ou} {i : Nat} (hi : i < tC (kL k)) (hO : a ≤ tI (kL k) i ∧ tI (kL k) i ≤ b) {u : Nat → Nat} (K : Int32 → Int32 → Int32 → Int32 → Int32 → Int32 → xσ → Option (Unit × xσ)) : ∀ r f j σ e m, r < f → j + r = tC (kL k) → KM σ k → TbM σ 259 (kL k) u → AnM σ w e → (∀ t, j ≤ t → t < tC (kL k) → jnP k rel c d i t → m < tI (kL k) t) → w.1 + 2 + (e.1 + 2 * (d - m).toNat) < 30000 → ∃ σ', l_X14_joinOf_78 n K f (nI rel) (iI a) (iI b) (iI c) (iI d) (nI i) (mq 259 (u i)) (nI j) σ = K (nI rel) (iI a) (iI b) (iI c) (iI d) (nI (i + 1)) σ' ∧ Fm PXm σ σ' ∧ KM σ' k ∧ AnM σ' w (jiA (jnP k rel c d i) (tI (kL k)) i r j e) ∧ (jiA (jnP k rel c d i) (tI (kL k)) i r j e).1 ≤ e.1 + 2 * (d - m).toNat := by
  have l2 := o.1.1.1
  have Ri := o.1.1.R hi
  intro r
  induction r with
  | zero =>
    intro f j σ e m hf hj h T hA hm he
    obtain ⟨q, rfl⟩ : ∃ q, f = q + 1 := ⟨f - 1, by omega⟩
    rw [l_X14_joinOf_78, T.1.2.1, if_pos ((nI_e' (by omega) (by omega)).mpr (by omega)), nI_s]
    exact ⟨σ, rfl, Fm.refl, h, hA, by rw [jiA]; omega⟩
  | succ r ih =>
    intro f j σ e m hf hj h T hA hm he
    obtain ⟨q, rfl⟩ : ∃ q, f = q + 1 := ⟨f - 1, by omega⟩
    obtain ⟨r0, r1, r2, r3, r4, r5⟩ := KM.row T o hi
    obtain ⟨s0, s1, s2, s3, s4, s5⟩ := KM.row T o (show j < tC (kL k) by omega)
    have Rj := o.1.1.R (show j < tC (kL k) by omega)
    have i2 : ∀ {α : Type} (y : Option α), gd (inb (nI j) 200) y = y := fun y => gd_in (by omega) (by omega)
    have k2 : (nI j).toNatClampNeg = j := nI_k (by omega)
    have skip : ∃ σ', l_X14_joinOf_78 n K q (nI rel) (iI a) (iI b) (iI c) (iI d) (nI i) (mq 259 (u i)) (nI j + 1) σ = K (nI rel) (iI a) (iI b) (iI c) (iI d) (nI (i + 1)) σ' ∧ Fm PXm σ σ' ∧ KM σ' k ∧ AnM σ' w (jiA (jnP k rel c d i) (tI (kL k)) i r (j + 1) e) ∧ (jiA (jnP k rel c d i) (tI (kL k)) i r (j + 1) e).1 ≤ e.1 + 2 * (d - m).toNat := by
      rw [nI_s]
      exact ih q (j + 1) σ e m (by omega) (by omega) h T hA (fun t l1 l2 y => hm t (by omega) l2 y) he
    rw [l_X14_joinOf_78, T.1.2.1, if_neg (fun y => by have := (nI_e' (by omega) (by omega)).mp y; omega), r5, if_neg (fun y => by have := (iI_lt Ri ha.r).mp y; omega), if_neg (fun y => by have := (iI_lt hb.r Ri).mp y; omega), jiA]
    simp only [i2, k2, s1, nn]
    rw [gd_pos s0]
    simp only [nI_q' (show i < 2147483648 by omega) (show j < 2147483648 by omega), s5, iI_lt Rj hc.r, iI_lt hd.r Rj]
    by_cases q1 : i = j
    · rw [if_pos q1, ifP_f (fun y => y.1 q1.symm)]; exact skip
    rw [if_neg q1]
    by_cases q2 : tI (kL k) j < c
    · rw [if_pos q2, ifP_f (fun y => by have := y.2.1; omega)]; exact skip
    rw [if_neg q2]
    by_cases q3 : d < tI (kL k) j
    · rw [if_pos q3, ifP_f (fun y => by have := y.2.2.1; omega)]; exact skip
    rw [if_neg q3]
    obtain ⟨σ1, f1, t1⟩ := m_relates (n := n) r2 r3 r4 s2 s3 s4 hr
    have f1' := FrZ_y f1
    have T1 := T.y f1'
    obtain ⟨_, _, _, _, _, r5'⟩ := KM.row T1 o hi
    have h1 := h.y f1'
    have A1 := hA.y f1'
    rw [t1, bd]
    by_cases q4 : Rel rel (tS (kL k) i) (tS (kL k) j)
    · have yes : jnP k rel c d i j := ⟨fun y => q1 y.symm, by omega, by omega, q4⟩
      have hmj := hm j (Nat.le_refl _) (by omega) yes
      obtain ⟨z1, z2, z3⟩ := jn_a2 (Int.not_lt.mp q3) hmj he
      obtain ⟨σ2, u1, u2, u3⟩ := m_answer (n := n) A1 z3 (tI (kL k) i)
      have T2 := T1.am u2
      obtain ⟨_, _, _, _, _, s5'⟩ := KM.row T2 o (show j < tC (kL k) by omega)
      obtain ⟨σ3, v1, v2, v3⟩ := m_answer (n := n) u3 z2 (tI (kL k) j)
      rw [if_neg (tn q4), r5', u1, bd, s5', v1, bd, b_X14_joinOf_180, nI_s, ifP_t yes]
      have e2 : (snc (snc e (tI (kL k) i)) (tI (kL k) j)).1 = e.1 + 2 := rfl
      obtain ⟨σ4, w1, w2, w3, w4, w5⟩ := ih q (j + 1) σ3 (snc (snc e (tI (kL k) i)) (tI (kL k) j)) (tI (kL k) j) (by omega) (by omega) ((h1.am u2).am v2) (T2.am v2) v3 (fun t a1 a2 _ => ids_lt o.1.1 j t a1 a2) (by rw [e2]; exact z1)
      rw [e2] at w5
      have G : Fm PXm σ σ3 := ((FrY_m f1').trans (u2.mono (fun _ _ => PAm_x)).m).trans (v2.mono (fun _ _ => PAm_x)).m
      exact ⟨σ4, w1, G.trans w2, w3, w4, Nat.le_trans w5 (jn_ar (Int.not_lt.mp q3) hmj)⟩
    · rw [if_pos (tf_f q4), b_X14_joinOf_180, nI_s, ifP_f (fun y => q4 y.2.2.2)]
      obtain ⟨σ4, w1, w2, w3, w4, w5⟩ := ih q (j + 1) σ1 e m (by omega) (by omega) h1 T1 A1 (fun t a1 a2 y => hm t (by omega) a2 y) he
      exact ⟨σ4, w1, (FrY_m f1').trans w2, w3, w4, w5⟩
set_option maxHeartbeats 200000 in
theorem lm_join51 {n : Nat} {k : Kp} (o : okK k) {rel : Nat} (hr : rel < 5) {a b c d : Int} (ha : b30 a) (hb : b30 b) (hc : b30 c) (hd : b30 d) (hcd : d - c ≤ 63) {w : Ou} (hw : w.1 < 20000) : ∀ r f i σ e M, r < f → i + r = tC (kL k) → KM σ k → AnM σ w e → (∀ t, i ≤ t → t < tC (kL k) → a ≤ tI (kL k) t ∧ tI (kL k) t ≤ b → M < tI (kL k) t) → w.1 + 2 + (e.1 + 128 * (b - M).toNat) < 30000 → StQ σ (l_X14_joinOf_51 n f (nI rel) (iI a) (iI b) (iI c) (iI d) (nI i) σ) k w 2 (0, joA (fun i => a ≤ tI (kL k) i ∧ tI (kL k) i ≤ b) (jnP k rel c d) (tI (kL k)) (tC (kL k)) r i e) := by
  have l2 := o.1.1.1
  intro r
  induction r with
  | zero =>
    intro f i σ e M hf hi h hA hM he
    obtain ⟨q, rfl⟩ : ∃ q, f = q + 1 := ⟨f - 1, by omega⟩
    obtain ⟨u, T⟩ := h.1.1
    rw [l_X14_joinOf_51, T.1.2.1, if_pos ((nI_e' (by omega) (by omega)).mpr (by omega))]
    exact m_endAnswers h hA hw (by omega) (Or.inr rfl)
  | succ r ih =>
    intro f i σ e M hf hi h hA hM he
    obtain ⟨q, rfl⟩ : ∃ q, f = q + 1 := ⟨f - 1, by omega⟩
    obtain ⟨u, T⟩ := h.1.1
    obtain ⟨r0, r1, r2, r3, r4, r5⟩ := KM.row T o (show i < tC (kL k) by omega)
    have Ri := o.1.1.R (show i < tC (kL k) by omega)
    have i1 : ∀ {α : Type} (y : Option α), gd (inb (nI i) 200) y = y := fun y => gd_in (by omega) (by omega)
    have k1 : (nI i).toNatClampNeg = i := nI_k (by omega)
    rw [l_X14_joinOf_51, T.1.2.1, if_neg (fun y => by have := (nI_e' (by omega) (by omega)).mp y; omega), joA]
    simp only [i1, k1, r1, nn]
    rw [gd_pos r0]
    obtain ⟨g, hg⟩ := xFU_s
    by_cases q0 : a ≤ tI (kL k) i ∧ tI (kL k) i ≤ b
    · have hMi := hM i (Nat.le_refl _) (by omega) q0
      obtain ⟨σ1, t1, t2, t3, t4, t5⟩ := lm_join78 (n := n) o hr ha hb hc hd (w := w) (show i < tC (kL k) by omega) q0 (u := u) (l_X14_joinOf_51 n q) (tC (kL k)) xFU 0 σ e (c - 1) (xFU_lt (by omega)) (by omega) h T hA (fun t _ _ y => by have := y.2.1; omega) (by omega)
      rw [show nI 0 = 0 from rfl] at t1
      rw [t1, ifP_t q0]
      exact (ih q (i + 1) σ1 _ (tI (kL k) i) (by omega) (by omega) t3 t4 (fun t a1 a2 _ => ids_lt o.1.1 i t (by omega) a2) (by omega)).of t2
    · have sk := ih q (i + 1) σ e M (by omega) (by omega) h hA (fun t a1 a2 y => hM t (by omega) a2 y) he
      rw [ifP_f q0, hg, l_X14_joinOf_78, T.1.2.1, if_neg (show ¬ nI (tC (kL k)) ≤ 0 from fun y => by have := (nIe0 (show tC (kL k) < 2147483648 by omega)).mp y; omega), r5, nI_s]
      simp only [iI_lt Ri ha.r, iI_lt hb.r Ri]
      by_cases q1 : tI (kL k) i < a
      · rw [if_pos q1]; exact sk
      · rw [if_neg q1, if_pos (by omega)]; exact sk
set_option maxHeartbeats 200000 in
theorem m_joinQ {n : Nat} {σ : xσ} {k : Kp} (h : KM σ k) (o : okK k) {rel : Nat} (hr : rel < 5) {a b c d : Int} (ha : b30 a) (hb : b30 b) (hc : b30 c) (hd : b30 d) {w : Ou} (hO : OM σ w) (hw : w.1 < 20000) : StQ σ (f_X14_joinOf n (nI rel) (iI a) (iI b) (iI c) (iI d) σ) k w 2 (joinA k rel a b c d) := by
  have l2 := o.1.1.1
  have s1 : R64 (b - a) := by unfold b30 at *; exact ⟨by omega, by omega⟩
  have s2 : R64 (d - c) := by unfold b30 at *; exact ⟨by omega, by omega⟩
  have s3 : R64 63 := ⟨by decide, by decide⟩
  rw [f_X14_joinOf, iI_64 ha.r, iI_64 hb.r, iI_64 hc.r, iI_64 hd.r, jJ_sub, jJ_sub, show (63 : Int64) = jJ 63 from rfl]
  simp only [iI_lt hb.r ha.r, iI_lt hd.r hc.r, lc_gt s1 s3, lc_le s2 s3]
  unfold joinA
  by_cases q1 : b < a
  · rw [if_pos q1, ifP_t (Or.inl q1)]; exact m_sayQ h hO (by omega) (v := 5) (by decide) rfl
  rw [if_neg q1]
  by_cases q2 : d < c
  · rw [if_pos q2, ifP_t (by omega)]; exact m_sayQ h hO (by omega) (v := 5) (by decide) rfl
  rw [if_neg q2]
  by_cases q3 : 63 < b - a
  · rw [if_pos q3, ifP_t (by omega)]; exact m_sayQ h hO (by omega) (v := 5) (by decide) rfl
  rw [if_neg q3]
  by_cases q4 : d - c ≤ 63
  · obtain ⟨σ2, u1, u2, u3⟩ := m_beginAnswers (n := n) hO
    rw [if_pos q4, ifP_f (by omega), u1, bd]
    have t := lm_join51 (n := n) o hr ha hb hc hd q4 hw (tC (kL k)) xFU 0 σ2 an0 (a - 1) (xFU_lt (by omega)) (by omega) (h.am u2) u3 (fun t _ _ y => by omega) (by show w.1 + 2 + (0 + _) < 30000; omega)
    rw [show nI 0 = 0 from rfl] at t
    exact t.of (u2.mono (fun _ _ => PAm_x)).m
  · rw [if_neg q4, ifP_t (by omega)]; exact m_sayQ h hO (by omega) (v := 5) (by decide) rfl

/-! FILL of the system -/
def flT (kn : Nat) (x y : Int) (w : Nat) (z : Int) : Nat → Nat → Tb → Int32 → Tb
  | 0, _, L, _ => L
  | r + 1, i, L, s => flT kn x y w z r (i + 1) (insT L (z + i) (mdT kn x y w s)) (mdS kn s)
noncomputable def fillK (k : Kp) (z kk : Int) (kn : Nat) (x y w : Int) (s : Int32) : Int × Kp := ifP (¬ fOk z kk x y w) (5, k) (ifP (∃ i, i < kk.toNat ∧ 0 ≤ fdT (kL k) (z + (i : Nat))) (1, k) (ifP (200 < tC (kL k) + kk.toNat ∨ ¬ room k 32) (4, k) (stK (withL k (flT kn x y w.toNat z kk.toNat 0 (kL k) s)) 32)))
set_option maxHeartbeats 200000 in
theorem ins_ids {t : Tb} {z : Int} {c : Ct} {j : Nat} (hj : j < tC t + 1) : tI (insT t z c) j = z ∨ ∃ i, i < tC t ∧ tI (insT t z c) j = tI t i := by
  have iv := insP_v (tI t) z (tC t)
  show insF (tI t) z (insP (tI t) z (tC t)) j = z ∨ ∃ i, i < tC t ∧ insF (tI t) z (insP (tI t) z (tC t)) j = tI t i
  unfold insF
  by_cases l : j < insP (tI t) z (tC t)
  · rw [if_pos l]; exact Or.inr ⟨j, by omega, rfl⟩
  · rw [if_neg l]
    by_cases e : j = insP (tI t) z (tC t)
    · rw [if_pos e]; exact Or.inl rfl
    · rw [if_neg e]; exact Or.inr ⟨j - 1, by omega, rfl⟩
/-- while filling: a well formed table that has none of the ids to come -/
def FlI (L : Tb) (z : Int) (i r : Nat) : Prop := okTb L ∧ tC L + r ≤ 200 ∧ ∀ j x, j < tC L → i ≤ x → x < i + r → tI L j ≠ z + (x : Nat)
set_option maxHeartbeats 200000 in
theorem FlI_s {L : Tb} {z : Int} {i r : Nat} (h : FlI L z i (r + 1)) (hz : 1 ≤ z ∧ z + i ≤ 9999) {c : Ct} (hc : WF c ∧ Val c) : FlI (insT L (z + i) c) z (i + 1) r := by
  obtain ⟨h1, h2, h3⟩ := h
  refine ⟨okTb_ins h1 ⟨by omega, hz.2⟩ (fun j hj => h3 j i hj (Nat.le_refl i) (by omega)) (by omega) hc, by show tC L + 1 + r ≤ 200; omega, fun j x hj hx hx2 => ?_⟩
  rcases ins_ids (c := c) (z := z + i) (t := L) (j := j) hj with e | ⟨y, hy, e⟩
  · rw [e]; omega
  · rw [e]; exact h3 y x hy (by omega) (by omega)
set_option maxHeartbeats 200000 in
theorem FlI_e {kn : Nat} (hk : kn < 3) {x y : Int} {w : Nat} (hx : b30 x) (hy : b30 y) (h1 : 1 ≤ w) (h2 : x + ((w : Int) + (w : Int) / 16 + 1) ≤ 1073741823) (h3 : y + ((w : Int) + (w : Int) / 16 + 1) ≤ 1073741823) {z : Int} : ∀ r i L s, FlI L z i r → 1 ≤ z → z + i + r - 1 ≤ 9999 → okTb (flT kn x y w z r i L s) := by
  intro r
  induction r with
  | zero => intro i L s h _ _; exact h.1
  | succ r ih =>
    intro i L s h hz hm
    rw [flT]
    exact ih (i + 1) _ _ (FlI_s h ⟨hz, by omega⟩ (md_ok hk s hx hy h1 h2 h3)) hz (by omega)
def PFl (b k : Nat) : Prop := PKk b k
set_option maxHeartbeats 200000 in
theorem l_fill132 {k : Kp} (o : okK k) (hD : kD k = false) {kn : Nat} (hk : kn < 3) {x y : Int} {w : Nat} (hx : b30 x) (hy : b30 y) (h1 : 1 ≤ w) (hw : w ≤ 1000000000) (h2 : x + ((w : Int) + (w : Int) / 16 + 1) ≤ 1073741823) (h3 : y + ((w : Int) + (w : Int) / 16 + 1) ≤ 1073741823) {z : Int} (hz : 1 ≤ z) {m : Nat} (hm : z + m - 1 ≤ 9999) (hm2 : m ≤ 100) (hr : room k 32) : ∀ r f i n σ L s, r < f → i + r = m → FlI L z i r → KS n σ (withL k L) → sI σ 4 2 = iI x → sI σ 4 3 = iI y → sI σ 4 4 = nI w → sI σ 3 5 = nI kn → ∃ n' σ', l_X10_fill_132 f (iI z) (nI m) s (nI i) n σ = some (iI (stK (withL k (flT kn x y w z r i L s)) 32).1, n', σ') ∧ Fk PKk σ σ' ∧ KS n' σ' (stK (withL k (flT kn x y w z r i L s)) 32).2 := by
  intro r
  induction r with
  | zero =>
    intro f i n σ L s hf hi hF hK g2 g3 g4 g5
    obtain ⟨g, rfl⟩ : ∃ g, f = g + 1 := ⟨f - 1, by omega⟩
    obtain ⟨σ1, t1, t2, t3⟩ := e_put o hD hF.1 hK (m := 32) (by omega) hr
    rw [l_X10_fill_132, if_pos ((nI_e' (by omega) (by omega)).mpr (by omega)), show (32 : Int32) = nI 32 from rfl, t1, bd]
    exact ⟨n, σ1, rfl, t2, t3⟩
  | succ r ih =>
    intro f i n σ L s hf hi hF hK g2 g3 g4 g5
    obtain ⟨g, rfl⟩ : ∃ g, f = g + 1 := ⟨f - 1, by omega⟩
    have hn := hK.n
    obtain ⟨⟨K, lg, pl, pc, P⟩, _⟩ := id hK
    have l2 := hF.2.1
    obtain ⟨v, n', σ2, K', lg', u1, u2, u3, u4, u5⟩ := e_fresh hF.1 o.1.2 (by have := o.1.2.1; show tC L + tC (kC k) ≤ 400; omega) P
    have okx := okS_ad u4.1.1 u5.1
    have gv := ad_ge v
    have z2 : ∀ b j, b < 10 → sI σ2 b j = sI σ b j := fun b j hb => (u2 b j (fun y => by unfold PFr at y; omega)).1
    obtain ⟨σ3, v1, v2, v3⟩ := e_drawShape (n := n') (a := ad v) okx gv hk s hx hy h1 hw h2 h3 (by rw [z2 4 2 (by omega)]; exact g2) (by rw [z2 4 3 (by omega)]; exact g3) (by rw [z2 4 4 (by omega)]; exact g4) (by rw [z2 3 5 (by omega)]; exact g5)
    have P3 := u4.sh u5 v2
    have md := md_ok hk s hx hy h1 h2 h3
    obtain ⟨σ4, pl', w1, w2, w3⟩ := KP_ins (z := z + i) P3 hF.1 o.1.2 (by show tC L < 200; omega) ⟨by omega, by omega⟩ u5 v3
    have z4 : ∀ b j, (b < 10 ∨ (b = 10 ∧ 5 ≤ j)) → sI σ4 b j = sI σ b j := fun b j hb => by
      rw [(w2 b j (fun y => by unfold PIn at y; omega)).1, (v2 b j (fun y => by unfold PSh at y; omega)).1, (u2 b j (fun y => by unfold PFr at y; omega)).1]
    have K4 : KS n' σ4 (withL k (insT L (z + i) (mdT kn x y w s))) := by
      have := hK.L (L := insT L (z + i) (mdT kn x y w s)) (m := n') ⟨K', lg', pl', pc, w3⟩ (fun j hj => z4 10 j (by omega))
      exact this
    have ez : iI z + nI i = iI (z + (i : Nat)) := by rw [nI_i, iI_add]
    rw [l_X10_fill_132, if_neg (fun y => by have := (nI_e' (by omega) (by omega)).mp y; omega), u1, bn, gd_pos okx, v1, bd, ez, w1, bd, nI_s, flT]
    obtain ⟨n5, σ5, x1, x2, x3⟩ := ih g (i + 1) n' σ4 _ (mdS kn s) (by omega) (by omega) (FlI_s hF ⟨hz, by omega⟩ md) K4 (by rw [z4 4 2 (by omega)]; exact g2) (by rw [z4 4 3 (by omega)]; exact g3) (by rw [z4 4 4 (by omega)]; exact g4) (by rw [z4 3 5 (by omega)]; exact g5)
    exact ⟨n5, σ5, x1, ((((u2.mono (fun b k y => PFr_k hn.1 y))).trans (v2.mono (fun b k y => PShad_k y))).trans (w2.mono (fun b k y => PIn_k y))).trans x2, x3⟩
set_option maxHeartbeats 200000 in
theorem l_fill58 {n : Nat} {σ : xσ} {k : Kp} (h : KS n σ k) (o : okK k) (hD : kD k = false) {kn : Nat} (hk : kn < 3) {x y : Int} {w : Nat} (hx : b30 x) (hy : b30 y) (h1 : 1 ≤ w) (hw : w ≤ 1000000000) (h2 : x + ((w : Int) + (w : Int) / 16 + 1) ≤ 1073741823) (h3 : y + ((w : Int) + (w : Int) / 16 + 1) ≤ 1073741823) {z : Int} (hz : 1 ≤ z) {m : Nat} (hm : z + m - 1 ≤ 9999) (hm1 : 1 ≤ m) (hm2 : m ≤ 100) (g2 : sI σ 4 2 = iI x) (g3 : sI σ 4 3 = iI y) (g4 : sI σ 4 4 = nI w) (g5 : sI σ 3 5 = nI kn) {s : Int32} (g6 : sI σ 4 5 = s) : ∀ r f i, r < f → i + r = m → (∀ j, j < i → ¬ 0 ≤ fdT (kL k) (z + (j : Nat))) → ∃ n' σ', l_X10_fill_58 f (iI z) (nI m) (nI i) n σ = some (iI (ifP (∃ i, i < m ∧ 0 ≤ fdT (kL k) (z + (i : Nat))) (1, k) (ifP (200 < tC (kL k) + m ∨ ¬ room k 32) (4, k) (stK (withL k (flT kn x y w z m 0 (kL k) s)) 32))).1, n', σ') ∧ Fk PKk σ σ' ∧ KS n' σ' (ifP (∃ i, i < m ∧ 0 ≤ fdT (kL k) (z + (i : Nat))) (1, k) (ifP (200 < tC (kL k) + m ∨ ¬ room k 32) (4, k) (stK (withL k (flT kn x y w z m 0 (kL k) s)) 32))).2 := by
  have L := o.1.1
  have l2 := L.1
  intro r
  induction r with
  | zero =>
    intro f i hf hi hno
    obtain ⟨g, rfl⟩ : ∃ g, f = g + 1 := ⟨f - 1, by omega⟩
    rw [l_X10_fill_58, if_pos ((nI_e' (by omega) (by omega)).mpr (by omega)), ifP_f (fun ⟨j, a, b⟩ => hno j (by omega) b), h.ids.1, nI_ad]
    simp only [nIh200 (show tC (kL k) + m < 2147483648 by omega)]
    by_cases q1 : 200 < tC (kL k) + m
    · rw [if_pos q1, ifP_t (Or.inl q1)]; exact ⟨n, σ, rfl, Fk.refl, h⟩
    · rw [if_neg q1, show (32 : Int32) = nI 32 from rfl, e_room h o (by omega), bd]
      by_cases q2 : room k 32
      · rw [if_neg (fun y => (tf_0.mp y) q2), ifP_f (fun y => by rcases y with y | y; exact q1 y; exact y q2), gd_pos (by decide), z8.2.2.2.2.2, g6, st]
        have := l_fill132 o hD hk hx hy h1 hw h2 h3 hz hm hm2 q2 m xFU 0 n σ (kL k) s (xFU_lt (by omega)) (by omega) ⟨L, by omega, fun j x hj _ hx2 e => by
          refine hno x (by omega) ?_
          rcases fdT_v (kL k) (z + (x : Nat)) with ⟨_, b⟩ | ⟨q, a, _⟩
          · exact (b j hj e).elim
          · omega⟩ h g2 g3 g4 g5
        rw [show nI 0 = 0 from rfl] at this
        exact this
      · rw [if_pos (tf_f q2), ifP_t (Or.inr q2)]; exact ⟨n, σ, rfl, Fk.refl, h⟩
  | succ r ih =>
    intro f i hf hi hno
    obtain ⟨g, rfl⟩ : ∃ g, f = g + 1 := ⟨f - 1, by omega⟩
    have rz : R32 (z + (i : Nat)) := ⟨by omega, by omega⟩
    have ez : iI z + nI i = iI (z + (i : Nat)) := by rw [nI_i, iI_add]
    rw [l_X10_fill_58, if_neg (fun y => by have := (nI_e' (by omega) (by omega)).mp y; omega), ez, e_indexOf (Or.inl rfl) L h.ids rz, bd, nI_s]
    simp only [iIl0 (fd_R L (z + (i : Nat)))]
    by_cases q : fdT (kL k) (z + (i : Nat)) < 0
    · rw [if_pos q]
      exact ih g (i + 1) (by omega) (by omega) (fun j hj => by
        by_cases e : j = i
        · rw [e]; omega
        · exact hno j (by omega))
    · rw [if_neg q, ifP_t ⟨i, by omega, by omega⟩]; exact ⟨n, σ, rfl, Fk.refl, h⟩
set_option maxHeartbeats 200000 in
theorem e_isFillInPlane {n : Nat} {σ : xσ} {x y w : Int} (hx : b30 x) (hy : b30 y) (hw : b30 w) (g2 : sI σ 4 2 = iI x) (g3 : sI σ 4 3 = iI y) (g4 : sI σ 4 4 = iI w) : f_X10_isFillInPlane n σ = some (tf (1 ≤ w ∧ w ≤ 1000000000 ∧ x + (w + w / 16 + 1) ≤ 1073741823 ∧ y + (w + w / 16 + 1) ≤ 1073741823), σ) := by
  have r : R64 w := by unfold b30 at hw; exact ⟨by omega, by omega⟩
  have l1 : (lg_cmp (jJ w) (1 : Int64) < 0) ↔ w < 1 := lc_lt (b := 1) r ⟨by decide, by decide⟩
  have l2 : (lg_cmp (jJ w) (1000000000 : Int64) ≤ 0) ↔ w ≤ 1000000000 := lc_le (b := 1000000000) r ⟨by decide, by decide⟩
  rw [f_X10_isFillInPlane, gd_pos (by decide), z8.2.2.2.2.1, g4, st, iI_64 hw.r]
  simp only [l1, l2]
  by_cases q1 : w < 1
  · rw [if_pos q1, tf_f (by omega)]
  · rw [if_neg q1]
    by_cases q2 : w ≤ 1000000000
    · have ed : jJ w / 16 = jJ (w / 16) := by
        rw [← Int64.toInt_inj, Int64.toInt_div, jJ_to r, show ((16 : Int64)).toInt = 16 from rfl, jJ_to ⟨by omega, by omega⟩, Int.tdiv_eq_ediv_of_nonneg (by omega), Int.bmod_eq_of_le (by omega) (by omega)]
      have er : jJ w + jJ (w / 16) + 1 = jJ (w + w / 16 + 1) := by rw [jJ_add, lj1, jJ_add]
      unfold b30 at hx hy
      have rx : R64 (x + (w + w / 16 + 1)) := ⟨by omega, by omega⟩
      have ry : R64 (y + (w + w / 16 + 1)) := ⟨by omega, by omega⟩
      have l3 : (0 < lg_cmp (jJ (x + (w + w / 16 + 1))) (1073741823 : Int64)) ↔ 1073741823 < x + (w + w / 16 + 1) := lc_gt (b := 1073741823) rx ⟨by decide, by decide⟩
      have l4 : (0 < lg_cmp (jJ (y + (w + w / 16 + 1))) (1073741823 : Int64)) ↔ 1073741823 < y + (w + w / 16 + 1) := lc_gt (b := 1073741823) ry ⟨by decide, by decide⟩
      rw [if_pos q2, gd_pos (by decide), ed, er, st, gd_pos (by decide), z8.2.2.1, g2, iI_64 ⟨by omega, by omega⟩, jJ_add, gd_pos (by decide), z8.2.2.2.1, g3, iI_64 ⟨by omega, by omega⟩, jJ_add]
      simp only [l3, l4]
      by_cases q3 : 1073741823 < x + (w + w / 16 + 1)
      · rw [if_pos q3, tf_f (by omega)]
      · rw [if_neg q3]
        by_cases q4 : 1073741823 < y + (w + w / 16 + 1)
        · rw [if_pos q4, tf_f (by omega)]
        · rw [if_neg q4, tf_t (by omega)]
    · rw [if_neg q2, tf_f (by omega)]
set_option maxHeartbeats 200000 in
theorem e_fill {n : Nat} {σ : xσ} {k : Kp} (h : KS n σ k) (o : okK k) (hD : kD k = false) {kn : Nat} (hk : kn < 3) {A : Nat → Int} (hA : ∀ i, i < 6 → b30 (A i) ∧ sI σ 4 i = iI (A i)) (g5 : sI σ 3 5 = nI kn) : ∃ n' σ', f_X10_fill n σ = some (iI (fillK k (A 0) (A 1) kn (A 2) (A 3) (A 4) (iI (A 5))).1, n', σ') ∧ Fk PKk σ σ' ∧ KS n' σ' (fillK k (A 0) (A 1) kn (A 2) (A 3) (A 4) (iI (A 5))).2 := by
  have b0 := (hA 0 (by omega)).1
  have b1 := (hA 1 (by omega)).1
  have r0 : R32 (A 0) := b0.r
  have r1 : R32 (A 1) := b1.r
  rw [f_X10_fill, gd_pos (by decide), z8.1, (hA 0 (by omega)).2, st, gd_pos (by decide), z8.2.1, (hA 1 (by omega)).2, st]
  simp only [iIl1 r0, iIl1 r1, iIh100 r1]
  unfold fillK fOk
  by_cases q1 : A 0 < 1
  · rw [if_pos q1, ifP_t (by omega)]; exact ⟨n, σ, rfl, Fk.refl, h⟩
  rw [if_neg q1]
  by_cases q2 : A 1 < 1
  · rw [if_pos q2, ifP_t (by omega)]; exact ⟨n, σ, rfl, Fk.refl, h⟩
  rw [if_neg q2]
  by_cases q3 : 100 < A 1
  · rw [if_pos q3, ifP_t (by omega)]; exact ⟨n, σ, rfl, Fk.refl, h⟩
  rw [if_neg q3]
  unfold b30 at b0 b1
  have es : iI (A 0) + iI (A 1) - 1 = iI (A 0 + A 1 - 1) := by rw [iI_add, show (1 : Int32) = iI 1 from rfl, iI_sub]
  rw [es]
  simp only [iIh9999 (show R32 (A 0 + A 1 - 1) from ⟨by omega, by omega⟩)]
  by_cases q4 : 9999 < A 0 + A 1 - 1
  · rw [if_pos q4, ifP_t (by omega)]; exact ⟨n, σ, rfl, Fk.refl, h⟩
  rw [if_neg q4, e_isFillInPlane (hA 2 (by omega)).1 (hA 3 (by omega)).1 (hA 4 (by omega)).1 (hA 2 (by omega)).2 (hA 3 (by omega)).2 (hA 4 (by omega)).2, bd]
  by_cases q5 : 1 ≤ A 4 ∧ A 4 ≤ 1000000000 ∧ A 2 + (A 4 + A 4 / 16 + 1) ≤ 1073741823 ∧ A 3 + (A 4 + A 4 / 16 + 1) ≤ 1073741823
  · rw [if_neg (fun y => (tf_0.mp y) q5), ifP_f (fun y => y ⟨by omega, by omega, by omega, by omega, q5⟩)]
    have ew : ((A 4).toNat : Int) = A 4 := Int.toNat_of_nonneg (by omega)
    have ek : ((A 1).toNat : Int) = A 1 := Int.toNat_of_nonneg (by omega)
    have := l_fill58 (n := n) h o hD hk (hA 2 (by omega)).1 (hA 3 (by omega)).1 (w := (A 4).toNat) (by omega) (by omega) (by rw [ew]; exact q5.2.2.1) (by rw [ew]; exact q5.2.2.2) (z := A 0) (by omega) (m := (A 1).toNat) (by omega) (by omega) (by omega) (hA 2 (by omega)).2 (hA 3 (by omega)).2 (by rw [nI_i, ew]; exact (hA 4 (by omega)).2) g5 (hA 5 (by omega)).2 (A 1).toNat xFU 0 (xFU_lt (by omega)) (by omega) (fun j hj => by omega)
    rw [show nI 0 = 0 from rfl, nI_i, ek] at this
    exact this
  · rw [if_pos (tf_f q5), ifP_t (fun y => q5 ⟨y.2.2.2.2.1, y.2.2.2.2.2.1, y.2.2.2.2.2.2.1, y.2.2.2.2.2.2.2⟩)]; exact ⟨n, σ, rfl, Fk.refl, h⟩

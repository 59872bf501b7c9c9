/-! the reference: FILL -/
set_option maxHeartbeats 200000 in
theorem P56_x {b k : Nat} (h : P56 b k) : PXm b k := by unfold P56 PMh at h; unfold PXm; omega
set_option maxHeartbeats 200000 in
theorem KM.s {σ σ' : xσ} {k : Kp} (h : KM σ k) (f : Fk P56 σ σ') : KM σ' k := h.fk f (fun j hj y => by unfold P56 PMh at y; omega) (fun b j l1 l2 y => by unfold P56 PMh at y; omega)
set_option maxHeartbeats 200000 in
theorem OM.s {σ σ' : xσ} {w : Ou} (h : OM σ w) (f : Fk P56 σ σ') : OM σ' w := h.fk f (fun y => by unfold P56 PMh at y; omega) (fun k y => by unfold P56 PMh at y; omega)
set_option maxHeartbeats 200000 in
theorem l_mfill180 {n : Nat} {k : Kp} (o : okK k) (hD : kD k = false) {kn : Nat} (hk : kn < 3) {x y : Int} {w : Nat} (hx : b30 x) (hy : b30 y) (h1 : 1 ≤ w) (hw : w ≤ 1000000000) (h2 : x + ((w : Int) + (w : Int) / 16 + 1) ≤ 1073741823) (h3 : y + ((w : Int) + (w : Int) / 16 + 1) ≤ 1073741823) {z : Int} (hz : 1 ≤ z) {m : Nat} (hm : z + m - 1 ≤ 9999) (hm2 : m ≤ 100) {W : Ou} (hW : W.1 < 30000) : ∀ r f i σ L s, r < f → i + r = m → FlI L z i r → KM σ (withL k L) → OM σ W → sI σ 233 56 = s → StX σ (l_X14_fill_180 n f (iI z) (nI m) (nI kn) (iI x) (iI y) (nI w) (nI i) σ) W (stK (withL k (flT kn x y w z r i L s)) 32) := by
  intro r
  induction r with
  | zero =>
    intro f i σ L s hf hi hF hK hO hs
    obtain ⟨g, rfl⟩ : ∃ g, f = g + 1 := ⟨f - 1, by omega⟩
    rw [l_X14_fill_180, if_pos ((nI_e' (by omega) (by omega)).mpr (by omega)), show (32 : Int32) = nI 32 from rfl, bd_id]
    exact m_put2 o hD hF.1 hK (m := 32) (by omega) hO hW
  | succ r ih =>
    intro f i σ L s hf hi hF hK hO hs
    obtain ⟨g, rfl⟩ : ∃ g, f = g + 1 := ⟨f - 1, by omega⟩
    have l2 := hF.2.1
    obtain ⟨σ1, t1, t2, t3, t4⟩ := m_made (n := n) hk s hx hy h1 hw h2 h3 hs
    have K1 := hK.s t2
    obtain ⟨u, T⟩ := K1.1.1
    have md := md_ok hk s hx hy h1 h2 h3
    obtain ⟨σ2, u', v1, v2, v3⟩ := m_addT (n := n) hF.1 T (by show tC L < 200; omega) (z := z + (i : Nat)) ⟨by omega, by omega⟩ t3 md.1
    have K2 : KM σ2 (withL k (insT L (z + i) (mdT kn x y w s))) := K1.L v2 ⟨u', v3⟩
    have ez : iI z + nI i = iI (z + (i : Nat)) := by rw [nI_i, iI_add]
    rw [l_X14_fill_180, if_neg (fun y => by have := (nI_e' (by omega) (by omega)).mp y; omega), t1, bd, ez, v1, bd, nI_s, flT]
    exact (ih g (i + 1) σ2 _ (mdS kn s) (by omega) (by omega) (FlI_s hF ⟨hz, by omega⟩ md) K2 ((hO.s t2).l v2) (by rw [(v2 233 56 (by unfold PL8; omega)).1]; exact t4)).of (((t2.mono (fun _ _ => P56_x)).m).trans (v2.mono (fun _ _ => PL8_x)).m)
set_option maxHeartbeats 200000 in
theorem l_mfill109 {n : Nat} {σ : xσ} {k : Kp} (h : KM σ k) (o : okK k) (hD : kD k = false) {kn : Nat} (hk : kn < 3) {x y : Int} {w : Nat} (hx : b30 x) (hy : b30 y) (h1 : 1 ≤ w) (hw : w ≤ 1000000000) (h2 : x + ((w : Int) + (w : Int) / 16 + 1) ≤ 1073741823) (h3 : y + ((w : Int) + (w : Int) / 16 + 1) ≤ 1073741823) {z : Int} (hz : 1 ≤ z) {m : Nat} (hm : z + m - 1 ≤ 9999) (hm2 : m ≤ 100) {s : Int32} {W : Ou} (hO : OM σ W) (hW : W.1 < 30000) : ∀ r f i, r < f → i + r = m → (∀ j, j < i → ¬ 0 ≤ fdT (kL k) (z + (j : Nat))) → StX σ (l_X14_fill_109 n f (iI z) (nI m) (nI kn) (iI x) (iI y) (nI w) s (nI i) σ) W (ifP (∃ i, i < m ∧ 0 ≤ fdT (kL k) (z + (i : Nat))) (1, k) (ifP (200 < tC (kL k) + m ∨ ¬ room k 32) (4, k) (stK (withL k (flT kn x y w z m 0 (kL k) s)) 32))) := by
  have L := o.1.1
  have l2 := L.1
  obtain ⟨u, T⟩ := h.1.1
  intro r
  induction r with
  | zero =>
    intro f i hf hi hno
    obtain ⟨g, rfl⟩ : ∃ g, f = g + 1 := ⟨f - 1, by omega⟩
    rw [l_X14_fill_109, if_pos ((nI_e' (by omega) (by omega)).mpr (by omega)), ifP_f (fun ⟨j, a, b⟩ => hno j (by omega) b), T.1.2.1, nI_ad]
    simp only [nIh200 (show tC (kL k) + m < 2147483648 by omega)]
    by_cases q1 : 200 < tC (kL k) + m
    · rw [if_pos q1, ifP_t (Or.inl q1)]; exact m_say' h hO hW (v := 4) (by decide) rfl
    · rw [if_neg q1, show (32 : Int32) = nI 32 from rfl, m_hasRoom h o.2.1.1 hD (by omega), bd]
      by_cases q2 : room k 32
      · rw [if_neg (tn q2), ifP_f (fun y => by rcases y with y | y; exact q1 y; exact y q2), st]
        have F : Fk P56 σ (wI σ 233 56 s) := Fk.wI (Or.inl ⟨rfl, rfl⟩)
        have := l_mfill180 (n := n) o hD hk hx hy h1 hw h2 h3 hz hm hm2 hW m xFU 0 (wI σ 233 56 s) (kL k) s (xFU_lt (by omega)) (by omega) ⟨L, by omega, fun j x hj _ hx2 e => by
          refine hno x (by omega) ?_
          rcases fdT_v (kL k) (z + (x : Nat)) with ⟨_, b⟩ | ⟨q, a, _⟩
          · exact (b j hj e).elim
          · omega⟩ (h.s F) (hO.s F) (by rw [sI_own])
        rw [show nI 0 = 0 from rfl] at this
        exact this.of (F.mono (fun _ _ => P56_x)).m
      · rw [if_pos (tf_f q2), ifP_t (Or.inr q2)]; exact m_say' h hO hW (v := 4) (by decide) rfl
  | succ r ih =>
    intro f i hf hi hno
    obtain ⟨g, rfl⟩ : ∃ g, f = g + 1 := ⟨f - 1, by omega⟩
    have rz : R32 (z + (i : Nat)) := ⟨by omega, by omega⟩
    have ez : iI z + nI i = iI (z + (i : Nat)) := by rw [nI_i, iI_add]
    rw [l_X14_fill_109, if_neg (fun y => by have := (nI_e' (by omega) (by omega)).mp y; omega), ez, m_find L T rz, bd, nI_s]
    simp only [iIl0 (fd_R L (z + (i : Nat)))]
    by_cases q : fdT (kL k) (z + (i : Nat)) < 0
    · rw [if_pos q]
      exact ih g (i + 1) (by omega) (by omega) (fun j hj => by
        by_cases e : j = i
        · rw [e]; omega
        · exact hno j (by omega))
    · rw [if_neg q, ifP_t ⟨i, by omega, by omega⟩]; exact m_say' h hO hW (v := 1) (by decide) rfl
set_option maxHeartbeats 200000 in
theorem m_fillK {n : Nat} {σ : xσ} {k : Kp} (h : KM σ k) (o : okK k) (hD : kD k = false) {kn : Nat} (hk : kn < 3) {z kk x y w : Int} (bz : b30 z) (bk : b30 kk) (hx : b30 x) (hy : b30 y) (bw : b30 w) {s : Int32} {W : Ou} (hO : OM σ W) (hW : W.1 < 30000) : StX σ (f_X14_fill n (iI z) (iI kk) (nI kn) (iI x) (iI y) (iI w) s σ) W (fillK k z kk kn x y w s) := by
  have r0 : R32 z := bz.r
  have r1 : R32 kk := bk.r
  have r4 : R32 w := bw.r
  have bad : b_X14_fill_49 n (iI z) (iI kk) (nI kn) (iI x) (iI y) (iI w) s 0 σ = bd (f_X14_put n 5 σ) (fun _ s => some ((), s)) := by rw [b_X14_fill_49, if_pos rfl]
  have no : ¬ fOk z kk x y w → StX σ (bd (f_X14_put n 5 σ) (fun _ s => some ((), s))) W (fillK k z kk kn x y w s) := fun q => by
    unfold fillK
    rw [ifP_t q]; exact m_say' h hO hW (v := 5) (by decide) rfl
  rw [f_X14_fill]
  simp only [iIl1 r0, iIl1 r1, iIh100 r1, iIl1 r4]
  unfold b30 at bz bk bw
  by_cases q1 : z < 1
  · rw [if_pos q1, bad]; exact no (fun y => by unfold fOk at y; omega)
  rw [if_neg q1]
  by_cases q2 : kk < 1
  · rw [if_pos q2, bad]; exact no (fun y => by unfold fOk at y; omega)
  rw [if_neg q2]
  by_cases q3 : 100 < kk
  · rw [if_pos q3, bad]; exact no (fun y => by unfold fOk at y; omega)
  rw [if_neg q3]
  have es : (iI z).toInt64 + (iI kk).toInt64 - 1 = jJ (z + kk - 1) := by rw [iI_64 r0, iI_64 r1, jJ_add, lj1, jJ_sub]
  have l9 : (0 < lg_cmp (jJ (z + kk - 1)) (9999 : Int64)) ↔ 9999 < z + kk - 1 := lc_gt (b := 9999) ⟨by omega, by omega⟩ ⟨by decide, by decide⟩
  rw [es]
  simp only [l9]
  by_cases q4 : 9999 < z + kk - 1
  · rw [if_pos q4, bad]; exact no (fun y => by unfold fOk at y; omega)
  rw [if_neg q4]
  by_cases q5 : w < 1
  · rw [if_pos q5, bad]; exact no (fun y => by unfold fOk at y; omega)
  rw [if_neg q5]
  have l10 : ((1000000000 : Int32) < iI w) ↔ 1000000000 < w := iIh1000000000 r4
  simp only [l10]
  by_cases q6 : 1000000000 < w
  · rw [if_pos q6, bad]; exact no (fun y => by unfold fOk at y; omega)
  rw [if_neg q6, b_X14_fill_49, if_neg (by decide)]
  have ew : ((w.toNat : Nat) : Int) = w := Int.toNat_of_nonneg (by omega)
  have ek : ((kk.toNat : Nat) : Int) = kk := Int.toNat_of_nonneg (by omega)
  have ed : iI w / 16 = iI (w / 16) := by
    have := nI_div (a := w.toNat) (b := 16) (by omega) (by omega) (by omega)
    have e2 : ((w.toNat / 16 : Nat) : Int) = w / 16 := by omega
    rw [nI_i w.toNat, ew, nI_i (w.toNat / 16), e2, show nI 16 = (16 : Int32) from rfl] at this
    exact this
  unfold b30 at hx hy
  have rx : R64 (x + w + w / 16 + 1) := ⟨by omega, by omega⟩
  have ry : R64 (y + w + w / 16 + 1) := ⟨by omega, by omega⟩
  have ex : ((iI x).toInt64 + (iI w).toInt64) + (iI w / 16).toInt64 + 1 = jJ (x + w + w / 16 + 1) := by rw [ed, iI_64 ⟨by omega, by omega⟩, iI_64 r4, iI_64 ⟨by omega, by omega⟩, jJ_add, jJ_add, lj1, jJ_add]
  have ey : ((iI y).toInt64 + (iI w).toInt64) + (iI w / 16).toInt64 + 1 = jJ (y + w + w / 16 + 1) := by rw [ed, iI_64 ⟨by omega, by omega⟩, iI_64 r4, iI_64 ⟨by omega, by omega⟩, jJ_add, jJ_add, lj1, jJ_add]
  rw [ex, ey, m_isNumber rx, bd]
  by_cases q7 : b30 (x + w + w / 16 + 1)
  · rw [if_neg (tn q7), m_isNumber ry, bd]
    by_cases q8 : b30 (y + w + w / 16 + 1)
    · rw [if_neg (tn q8)]
      unfold b30 at q7 q8
      unfold fillK
      rw [ifP_f (fun y => y (by unfold fOk; omega))]
      have := l_mfill109 (n := n) h o hD hk (x := x) (y := y) (w := w.toNat) (by unfold b30; omega) (by unfold b30; omega) (by omega) (by omega) (by rw [ew]; omega) (by rw [ew]; omega) (z := z) (by omega) (m := kk.toNat) (by omega) (by omega) (s := s) hO hW kk.toNat xFU 0 (xFU_lt (by omega)) (by omega) (fun j hj => by omega)
      rw [show nI 0 = 0 from rfl, nI_i kk.toNat, ek, nI_i w.toNat, ew] at this
      exact this
    · rw [if_pos (tf_f q8)]
      exact no (fun y => q8 (by unfold fOk at y; unfold b30; omega))
  · rw [if_pos (tf_f q7)]
    exact no (fun y => q7 (by unfold fOk at y; unfold b30; omega))

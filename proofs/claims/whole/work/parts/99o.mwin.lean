/-! WINDOW of the reference -/
set_option maxHeartbeats 200000 in
theorem lm_win {n : Nat} {k : Kp} (o : okK k) {P Q : V2} (hP : bV P) (hQ : bV Q) {w : Ou} (hw : w.1 < 20000) : ∀ r f i σ a, r < f → i + r = tC (kL k) → KM σ k → MH σ 1870 (winC P Q) → AnM σ w a → a.1 + r < 1000 → StQ σ (l_X14_windowOf_160 n f (nI i) σ) k w 1 (0, fiA (fun j => Mt (tS (kL k) j) (winC P Q)) (tI (kL k)) r i a) := by
  have l2 := o.1.1.1
  intro r
  induction r with
  | zero =>
    intro f i σ a hf hi h S hA ha
    obtain ⟨g, rfl⟩ : ∃ g, f = g + 1 := ⟨f - 1, by omega⟩
    obtain ⟨u, T⟩ := h.1.1
    rw [l_X14_windowOf_160, T.1.2.1, if_pos ((nI_e' (by omega) (by omega)).mpr (by omega))]
    exact m_endAnswers h hA hw (by omega) (Or.inl rfl)
  | succ r ih =>
    intro f i σ a hf hi h S hA ha
    obtain ⟨g, rfl⟩ : ∃ g, f = g + 1 := ⟨f - 1, by omega⟩
    obtain ⟨u, T⟩ := h.1.1
    obtain ⟨r0, r1, r2, r3, r4, r5⟩ := KM.row T o (show i < tC (kL k) by omega)
    have i1 : ∀ {α : Type} (y : Option α), gd (inb (nI i) 200) y = y := fun y => gd_in (by omega) (by omega)
    have nIk : (nI i).toNatClampNeg = i := nI_k (by omega)
    have t1 := m_intersect (n := n) r2 r3 S (wn_WF hP hQ)
    rw [l_X14_windowOf_160, T.1.2.1, if_neg (fun y => by have := (nI_e' (by omega) (by omega)).mp y; omega)]
    simp only [i1, nIk, r1, nn]
    rw [gd_pos r0, t1, bd, fiA]
    by_cases q : Mt (tS (kL k) i) (winC P Q)
    · obtain ⟨σ2, u1, u2, u3⟩ := m_answer (n := n) hA (by omega) (tI (kL k) i)
      rw [if_neg (tn q), ifP_t q]
      simp only [r1]
      rw [gd_pos r0, r5, u1, bd, b_X14_windowOf_209, nI_s]
      exact (ih g (i + 1) σ2 _ (by omega) (by omega) (h.am u2) (S.fk u2 (fun j k hj y => by unfold PAm at y; omega)) u3 (by show a.1 + 1 + r < 1000; omega)).of (u2.mono (fun _ _ => PAm_x)).m
    · rw [if_pos (tf_f q), nI_s, ifP_f q]
      exact ih g (i + 1) σ _ (by omega) (by omega) h S hA (by omega)
set_option maxHeartbeats 200000 in
theorem PMh_x {b k : Nat} (h : PMh 1870 b k) : PXm b k := by unfold PMh at h; unfold PXm; omega
set_option maxHeartbeats 200000 in
theorem KM.w {σ σ' : xσ} {k : Kp} (h : KM σ k) (f : Fk (PMh 1870) σ σ') : KM σ' k := h.fk f (fun j hj y => by unfold PMh at y; omega) (fun b j l1 l2 y => by unfold PMh at y; omega)
set_option maxHeartbeats 200000 in
theorem OM.w {σ σ' : xσ} {w : Ou} (h : OM σ w) (f : Fk (PMh 1870) σ σ') : OM σ' w := h.fk f (fun y => by unfold PMh at y; omega) (fun k y => by unfold PMh at y; omega)
set_option maxHeartbeats 200000 in
theorem m_winE {n : Nat} {k : Kp} (o : okK k) {P Q : V2} (hP : bV P) (hQ : bV Q) (h1 : P.1 ≤ Q.1) (h2 : P.2 ≤ Q.2) {w : Ou} (hw : w.1 < 20000) {σ : xσ} (h : KM σ k) (hO : OM σ w) (H : ShM σ 1870 (wnK P Q) (wnN P Q, 0, wnV P Q, fun _ => wnN P Q)) : StQ σ (b_X14_windowOf_146 n σ) k w 1 (winA k P Q) := by
  have l2 := o.1.1.1
  have hN : 1 ≤ wnN P Q ∧ wnN P Q ≤ 5 := by unfold wnN; split; omega; split <;> omega
  obtain ⟨σ1, v1, v2, v3⟩ := m_nextR (n := n) H (by omega) (by omega) rfl
  have S := MH_of v3 (by show wnN P Q ≤ 40; omega) (by show 0 + 1 ≤ 8; omega)
  obtain ⟨σ2, u1, u2, u3⟩ := m_beginAnswers (n := n) (hO.w v2)
  have t := lm_win (n := n) o hP hQ hw (tC (kL k)) xFU 0 σ2 an0 (xFU_lt (by omega)) (by omega) ((h.w v2).am u2) (S.fk u2 (fun j k hj y => by unfold PAm at y; omega)) u3 (by show 0 + tC (kL k) < 1000; omega)
  rw [show nI 0 = 0 from rfl] at t
  rw [b_X14_windowOf_146, v1, bd, u1, bd]
  unfold winA
  rw [ifP_f (by omega), fiA_c (tI (kL k)) (tC (kL k)) 0 an0 (fun j _ hj => win_i (o.1.1.2.2.2 j (by omega)).1 (o.1.1.2.2.2 j (by omega)).2 hP hQ h1 h2)]
  exact (t.of (u2.mono (fun _ _ => PAm_x)).m).of (v2.mono (fun _ _ => PMh_x)).m
set_option maxHeartbeats 200000 in
theorem m_win64 {n : Nat} {k : Kp} (o : okK k) {P Q : V2} (hP : bV P) (hQ : bV Q) (h1 : P.1 ≤ Q.1) (h2 : P.2 ≤ Q.2) {w : Ou} (hw : w.1 < 20000) {σ : xσ} (h : KM σ k) (hO : OM σ w) {x : Int32} (hx : x = nI (wnK P Q)) : StQ σ (b_X14_windowOf_64 n (iI P.1) (iI P.2) (iI Q.1) (iI Q.2) x σ) k w 1 (winA k P Q) := by
  obtain ⟨σ1, c1, c2, c3⟩ := m_beg (n := n) (σ := σ) (a := 1870) (by decide) (wnK P Q) (wnV P Q) (fun _ => wnN P Q)
  obtain ⟨σ2, d1, d2, d3⟩ := m_nextP (n := n) c3 (by omega)
  have e0 : wnV P Q 0 = P := by unfold wnV; rw [if_pos rfl, if_pos rfl]; split <;> rfl
  rw [e0] at d1
  have kk := d3.2.1.1
  have K2 := (h.w c2).w d2
  have O2 := (hO.w c2).w d2
  refine StQ.of (c2.mono (fun _ _ => PMh_x)).m (StQ.of (d2.mono (fun _ _ => PMh_x)).m ?_)
  rw [b_X14_windowOf_64, hx, c1, bd, d1, bd, kk]
  by_cases a1 : P = Q
  · have ek : wnK P Q = 0 := by unfold wnK; rw [if_pos a1]
    have en : wnN P Q = 1 := by unfold wnN; rw [if_pos a1]
    rw [ek, if_neg (by decide), if_neg (by decide)]
    have := m_winE (n := n) o hP hQ h1 h2 hw K2 O2 (by rw [show wnN P Q = 0 + 1 by omega] at d3 ⊢; exact d3)
    rw [b_X14_windowOf_146] at this
    exact this
  by_cases a2 : P.1 = Q.1 ∨ P.2 = Q.2
  · have ek : wnK P Q = 1 := by unfold wnK; rw [if_neg a1, if_pos a2]
    have en : wnN P Q = 2 := by unfold wnN; rw [if_neg a1, if_pos a2]
    have e1 : wnV P Q (0 + 1) = Q := by unfold wnV; rw [if_pos a2, if_neg (by omega)]
    obtain ⟨σ3, f1, f2, f3⟩ := m_nextP (n := n) d3 (by omega)
    rw [e1] at f1
    have k3 := f3.2.1.1
    have := m_winE (n := n) o hP hQ h1 h2 hw (K2.w f2) (O2.w f2) (by rw [show wnN P Q = 0 + 1 + 1 by omega] at f3 ⊢; exact f3)
    rw [ek, if_pos (show nI 1 = 1 from rfl), f1, bd, b_X14_windowOf_97, k3, ek, if_neg (by decide)]
    rw [b_X14_windowOf_146] at this
    exact this.of (f2.mono (fun _ _ => PMh_x)).m
  · have ek : wnK P Q = 2 := by unfold wnK; rw [if_neg a1, if_neg a2]
    have en : wnN P Q = 5 := by unfold wnN; rw [if_neg a1, if_neg a2]
    have e1 : wnV P Q (0 + 1) = (Q.1, P.2) := by unfold wnV; rw [if_neg a2, if_neg (by omega), if_pos rfl]
    have e2 : wnV P Q (0 + 1 + 1) = Q := by unfold wnV; rw [if_neg a2, if_neg (by omega), if_neg (by omega), if_pos rfl]
    have e3 : wnV P Q (0 + 1 + 1 + 1) = (P.1, Q.2) := by unfold wnV; rw [if_neg a2, if_neg (by omega), if_neg (by omega), if_neg (by omega), if_pos rfl]
    have e4 : wnV P Q (0 + 1 + 1 + 1 + 1) = P := by unfold wnV; rw [if_neg a2, if_neg (by omega), if_neg (by omega), if_neg (by omega), if_neg (by omega)]
    obtain ⟨σ3, f1, f2, f3⟩ := m_nextP (n := n) d3 (by omega)
    rw [e1] at f1
    obtain ⟨σ4, g1, g2, g3⟩ := m_nextP (n := n) f3 (by omega)
    rw [e2] at g1
    obtain ⟨σ5, i1, i2, i3⟩ := m_nextP (n := n) g3 (by omega)
    rw [e3] at i1
    obtain ⟨σ6, j1, j2, j3⟩ := m_nextP (n := n) i3 (by omega)
    rw [e4] at j1
    have F : Fk (PMh 1870) σ2 σ6 := ((f2.trans g2).trans i2).trans j2
    have := m_winE (n := n) o hP hQ h1 h2 hw (K2.w F) (O2.w F) (by rw [show wnN P Q = 0 + 1 + 1 + 1 + 1 + 1 by omega] at j3 ⊢; exact j3)
    rw [ek, if_neg (by decide), if_pos (show nI 2 = 2 from rfl), f1, bd, g1, bd, i1, bd, j1, bd]
    exact this.of (F.mono (fun _ _ => PMh_x)).m
set_option maxHeartbeats 200000 in
theorem m_windowQ {n : Nat} {σ : xσ} {k : Kp} (h : KM σ k) (o : okK k) {P Q : V2} (hP : bV P) (hQ : bV Q) {w : Ou} (hO : OM σ w) (hw : w.1 < 20000) : StQ σ (f_X14_windowOf n (iI P.1) (iI P.2) (iI Q.1) (iI Q.2) σ) k w 1 (winA k P Q) := by
  rw [f_X14_windowOf]
  simp only [iI_lt hQ.1.r hP.1.r, iI_le hP.2.r hQ.2.r, iI_eq hP.1.r hQ.1.r, iI_eq hP.2.r hQ.2.r]
  by_cases q1 : Q.1 < P.1
  · rw [if_pos q1, show winA k P Q = (5, an0) from ifP_t (Or.inl q1)]; exact m_sayQ h hO (by omega) (v := 5) (by decide) rfl
  rw [if_neg q1]
  by_cases q2 : P.2 ≤ Q.2
  · rw [if_pos q2]
    have go : ∀ x, x = nI (wnK P Q) → StQ σ (b_X14_windowOf_64 n (iI P.1) (iI P.2) (iI Q.1) (iI Q.2) x σ) k w 1 (winA k P Q) := fun x hx => m_win64 o hP hQ (by omega) q2 hw h hO hx
    have pe : P = Q ↔ P.1 = Q.1 ∧ P.2 = Q.2 := ⟨fun e => by rw [e]; exact ⟨rfl, rfl⟩, fun e => Prod.ext e.1 e.2⟩
    by_cases q3 : P.1 = Q.1
    · rw [if_pos q3, b_X14_windowOf_33]
      simp only [iI_eq hP.1.r hQ.1.r, iI_eq hP.2.r hQ.2.r]
      rw [if_pos q3]
      by_cases q4 : P.2 = Q.2
      · rw [if_pos q4]; exact go _ (by unfold wnK; rw [if_pos (pe.mpr ⟨q3, q4⟩)]; rfl)
      · rw [if_neg q4, if_neg (by decide)]; exact go _ (by unfold wnK; rw [if_neg (fun e => q4 (pe.mp e).2), if_pos (Or.inl q3)]; rfl)
    · rw [if_neg q3]
      by_cases q4 : P.2 = Q.2
      · rw [if_pos q4, b_X14_windowOf_33]
        simp only [iI_eq hP.1.r hQ.1.r, iI_eq hP.2.r hQ.2.r]
        rw [if_neg q3, if_neg (by decide)]; exact go _ (by unfold wnK; rw [if_neg (fun e => q3 (pe.mp e).1), if_pos (Or.inr q4)]; rfl)
      · rw [if_neg q4, b_X14_windowOf_33]
        simp only [iI_eq hP.1.r hQ.1.r, iI_eq hP.2.r hQ.2.r]
        rw [if_neg q3, if_pos trivial]; exact go _ (by unfold wnK; rw [if_neg (fun e => q3 (pe.mp e).1), if_neg (fun y => by rcases y with y | y; exact q3 y; exact q4 y)]; rfl)
  · rw [if_neg q2, show winA k P Q = (5, an0) from ifP_t (Or.inr (by omega))]; exact m_sayQ h hO (by omega) (v := 5) (by decide) rfl

/-! the run of the reference -/
def ExR (σ : xσ) (f : Option (Unit × xσ)) (e : Kp × Ou) : Prop := ∃ σ', f = some ((), σ') ∧ Fm PXm σ σ' ∧ KM σ' e.1 ∧ OM σ' e.2
set_option maxHeartbeats 200000 in
theorem m_exM {n : Nat} {σ : xσ} {T : Tp} {q : Nat} {k : Kp} {w : Ou} (h : StO T q) (hK : KM σ k) (o : okK k) (hD : kD k = false) (hO : OM σ w) (hw : w.1 < 20000) (R : Rw74 σ) (hs : vb T q = 0 ∨ vb T q = 9 → ShN σ (knd T (spq T q)) (shq T (spq T q)).2.2) : ExR σ (exM n T q σ) (exK T q k w) := by
  have ex : vb T q < 9 → exK T q k w = ((chK T q k).2, outW w (chK T q k)) := fun l => if_pos l
  have eq' : ¬ vb T q < 9 → exK T q k w = (k, outQ w (if vb T q = 12 then 2 else 1) (quK T q k)) := fun l => if_neg l
  have h13 := h.1
  have hw3 : w.1 < 30000 := by omega
  unfold exM
  by_cases v0 : vb T q = 0
  · rw [if_pos v0, ex (by omega), show chK T q k = _ from if_pos v0]
    exact m_addK hK o hD (ag_b h v0 (by decide)) (hs (Or.inl v0)) (sh_W h (Or.inl v0)) hO hw3
  rw [if_neg v0]
  by_cases v1 : vb T q = 1
  · rw [if_pos v1, ex (by omega), show chK T q k = _ from (if_neg v0).trans (if_pos v1)]
    exact m_dropK hK o hD (ag_b h v1 (by decide)) hO hw3
  rw [if_neg v1]
  by_cases v2 : vb T q = 2
  · rw [if_pos v2, ex (by omega), show chK T q k = _ from (if_neg v0).trans ((if_neg v1).trans (if_pos v2))]
    exact m_moveK hK o hD (ag_b h v2 (by decide)) (ag_b h v2 (by decide)) (ag_b h v2 (by decide)) hO hw3
  rw [if_neg v2]
  by_cases v3 : vb T q = 3
  · rw [if_pos v3, ex (by omega), show chK T q k = _ from (if_neg v0).trans ((if_neg v1).trans ((if_neg v2).trans (if_pos v3)))]
    exact m_fillK hK o hD (h.2.2.2.2 v3) (ag_b h v3 (by decide)) (ag_b h v3 (by decide)) (ag_b h v3 (by decide)) (ag_b h v3 (by decide)) (ag_b h v3 (by decide)) hO hw3
  rw [if_neg v3]
  by_cases v9 : vb T q = 9
  · rw [if_pos v9, eq' (by omega), if_neg (show ¬ vb T q = 12 by omega), show quK T q k = _ from if_pos v9]
    exact m_findQ hK o (hs (Or.inr v9)) (sh_W h (Or.inr v9)) (h.2.2.2.1 (Or.inl v9)) hO hw
  rw [if_neg v9]
  by_cases v10 : vb T q = 10
  · rw [if_pos v10, eq' (by omega), if_neg (show ¬ vb T q = 12 by omega), show quK T q k = _ from (if_neg v9).trans (if_pos v10)]
    exact m_windowQ (P := (agu T q 0, agu T q 1)) (Q := (agu T q 2, agu T q 3)) hK o ⟨ag_b h v10 (by decide), ag_b h v10 (by decide)⟩ ⟨ag_b h v10 (by decide), ag_b h v10 (by decide)⟩ hO hw
  rw [if_neg v10]
  by_cases v11 : vb T q = 11
  · rw [if_pos v11, eq' (by omega), if_neg (show ¬ vb T q = 12 by omega), show quK T q k = _ from (if_neg v9).trans ((if_neg v10).trans (if_pos v11))]
    exact m_nearQ (p := (agu T q 1, agu T q 2)) hK o R (ag_b h v11 (by decide)) ⟨ag_b h v11 (by decide), ag_b h v11 (by decide)⟩ hO hw
  rw [if_neg v11]
  by_cases v12 : vb T q = 12
  · rw [if_pos v12, eq' (by omega), if_pos v12, show quK T q k = _ from (if_neg v9).trans ((if_neg v10).trans (if_neg v11))]
    exact m_joinQ hK o (h.2.2.2.1 (Or.inr v12)) (ag_b h v12 (by decide)) (ag_b h v12 (by decide)) (ag_b h v12 (by decide)) (ag_b h v12 (by decide)) hO hw
  rw [if_neg v12, ex (by omega), show chK T q k = _ from (if_neg v0).trans ((if_neg v1).trans ((if_neg v2).trans (if_neg v3)))]
  exact m_plain hK o hD (by omega) hO hw3
def refP (b _ : Nat) : Prop := 233 ≤ b ∧ b < 2476
set_option maxHeartbeats 200000 in
theorem Fm.k {σ σ' : xσ} (f : Fm PXm σ σ') : Fk refP σ σ' := fun b k hb => by
  have n : ¬ PXm b k := fun y => hb (by unfold PXm at y; unfold refP; omega)
  exact ⟨f.1 b k n, f.2 b k (fun y => hb (by unfold refP; omega)) n⟩
set_option maxHeartbeats 200000 in
theorem PMd_y {b k : Nat} (h : PMd b k) : refP b k := by unfold PMd PMs PUr PU PMh at h; unfold refP; omega
def RnM (σ : xσ) (f : Option (Int32 × xσ)) (r : Nat × Kp × Ou × Int32) : Prop := ∃ σ', f = some (nI r.1, σ') ∧ Fk refP σ σ' ∧ KM σ' r.2.1 ∧ OM σ' r.2.2.1 ∧ sI σ' 233 42 = r.2.2.2 ∧ Rw74 σ' ∧ sI σ' 233 40 = 0
set_option maxHeartbeats 200000 in
theorem RnM.of {σ σ1 : xσ} {f : Option (Int32 × xσ)} {r : Nat × Kp × Ou × Int32} (F : Fk refP σ σ1) (h : RnM σ1 f r) : RnM σ f r := by
  obtain ⟨σ', t1, t2, t3⟩ := h
  exact ⟨σ', t1, F.trans t2, t3⟩
set_option maxHeartbeats 200000 in
theorem m_stop {d : Nat} {σ : xσ} {k : Kp} {w : Ou} {wr : Int32} (hK : KM σ k) (hO : OM σ w) (h42 : sI σ 233 42 = wr) (R : Rw74 σ) : RnM σ (st (wI σ 233 40 0) (fun σ102 => some (nI d, σ102))) (d, k, w, wr) := by
  rw [st]
  have F : Fk (fun b k => b = 233 ∧ k = 40) σ (wI σ 233 40 0) := Fk.wI ⟨rfl, rfl⟩
  exact ⟨_, rfl, F.mono (fun b k y => by unfold refP; omega), hK.fk F (fun j hj => by omega) (fun b j l1 l2 => by omega), hO.fk F (by omega) (fun k => by omega), by rw [(F 233 42 (by omega)).1]; exact h42, R.fk F (fun k => by omega), by rw [sI_own]⟩
set_option maxHeartbeats 200000 in
theorem m_stop2 {n d : Nat} {σ : xσ} {k : Kp} {w : Ou} {wr : Int32} (hK : KM σ k) (hO : OM σ w) (h42 : sI σ 233 42 = wr) (R : Rw74 σ) (h : ¬ sI σ 233 48 = 0 ∨ ¬ sI σ 233 33 = 0) (g : Nat) (hg : 0 < g) : RnM σ (l_X14_run_35 n g (nI d) σ) (d, k, w, wr) := by
  obtain ⟨g, rfl⟩ : ∃ x, g = x + 1 := ⟨g - 1, by omega⟩
  have s := m_stop (d := d) hK hO h42 R
  rw [l_X14_run_35]
  by_cases a : sI σ 233 45 = 0
  · rw [if_pos a]; exact s
  rw [if_neg a]
  by_cases b : sI σ 233 48 = 0
  · rw [if_pos b]
    have c : ¬ sI σ 233 33 = 0 := by rcases h with y | y; exact (y b).elim; exact y
    rw [if_neg c]; exact s
  · rw [if_neg b]; exact s
set_option maxHeartbeats 200000 in
theorem lm_run {n : Nat} {T : Tp} (ok : okTp T) : ∀ f q d σ k w, T.1 < q + f → q ≤ T.1 → 5 * d ≤ q → KM σ k → okK k → kD k = false → RSt σ T (true, q) → OM σ w → w.1 ≤ 19000 + d → Rw74 σ → ∀ g, T.1 + 2 < q + g → RnM σ (l_X14_run_35 n g (nI d) σ) (rnK T f q d k w) := by
  have t4 := ok.1
  intro f
  induction f with
  | zero => intro q d σ k w h1 h2; omega
  | succ f ih =>
    intro q d σ k w h1 h2 h3 hK o hD hR hO hw R g hg
    obtain ⟨g, rfl⟩ : ∃ x, g = x + 1 := ⟨g - 1, by omega⟩
    obtain ⟨r1, r2, r3, r4⟩ := hR
    obtain ⟨s48, s42⟩ := r3 rfl
    have e33 : sI σ 233 33 = 0 := by rw [hK.2.1.2, hD]; rfl
    rw [l_X14_run_35, rnK, r2.1]
    simp only [nIq0 (show kd T q < 2147483648 by have := kd_le T q; omega)]
    by_cases e0 : kd T q = 0
    · rw [if_pos e0, if_pos e0]; exact m_stop hK hO s42 R
    rw [if_neg e0, if_neg e0, if_pos s48, if_pos e33]
    obtain ⟨σ1, t1, t2, t3, t5⟩ := m_statement (n := n) ok h2 ⟨r1, r2, r3, r4⟩
    have K1 : KM σ1 k := hK.fk t1 (fun j hj y => by unfold PMd PMs PUr PU PMh at y; omega) (fun b j l1 l2 y => by unfold PMd PMs PUr PU PMh at y; omega)
    have O1 : OM σ1 w := hO.fk t1 (fun y => by unfold PMd PMs PUr PU PMh at y; omega) (fun k y => by unfold PMd PMs PUr PU PMh at y; omega)
    have R1 : Rw74 σ1 := R.fk t1 (fun k y => by unfold PMd PMs PUr PU PMh at y; omega)
    refine RnM.of (t1.mono (fun _ _ => PMd_y)) ?_
    by_cases e1 : (stP T q).1 = true
    · obtain ⟨u1, u2⟩ := t5 e1
      obtain ⟨b1, b2⟩ := stP_b h2
      obtain ⟨b3, b4⟩ := b2 e1
      obtain ⟨c1, c2⟩ := exK_ok (w := w) b4 o hD
      obtain ⟨σ2, v1, v2, v3, v4⟩ := m_exM (n := n) b4 K1 o hD O1 (by omega) R1 u2
      have z : ∀ j, (40 ≤ j ∧ j ≤ 43) ∨ (45 ≤ j ∧ j ≤ 55) → sI σ2 233 j = sI σ1 233 j := fun j hj => v2.1 233 j (fun y => by unfold PXm at y; omega)
      obtain ⟨p1, p2, p3, p4⟩ := t2
      obtain ⟨p48, p42⟩ := p3 e1
      have R2 := R1.m v2
      have q48 : sI σ2 233 48 = 0 := by rw [z 48 (by omega)]; exact p48
      have q42 : sI σ2 233 42 = -1 := by rw [z 42 (by omega)]; exact p42
      refine RnM.of v2.k ?_
      rw [u1, v1, bd, if_pos e1, if_pos q48, v3.2.1.2]
      by_cases e2 : kD (exK T q k w).1 = true
      · rw [if_pos e2, e2, if_neg (show ¬ bI true = 0 by decide), b_X14_run_80, st, Int32.add_zero]
        exact m_stop2 v3 v4 q42 R2 (Or.inr (by rw [v3.2.1.2, e2]; decide)) g (by omega)
      · have nd : kD (exK T q k w).1 = false := by cases e : kD (exK T q k w).1 with | true => exact (e2 e).elim | false => rfl
        rw [if_neg e2, nd, if_pos (show bI false = 0 from rfl), b_X14_run_80, st, nI_s]
        refine ih _ _ σ2 _ _ (by omega) b1 (by omega) v3 c1 nd ⟨⟨by rw [z 40 (by omega)]; exact p1.1, fun i hi => by rw [v2.1 1863 i (fun y => by unfold PXm at y; omega)]; exact p1.2 i hi⟩, ⟨by rw [z 45 (by omega)]; exact p2.1, by rw [z 46 (by omega)]; exact p2.2.1, by rw [z 41 (by omega)]; exact p2.2.2.1, fun y => by rw [z 47 (by omega)]; exact p2.2.2.2 y⟩, fun _ => ⟨q48, q42⟩, fun y => nomatch y⟩ v4 (c2 d hw) R2 g (by omega)
    · have e1' : (stP T q).1 = false := by cases e : (stP T q).1 with | true => exact (e1 e).elim | false => rfl
      obtain ⟨p1, p2, p3, p4⟩ := t2
      obtain ⟨p48, p42⟩ := p4 e1'
      rw [t3 e1', bd, if_neg e1, if_neg (by rw [p48]; decide), b_X14_run_80, st, Int32.add_zero]
      exact m_stop2 K1 O1 p42 R1 (Or.inl (by rw [p48]; decide)) g (by omega)

/-! the run of the system -/
set_option maxHeartbeats 200000 in
theorem e_chn {n : Nat} {σ : xσ} {T : Tp} {q : Nat} {k : Kp} {w : Ou} (hS : RdD n σ T q) (h : StO T q) (hK : KS n σ k) (o : okK k) (hD : kD k = false) (hA : AnS σ w an0) (R : Rw30 σ) (hw : w.1 + 1 < 20000) (K : Int32 → Nat → xσ → Option (Int32 × Nat × xσ)) (x1 : Int32) : ChR K x1 σ (chnS K x1 n σ) (exK T q k w) := by
  obtain ⟨a1, a2, a3, a4, g33⟩ := hS
  have ok := okR_ch h o hD
  have oq := okQ_qu (T := T) (q := q) o
  have ex : vb T q < 9 → exK T q k w = ((chK T q k).2, outW w (chK T q k)) := fun l => if_pos l
  have eq' : ¬ vb T q < 9 → exK T q k w = (k, outQ w (if vb T q = 12 then 2 else 1) (quK T q k)) := fun l => if_neg l
  have h13 := h.1
  have ga : ∀ {v : Nat}, vb T q = v → ∀ {i : Nat}, i < na v → sI σ 4 i = iI (agu T q i) := fun hv i hi => a1 i (by rw [hv]; exact hi)
  rcases (show vb T q = 0 ∨ vb T q = 1 ∨ vb T q = 2 ∨ vb T q = 3 ∨ vb T q = 4 ∨ vb T q = 5 ∨ vb T q = 6 ∨ vb T q = 7 ∨ vb T q = 8 ∨ vb T q = 9 ∨ vb T q = 10 ∨ vb T q = 11 ∨ vb T q = 12 by omega) with hv | hv | hv | hv | hv | hv | hv | hv | hv | hv | hv | hv | hv
  · obtain ⟨n', σ1, t1, t2, t3⟩ := e_add (n := n) hK o hD (ag_b h hv (i := 0) (by decide)) (ga hv (by decide)) (a2 (Or.inl hv)) (sh_W h (Or.inl hv))
    have hc : chK T q k = addK k (agu T q 0) (40 < shP (shq T (spq T q)).2.2 ∨ 8 < shR (shq T (spq T q)).2.2) (knd T (spq T q), (shq T (spq T q)).2.2) := by unfold chK; rw [if_pos hv]
    rw [hc] at ok
    rw [chnS, g33, hv, if_pos (by decide), t1, bn, ex (by omega), hc]
    exact ChR_c (v := 0) (by omega) (by rw [g33, hv]) hA.1 (by omega) ok t2 t3
  · obtain ⟨σ1, t1, t2, t3⟩ := e_drop (n := n) hK o hD (ag_b h hv (i := 0) (by decide)) (ga hv (by decide))
    have hc : chK T q k = dropK k (agu T q 0) := by unfold chK; rw [if_neg (by omega), if_pos hv]
    rw [hc] at ok
    rw [chnS, g33, hv, if_neg (by decide), if_pos (by decide), t1, bd, ex (by omega), hc]
    exact ChR_c (v := 1) (by omega) (by rw [g33, hv]) hA.1 (by omega) ok t2 t3
  · obtain ⟨n', σ1, t1, t2, t3⟩ := e_move (n := n) hK o hD (ag_b h hv (i := 0) (by decide)) (ag_b h hv (i := 1) (by decide)) (ag_b h hv (i := 2) (by decide)) (ga hv (by decide)) (ga hv (by decide)) (ga hv (by decide))
    have hc : chK T q k = moveK k (agu T q 0) (agu T q 1) (agu T q 2) := by unfold chK; rw [if_neg (by omega), if_neg (by omega), if_pos hv]
    rw [hc] at ok
    rw [chnS, g33, hv, if_neg (by decide), if_neg (by decide), if_pos (by decide), t1, bn, ex (by omega), hc]
    exact ChR_c (v := 2) (by omega) (by rw [g33, hv]) hA.1 (by omega) ok t2 t3
  · obtain ⟨n', σ1, t1, t2, t3⟩ := e_fill (n := n) hK o hD (h.2.2.2.2 hv) (A := agu T q) (fun i hi => ⟨ag_b h hv (by show i < 6; exact hi), ga hv (by show i < 6; exact hi)⟩) (a4 hv)
    have hc : chK T q k = fillK k (agu T q 0) (agu T q 1) (fkq T q) (agu T q 2) (agu T q 3) (agu T q 4) (iI (agu T q 5)) := by unfold chK; rw [if_neg (by omega), if_neg (by omega), if_neg (by omega), if_pos hv]
    rw [hc] at ok
    rw [chnS, g33, hv, if_neg (by decide), if_neg (by decide), if_neg (by decide), if_pos (by decide), t1, bn, ex (by omega), hc]
    exact ChR_c (v := 3) (by omega) (by rw [g33, hv]) hA.1 (by omega) ok (t2.mono (fun _ _ y => Or.inl y)) t3
  · obtain ⟨σ1, t1, t2, t3⟩ := e_turn (n := n) hK o hD (v := 4) (by omega)
    have hc : chK T q k = trK k 4 := by unfold chK; rw [if_neg (by omega), if_neg (by omega), if_neg (by omega), if_neg (by omega), hv]
    rw [hc] at ok
    rw [chnS, g33, hv, if_neg (by decide), if_neg (by decide), if_neg (by decide), if_neg (by decide), if_pos (by decide), t1, bd, ex (by omega), hc]
    exact ChR_c (v := 4) (by omega) (by rw [g33, hv]) hA.1 (by omega) ok (t2.mono (fun _ _ y => Or.inl y)) t3
  · obtain ⟨σ1, t1, t2, t3⟩ := e_turn (n := n) hK o hD (v := 5) (by omega)
    have hc : chK T q k = trK k 5 := by unfold chK; rw [if_neg (by omega), if_neg (by omega), if_neg (by omega), if_neg (by omega), hv]
    rw [hc] at ok
    rw [chnS, g33, hv, if_neg (by decide), if_neg (by decide), if_neg (by decide), if_neg (by decide), if_neg (by decide), if_pos (by decide), t1, bd, ex (by omega), hc]
    exact ChR_c (v := 5) (by omega) (by rw [g33, hv]) hA.1 (by omega) ok (t2.mono (fun _ _ y => Or.inl y)) t3
  · obtain ⟨σ1, t1, t2, t3⟩ := e_turn (n := n) hK o hD (v := 6) (by omega)
    have hc : chK T q k = trK k 6 := by unfold chK; rw [if_neg (by omega), if_neg (by omega), if_neg (by omega), if_neg (by omega), hv]
    rw [hc] at ok
    rw [chnS, g33, hv, if_neg (by decide), if_neg (by decide), if_neg (by decide), if_neg (by decide), if_neg (by decide), if_neg (by decide), if_pos (by decide), t1, bd, ex (by omega), hc]
    exact ChR_c (v := 6) (by omega) (by rw [g33, hv]) hA.1 (by omega) ok (t2.mono (fun _ _ y => Or.inl y)) t3
  · obtain ⟨σ1, t1, t2, t3⟩ := e_turn (n := n) hK o hD (v := 7) (by omega)
    have hc : chK T q k = trK k 7 := by unfold chK; rw [if_neg (by omega), if_neg (by omega), if_neg (by omega), if_neg (by omega), hv]
    rw [hc] at ok
    rw [chnS, g33, hv, if_neg (by decide), if_neg (by decide), if_neg (by decide), if_neg (by decide), if_neg (by decide), if_neg (by decide), if_neg (by decide), if_pos (by decide), t1, bd, ex (by omega), hc]
    exact ChR_c (v := 7) (by omega) (by rw [g33, hv]) hA.1 (by omega) ok (t2.mono (fun _ _ y => Or.inl y)) t3
  · obtain ⟨σ1, t1, t2, t3⟩ := e_turn (n := n) hK o hD (v := 8) (by omega)
    have hc : chK T q k = trK k 8 := by unfold chK; rw [if_neg (by omega), if_neg (by omega), if_neg (by omega), if_neg (by omega), hv]
    rw [hc] at ok
    rw [chnS, g33, hv, if_neg (by decide), if_neg (by decide), if_neg (by decide), if_neg (by decide), if_neg (by decide), if_neg (by decide), if_neg (by decide), if_neg (by decide), if_pos (by decide), t1, bd, ex (by omega), hc]
    exact ChR_c (v := 8) (by omega) (by rw [g33, hv]) hA.1 (by omega) ok (t2.mono (fun _ _ y => Or.inl y)) t3
  · obtain ⟨σ1, t1, t2, t3⟩ := e_find (n := n) hK o (a2 (Or.inr hv)) (sh_W h (Or.inr hv)) (h.2.2.2.1 (Or.inl hv)) (a3 (Or.inl hv)) (by omega) hA
    have hc : quK T q k = findA k (40 < shP (shq T (spq T q)).2.2 ∨ 8 < shR (shq T (spq T q)).2.2) (knd T (spq T q), (shq T (spq T q)).2.2) (rlq T q) := by unfold quK; rw [if_pos hv]
    rw [hc] at oq
    rw [chnS, g33, hv, if_neg (by decide), if_neg (by decide), if_neg (by decide), if_neg (by decide), if_neg (by decide), if_neg (by decide), if_neg (by decide), if_neg (by decide), if_neg (by decide), if_pos (by decide), t1, bd, eq' (by omega), hc, hv]
    exact ChR_q (v := 9) (by omega) (by rw [g33, hv]) hw oq hK hD (t2.mono (fun _ _ => PQs_n)) t3
  · obtain ⟨σ1, t1, t2, t3⟩ := e_window (n := n) hK o (P := (agu T q 0, agu T q 1)) (Q := (agu T q 2, agu T q 3)) ⟨ag_b h hv (by decide), ag_b h hv (by decide)⟩ ⟨ag_b h hv (by decide), ag_b h hv (by decide)⟩ (ga hv (by decide)) (ga hv (by decide)) (ga hv (by decide)) (ga hv (by decide)) (by omega) hA
    have hc : quK T q k = winA k (agu T q 0, agu T q 1) (agu T q 2, agu T q 3) := by unfold quK; rw [if_neg (by omega), if_pos hv]
    rw [hc] at oq
    rw [chnS, g33, hv, if_neg (by decide), if_neg (by decide), if_neg (by decide), if_neg (by decide), if_neg (by decide), if_neg (by decide), if_neg (by decide), if_neg (by decide), if_neg (by decide), if_neg (by decide), if_pos (by decide), t1, bd, eq' (by omega), hc, hv]
    exact ChR_q (v := 10) (by omega) (by rw [g33, hv]) hw oq hK hD (t2.mono (fun _ _ => PQs_n)) t3
  · obtain ⟨σ1, t1, t2, t3⟩ := e_near (n := n) hK o R (K := agu T q 0) (p := (agu T q 1, agu T q 2)) (ag_b h hv (by decide)) ⟨ag_b h hv (by decide), ag_b h hv (by decide)⟩ (ga hv (by decide)) (ga hv (by decide)) (ga hv (by decide)) (by omega) hA
    have hc : quK T q k = nearA k (agu T q 0) (agu T q 1, agu T q 2) := by unfold quK; rw [if_neg (by omega), if_neg (by omega), if_pos hv]
    rw [hc] at oq
    rw [chnS, g33, hv, if_neg (by decide), if_neg (by decide), if_neg (by decide), if_neg (by decide), if_neg (by decide), if_neg (by decide), if_neg (by decide), if_neg (by decide), if_neg (by decide), if_neg (by decide), if_neg (by decide), if_pos (by decide), t1, bd, eq' (by omega), hc, hv]
    exact ChR_q (v := 11) (by omega) (by rw [g33, hv]) hw oq hK hD t2 t3
  · obtain ⟨σ1, t1, t2, t3⟩ := e_join (n := n) hK o (h.2.2.2.1 (Or.inr hv)) (a3 (Or.inr hv)) (A := agu T q) (fun i hi => ⟨ag_b h hv (by show i < 4; exact hi), ga hv (by show i < 4; exact hi)⟩) (by omega) hA
    have hc : quK T q k = joinA k (rlq T q) (agu T q 0) (agu T q 1) (agu T q 2) (agu T q 3) := by unfold quK; rw [if_neg (by omega), if_neg (by omega), if_neg (by omega)]
    rw [hc] at oq
    rw [chnS, g33, hv, if_neg (by decide), if_neg (by decide), if_neg (by decide), if_neg (by decide), if_neg (by decide), if_neg (by decide), if_neg (by decide), if_neg (by decide), if_neg (by decide), if_neg (by decide), if_neg (by decide), if_neg (by decide), if_pos (by decide), t1, bd, eq' (by omega), hc, hv]
    exact ChR_q (v := 12) (by omega) (by rw [g33, hv]) hw oq hK hD (t2.mono (fun _ _ => PQs_n)) t3
/-- the run: a state (done, keeper, outputs, wrong) -/
noncomputable def rnK (T : Tp) : Nat → Nat → Nat → Kp → Ou → Nat × Kp × Ou × Int32
  | 0, _, d, k, w => (d, k, w, -1)
  | f + 1, q, d, k, w => if kd T q = 0 then (d, k, w, -1) else if (stP T q).1 = true then (if kD (exK T q k w).1 = true then (d, (exK T q k w).1, (exK T q k w).2, -1) else rnK T f (stP T q).2 (d + 1) (exK T q k w).1 (exK T q k w).2) else (d, k, w, nI (fs T (stP T q).2))
set_option maxHeartbeats 200000 in
theorem rnK_ok {T : Tp} : ∀ f q d k w, T.1 < q + f → q ≤ T.1 → 5 * d ≤ q → okK k → kD k = false → w.1 ≤ 19000 + d → okK (rnK T f q d k w).2.1 ∧ 5 * (rnK T f q d k w).2.2.1.1 ≤ 95005 + T.1 := by
  intro f
  induction f with
  | zero => intro q d k w h1 h2; omega
  | succ f ih =>
    intro q d k w h1 h2 h3 o hD hw
    rw [rnK]
    by_cases e0 : kd T q = 0
    · rw [if_pos e0]; exact ⟨o, by show 5 * w.1 ≤ _; omega⟩
    rw [if_neg e0]
    by_cases e1 : (stP T q).1 = true
    · rw [if_pos e1]
      obtain ⟨b1, b2⟩ := stP_b h2
      obtain ⟨b3, b4⟩ := b2 e1
      obtain ⟨c1, c2⟩ := exK_ok (w := w) b4 o hD
      by_cases e2 : kD (exK T q k w).1 = true
      · rw [if_pos e2]; exact ⟨c1, by have := c2 d hw; show 5 * (exK T q k w).2.1 ≤ _; omega⟩
      · rw [if_neg e2]; exact ih _ _ _ _ (by omega) b1 (by omega) c1 (by cases e : kD (exK T q k w).1 with | true => exact (e2 e).elim | false => rfl) (c2 d hw)
    · rw [if_neg e1]; exact ⟨o, by show 5 * w.1 ≤ _; omega⟩
def sysP (b _ : Nat) : Prop := b < 233 ∨ 2476 ≤ b
set_option maxHeartbeats 200000 in
theorem PSx_y {b k : Nat} (h : PSx b k) : sysP b k := by unfold PSx at h; unfold sysP; omega
set_option maxHeartbeats 200000 in
theorem PRd_y {b k : Nat} (h : PRd b k) : sysP b k := by unfold PRd PT at h; unfold sysP; omega
set_option maxHeartbeats 200000 in
theorem PRd_o {b k : Nat} (h : PRd b k) : outK b := by unfold PRd PT at h; unfold outK; omega
set_option maxHeartbeats 200000 in
theorem Rw30.fk {σ σ' : xσ} {P : Nat → Nat → Prop} (h : Rw30 σ) (f : Fk P σ σ') (hP : ∀ k, ¬ P 30 k) : Rw30 σ' := fun i hi => by rw [(f 30 i (hP i)).2.2]; exact h i hi
set_option maxHeartbeats 200000 in
theorem TpS.fk {σ σ' : xσ} {T : Tp} {P : Nat → Nat → Prop} (h : TpS σ T) (f : Fk P σ σ') (h1 : ∀ k, ¬ P 1 k) (h2 : ∀ k, ¬ P 2 k) : TpS σ' T := ⟨by rw [(f 1 1 (h1 1)).1]; exact h.1, fun i hi => by rw [(f 2 i (h2 i)).1]; exact h.2 i hi⟩
set_option maxHeartbeats 200000 in
theorem TS.fk {σ σ' : xσ} {T : Tp} {q : Nat} {P : Nat → Nat → Prop} (h : TS σ T q) (f : Fk P σ σ') (h1 : ∀ k, ¬ P 1 k) : TS σ' T q := ⟨by rw [(f 1 2 (h1 2)).1]; exact h.1, by rw [(f 1 3 (h1 3)).1]; exact h.2.1, by rw [(f 1 4 (h1 4)).1]; exact h.2.2.1, fun y => by rw [(f 1 5 (h1 5)).1]; exact h.2.2.2 y⟩
set_option maxHeartbeats 200000 in
theorem KS.o {n : Nat} {σ : xσ} {k : Kp} (h : KS n σ k) {b j : Nat} {v : Int32} (hb : outK b) : KS n (wI σ b j v) k := h.fk (P := fun b' _ => b' = b) (Fk.wI rfl) (fun b' _ y => by rw [y]; exact hb)
def RnS (σ : xσ) (f : Option (Int32 × Nat × xσ)) (r : Nat × Kp × Ou × Int32) : Prop := ∃ n' σ', f = some (nI r.1, n', σ') ∧ Fk sysP σ σ' ∧ KS n' σ' r.2.1 ∧ OS σ' r.2.2.1 ∧ sI σ' 0 10 = r.2.2.2 ∧ Rw30 σ' ∧ sI σ' 1 1 = 0
set_option maxHeartbeats 200000 in
theorem RnS.of {σ σ1 : xσ} {f : Option (Int32 × Nat × xσ)} {r : Nat × Kp × Ou × Int32} (F : Fk sysP σ σ1) (h : RnS σ1 f r) : RnS σ f r := by
  obtain ⟨n', σ', t1, t2, t3⟩ := h
  exact ⟨n', σ', t1, F.trans t2, t3⟩
set_option maxHeartbeats 200000 in
theorem e_stop {n d : Nat} {σ : xσ} {k : Kp} {w : Ou} {wr : Int32} (hK : KS n σ k) (hO : OS σ w) (h10 : sI σ 0 10 = wr) (R : Rw30 σ) : RnS σ (bd (f_X9_clear n σ) (fun v101 σ102 => some (nI d, n, σ102))) (d, k, w, wr) := by
  rw [f_X9_clear, st, bd]
  have F : Fk (fun b k => b = 1 ∧ k = 1) σ (wI σ 1 1 0) := Fk.wI ⟨rfl, rfl⟩
  exact ⟨n, _, rfl, F.mono (fun b k y => by unfold sysP; omega), hK.fk F (fun b k y => by unfold outK; omega), hO.fk F (by omega) (fun k => by omega), by rw [(F 0 10 (by omega)).1]; exact h10, R.fk F (fun k => by omega), by rw [sI_own]⟩
set_option maxHeartbeats 200000 in
theorem l_run {T : Tp} (ok : okTp T) : ∀ f q d n σ k w, T.1 < q + f → q ≤ T.1 → 5 * d ≤ q → KS n σ k → okK k → kD k = false → TpS σ T → TS σ T q → OS σ w → w.1 ≤ 19000 + d → sI σ 0 10 = -1 → Rw30 σ → ∀ g, T.1 + 1 < q + g → RnS σ (l_X10_run_31 g (nI d) n σ) (rnK T f q d k w) := by
  have t4 := ok.1
  intro f
  induction f with
  | zero => intro q d n σ k w h1 h2; omega
  | succ f ih =>
    intro q d n σ k w h1 h2 h3 hK o hD hT hS hO hw h10 R g hg
    obtain ⟨g, rfl⟩ : ∃ x, g = x + 1 := ⟨g - 1, by omega⟩
    rw [l_X10_run_31, rnK, if_neg (show ¬ (4000 : Int32) ≤ nI d from fun y => by have := (nIg4000 (show d < 2147483648 by omega)).mp y; omega), hS.1]
    simp only [nIq0 (show kd T q < 2147483648 by have := kd_le T q; omega)]
    by_cases e0 : kd T q = 0
    · rw [if_pos e0, if_pos e0]; exact e_stop hK hO h10 R
    rw [if_neg e0, if_neg e0]
    obtain ⟨σ1, t1, t2, t3, t5, t6⟩ := e_readStatement (n := n) hK.n.1 ok h2 hT hS
    have F1 : Fk sysP σ σ1 := t2.mono (fun _ _ => PRd_y)
    have K1 : KS n σ1 k := hK.fk t2 (fun _ _ => PRd_o)
    have O1 : OS σ1 w := hO.fk t2 (fun y => by unfold PRd PT at y; omega) (fun k y => by unfold PRd PT at y; omega)
    have R1 : Rw30 σ1 := R.fk t2 (fun k y => by unfold PRd PT at y; omega)
    have e10 : sI σ1 0 10 = -1 := by rw [(t2 0 10 (fun y => by unfold PRd PT at y; omega)).1]; exact h10
    refine RnS.of F1 ?_
    rw [t1, bd]
    by_cases e1 : (stP T q).1 = true
    · rw [if_pos e1, e1, if_neg (show ¬ bI true = 0 by decide), st]
      obtain ⟨b1, b2⟩ := stP_b h2
      obtain ⟨b3, b4⟩ := b2 e1
      obtain ⟨c1, c2⟩ := exK_ok (w := w) b4 o hD
      have F2 : Fk (fun b k => b = 0 ∧ k = 9) σ1 (wI σ1 0 9 0) := Fk.wI ⟨rfl, rfl⟩
      have D2 : RdD n (wI σ1 0 9 0) T q := by
        obtain ⟨d1, d2, d3, d4, d5⟩ := t6 e1
        exact ⟨fun i hi => by rw [(F2 4 i (by omega)).1]; exact d1 i hi, fun y => (d2 y).fr F2 (fun j k hj y => by omega), fun y => by rw [(F2 3 4 (by omega)).1]; exact d3 y, fun y => by rw [(F2 3 5 (by omega)).1]; exact d4 y, by rw [(F2 3 3 (by omega)).1]; exact d5⟩
      have A2 : AnS (wI σ1 0 9 0) w an0 := ⟨O1.fk F2 (by omega) (fun k => by omega), by rw [sI_own]; rfl, fun j hj => absurd hj (by show ¬ j < 0; omega)⟩
      have c := e_chn (n := n) D2 b4 (K1.fk F2 (fun b k y => by unfold outK; omega)) o hD A2 (R1.fk F2 (fun k => by omega)) (by omega) (l_X10_run_31 g) (nI d)
      obtain ⟨n', σ3, u1, u2, u3, u4⟩ := c
      refine RnS.of (F2.mono (fun b k y => by unfold sysP; omega)) (RnS.of (u2.mono (fun _ _ => PSx_y)) ?_)
      have u1' := u1
      unfold chnS at u1'
      have G := F2.mono (Q := fun b k => (b = 0 ∧ k = 9) ∨ PSx b k) (fun b k y => Or.inl y)
      have G2 := u2.mono (Q := fun b k => (b = 0 ∧ k = 9) ∨ PSx b k) (fun b k y => Or.inr y)
      have F3 := G.trans G2
      have x10 : sI σ3 0 10 = -1 := by rw [(F3 0 10 (fun y => by unfold PSx at y; omega)).1]; exact e10
      have x30 : Rw30 σ3 := R1.fk F3 (fun k y => by unfold PSx at y; omega)
      refine Eq.mpr (congrArg (fun z => RnS σ3 z _) u1') ?_
      by_cases e2 : kD (exK T q k w).1 = true
      · rw [if_pos e2, if_pos e2, b_X10_run_254]; exact e_stop u3 u4 x10 x30
      · have nd : kD (exK T q k w).1 = false := by cases e : kD (exK T q k w).1 with | true => exact (e2 e).elim | false => rfl
        rw [if_neg e2, if_neg e2, nI_s]
        exact ih _ _ n' σ3 _ _ (by omega) b1 (by omega) u3 c1 nd (t3.fk F3 (fun k y => by unfold PSx at y; omega) (fun k y => by unfold PSx at y; omega)) (t5.fk F3 (fun k y => by unfold PSx at y; omega)) u4 (c2 d hw) x10 x30 g (by omega)
    · have e1' : (stP T q).1 = false := by cases e : (stP T q).1 with | true => exact (e1 e).elim | false => rfl
      rw [if_neg e1, e1', if_pos (show bI false = 0 from rfl), t5.2.1, st, b_X10_run_254]
      have F2 : ∀ v, Fk (fun b k => b = 0 ∧ k = 10) σ1 (wI σ1 0 10 v) := fun v => Fk.wI ⟨rfl, rfl⟩
      exact RnS.of ((F2 _).mono (fun b k y => by unfold sysP; omega)) (e_stop (K1.fk (F2 _) (fun b k y => by unfold outK; omega)) (O1.fk (F2 _) (by omega) (fun k => by omega)) (by rw [sI_own]) (R1.fk (F2 _) (fun k => by omega)))

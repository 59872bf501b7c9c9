/-! the reference reads a statement -/
noncomputable def shT (T : Tp) (r : Bool × Nat) : Bool × Nat := if r.1 = true then ((shq T r.2).1, (shq T r.2).2.1) else r
set_option maxHeartbeats 200000 in
theorem ex_rg (T : Tp) (r : Bool × Nat × Sh) : exS T 41 (r.1, r.2.1) = ((rngE T r).1, (rngE T r).2.1) := by
  unfold exS rngE
  by_cases k : r.1 = true
  · simp only [k, if_true]
    by_cases y : sgq T r.2.1 41
    · rw [ifP_t y, ifP_t y]
    · rw [ifP_f y, ifP_f y]
  · simp only [if_neg k]
set_option maxHeartbeats 200000 in
theorem pnt_e (T : Tp) (q : Nat) (s : Sh) : pnt T q s = rngE T (plR T ((exS T 40 (true, q)).1, (exS T 40 (true, q)).2, s)) := by
  unfold pnt exS
  simp only [if_true]
  by_cases c : sgq T q 40
  · rw [ifP_t c, ifP_t c]
    unfold plR
    simp only [if_true]
    by_cases k1 : kd T (nx T q) = 2
    · rw [ifP_t k1, ifP_t k1]
      by_cases k2 : kd T (nx T (nx T q)) = 2
      · rw [ifP_t k2, ifP_t k2]
      · rw [ifP_f k2, ifP_f k2]; unfold rngE; rw [if_neg (fun y => nomatch y)]
    · rw [ifP_f k1, ifP_f k1]; unfold rngE; rw [if_neg (fun y => nomatch y)]
  · rw [ifP_f c, ifP_f c]
    unfold plR rngE
    rw [if_neg (fun y => nomatch y), if_neg (fun y => nomatch y)]
def ShN (σ : xσ) (kn : Nat) (s : Sh) : Prop := ShM σ 1865 kn s ∧ sI σ 233 50 = nI (shP s) ∧ sI σ 233 51 = nI (shR s) ∧ shP s ≤ 9000 ∧ shR s ≤ 9000
set_option maxHeartbeats 200000 in
theorem RSh.n {σ : xσ} {T : Tp} {kn B : Nat} (hB : B ≤ 9000) {r : Bool × Nat × Sh} (h : RSh σ T kn B r) (k : r.1 = true) : ShN σ kn r.2.2 := by
  obtain ⟨a, s, b, c, d, e, f, g⟩ := h
  have e1 := (b k).1
  subst e1
  exact ⟨c, d, e, by omega, by omega⟩
set_option maxHeartbeats 200000 in
theorem m_b78 {n : Nat} {σ : xσ} {T : Tp} (ok : okTp T) {q kn : Nat} (hq : nx T q ≤ T.1) (hq0 : q ≤ T.1) (h : RSt σ T (true, q)) (h50 : sI σ 233 50 = 0) (h51 : sI σ 233 51 = 0) (hk : kn < 3) : ∃ σ', b_X14_readShape_78 n (tf (kn = 0)) (tf (kn = 1)) (nI kn) σ = some ((), σ') ∧ Fk PMs σ σ' ∧ RSt σ' T ((if kn = 0 then pnt T (nx T q) sh0 else if kn = 1 then rg1 T (nx T q) sh0 else pol T (nx T q) sh0).1, (if kn = 0 then pnt T (nx T q) sh0 else if kn = 1 then rg1 T (nx T q) sh0 else pol T (nx T q) sh0).2.1) ∧ ((if kn = 0 then pnt T (nx T q) sh0 else if kn = 1 then rg1 T (nx T q) sh0 else pol T (nx T q) sh0).1 = true → ShN σ' kn (if kn = 0 then pnt T (nx T q) sh0 else if kn = 1 then rg1 T (nx T q) sh0 else pol T (nx T q) sh0).2.2) := by
  have h4 := ok.1
  obtain ⟨σ1, t1, t2, t3⟩ := m_beg (n := n) (σ := σ) (a := 1865) (by decide) kn (shV sh0) (shE sh0)
  have t3' : ShM σ1 1865 kn sh0 := t3
  obtain ⟨σ2, u1, u2, u3⟩ := RSt_nx (n := n) ok hq0 (h.h t2)
  rw [b_X14_readShape_78, t1, bd, u1, bd]
  have z : ∀ k, k = 50 ∨ k = 51 → sI σ2 233 k = sI σ 233 k := fun k hk => by rw [(u2 233 k (fun y => by unfold PU at y; omega)).1, (t2 233 k (fun y => by unfold PMh at y; omega)).1]
  have R : RSh σ2 T kn 0 (true, nx T q, sh0) := ⟨u3, sh0, fun _ => ⟨rfl, Nat.zero_le _, Nat.zero_le _⟩, t3'.u u2 (fun b k y => y.1), by rw [z 50 (by omega), h50]; rfl, by rw [z 51 (by omega), h51]; rfl, Nat.le_refl _, Nat.le_refl _⟩
  have F : Fk PMs σ σ2 := (t2.mono (fun _ _ => PH_M)).trans (u2.mono (fun _ _ y => PU_M (PU_r y)))
  by_cases k0 : kn = 0
  · rw [if_neg (fun y => (tf_0.mp y) k0), if_pos k0]
    obtain ⟨σ3, v1, v2, v3⟩ := R.ex (n := n) ok hq (c := 40) (by omega)
    have eb := exS_b (T := T) (c := 40) (r := (true, nx T q)) hq
    obtain ⟨σ4, w1, w2, w3⟩ := m_readPlace (n := n) ok (by omega) (r := ((exS T 40 (true, nx T q)).1, (exS T 40 (true, nx T q)).2, sh0)) eb.1 v3
    have pb := plR_b (T := T) (r := ((exS T 40 (true, nx T q)).1, (exS T 40 (true, nx T q)).2, sh0)) eb.1
    have e51 : sI σ4 233 51 = 0 := by rw [(w2 233 51 (fun y => by unfold PMp PUr PU PMh at y; omega)).1, (v2 233 51 (fun y => by unfold PUr PU at y; omega)).1, z 51 (by omega), h51]
    obtain ⟨a, s, b, c, d, e, f, g⟩ := w3
    have r0 : shR s = 0 := by rw [e51] at e; exact ((nIq0 (show shR s < 2147483648 by omega)).mp e.symm)
    obtain ⟨σ5, x1, x2, x3⟩ := m_expect (n := n) ok (r := ((plR T ((exS T 40 (true, nx T q)).1, (exS T 40 (true, nx T q)).2, sh0)).1, (plR T ((exS T 40 (true, nx T q)).1, (exS T 40 (true, nx T q)).2, sh0)).2.1)) pb.1 a (c := 41) (by omega)
    obtain ⟨σ6, y1, y2, y3⟩ := m_endR (n := n) (c.u x2 (fun _ _ => PUr_233)) (by omega)
    rw [show (40 : Int32) = iI 40 from rfl, v1, bd, w1, bd, show (41 : Int32) = iI 41 from rfl, x1, bd, y1, bd, st]
    rw [ex_rg, ← pnt_e] at x3
    have f7 : Fk (fun b k => b = 233 ∧ k = 51) σ6 (wI σ6 233 51 1) := Fk.wI ⟨rfl, rfl⟩
    refine ⟨_, rfl, ((((F.trans (v2.mono (fun _ _ => PU_M))).trans (w2.mono (fun _ _ => PP_M))).trans (x2.mono (fun _ _ => PU_M))).trans (y2.mono (fun _ _ => PH_M))).trans (f7.mono (fun b k y => Or.inr (Or.inl ⟨y.1, Or.inr y.2⟩))), (x3.h y2).c (Or.inr rfl), fun y => ?_⟩
    have y' : (rngE T (plR T ((exS T 40 (true, nx T q)).1, (exS T 40 (true, nx T q)).2, sh0))).1 = true := by rw [← pnt_e]; exact y
    have k1 : (plR T ((exS T 40 (true, nx T q)).1, (exS T 40 (true, nx T q)).2, sh0)).1 = true := by
      refine Classical.byContradiction (fun nk => nk ?_)
      unfold rngE at y'
      rw [if_neg nk] at y'; exact y'
    have es := (b k1).1
    have e2 : (pnt T (nx T q) sh0).2.2 = clR s := by
      rw [pnt_e, es]
      unfold rngE
      rw [if_pos k1]
      by_cases cc : sgq T (plR T ((exS T 40 (true, nx T q)).1, (exS T 40 (true, nx T q)).2, sh0)).2.1 41
      · rw [ifP_t cc]
      · rw [ifP_f cc]
    rw [e2]
    refine ⟨y3.u f7 (fun b k y => y.1), ?_, ?_, ?_, ?_⟩
    · rw [sI_wI, if_neg (by omega), (y2 233 50 (fun y => by unfold PMh at y; omega)).1, (x2 233 50 (fun y => by unfold PUr PU at y; omega)).1]; exact d
    · rw [sI_own]; show (1 : Int32) = nI (shR s + 1); rw [r0]; rfl
    · show shP s ≤ _; omega
    · show shR s + 1 ≤ _; omega
  · rw [if_pos (tf_f k0), if_neg k0]
    by_cases k1 : kn = 1
    · obtain ⟨σ3, v1, v2, v3⟩ := m_row (n := n) ok (by omega) (r := (true, nx T q, sh0)) hq R
      have e1 : rowS T (true, nx T q, sh0) = rg1 T (nx T q) sh0 := if_pos rfl
      rw [e1] at v3
      rw [if_neg (fun y => (tf_0.mp y) k1), if_pos k1, v1, bd]
      exact ⟨σ3, rfl, F.trans v2, v3.1, fun y => v3.n (by omega) y⟩
    · rw [if_pos (tf_f k1), if_neg k1]
      obtain ⟨σ3, v1, v2, v3⟩ := R.ex (n := n) ok hq (c := 40) (by omega)
      have eb := exS_b (T := T) (c := 40) (r := (true, nx T q)) hq
      obtain ⟨σ4, w1, w2, w3⟩ := m_row (n := n) ok (by omega) (r := ((exS T 40 (true, nx T q)).1, (exS T 40 (true, nx T q)).2, sh0)) eb.1 v3
      have pb : (rowS T ((exS T 40 (true, nx T q)).1, (exS T 40 (true, nx T q)).2, sh0)).2.1 ≤ T.1 ∧ ((rowS T ((exS T 40 (true, nx T q)).1, (exS T 40 (true, nx T q)).2, sh0)).1 = true → Cld (rowS T ((exS T 40 (true, nx T q)).1, (exS T 40 (true, nx T q)).2, sh0)).2.2) := by
        unfold rowS
        by_cases k : (exS T 40 (true, nx T q)).1 = true
        · rw [if_pos k]
          obtain ⟨a1, _, _, a4⟩ := rg1_b eb.1 Cl_0
          exact ⟨a1, fun y => (a4 y).1⟩
        · rw [if_neg k]; exact ⟨eb.1, fun y => (k y).elim⟩
      obtain ⟨σ5, x1, x2, x3⟩ := l_rows (n := n) ok (kn := kn) 4001 xFU σ4 _ _ (by have := pb.1; omega) (xFU_lt (by have := pb.1; omega)) (by omega) pb.1 pb.2 w3
      have e : plE T (rsQ T 4001 (rowS T ((exS T 40 (true, nx T q)).1, (exS T 40 (true, nx T q)).2, sh0))) = pol T (nx T q) sh0 := by
        unfold pol exS
        simp only [if_true]
        by_cases c : sgq T (nx T q) 40
        · have n1 := sgq_nx hq c
          rw [ifP_t c, ifP_t c]
          unfold rowS
          rw [if_pos rfl, ← rgs_Q, rgs_f 4001 _ _ n1.2 Cl_0 (by omega)]
        · rw [ifP_f c, ifP_f c]
          unfold rowS rsQ plE
          rw [if_neg (fun y => nomatch y), if_neg (fun y => nomatch y), if_neg (fun y => nomatch y)]
      rw [e] at x3
      rw [show (40 : Int32) = iI 40 from rfl, v1, bd, w1, bd, x1]
      exact ⟨σ5, rfl, ((F.trans (v2.mono (fun _ _ => PU_M))).trans w2).trans x2, x3.1, fun y => x3.n (by omega) y⟩
set_option maxHeartbeats 200000 in
theorem knd_5 {T : Tp} {q : Nat} (h : wq T q 5) : knd T q = 0 := by unfold knd W1 ixW; rw [ifP_t h]
set_option maxHeartbeats 200000 in
theorem knd_6 {T : Tp} {q : Nat} (h5 : ¬ wq T q 5) (h : wq T q 6) : knd T q = 1 := by unfold knd W1 ixW; rw [ifP_f h5, ixW, ifP_t h]
set_option maxHeartbeats 200000 in
theorem knd_7 {T : Tp} {q : Nat} (h5 : ¬ wq T q 5) (h6 : ¬ wq T q 6) (h : wq T q 7) : knd T q = 2 := by unfold knd W1 ixW; rw [ifP_f h5, ixW, ifP_f h6, ixW, ifP_t h]
set_option maxHeartbeats 200000 in
theorem knd_n {T : Tp} {q : Nat} (h5 : ¬ wq T q 5) (h6 : ¬ wq T q 6) (h : ¬ wq T q 7) : knd T q = 99 := by unfold knd W1 ixW; rw [ifP_f h5, ixW, ifP_f h6, ixW, ifP_f h, ixW]
set_option maxHeartbeats 200000 in
theorem m_readShape {n : Nat} {σ : xσ} {T : Tp} (ok : okTp T) {r : Bool × Nat} (hq : r.2 ≤ T.1) (h : RSt σ T r) : ∃ σ', f_X14_readShape n σ = some ((), σ') ∧ Fk PMs σ σ' ∧ RSt σ' T (shT T r) ∧ ((shT T r).1 = true → ShN σ' (knd T r.2) (shq T r.2).2.2) := by
  unfold shT
  by_cases k : r.1 = true
  · have h' := h.t k
    have f1 : Fk (fun b k => b = 233 ∧ (k = 50 ∨ k = 51)) σ (wI (wI σ 233 50 0) 233 51 0) := (Fk.wI ⟨rfl, Or.inl rfl⟩).trans (Fk.wI ⟨rfl, Or.inr rfl⟩)
    have f1' : Fk PMs σ (wI (wI σ 233 50 0) 233 51 0) := f1.mono (fun b k y => Or.inr (Or.inl y))
    have h1 : RSt (wI (wI σ 233 50 0) 233 51 0) T (true, r.2) := (h'.c (Or.inl rfl)).c (Or.inr rfl)
    have w : ∀ j, j < 28 → f_X14_isWord n j (wI (wI σ 233 50 0) 233 51 0) = some (tf (wq T r.2 j), wI (wI σ 233 50 0) 233 51 0) := fun j hj => m_isWord h1.1 ok hq h1.2.1 hj
    have e50 : sI (wI (wI σ 233 50 0) 233 51 0) 233 50 = 0 := by rw [sI_wI, if_neg (by omega), sI_own]
    have e51 : sI (wI (wI σ 233 50 0) 233 51 0) 233 51 = 0 := by rw [sI_own]
    rw [f_X14_readShape, (h'.2.2.1 rfl).1, if_pos rfl, st, st, w 5 (by decide), bd, w 6 (by decide), bd, if_pos k]
    have go : ∀ kn, knd T r.2 = kn → kn < 3 → (wq T r.2 5 ↔ kn = 0) → (wq T r.2 6 ↔ kn = 1) → ∃ σ', b_X14_readShape_78 n (tf (wq T r.2 5)) (tf (wq T r.2 6)) (nI kn) (wI (wI σ 233 50 0) 233 51 0) = some ((), σ') ∧ Fk PMs σ σ' ∧ RSt σ' T ((shq T r.2).1, (shq T r.2).2.1) ∧ ((shq T r.2).1 = true → ShN σ' (knd T r.2) (shq T r.2).2.2) := by
      intro kn ek hk h5 h6
      have n1 := (ix_nx (W := W1) (x := 0) hq (show knd T r.2 ≠ 99 by omega)).2
      obtain ⟨σ', t1, t2, t3, t4⟩ := m_b78 (n := n) ok (kn := kn) n1 hq h1 e50 e51 hk
      rw [← tf_c h5, ← tf_c h6] at t1
      have es : (if kn = 0 then pnt T (nx T r.2) sh0 else if kn = 1 then rg1 T (nx T r.2) sh0 else pol T (nx T r.2) sh0) = shq T r.2 := by
        unfold shq
        rw [ek, if_neg (show ¬ kn = 99 by omega)]
      rw [es] at t3 t4
      rw [ek]
      exact ⟨σ', t1, f1'.trans t2, t3, t4⟩
    by_cases w5 : wq T r.2 5
    · have := go 0 (knd_5 w5) (by omega) ⟨fun _ => rfl, fun _ => w5⟩ ⟨fun y => absurd (wq_u (by decide) (by decide) w5 y) (by decide), fun y => by omega⟩
      rw [show nI 0 = 0 from rfl] at this
      rw [if_neg (fun y => (tf_0.mp y) w5), if_neg (fun y => (tf_0.mp y) w5)]
      exact this
    · rw [if_pos (tf_f w5)]
      by_cases w6 : wq T r.2 6
      · have := go 1 (knd_6 w5 w6) (by omega) ⟨fun y => (w5 y).elim, fun y => by omega⟩ ⟨fun _ => rfl, fun _ => w6⟩
        rw [show nI 1 = 1 from rfl] at this
        rw [if_neg (fun y => (tf_0.mp y) w6), if_pos (tf_f w5), if_neg (fun y => (tf_0.mp y) w6)]
        exact this
      · rw [if_pos (tf_f w6), w 7 (by decide), bd]
        by_cases w7 : wq T r.2 7
        · have := go 2 (knd_7 w5 w6 w7) (by omega) ⟨fun y => (w5 y).elim, fun y => by omega⟩ ⟨fun y => (w6 y).elim, fun y => by omega⟩
          rw [show nI 2 = 2 from rfl] at this
          rw [if_neg (fun y => (tf_0.mp y) w7), if_pos (tf_f w5), if_pos (tf_f w6)]
          exact this
        · obtain ⟨σ', t1, t2, t3⟩ := m_refuse (n := n) h1
          rw [if_pos (tf_f w7), t1, bd]
          have es : shq T r.2 = (false, r.2, sh0) := by unfold shq; rw [if_pos (knd_n w5 w6 w7)]
          rw [es]
          exact ⟨σ', rfl, f1'.trans (t2.mono (fun _ _ => PU_M)), t3, fun y => nomatch y⟩
  · have kf : r.1 = false := by cases y : r.1 with
      | true => exact (k y).elim
      | false => rfl
    rw [f_X14_readShape, (h.2.2.2 kf).1, if_neg (by decide), if_neg k]
    exact ⟨σ, rfl, Fk.refl, h, fun y => (k y).elim⟩
set_option maxHeartbeats 200000 in
theorem m_relationHere {n : Nat} {σ : xσ} {T : Tp} (ok : okTp T) {q : Nat} (hq : q ≤ T.1) (h : RSt σ T (true, q)) : ∃ σ', f_X14_relationHere n σ = some (iI (if ixW T q W3 0 = 99 then -1 else (ixW T q W3 0 : Int)), σ') ∧ Fk PUr σ σ' ∧ RSt σ' T (if ixW T q W3 0 = 99 then (false, q) else (true, nx T q)) := by
  have w : ∀ j, j < 28 → f_X14_isWord n j σ = some (tf (wq T q j), σ) := fun j hj => m_isWord h.1 ok hq h.2.1 hj
  have fnd : ∀ x : Nat, x < 5 → ixW T q W3 0 = x → ∃ σ', b_X14_relationHere_71 n (nI x) σ = some (iI (if ixW T q W3 0 = 99 then -1 else (ixW T q W3 0 : Int)), σ') ∧ Fk PUr σ σ' ∧ RSt σ' T (if ixW T q W3 0 = 99 then (false, q) else (true, nx T q)) := by
    intro x hx e
    obtain ⟨σ', t1, t2, t3⟩ := RSt_nx (n := n) ok hq h
    rw [e, if_neg (by omega), if_neg (by omega), b_X14_relationHere_71, if_pos ((nIg0 (by omega)).mpr (by omega)), t1, bd, b_X14_relationHere_87, ← nI_i]
    exact ⟨σ', rfl, t2.mono (fun _ _ => PU_r), t3⟩
  have ev : ∀ x, ixW T q W3 x = ifP (wq T q 15) x (ifP (wq T q 16) (x + 1) (ifP (wq T q 17) (x + 1 + 1) (ifP (wq T q 18) (x + 1 + 1 + 1) (ifP (wq T q 19) (x + 1 + 1 + 1 + 1) 99)))) := fun x => rfl
  have e0 := ev 0
  rw [f_X14_relationHere, w 15 (by decide), bd]
  by_cases w1 : wq T q 15
  · rw [if_neg (fun y => (tf_0.mp y) w1)]
    exact fnd 0 (by omega) (by rw [e0, ifP_t w1])
  rw [if_pos (tf_f w1), w 16 (by decide), bd]
  rw [ifP_f w1] at e0
  by_cases w2 : wq T q 16
  · rw [if_neg (fun y => (tf_0.mp y) w2)]
    exact fnd 1 (by omega) (by rw [e0, ifP_t w2])
  rw [if_pos (tf_f w2), w 17 (by decide), bd]
  rw [ifP_f w2] at e0
  by_cases w3 : wq T q 17
  · rw [if_neg (fun y => (tf_0.mp y) w3)]
    exact fnd 2 (by omega) (by rw [e0, ifP_t w3])
  rw [if_pos (tf_f w3), w 18 (by decide), bd]
  rw [ifP_f w3] at e0
  by_cases w4 : wq T q 18
  · rw [if_neg (fun y => (tf_0.mp y) w4)]
    exact fnd 3 (by omega) (by rw [e0, ifP_t w4])
  rw [if_pos (tf_f w4), w 19 (by decide), bd]
  rw [ifP_f w4] at e0
  by_cases w5 : wq T q 19
  · rw [if_neg (fun y => (tf_0.mp y) w5)]
    exact fnd 4 (by omega) (by rw [e0, ifP_t w5])
  rw [ifP_f w5] at e0
  obtain ⟨σ', t1, t2, t3⟩ := m_refuse (n := n) h
  rw [if_pos (tf_f w5), e0, if_pos rfl, if_pos rfl, b_X14_relationHere_71, if_neg (by decide), t1, bd, b_X14_relationHere_87]
  exact ⟨σ', rfl, t2, t3⟩

/-! the reference reads a shape -/
def PMs (b k : Nat) : Prop := PUr b k ∨ (b = 233 ∧ (k = 50 ∨ k = 51)) ∨ PMh 1865 b k
set_option maxHeartbeats 200000 in
theorem PU_M {b k : Nat} (h : PUr b k) : PMs b k := Or.inl h
set_option maxHeartbeats 200000 in
theorem PH_M {b k : Nat} (h : PMh 1865 b k) : PMs b k := Or.inr (Or.inr h)
def PMp (b k : Nat) : Prop := PUr b k ∨ (b = 233 ∧ k = 50) ∨ PMh 1865 b k
set_option maxHeartbeats 200000 in
theorem PP_M {b k : Nat} (h : PMp b k) : PMs b k := by
  rcases h with h | h | h
  · exact Or.inl h
  · exact Or.inr (Or.inl ⟨h.1, Or.inl h.2⟩)
  · exact Or.inr (Or.inr h)
def RSh (σ : xσ) (T : Tp) (kn B : Nat) (r : Bool × Nat × Sh) : Prop := RSt σ T (r.1, r.2.1) ∧ ∃ s, (r.1 = true → s = r.2.2 ∧ shP s ≤ r.2.1 ∧ shR s ≤ r.2.1) ∧ ShM σ 1865 kn s ∧ sI σ 233 50 = nI (shP s) ∧ sI σ 233 51 = nI (shR s) ∧ shP s ≤ B ∧ shR s ≤ B
set_option maxHeartbeats 200000 in
theorem RSh.mono {σ : xσ} {T : Tp} {kn B C : Nat} {r : Bool × Nat × Sh} (h : RSh σ T kn B r) (k : B ≤ C) : RSh σ T kn C r := by
  obtain ⟨a, s, b, c, d, e, f, g⟩ := h
  exact ⟨a, s, b, c, d, e, by omega, by omega⟩
set_option maxHeartbeats 200000 in
theorem RSh.ok {σ : xσ} {T : Tp} {kn B : Nat} {r : Bool × Nat × Sh} (h : RSh σ T kn B r) (k : r.1 = true) (hq : r.2.1 ≤ 4000) : RSh σ T kn 4000 r := by
  obtain ⟨a, s, b, c, d, e, f, g⟩ := h
  have := b k
  exact ⟨a, s, b, c, d, e, by omega, by omega⟩
set_option maxHeartbeats 200000 in
theorem RSt.h {σ σ' : xσ} {T : Tp} {r : Bool × Nat} (h : RSt σ T r) (f : Fk (PMh 1865) σ σ') : RSt σ' T r := h.g f (fun k _ => by unfold PMh; omega) (fun k => by unfold PMh; omega)
set_option maxHeartbeats 200000 in
theorem RSt.c {σ : xσ} {T : Tp} {r : Bool × Nat} (h : RSt σ T r) {k : Nat} {v : Int32} (hk : k = 50 ∨ k = 51) : RSt (wI σ 233 k v) T r := h.g (P := fun b j => b = 233 ∧ j = k) (Fk.wI ⟨rfl, rfl⟩) (fun j hj y => by omega) (fun j y => by omega)
set_option maxHeartbeats 200000 in
theorem ShM.u {σ σ' : xσ} {kn : Nat} {s : Sh} {P : Nat → Nat → Prop} (h : ShM σ 1865 kn s) (f : Fk P σ σ') (hP : ∀ b k, P b k → b = 233) : ShM σ' 1865 kn s := h.fr f (fun j k hj y => by have := hP _ _ y; omega)
set_option maxHeartbeats 200000 in
theorem PUr_233 {b k : Nat} (h : PUr b k) : b = 233 := by unfold PUr PU at h; omega
noncomputable def plR (T : Tp) (r : Bool × Nat × Sh) : Bool × Nat × Sh := if r.1 = true then ifP (kd T r.2.1 = 2) (ifP (kd T (nx T r.2.1) = 2) (true, nx T (nx T r.2.1), adP r.2.2 (nmb T r.2.1, nmb T (nx T r.2.1))) (false, nx T r.2.1, r.2.2)) (false, r.2.1, r.2.2) else r
set_option maxHeartbeats 200000 in
theorem plR_b {T : Tp} {r : Bool × Nat × Sh} (h : r.2.1 ≤ T.1) : (plR T r).2.1 ≤ T.1 ∧ r.2.1 ≤ (plR T r).2.1 ∧ ((plR T r).1 = true → r.1 = true ∧ r.2.1 + 2 ≤ (plR T r).2.1) := by
  unfold plR
  by_cases k : r.1 = true
  · rw [if_pos k]
    by_cases k1 : kd T r.2.1 = 2
    · have n1 := num_nx h k1
      rw [ifP_t k1]
      by_cases k2 : kd T (nx T r.2.1) = 2
      · have n2 := num_nx n1.2 k2
        rw [ifP_t k2]; exact ⟨n2.2, show r.2.1 ≤ nx T (nx T r.2.1) by omega, fun _ => ⟨k, show r.2.1 + 2 ≤ nx T (nx T r.2.1) by omega⟩⟩
      · rw [ifP_f k2]; exact ⟨n1.2, show r.2.1 ≤ nx T r.2.1 by omega, fun y => nomatch y⟩
    · rw [ifP_f k1]; exact ⟨h, Nat.le_refl _, fun y => nomatch y⟩
  · rw [if_neg k]; exact ⟨h, Nat.le_refl _, fun y => (k y).elim⟩
set_option maxHeartbeats 200000 in
theorem in_pl (T : Tp) (r : Bool × Nat × Sh) : inS T (inS T (r.1, r.2.1)) = ((plR T r).1, (plR T r).2.1) := by
  unfold plR inS
  by_cases k : r.1 = true
  · simp only [k, if_true]
    by_cases k1 : kd T r.2.1 = 2
    · rw [ifP_t k1, ifP_t k1]
      simp only [if_true]
      by_cases k2 : kd T (nx T r.2.1) = 2
      · rw [ifP_t k2, ifP_t k2]
      · rw [ifP_f k2, ifP_f k2]
    · rw [ifP_f k1, ifP_f k1, if_neg (fun y => nomatch y), ifP_f k1]
  · simp only [if_neg k]
set_option maxHeartbeats 200000 in
theorem m_readPlace {n : Nat} {σ : xσ} {T : Tp} (ok : okTp T) {kn B : Nat} (hB : B ≤ 9000) {r : Bool × Nat × Sh} (hq : r.2.1 ≤ T.1) (h : RSh σ T kn B r) : ∃ σ', f_X14_readPlace n σ = some ((), σ') ∧ Fk PMp σ σ' ∧ RSh σ' T kn (B + 1) (plR T r) := by
  have h4 := ok.1
  obtain ⟨a, s, b, c, d, e, f, g⟩ := h
  obtain ⟨σ1, x, t1, t2, t3, t4⟩ := m_readInt (n := n) ok (r := (r.1, r.2.1)) hq a
  obtain ⟨σ2, y, u1, u2, u3, u4⟩ := m_readInt (n := n) ok (inS_b (T := T) (r := (r.1, r.2.1)) hq).1 t3
  have F := t2.trans u2
  have z : ∀ k, k = 50 ∨ k = 51 → sI σ2 233 k = sI σ 233 k := fun k hk => (F 233 k (fun y => by unfold PUr PU at y; omega)).1
  have H := c.u F (fun _ _ => PUr_233)
  rw [f_X14_readPlace, t1, bd, u1, bd, z 50 (by omega), d]
  simp only [nIg40 (show shP s < 2147483648 by omega)]
  rw [in_pl] at u3 u4
  have pb := plR_b (T := T) (r := r) hq
  have eqs : (plR T r).1 = true → adP s (x, y) = (plR T r).2.2 ∧ shP (adP s (x, y)) ≤ (plR T r).2.1 ∧ shR (adP s (x, y)) ≤ (plR T r).2.1 := by
    intro k
    have y2 := u4 k
    have pk := (pb.2.2 k)
    have bk := b pk.1
    have r1 : (inS T (r.1, r.2.1)).1 = true ∧ (inS T (r.1, r.2.1)).2 = nx T r.2.1 ∧ kd T r.2.1 = 2 ∧ kd T (nx T r.2.1) = 2 := by
      unfold plR at k
      rw [if_pos pk.1] at k
      by_cases k1 : kd T r.2.1 = 2
      · rw [ifP_t k1] at k
        by_cases k2 : kd T (nx T r.2.1) = 2
        · unfold inS
          simp only [pk.1, if_true]
          rw [ifP_t k1]
          exact ⟨rfl, rfl, k1, k2⟩
        · rw [ifP_f k2] at k; cases k
      · rw [ifP_f k1] at k; cases k
    have x2 := t4 r1.1
    rw [r1.2.1] at y2
    have e2 : adP s (x, y) = (plR T r).2.2 := by
      unfold plR
      rw [if_pos pk.1, ifP_t r1.2.2.1, ifP_t r1.2.2.2, x2, y2, bk.1]
    refine ⟨e2, ?_, ?_⟩
    · show shP s + 1 ≤ _; omega
    · show shR s ≤ _; omega
  by_cases q : 40 ≤ shP s
  · rw [if_pos q, st, nI_s]
    have f3 : Fk (fun b k => b = 233 ∧ k = 50) σ2 (wI σ2 233 50 (nI (shP s + 1))) := Fk.wI ⟨rfl, rfl⟩
    refine ⟨_, rfl, (F.mono (fun _ _ => Or.inl)).trans (f3.mono (fun b k y => Or.inr (Or.inl y))), u3.c (Or.inl rfl), adP s (x, y), eqs, (ShM_over H q _).u f3 (fun b k y => y.1), ?_, ?_, ?_, ?_⟩
    · rw [sI_own]; rfl
    · rw [sI_wI, if_neg (by omega), z 51 (by omega)]; exact e
    · show shP s + 1 ≤ _; omega
    · show shR s ≤ _; omega
  · obtain ⟨σ3, v1, v2, v3⟩ := m_adp (n := n) H (by omega) (x, y)
    have e50 : sI σ3 233 50 = nI (shP s) := by rw [(v2 233 50 (fun y => by unfold PMh at y; omega)).1, z 50 (by omega)]; exact d
    rw [if_neg q, v1, bd, b_X14_readPlace_28, e50, nI_s, st]
    have f3 : Fk (fun b k => b = 233 ∧ k = 50) σ3 (wI σ3 233 50 (nI (shP s + 1))) := Fk.wI ⟨rfl, rfl⟩
    refine ⟨_, rfl, ((F.mono (fun _ _ => Or.inl)).trans (v2.mono (fun _ _ y => Or.inr (Or.inr y)))).trans (f3.mono (fun b k y => Or.inr (Or.inl y))), (u3.h v2).c (Or.inl rfl), adP s (x, y), eqs, v3.u f3 (fun b k y => y.1), ?_, ?_, ?_, ?_⟩
    · rw [sI_own]; rfl
    · rw [sI_wI, if_neg (by omega), (v2 233 51 (fun y => by unfold PMh at y; omega)).1, z 51 (by omega)]; exact e
    · show shP s + 1 ≤ _; omega
    · show shR s ≤ _; omega
/-! the end of a ring -/
def mTail (n : Nat) (σ : xσ) : Option (Unit × xσ) := bd (f_X14_expect n 41 σ) (fun v122 σ123 => if 8 ≤ (sI σ123 233 51) then st (wI σ123 233 51 ((sI σ123 233 51) + 1)) (fun σ128 => some ((), σ128)) else bd (f_X12_endRing n 1865 σ123) (fun v131 σ132 => b_X14_readPlaceRow_59 n σ132))
set_option maxHeartbeats 200000 in
theorem m_tail {n : Nat} {σ : xσ} {T : Tp} (ok : okTp T) {kn B : Nat} (hB : B ≤ 9000) {r : Bool × Nat × Sh} (hq : r.2.1 ≤ T.1) (h : RSh σ T kn B r) : ∃ σ', mTail n σ = some ((), σ') ∧ Fk PMs σ σ' ∧ RSh σ' T kn (B + 1) (rngE T r) := by
  have h4 := ok.1
  obtain ⟨a, s, b, c, d, e, f, g⟩ := h
  obtain ⟨σ1, t1, t2, t3⟩ := m_expect (n := n) ok (r := (r.1, r.2.1)) hq a (c := 41) (by omega)
  have z : ∀ k, k = 50 ∨ k = 51 → sI σ1 233 k = sI σ 233 k := fun k hk => (t2 233 k (fun y => by unfold PUr PU at y; omega)).1
  have H := c.u t2 (fun _ _ => PUr_233)
  unfold mTail
  rw [show (41 : Int32) = iI 41 from rfl, t1, bd, z 51 (by omega), e]
  simp only [nIg8 (show shR s < 2147483648 by omega)]
  have eR : exS T 41 (r.1, r.2.1) = ((rngE T r).1, (rngE T r).2.1) := by
    unfold exS rngE
    by_cases k : r.1 = true
    · simp only [k, if_true]
      by_cases y : sgq T r.2.1 41
      · rw [ifP_t y, ifP_t y]
      · rw [ifP_f y, ifP_f y]
    · simp only [if_neg k]
  rw [eR] at t3
  have eqs : (rngE T r).1 = true → clR s = (rngE T r).2.2 ∧ shP (clR s) ≤ (rngE T r).2.1 ∧ shR (clR s) ≤ (rngE T r).2.1 := by
    intro k
    unfold rngE at k ⊢
    by_cases k1 : r.1 = true
    · rw [if_pos k1] at k ⊢
      by_cases y : sgq T r.2.1 41
      · have n1 := sgq_nx hq y
        have bk := b k1
        rw [ifP_t y, ← bk.1]
        refine ⟨rfl, ?_, ?_⟩
        · show shP s ≤ nx T r.2.1; omega
        · show shR s + 1 ≤ nx T r.2.1; omega
      · rw [ifP_f y] at k; cases k
    · rw [if_neg k1] at k; exact (k1 k).elim
  by_cases q : 8 ≤ shR s
  · rw [if_pos q, st, nI_s]
    have f3 : Fk (fun b k => b = 233 ∧ k = 51) σ1 (wI σ1 233 51 (nI (shR s + 1))) := Fk.wI ⟨rfl, rfl⟩
    refine ⟨_, rfl, (t2.mono (fun _ _ => PU_M)).trans (f3.mono (fun b k y => Or.inr (Or.inl ⟨y.1, Or.inr y.2⟩))), t3.c (Or.inr rfl), clR s, eqs, (ShM_ring H q).u f3 (fun b k y => y.1), ?_, ?_, ?_, ?_⟩
    · rw [sI_wI, if_neg (by omega), z 50 (by omega)]; exact d
    · rw [sI_own]; rfl
    · show shP s ≤ _; omega
    · show shR s + 1 ≤ _; omega
  · obtain ⟨σ3, v1, v2, v3⟩ := m_endR (n := n) H (by omega)
    have e51 : sI σ3 233 51 = nI (shR s) := by rw [(v2 233 51 (fun y => by unfold PMh at y; omega)).1, z 51 (by omega)]; exact e
    rw [if_neg q, v1, bd, b_X14_readPlaceRow_59, e51, nI_s, st]
    have f3 : Fk (fun b k => b = 233 ∧ k = 51) σ3 (wI σ3 233 51 (nI (shR s + 1))) := Fk.wI ⟨rfl, rfl⟩
    refine ⟨_, rfl, ((t2.mono (fun _ _ => PU_M)).trans (v2.mono (fun _ _ => PH_M))).trans (f3.mono (fun b k y => Or.inr (Or.inl ⟨y.1, Or.inr y.2⟩))), (t3.h v2).c (Or.inr rfl), clR s, eqs, v3.u f3 (fun b k y => y.1), ?_, ?_, ?_, ?_⟩
    · rw [sI_wI, if_neg (by omega), (v2 233 50 (fun y => by unfold PMh at y; omega)).1, z 50 (by omega)]; exact d
    · rw [sI_own]; rfl
    · show shP s ≤ _; omega
    · show shR s + 1 ≤ _; omega
set_option maxHeartbeats 200000 in
theorem row_u (n f : Nat) (σ : xσ) : l_X14_readPlaceRow_10 n (f + 1) σ = if (sI σ 233 48) = 0 then bd (f_X14_isSign n 44 σ) (fun v116 σ117 => if v116 = 0 then mTail n σ117 else bd (f_X14_next n σ117) (fun v136 σ137 => bd (f_X14_readPlace n σ137) (fun v141 σ142 => (l_X14_readPlaceRow_10 n f) σ142))) else mTail n σ := by rw [l_X14_readPlaceRow_10]; rfl
noncomputable def rgQ (T : Tp) (g : Nat) (r : Bool × Nat × Sh) : Bool × Nat × Sh := if r.1 = true then ifP (sgq T r.2.1 44) (rgP T g (nx T r.2.1) r.2.2) r else r
set_option maxHeartbeats 200000 in
theorem rgP_Q (T : Tp) (g q : Nat) (s : Sh) : rgP T (g + 1) q s = rgQ T g (plR T (true, q, s)) := by
  rw [rgP]
  unfold rgQ plR
  simp only [if_true]
  by_cases k1 : kd T q = 2
  · rw [ifP_t k1, ifP_t k1]
    by_cases k2 : kd T (nx T q) = 2
    · rw [ifP_t k2, ifP_t k2]
      simp only [if_true]
    · rw [ifP_f k2, ifP_f k2]
      rfl
  · rw [ifP_f k1, ifP_f k1]
    rfl
set_option maxHeartbeats 200000 in
theorem rgP_f {T : Tp} : ∀ g q s, q ≤ T.1 → T.1 - q < g → rgP T (g + 1) q s = rgP T g q s := by
  intro g
  induction g with
  | zero => intro q s _ h; omega
  | succ g ih =>
    intro q s hq h
    rw [rgP]
    conv => rhs; rw [rgP]
    by_cases k1 : kd T q = 2
    · have n1 := num_nx hq k1
      rw [ifP_t k1, ifP_t k1]
      by_cases k2 : kd T (nx T q) = 2
      · have n2 := num_nx n1.2 k2
        rw [ifP_t k2, ifP_t k2]
        by_cases c : sgq T (nx T (nx T q)) 44
        · have n3 := sgq_nx n2.2 c
          rw [ifP_t c, ifP_t c, ih _ _ n3.2 (by omega)]
        · rw [ifP_f c, ifP_f c]
      · rw [ifP_f k2, ifP_f k2]
    · rw [ifP_f k1, ifP_f k1]
set_option maxHeartbeats 200000 in
theorem Rf {r : Bool × Nat × Sh} (h : ¬ r.1 = true) : r.1 = false := by
  cases y : r.1 with
  | true => exact (h y).elim
  | false => rfl
set_option maxHeartbeats 200000 in
theorem RSh_nx {n : Nat} {σ : xσ} {T : Tp} (ok : okTp T) {kn B : Nat} {r : Bool × Nat × Sh} (hq : r.2.1 ≤ T.1) (k : r.1 = true) (h : RSh σ T kn B r) : ∃ σ', f_X14_next n σ = some ((), σ') ∧ Fk PU σ σ' ∧ RSh σ' T kn B (true, nx T r.2.1, r.2.2) := by
  obtain ⟨a, s, b, c, d, e, f, g⟩ := h
  rw [k] at a
  obtain ⟨σ', t1, t2, t3⟩ := RSt_nx (n := n) ok hq a
  have hb := nx_b hq
  have bk := b k
  have z : ∀ j, j = 50 ∨ j = 51 → sI σ' 233 j = sI σ 233 j := fun j hj => (t2 233 j (fun y => by unfold PU at y; omega)).1
  exact ⟨σ', t1, t2, t3, s, fun _ => ⟨bk.1, show shP s ≤ nx T r.2.1 by omega, show shR s ≤ nx T r.2.1 by omega⟩, c.u t2 (fun b k y => y.1), by rw [z 50 (by omega)]; exact d, by rw [z 51 (by omega)]; exact e, f, g⟩
set_option maxHeartbeats 200000 in
theorem l_row {n : Nat} {T : Tp} (ok : okTp T) {kn : Nat} : ∀ g f σ B r, T.1 - r.2.1 < g → T.1 - r.2.1 < f → B ≤ 8000 → r.2.1 ≤ T.1 → RSh σ T kn B r → ∃ σ', l_X14_readPlaceRow_10 n f σ = some ((), σ') ∧ Fk PMs σ σ' ∧ RSh σ' T kn (max B 4001 + 1) (rngE T (rgQ T g r)) := by
  have h4 := ok.1
  intro g
  induction g with
  | zero => intro f σ B r h; omega
  | succ g ih =>
    intro f σ B r hg hf hB hq h
    obtain ⟨f, rfl⟩ : ∃ m, f = m + 1 := ⟨f - 1, by omega⟩
    rw [row_u]
    by_cases k : r.1 = true
    · have h' := h.ok k (by omega)
      have a := h.1
      rw [k] at a
      rw [(a.2.2.1 rfl).1, if_pos rfl, show (44 : Int32) = iI 44 from rfl, m_isSign ok a.1 a.2.1 (by omega), bd]
      unfold rgQ
      rw [if_pos k]
      by_cases c : sgq T r.2.1 44
      · have n1 := sgq_nx hq c
        obtain ⟨σ1, t1, t2, t3⟩ := RSh_nx (n := n) ok hq k h'
        obtain ⟨σ2, u1, u2, u3⟩ := m_readPlace (n := n) ok (by omega) (r := (true, nx T r.2.1, r.2.2)) n1.2 t3
        have pb := plR_b (T := T) (r := (true, nx T r.2.1, r.2.2)) n1.2
        simp only at pb
        rw [if_neg (fun y => (tf_0.mp y) c), t1, bd, u1, bd, ifP_t c, rgP_Q]
        obtain ⟨σ3, v1, v2, v3⟩ := ih f σ2 4001 (plR T (true, nx T r.2.1, r.2.2)) (by omega) (by omega) (by omega) pb.1 u3
        exact ⟨σ3, v1, ((t2.mono (fun _ _ y => PU_M (PU_r y))).trans (u2.mono (fun _ _ => PP_M))).trans v2, v3.mono (by omega)⟩
      · rw [if_pos (tf_f c), ifP_f c]
        obtain ⟨σ1, t1, t2, t3⟩ := m_tail (n := n) ok (by omega) hq h'
        exact ⟨σ1, t1, t2, t3.mono (by omega)⟩
    · have a := h.1
      rw [Rf k] at a
      rw [(a.2.2.2 rfl).1, if_neg (by decide)]
      unfold rgQ
      rw [if_neg k]
      obtain ⟨σ1, t1, t2, t3⟩ := m_tail (n := n) ok (by omega) hq h
      exact ⟨σ1, t1, t2, t3.mono (by omega)⟩
noncomputable def rowS (T : Tp) (r : Bool × Nat × Sh) : Bool × Nat × Sh := if r.1 = true then rg1 T r.2.1 r.2.2 else r
set_option maxHeartbeats 200000 in
theorem RSh.ex {n : Nat} {σ : xσ} {T : Tp} (ok : okTp T) {kn B : Nat} {r : Bool × Nat × Sh} (hq : r.2.1 ≤ T.1) (h : RSh σ T kn B r) {c : Int} (hc : 0 ≤ c ∧ c < 128) : ∃ σ', f_X14_expect n (iI c) σ = some ((), σ') ∧ Fk PUr σ σ' ∧ RSh σ' T kn B ((exS T c (r.1, r.2.1)).1, (exS T c (r.1, r.2.1)).2, r.2.2) := by
  obtain ⟨a, s, b, c', d, e, f, g⟩ := h
  obtain ⟨σ1, t1, t2, t3⟩ := m_expect (n := n) ok (r := (r.1, r.2.1)) hq a hc
  have z : ∀ k, k = 50 ∨ k = 51 → sI σ1 233 k = sI σ 233 k := fun k hk => (t2 233 k (fun y => by unfold PUr PU at y; omega)).1
  have eb := exS_b (T := T) (c := c) (r := (r.1, r.2.1)) hq
  refine ⟨σ1, t1, t2, t3, s, fun y => ?_, c'.u t2 (fun _ _ => PUr_233), by rw [z 50 (by omega)]; exact d, by rw [z 51 (by omega)]; exact e, f, g⟩
  have y1 : r.1 = true := (eb.2.2 y).1
  have bk := b y1
  have := eb.2.1
  simp only at this ⊢
  exact ⟨bk.1, by omega, by omega⟩
set_option maxHeartbeats 200000 in
theorem m_row {n : Nat} {σ : xσ} {T : Tp} (ok : okTp T) {kn B : Nat} (hB : B ≤ 7000) {r : Bool × Nat × Sh} (hq : r.2.1 ≤ T.1) (h : RSh σ T kn B r) : ∃ σ', f_X14_readPlaceRow n σ = some ((), σ') ∧ Fk PMs σ σ' ∧ RSh σ' T kn (max B 4001 + 2) (rowS T r) := by
  have h4 := ok.1
  obtain ⟨σ1, t1, t2, t3⟩ := h.ex (n := n) ok hq (c := 40) (by omega)
  have eb := exS_b (T := T) (c := 40) (r := (r.1, r.2.1)) hq
  obtain ⟨σ2, u1, u2, u3⟩ := m_readPlace (n := n) ok (by omega) (r := ((exS T 40 (r.1, r.2.1)).1, (exS T 40 (r.1, r.2.1)).2, r.2.2)) eb.1 t3
  have pb := plR_b (T := T) (r := ((exS T 40 (r.1, r.2.1)).1, (exS T 40 (r.1, r.2.1)).2, r.2.2)) eb.1
  obtain ⟨σ3, v1, v2, v3⟩ := l_row (n := n) ok (kn := kn) 4001 xFU σ2 (B + 1) _ (by have := pb.1; omega) (xFU_lt (by have := pb.1; omega)) (by omega) pb.1 u3
  rw [f_X14_readPlaceRow, show (40 : Int32) = iI 40 from rfl, t1, bd, u1, bd, v1]
  have e : rngE T (rgQ T 4001 (plR T ((exS T 40 (r.1, r.2.1)).1, (exS T 40 (r.1, r.2.1)).2, r.2.2))) = rowS T r := by
    unfold rowS exS
    by_cases k : r.1 = true
    · simp only [k, if_true]
      by_cases c : sgq T r.2.1 40
      · have n1 := sgq_nx hq c
        rw [ifP_t c]
        unfold rg1
        rw [ifP_t c, ← rgP_Q, rgP_f 4001 _ _ n1.2 (by omega)]
      · rw [ifP_f c]
        unfold rg1
        rw [ifP_f c]
        simp [plR, rgQ, rngE]
    · have kf := Rf k
      simp only [if_neg k]
      simp [plR, rgQ, rngE, k]
      rw [← kf]
  rw [e] at v3
  exact ⟨σ3, rfl, ((t2.mono (fun _ _ => PU_M)).trans (u2.mono (fun _ _ => PP_M))).trans v2, v3.mono (by omega)⟩
/-! the rings of a polygon -/
set_option maxHeartbeats 200000 in
theorem rows_u (n f : Nat) (σ : xσ) : l_X14_readShape_141 n (f + 1) σ = if (sI σ 233 48) = 0 then bd (f_X14_isSign n 44 σ) (fun v107 σ108 => if v107 = 0 then bd (f_X14_expect n 41 σ108) (fun v113 σ114 => some ((), σ114)) else bd (f_X14_next n σ108) (fun v118 σ119 => bd (f_X14_readPlaceRow n σ119) (fun v123 σ124 => (l_X14_readShape_141 n f) σ124))) else bd (f_X14_expect n 41 σ) (fun v102 σ103 => some ((), σ103)) := by rw [l_X14_readShape_141]
noncomputable def rsQ (T : Tp) (g : Nat) (r : Bool × Nat × Sh) : Bool × Nat × Sh := if r.1 = true then ifP (sgq T r.2.1 44) (rgs T g (nx T r.2.1) r.2.2) r else r
set_option maxHeartbeats 200000 in
theorem rgs_Q (T : Tp) (g q : Nat) (s : Sh) : rgs T (g + 1) q s = rsQ T g (rg1 T q s) := by rw [rgs]; rfl
set_option maxHeartbeats 200000 in
theorem ex_pl (T : Tp) (r : Bool × Nat × Sh) : plE T r = ((exS T 41 (r.1, r.2.1)).1, (exS T 41 (r.1, r.2.1)).2, r.2.2) := by
  unfold plE exS
  by_cases k : r.1 = true
  · simp only [k, if_true]
    by_cases y : sgq T r.2.1 41
    · rw [ifP_t y, ifP_t y]
    · rw [ifP_f y, ifP_f y]
  · simp only [if_neg k]
set_option maxHeartbeats 200000 in
theorem rgs_f {T : Tp} : ∀ g q s, q ≤ T.1 → Cld s → T.1 - q < g → rgs T (g + 1) q s = rgs T g q s := by
  intro g
  induction g with
  | zero => intro q s _ _ h; omega
  | succ g ih =>
    intro q s hq hs h
    rw [rgs_Q, rgs_Q]
    unfold rsQ
    by_cases k : (rg1 T q s).1 = true
    · obtain ⟨a1, a2, a3, a4⟩ := rg1_b hq hs
      rw [if_pos k, if_pos k]
      by_cases c : sgq T (rg1 T q s).2.1 44
      · have n1 := sgq_nx a1 c
        have := (a4 k).2.2
        rw [ifP_t c, ifP_t c, ih _ _ n1.2 (a4 k).1 (by omega)]
      · rw [ifP_f c, ifP_f c]
    · rw [if_neg k, if_neg k]
set_option maxHeartbeats 200000 in
theorem l_rows {n : Nat} {T : Tp} (ok : okTp T) {kn : Nat} : ∀ g f σ B r, T.1 - r.2.1 < g → T.1 - r.2.1 < f → B ≤ 6000 → r.2.1 ≤ T.1 → (r.1 = true → Cld r.2.2) → RSh σ T kn B r → ∃ σ', l_X14_readShape_141 n f σ = some ((), σ') ∧ Fk PMs σ σ' ∧ RSh σ' T kn (max B 4003) (plE T (rsQ T g r)) := by
  have h4 := ok.1
  intro g
  induction g with
  | zero => intro f σ B r h; omega
  | succ g ih =>
    intro f σ B r hg hf hB hq hc h
    obtain ⟨f, rfl⟩ : ∃ m, f = m + 1 := ⟨f - 1, by omega⟩
    rw [rows_u]
    by_cases k : r.1 = true
    · have h' := h.ok k (by omega)
      have a := h.1
      rw [k] at a
      rw [(a.2.2.1 rfl).1, if_pos rfl, show (44 : Int32) = iI 44 from rfl, m_isSign ok a.1 a.2.1 (by omega), bd]
      unfold rsQ
      rw [if_pos k]
      by_cases c : sgq T r.2.1 44
      · have n1 := sgq_nx hq c
        obtain ⟨σ1, t1, t2, t3⟩ := RSh_nx (n := n) ok hq k h'
        obtain ⟨σ2, u1, u2, u3⟩ := m_row (n := n) ok (by omega) (r := (true, nx T r.2.1, r.2.2)) n1.2 t3
        have e1 : rowS T (true, nx T r.2.1, r.2.2) = rg1 T (nx T r.2.1) r.2.2 := if_pos rfl
        rw [e1] at u3
        obtain ⟨a1, a2, a3, a4⟩ := rg1_b n1.2 (hc k)
        rw [if_neg (fun y => (tf_0.mp y) c), t1, bd, u1, bd, ifP_t c, rgs_Q]
        obtain ⟨σ3, v1, v2, v3⟩ := ih f σ2 4003 (rg1 T (nx T r.2.1) r.2.2) (by omega) (by omega) (by omega) a1 (fun y => (a4 y).1) (u3.mono (by omega))
        exact ⟨σ3, v1, ((t2.mono (fun _ _ y => PU_M (PU_r y))).trans u2).trans v2, v3.mono (by omega)⟩
      · obtain ⟨σ1, t1, t2, t3⟩ := h'.ex (n := n) ok hq (c := 41) (by omega)
        rw [if_pos (tf_f c), ifP_f c, show (41 : Int32) = iI 41 from rfl, t1, bd, ex_pl]
        exact ⟨σ1, rfl, t2.mono (fun _ _ => PU_M), t3.mono (by omega)⟩
    · have a := h.1
      rw [Rf k] at a
      obtain ⟨σ1, t1, t2, t3⟩ := h.ex (n := n) ok hq (c := 41) (by omega)
      rw [(a.2.2.2 rfl).1, if_neg (by decide), show (41 : Int32) = iI 41 from rfl, t1, bd]
      unfold rsQ
      rw [if_neg k, ex_pl]
      exact ⟨σ1, rfl, t2.mono (fun _ _ => PU_M), t3.mono (by omega)⟩

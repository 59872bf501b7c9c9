/-! the reference: FILL, and no statement at all -/
set_option maxHeartbeats 200000 in
theorem b_ff {b : Bool} (h : ¬ b = true) : b = false := by cases b; rfl; exact (h rfl).elim
def finM (n : Nat) (x1 : Int32) (σ : xσ) : Option (Unit × xσ) := bd (f_X14_expect n 59 σ) (fun v102 σ103 => if (sI σ103 233 48) = 0 then gd (inb 0 8) (gd (inb 1 8) (gd (inb 2 8) (gd (inb 3 8) (gd (inb 4 8) (gd (inb 5 8) (bd (f_X14_fill n (sI σ103 1869 (0 : Int32).toNatClampNeg) (sI σ103 1869 (1 : Int32).toNatClampNeg) x1 (sI σ103 1869 (2 : Int32).toNatClampNeg) (sI σ103 1869 (3 : Int32).toNatClampNeg) (sI σ103 1869 (4 : Int32).toNatClampNeg) (sI σ103 1869 (5 : Int32).toNatClampNeg) σ103) (fun v114 σ115 => some ((), σ115)))))))) else some ((), σ103))
set_option maxHeartbeats 200000 in
theorem fill_u (n f : Nat) (x1 x2 : Int32) (σ : xσ) : l_X14_readFill_82 n (f + 1) x1 x2 σ = if 6 ≤ x2 then finM n x1 σ else bd (f_X14_readInt n σ) (fun v119 σ120 => gd (inb x2 8) (st (wI σ120 1869 x2.toNatClampNeg v119) (fun σ125 => (l_X14_readFill_82 n f) x1 (x2 + 1) σ125))) := by rw [l_X14_readFill_82]; rfl
set_option maxHeartbeats 200000 in
theorem l_fill82 {n : Nat} {T : Tp} (ok : okTp T) (x1 : Int32) : ∀ k f i σ r, k < f → i + k = 6 → r.2 ≤ T.1 → RSt σ T r → ∃ σ', l_X14_readFill_82 n f x1 (nI i) σ = finM n x1 σ' ∧ Fk PUa σ σ' ∧ RSt σ' T (itS T k r) ∧ ((itS T k r).1 = true → ∀ j, j < k → sI σ' 1869 (i + j) = iI (nmb T (psN T j r.2))) ∧ (∀ j, j < i → sI σ' 1869 j = sI σ 1869 j) := by
  intro k
  induction k with
  | zero =>
    intro f i σ r hf hi hq h
    obtain ⟨g, rfl⟩ : ∃ g, f = g + 1 := ⟨f - 1, by omega⟩
    rw [fill_u, if_pos ((nIg6 (by omega)).mpr (by omega)), itS_0]
    exact ⟨σ, rfl, Fk.refl, h, fun _ j hj => by omega, fun j _ => rfl⟩
  | succ k ih =>
    intro f i σ r hf hi hq h
    obtain ⟨g, rfl⟩ : ∃ g, f = g + 1 := ⟨f - 1, by omega⟩
    obtain ⟨σ1, z, t1, t2, t3, t4⟩ := m_readInt (n := n) ok hq h
    rw [fill_u, if_neg (fun y => by have := (nIg6 (show i < 2147483648 by omega)).mp y; omega), t1, bd, gd_in (by omega) (by omega), nI_k (by omega), st, nI_s]
    obtain ⟨σ', u1, u2, u3, u4, u5⟩ := ih g (i + 1) (wI σ1 1869 i (iI z)) (inS T r) (by omega) (by omega) (inS_b hq).1 t3.a
    have f1 : Fk PUa σ1 (wI σ1 1869 i (iI z)) := Fk.wI (Or.inr rfl)
    rw [itS_s]
    refine ⟨σ', u1, ((t2.mono (fun _ _ => Or.inl)).trans f1).trans u2, u3, fun y j hj => ?_, fun j hj => ?_⟩
    · have k1 := itS_e y
      have e2 : (inS T r).2 = nx T r.2 := by
        unfold inS at k1 ⊢
        by_cases e : r.1 = true
        · rw [if_pos e] at k1 ⊢
          by_cases d : kd T r.2 = 2
          · rw [ifP_t d]
          · rw [ifP_f d] at k1; cases k1
        · rw [if_neg e] at k1; exact (e k1).elim
      cases j with
      | zero => rw [Nat.add_zero, u5 i (by omega), sI_own, t4 k1]; rfl
      | succ j =>
        have := u4 y j (by omega)
        rw [show i + 1 + j = i + (j + 1) by omega, e2] at this
        exact this
    · rw [u5 j (by omega), sI_wI, if_neg (by omega), (t2 1869 j (PUr_n j)).1]
set_option maxHeartbeats 200000 in
theorem m_fin {n : Nat} {σ : xσ} {T : Tp} (ok : okTp T) {r : Bool × Nat} (hq : r.2 ≤ T.1) (h : RSt σ T r) (x1 : Int32) (A : Nat → Int) (hA : r.1 = true → ∀ i, i < 6 → sI σ 1869 i = iI (A i)) : ∃ σ', Fk PUr σ σ' ∧ RSt σ' T (exS T 59 r) ∧ ((exS T 59 r).1 = false → finM n x1 σ = some ((), σ')) ∧ ((exS T 59 r).1 = true → finM n x1 σ = f_X14_fill n (iI (A 0)) (iI (A 1)) x1 (iI (A 2)) (iI (A 3)) (iI (A 4)) (iI (A 5)) σ') := by
  obtain ⟨σ1, t1, t2, t3⟩ := m_expect (n := n) ok hq h (c := 59) (by omega)
  obtain ⟨c1, c2, c3⟩ := exS_b (T := T) (c := 59) hq
  unfold finM
  rw [show (59 : Int32) = iI 59 from rfl, t1, bd]
  refine ⟨σ1, t2, t3, fun y => by rw [(t3.2.2.2 y).1, if_neg (by decide)], fun y => ?_⟩
  have x : ∀ i, i < 6 → sI σ1 1869 i = iI (A i) := fun i hi => by rw [(t2 1869 i (PUr_n i)).1]; exact hA (c3 y).1 i hi
  rw [(t3.2.2.1 y).1, if_pos rfl, (c8 _).1, (c8 _).2.1, (c8 _).2.2.1, (c8 _).2.2.2.1, (c8 _).2.2.2.2.1, (c8 _).2.2.2.2.2, z8.1, z8.2.1, z8.2.2.1, z8.2.2.2.1, z8.2.2.2.2.1, z8.2.2.2.2.2, x 0 (by omega), x 1 (by omega), x 2 (by omega), x 3 (by omega), x 4 (by omega), x 5 (by omega), bd_id]
set_option maxHeartbeats 200000 in
theorem m_b52 {n : Nat} {σ : xσ} {T : Tp} (ok : okTp T) {q : Nat} (e : vb T q = 3) (hq : nx T q ≤ T.1) (h : RSt σ T (rdN T 2 (nx T q))) (hA : (rdN T 2 (nx T q)).1 = true → ∀ i, i < 2 → sI σ 1869 i = iI (nmb T (psN T i (nx T q)))) (x : Int) (hx : fkq T q = 99 ∧ x = -1 ∨ fkq T q ≠ 99 ∧ x = fkq T q) : StM n σ T q (b_X14_readFill_52 n (iI x) σ) := by
  obtain ⟨a1, a2, a3⟩ := rdN_b (T := T) 2 (nx T q) hq
  unfold StM
  rw [stP_3 e]
  by_cases k : (rdN T 2 (nx T q)).1 = true
  · have h' := h.t k
    have e2 := (a3 k).1
    rw [if_pos k]
    rw [e2] at h' a1
    rw [b_X14_readFill_52, (h'.2.2.1 rfl).1, if_pos rfl, if_pos rfl]
    rcases hx with ⟨f, rfl⟩ | ⟨f, rfl⟩
    · obtain ⟨σ1, t1, t2, t3⟩ := m_refuse (n := n) h'
      rw [if_pos f, if_neg (by decide), t1, bd, b_X14_readFill_68, (t3.2.2.2 rfl).1, if_neg (by decide)]
      exact ⟨σ1, t2.mono (fun _ _ => PUr_d), t3, fun _ => rfl, fun y => nomatch y⟩
    · have l3 := fkq_lt f
      have m1 := ix_nx (W := W2) (x := 0) a1 f
      have rk : R32 (fkq T q : Int) := ⟨by omega, by omega⟩
      obtain ⟨σ1, t1, t2, t3⟩ := RSt_nx (n := n) ok a1 h'
      obtain ⟨σ2, u1, u2, u3, u4, u5⟩ := l_fill82 (n := n) ok (iI (fkq T q : Int)) 4 xFU 2 σ1 (true, nx T (psN T 2 (nx T q))) (xFU_lt (by omega)) (by omega) m1.2 t3
      rw [itS_t] at u3 u4
      obtain ⟨d1, d2, d3⟩ := rdN_b (T := T) 4 (nx T (psN T 2 (nx T q))) m1.2
      obtain ⟨σ3, w1, w2, w3, w4⟩ := m_fin (n := n) ok d1 u3 (iI (fkq T q : Int)) (agu T q) (fun y i hi => by
        unfold agu
        by_cases i2 : 2 ≤ i
        · rw [if_pos ⟨e, i2⟩]
          have := u4 y (i - 2) (by omega)
          rw [show 2 + (i - 2) = i by omega] at this
          exact this
        · rw [if_neg (by omega), if_neg (by omega), u5 i (by omega), (t2 1869 i (fun y => by unfold PU at y; omega)).1]
          exact hA k i (by omega))
      rw [show nI 2 = 2 from rfl] at u1
      rw [if_neg f, if_pos ((iIg0 rk).mpr (by omega)), t1, bd, u1]
      refine ⟨σ3, ((t2.mono (fun _ _ => PU_d)).trans (u2.mono (fun _ _ => PUa_d))).trans (w1.mono (fun _ _ => PUr_d)), w2, w3, fun y => ⟨(w4 y).trans ?_, fun z => by omega⟩⟩
      unfold exM
      rw [if_neg (by omega), if_neg (by omega), if_neg (by omega), if_pos e, nI_i]
  · have kf := b_ff k
    rw [if_neg k, b_X14_readFill_52, (h.2.2.2 kf).1, if_neg (by decide), if_neg (by decide)]
    exact ⟨σ, Fk.refl, h, fun _ => rfl, fun y => (k y).elim⟩
set_option maxHeartbeats 200000 in
theorem m_st3 {n : Nat} {σ : xσ} {T : Tp} (ok : okTp T) {q : Nat} (hq : q ≤ T.1) (h : RSt σ T (true, q)) (hw : wq T q 10) : StM n σ T q (f_X14_statement n σ) := by
  have e : vb T q = 3 := vb_is hw (by decide) rfl
  have W : ∀ j, j < 28 → f_X14_isWord n j σ = some (tf (wq T q j), σ) := fun j hj => m_isWord h.1 ok hq h.2.1 hj
  have N : ∀ j, j < 28 → j ≠ 10 → tf (wq T q j) = 0 := fun j hj hne => tf_f (fun y => hne (wq_u hj (by decide) y hw))
  obtain ⟨σ1, t1, t2, t3⟩ := RSt_nx (n := n) ok hq h
  have n1 := (nx_b hq).2.1
  obtain ⟨σ2, u1, u2, u3, u4⟩ := m_readInts (n := n) ok (c := 2) (by omega) (r := (true, nx T q)) n1 t3
  rw [itS_t] at u3 u4
  obtain ⟨a1, a2, a3⟩ := rdN_b (T := T) 2 (nx T q) n1
  have W2' : ∀ j, j < 28 → f_X14_isWord n j σ2 = some (tf (wq T (rdN T 2 (nx T q)).2 j), σ2) := fun j hj => m_isWord u3.1 ok a1 u3.2.1 hj
  have F : Fk PMd σ σ2 := (t2.mono (fun _ _ => PU_d)).trans (u2.mono (fun _ _ => PUa_d))
  have fin : ∀ x : Int, ((rdN T 2 (nx T q)).1 = true → (fkq T q = 99 ∧ x = -1 ∨ fkq T q ≠ 99 ∧ x = fkq T q)) → StM n σ T q (b_X14_readFill_52 n (iI x) σ2) := by
    intro x hx
    have go : StM n σ2 T q (b_X14_readFill_52 n (iI x) σ2) := by
      by_cases k : (rdN T 2 (nx T q)).1 = true
      · exact m_b52 ok e n1 u3 u4 x (hx k)
      · -- it was wrong already: the word does not matter
        have kf := b_ff k
        unfold StM
        rw [stP_3 e, if_neg k, b_X14_readFill_52, (u3.2.2.2 kf).1, if_neg (by decide), if_neg (by decide)]
        exact ⟨σ2, Fk.refl, u3, fun _ => rfl, fun y => (k y).elim⟩
    obtain ⟨σ', g1, g2⟩ := go
    exact ⟨σ', F.trans g1, g2⟩
  have ev : ∀ p x, ixW T p W2 x = ifP (wq T p 11) x (ifP (wq T p 12) (x + 1) (ifP (wq T p 13) (x + 1 + 1) 99)) := fun p x => rfl
  have fk : (rdN T 2 (nx T q)).1 = true → fkq T q = ifP (wq T (rdN T 2 (nx T q)).2 11) 0 (ifP (wq T (rdN T 2 (nx T q)).2 12) 1 (ifP (wq T (rdN T 2 (nx T q)).2 13) 2 99)) := fun k => by
    unfold fkq; rw [ev, (a3 k).1]
  rw [f_X14_statement, W 4 (by decide), bd, if_pos (N 4 (by decide) (by decide)), W 8 (by decide), bd, if_pos (N 8 (by decide) (by decide)), W 9 (by decide), bd, if_pos (N 9 (by decide) (by decide)), W 10 (by decide), bd, if_neg (tn hw), bd_id, f_X14_readFill, t1, bd, show (2 : Int32) = nI 2 from rfl, u1, bd, W2' 11 (by decide), bd]
  by_cases w1 : wq T (rdN T 2 (nx T q)).2 11
  · rw [if_neg (tn w1)]
    rw [show (0 : Int32) = iI 0 from rfl]
    exact fin 0 (fun k => Or.inr (by rw [fk k, ifP_t w1]; exact ⟨by omega, rfl⟩))
  rw [if_pos (tf_f w1), W2' 12 (by decide), bd]
  by_cases w2 : wq T (rdN T 2 (nx T q)).2 12
  · rw [if_neg (tn w2)]
    rw [show (1 : Int32) = iI 1 from rfl]
    exact fin 1 (fun k => Or.inr (by rw [fk k, ifP_f w1, ifP_t w2]; exact ⟨by omega, rfl⟩))
  rw [if_pos (tf_f w2), W2' 13 (by decide), bd]
  by_cases w3 : wq T (rdN T 2 (nx T q)).2 13
  · rw [if_neg (tn w3)]
    rw [show nI 2 = iI 2 from rfl]
    exact fin 2 (fun k => Or.inr (by rw [fk k, ifP_f w1, ifP_f w2, ifP_t w3]; exact ⟨by omega, rfl⟩))
  rw [if_pos (tf_f w3)]
  rw [show ((-1) : Int32) = iI (-1) from rfl]
  exact fin (-1) (fun k => Or.inl (by rw [fk k, ifP_f w1, ifP_f w2, ifP_f w3]; exact ⟨rfl, rfl⟩))
set_option maxHeartbeats 200000 in
theorem m_st99 {n : Nat} {σ : xσ} {T : Tp} (ok : okTp T) {q : Nat} (hq : q ≤ T.1) (h : RSt σ T (true, q)) (hv : vb T q = 99) : StM n σ T q (f_X14_statement n σ) := by
  have no : ∀ j, j ∈ W0 → ¬ wq T q j := by
    intro j hj y
    obtain ⟨x, hx⟩ := List.mem_iff_getElem?.mp hj
    have hl : x < W0.length := by
      refine Classical.byContradiction (fun n => ?_)
      rw [List.getElem?_eq_none (by omega)] at hx; cases hx
    have w0 : W0.length = 13 := rfl
    have := vb_is y (W0_ok.2.1 j hj) hx
    omega
  have W : ∀ j, j < 28 → f_X14_isWord n j σ = some (tf (wq T q j), σ) := fun j hj => m_isWord h.1 ok hq h.2.1 hj
  have N : ∀ j, j ∈ W0 → tf (wq T q j) = 0 := fun j hj => tf_f (no j hj)
  obtain ⟨σ1, t1, t2, t3⟩ := m_refuse (n := n) h
  unfold StM
  rw [stP_99 hv]
  refine ⟨σ1, t2.mono (fun _ _ => PUr_d), t3, fun _ => ?_, fun y => nomatch y⟩
  rw [f_X14_statement, W 4 (by decide), bd, if_pos (N 4 (by decide)), W 8 (by decide), bd, if_pos (N 8 (by decide)), W 9 (by decide), bd, if_pos (N 9 (by decide)), W 10 (by decide), bd, if_pos (N 10 (by decide)), W 14 (by decide), bd, if_pos (N 14 (by decide)), W 20 (by decide), bd, if_pos (N 20 (by decide)), W 21 (by decide), bd, if_pos (N 21 (by decide)), W 22 (by decide), bd, if_pos (N 22 (by decide)), bd_id, f_X14_readPlain, W 23 (by decide), bd, if_pos (N 23 (by decide)), W 24 (by decide), bd, if_pos (N 24 (by decide)), W 25 (by decide), bd, if_pos (N 25 (by decide)), W 26 (by decide), bd, if_pos (N 26 (by decide)), W 27 (by decide), bd, if_pos (N 27 (by decide)), b_X14_readPlain_71, if_neg (by decide), t1, bd]
set_option maxHeartbeats 200000 in
theorem m_statement {n : Nat} {σ : xσ} {T : Tp} (ok : okTp T) {q : Nat} (hq : q ≤ T.1) (h : RSt σ T (true, q)) : StM n σ T q (f_X14_statement n σ) := by
  by_cases h99 : vb T q = 99
  · exact m_st99 ok hq h h99
  obtain ⟨w, h1, h2, h3, h4⟩ := vb_w h99
  rcases (show vb T q = 0 ∨ vb T q = 1 ∨ vb T q = 2 ∨ vb T q = 3 ∨ vb T q = 4 ∨ vb T q = 5 ∨ vb T q = 6 ∨ vb T q = 7 ∨ vb T q = 8 ∨ vb T q = 9 ∨ vb T q = 10 ∨ vb T q = 11 ∨ vb T q = 12 by omega) with v | v | v | v | v | v | v | v | v | v | v | v | v <;> rw [v] at h3 <;> cases Option.some.inj h3
  · exact m_st0 ok hq h h2
  · exact m_st1 ok hq h h2
  · exact m_st2 ok hq h h2
  · exact m_st3 ok hq h h2
  · exact m_st4 ok hq h h2
  · exact m_st5 ok hq h h2
  · exact m_st6 ok hq h h2
  · exact m_st7 ok hq h h2
  · exact m_st8 ok hq h h2
  · exact m_st9 ok hq h h2
  · exact m_st10 ok hq h h2
  · exact m_st11 ok hq h h2
  · exact m_st12 ok hq h h2

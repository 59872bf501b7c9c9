/-! the reference: which statement -/
set_option maxHeartbeats 200000 in
theorem vb_is {T : Tp} {q w : Nat} (hw : wq T q w) (h28 : w < 28) {x : Nat} (hx : W0[x]? = some w) : vb T q = x := by
  have := ixW_is h28 hw W0 0 x W0_ok.1 W0_ok.2.1 hx
  rw [Nat.zero_add] at this; exact this
set_option maxHeartbeats 200000 in
theorem m_st1 {n : Nat} {σ : xσ} {T : Tp} (ok : okTp T) {q : Nat} (hq : q ≤ T.1) (h : RSt σ T (true, q)) (hw : wq T q 8) : StM n σ T q (f_X14_statement n σ) := by
  have e : vb T q = 1 := vb_is hw (by decide) rfl
  have W : ∀ j, j < 28 → f_X14_isWord n j σ = some (tf (wq T q j), σ) := fun j hj => m_isWord h.1 ok hq h.2.1 hj
  have N : ∀ j, j < 28 → j ≠ 8 → tf (wq T q j) = 0 := fun j hj hne => tf_f (fun y => hne (wq_u hj (by decide) y hw))
  obtain ⟨σ1, t1, t2, t3⟩ := RSt_nx (n := n) ok hq h
  have n1 := (nx_b hq).2.1
  obtain ⟨σ2, u1, u2, u3, u4⟩ := m_stN (n := n) ok (c := 1) (by omega) n1 t3 (fun s => gd (inb 0 8) (bd (f_X14_drop n (sI s 1869 (0 : Int32).toNatClampNeg) s) (fun v s1 => some ((), s1))))
  have F := (t2.mono (fun _ _ => PU_d)).trans (u1.mono (fun _ _ => PUa_d))
  rw [← stP_1 e] at u2 u3 u4
  rw [f_X14_statement, W 4 (by decide), bd, if_pos (N 4 (by decide) (by decide)), W 8 (by decide), bd, if_neg (tn hw), t1, bd]
  refine ⟨σ2, F, u2, u3, fun y => ⟨?_, fun z => by omega⟩⟩
  obtain ⟨x1, x2⟩ := u4 y
  refine x1.trans ?_
  unfold exM
  have ag : ∀ i, agu T q i = nmb T (psN T i (nx T q)) := fun i => by unfold agu; rw [if_neg (by omega), if_neg (by omega)]
  rw [if_neg (by omega), if_pos e, ag, bd_id, (c8 _).1, z8.1, x2 0 (by omega)]
set_option maxHeartbeats 200000 in
theorem m_st2 {n : Nat} {σ : xσ} {T : Tp} (ok : okTp T) {q : Nat} (hq : q ≤ T.1) (h : RSt σ T (true, q)) (hw : wq T q 9) : StM n σ T q (f_X14_statement n σ) := by
  have e : vb T q = 2 := vb_is hw (by decide) rfl
  have W : ∀ j, j < 28 → f_X14_isWord n j σ = some (tf (wq T q j), σ) := fun j hj => m_isWord h.1 ok hq h.2.1 hj
  have N : ∀ j, j < 28 → j ≠ 9 → tf (wq T q j) = 0 := fun j hj hne => tf_f (fun y => hne (wq_u hj (by decide) y hw))
  obtain ⟨σ1, t1, t2, t3⟩ := RSt_nx (n := n) ok hq h
  have n1 := (nx_b hq).2.1
  obtain ⟨σ2, u1, u2, u3, u4⟩ := m_stN (n := n) ok (c := 3) (by omega) n1 t3 (fun s => gd (inb 0 8) (gd (inb 1 8) (gd (inb 2 8) (bd (f_X14_move n (sI s 1869 (0 : Int32).toNatClampNeg) (sI s 1869 (1 : Int32).toNatClampNeg) (sI s 1869 (2 : Int32).toNatClampNeg) s) (fun v s1 => some ((), s1))))))
  have F := (t2.mono (fun _ _ => PU_d)).trans (u1.mono (fun _ _ => PUa_d))
  rw [← stP_2 (T := T) (q := q) (by omega)] at u2 u3 u4
  rw [f_X14_statement, W 4 (by decide), bd, if_pos (N 4 (by decide) (by decide)), W 8 (by decide), bd, if_pos (N 8 (by decide) (by decide)), W 9 (by decide), bd, if_neg (tn hw), t1, bd]
  refine ⟨σ2, F, u2, u3, fun y => ⟨?_, fun z => by omega⟩⟩
  obtain ⟨x1, x2⟩ := u4 y
  refine x1.trans ?_
  unfold exM
  have ag : ∀ i, agu T q i = nmb T (psN T i (nx T q)) := fun i => by unfold agu; rw [if_neg (by omega), if_neg (by omega)]
  rw [if_neg (by omega), if_neg (by omega), if_pos e, ag, ag, ag, bd_id, (c8 _).1, (c8 _).2.1, (c8 _).2.2.1, z8.1, z8.2.1, z8.2.2.1, x2 0 (by omega), x2 1 (by omega), x2 2 (by omega)]
set_option maxHeartbeats 200000 in
theorem m_st10 {n : Nat} {σ : xσ} {T : Tp} (ok : okTp T) {q : Nat} (hq : q ≤ T.1) (h : RSt σ T (true, q)) (hw : wq T q 20) : StM n σ T q (f_X14_statement n σ) := by
  have e : vb T q = 10 := vb_is hw (by decide) rfl
  have W : ∀ j, j < 28 → f_X14_isWord n j σ = some (tf (wq T q j), σ) := fun j hj => m_isWord h.1 ok hq h.2.1 hj
  have N : ∀ j, j < 28 → j ≠ 20 → tf (wq T q j) = 0 := fun j hj hne => tf_f (fun y => hne (wq_u hj (by decide) y hw))
  obtain ⟨σ1, t1, t2, t3⟩ := RSt_nx (n := n) ok hq h
  have n1 := (nx_b hq).2.1
  obtain ⟨σ2, u1, u2, u3, u4⟩ := m_stN (n := n) ok (c := 4) (by omega) n1 t3 (fun s => gd (inb 0 8) (gd (inb 1 8) (gd (inb 2 8) (gd (inb 3 8) (bd (f_X14_windowOf n (sI s 1869 (0 : Int32).toNatClampNeg) (sI s 1869 (1 : Int32).toNatClampNeg) (sI s 1869 (2 : Int32).toNatClampNeg) (sI s 1869 (3 : Int32).toNatClampNeg) s) (fun v s1 => some ((), s1)))))))
  have F := (t2.mono (fun _ _ => PU_d)).trans (u1.mono (fun _ _ => PUa_d))
  rw [← stP_10 e] at u2 u3 u4
  rw [f_X14_statement, W 4 (by decide), bd, if_pos (N 4 (by decide) (by decide)), W 8 (by decide), bd, if_pos (N 8 (by decide) (by decide)), W 9 (by decide), bd, if_pos (N 9 (by decide) (by decide)), W 10 (by decide), bd, if_pos (N 10 (by decide) (by decide)), W 14 (by decide), bd, if_pos (N 14 (by decide) (by decide)), W 20 (by decide), bd, if_neg (tn hw), t1, bd]
  refine ⟨σ2, F, u2, u3, fun y => ⟨?_, fun z => by omega⟩⟩
  obtain ⟨x1, x2⟩ := u4 y
  refine x1.trans ?_
  unfold exM
  have ag : ∀ i, agu T q i = nmb T (psN T i (nx T q)) := fun i => by unfold agu; rw [if_neg (by omega), if_neg (by omega)]
  rw [if_neg (by omega), if_neg (by omega), if_neg (by omega), if_neg (by omega), if_neg (by omega), if_pos e, ag, ag, ag, ag, bd_id, (c8 _).1, (c8 _).2.1, (c8 _).2.2.1, (c8 _).2.2.2.1, z8.1, z8.2.1, z8.2.2.1, z8.2.2.2.1, x2 0 (by omega), x2 1 (by omega), x2 2 (by omega), x2 3 (by omega)]
set_option maxHeartbeats 200000 in
theorem m_st11 {n : Nat} {σ : xσ} {T : Tp} (ok : okTp T) {q : Nat} (hq : q ≤ T.1) (h : RSt σ T (true, q)) (hw : wq T q 21) : StM n σ T q (f_X14_statement n σ) := by
  have e : vb T q = 11 := vb_is hw (by decide) rfl
  have W : ∀ j, j < 28 → f_X14_isWord n j σ = some (tf (wq T q j), σ) := fun j hj => m_isWord h.1 ok hq h.2.1 hj
  have N : ∀ j, j < 28 → j ≠ 21 → tf (wq T q j) = 0 := fun j hj hne => tf_f (fun y => hne (wq_u hj (by decide) y hw))
  obtain ⟨σ1, t1, t2, t3⟩ := RSt_nx (n := n) ok hq h
  have n1 := (nx_b hq).2.1
  obtain ⟨σ2, u1, u2, u3, u4⟩ := m_stN (n := n) ok (c := 3) (by omega) n1 t3 (fun s => gd (inb 0 8) (gd (inb 1 8) (gd (inb 2 8) (bd (f_X14_near n (sI s 1869 (0 : Int32).toNatClampNeg) (sI s 1869 (1 : Int32).toNatClampNeg) (sI s 1869 (2 : Int32).toNatClampNeg) s) (fun v s1 => some ((), s1))))))
  have F := (t2.mono (fun _ _ => PU_d)).trans (u1.mono (fun _ _ => PUa_d))
  rw [← stP_2 (T := T) (q := q) (by omega)] at u2 u3 u4
  rw [f_X14_statement, W 4 (by decide), bd, if_pos (N 4 (by decide) (by decide)), W 8 (by decide), bd, if_pos (N 8 (by decide) (by decide)), W 9 (by decide), bd, if_pos (N 9 (by decide) (by decide)), W 10 (by decide), bd, if_pos (N 10 (by decide) (by decide)), W 14 (by decide), bd, if_pos (N 14 (by decide) (by decide)), W 20 (by decide), bd, if_pos (N 20 (by decide) (by decide)), W 21 (by decide), bd, if_neg (tn hw), t1, bd]
  refine ⟨σ2, F, u2, u3, fun y => ⟨?_, fun z => by omega⟩⟩
  obtain ⟨x1, x2⟩ := u4 y
  refine x1.trans ?_
  unfold exM
  have ag : ∀ i, agu T q i = nmb T (psN T i (nx T q)) := fun i => by unfold agu; rw [if_neg (by omega), if_neg (by omega)]
  rw [if_neg (by omega), if_neg (by omega), if_neg (by omega), if_neg (by omega), if_neg (by omega), if_neg (by omega), if_pos e, ag, ag, ag, bd_id, (c8 _).1, (c8 _).2.1, (c8 _).2.2.1, z8.1, z8.2.1, z8.2.2.1, x2 0 (by omega), x2 1 (by omega), x2 2 (by omega)]
set_option maxHeartbeats 200000 in
theorem m_st4 {n : Nat} {σ : xσ} {T : Tp} (ok : okTp T) {q : Nat} (hq : q ≤ T.1) (h : RSt σ T (true, q)) (hw : wq T q 23) : StM n σ T q (f_X14_statement n σ) := by
  have e : vb T q = 4 := vb_is hw (by decide) rfl
  have W : ∀ j, j < 28 → f_X14_isWord n j σ = some (tf (wq T q j), σ) := fun j hj => m_isWord h.1 ok hq h.2.1 hj
  have N : ∀ j, j < 28 → j ≠ 23 → tf (wq T q j) = 0 := fun j hj hne => tf_f (fun y => hne (wq_u hj (by decide) y hw))
  obtain ⟨σ2, u1, u2, u3, u4⟩ := m_b71 (n := n) ok (v := 4) hq h (by omega)
  rw [← stP_p (T := T) (q := q) (by omega)] at u2 u3 u4
  rw [f_X14_statement, W 4 (by decide), bd, if_pos (N 4 (by decide) (by decide)), W 8 (by decide), bd, if_pos (N 8 (by decide) (by decide)), W 9 (by decide), bd, if_pos (N 9 (by decide) (by decide)), W 10 (by decide), bd, if_pos (N 10 (by decide) (by decide)), W 14 (by decide), bd, if_pos (N 14 (by decide) (by decide)), W 20 (by decide), bd, if_pos (N 20 (by decide) (by decide)), W 21 (by decide), bd, if_pos (N 21 (by decide) (by decide)), W 22 (by decide), bd, if_pos (N 22 (by decide) (by decide)), bd_id, f_X14_readPlain, W 23 (by decide), bd, if_neg (tn hw)]
  refine ⟨σ2, u1.mono (fun _ _ => PUr_d), u2, u3, fun y => ⟨(u4 y).trans ?_, fun z => by omega⟩⟩
  unfold exM
  rw [if_neg (by omega), if_neg (by omega), if_neg (by omega), if_neg (by omega), if_neg (by omega), if_neg (by omega), if_neg (by omega), if_neg (by omega), e]
set_option maxHeartbeats 200000 in
theorem m_st5 {n : Nat} {σ : xσ} {T : Tp} (ok : okTp T) {q : Nat} (hq : q ≤ T.1) (h : RSt σ T (true, q)) (hw : wq T q 24) : StM n σ T q (f_X14_statement n σ) := by
  have e : vb T q = 5 := vb_is hw (by decide) rfl
  have W : ∀ j, j < 28 → f_X14_isWord n j σ = some (tf (wq T q j), σ) := fun j hj => m_isWord h.1 ok hq h.2.1 hj
  have N : ∀ j, j < 28 → j ≠ 24 → tf (wq T q j) = 0 := fun j hj hne => tf_f (fun y => hne (wq_u hj (by decide) y hw))
  obtain ⟨σ2, u1, u2, u3, u4⟩ := m_b71 (n := n) ok (v := 5) hq h (by omega)
  rw [← stP_p (T := T) (q := q) (by omega)] at u2 u3 u4
  rw [f_X14_statement, W 4 (by decide), bd, if_pos (N 4 (by decide) (by decide)), W 8 (by decide), bd, if_pos (N 8 (by decide) (by decide)), W 9 (by decide), bd, if_pos (N 9 (by decide) (by decide)), W 10 (by decide), bd, if_pos (N 10 (by decide) (by decide)), W 14 (by decide), bd, if_pos (N 14 (by decide) (by decide)), W 20 (by decide), bd, if_pos (N 20 (by decide) (by decide)), W 21 (by decide), bd, if_pos (N 21 (by decide) (by decide)), W 22 (by decide), bd, if_pos (N 22 (by decide) (by decide)), bd_id, f_X14_readPlain, W 23 (by decide), bd, if_pos (N 23 (by decide) (by decide)), W 24 (by decide), bd, if_neg (tn hw)]
  refine ⟨σ2, u1.mono (fun _ _ => PUr_d), u2, u3, fun y => ⟨(u4 y).trans ?_, fun z => by omega⟩⟩
  unfold exM
  rw [if_neg (by omega), if_neg (by omega), if_neg (by omega), if_neg (by omega), if_neg (by omega), if_neg (by omega), if_neg (by omega), if_neg (by omega), e]
set_option maxHeartbeats 200000 in
theorem m_st6 {n : Nat} {σ : xσ} {T : Tp} (ok : okTp T) {q : Nat} (hq : q ≤ T.1) (h : RSt σ T (true, q)) (hw : wq T q 25) : StM n σ T q (f_X14_statement n σ) := by
  have e : vb T q = 6 := vb_is hw (by decide) rfl
  have W : ∀ j, j < 28 → f_X14_isWord n j σ = some (tf (wq T q j), σ) := fun j hj => m_isWord h.1 ok hq h.2.1 hj
  have N : ∀ j, j < 28 → j ≠ 25 → tf (wq T q j) = 0 := fun j hj hne => tf_f (fun y => hne (wq_u hj (by decide) y hw))
  obtain ⟨σ2, u1, u2, u3, u4⟩ := m_b71 (n := n) ok (v := 6) hq h (by omega)
  rw [← stP_p (T := T) (q := q) (by omega)] at u2 u3 u4
  rw [f_X14_statement, W 4 (by decide), bd, if_pos (N 4 (by decide) (by decide)), W 8 (by decide), bd, if_pos (N 8 (by decide) (by decide)), W 9 (by decide), bd, if_pos (N 9 (by decide) (by decide)), W 10 (by decide), bd, if_pos (N 10 (by decide) (by decide)), W 14 (by decide), bd, if_pos (N 14 (by decide) (by decide)), W 20 (by decide), bd, if_pos (N 20 (by decide) (by decide)), W 21 (by decide), bd, if_pos (N 21 (by decide) (by decide)), W 22 (by decide), bd, if_pos (N 22 (by decide) (by decide)), bd_id, f_X14_readPlain, W 23 (by decide), bd, if_pos (N 23 (by decide) (by decide)), W 24 (by decide), bd, if_pos (N 24 (by decide) (by decide)), W 25 (by decide), bd, if_neg (tn hw)]
  refine ⟨σ2, u1.mono (fun _ _ => PUr_d), u2, u3, fun y => ⟨(u4 y).trans ?_, fun z => by omega⟩⟩
  unfold exM
  rw [if_neg (by omega), if_neg (by omega), if_neg (by omega), if_neg (by omega), if_neg (by omega), if_neg (by omega), if_neg (by omega), if_neg (by omega), e]
set_option maxHeartbeats 200000 in
theorem m_st7 {n : Nat} {σ : xσ} {T : Tp} (ok : okTp T) {q : Nat} (hq : q ≤ T.1) (h : RSt σ T (true, q)) (hw : wq T q 26) : StM n σ T q (f_X14_statement n σ) := by
  have e : vb T q = 7 := vb_is hw (by decide) rfl
  have W : ∀ j, j < 28 → f_X14_isWord n j σ = some (tf (wq T q j), σ) := fun j hj => m_isWord h.1 ok hq h.2.1 hj
  have N : ∀ j, j < 28 → j ≠ 26 → tf (wq T q j) = 0 := fun j hj hne => tf_f (fun y => hne (wq_u hj (by decide) y hw))
  obtain ⟨σ2, u1, u2, u3, u4⟩ := m_b71 (n := n) ok (v := 7) hq h (by omega)
  rw [← stP_p (T := T) (q := q) (by omega)] at u2 u3 u4
  rw [f_X14_statement, W 4 (by decide), bd, if_pos (N 4 (by decide) (by decide)), W 8 (by decide), bd, if_pos (N 8 (by decide) (by decide)), W 9 (by decide), bd, if_pos (N 9 (by decide) (by decide)), W 10 (by decide), bd, if_pos (N 10 (by decide) (by decide)), W 14 (by decide), bd, if_pos (N 14 (by decide) (by decide)), W 20 (by decide), bd, if_pos (N 20 (by decide) (by decide)), W 21 (by decide), bd, if_pos (N 21 (by decide) (by decide)), W 22 (by decide), bd, if_pos (N 22 (by decide) (by decide)), bd_id, f_X14_readPlain, W 23 (by decide), bd, if_pos (N 23 (by decide) (by decide)), W 24 (by decide), bd, if_pos (N 24 (by decide) (by decide)), W 25 (by decide), bd, if_pos (N 25 (by decide) (by decide)), W 26 (by decide), bd, if_neg (tn hw)]
  refine ⟨σ2, u1.mono (fun _ _ => PUr_d), u2, u3, fun y => ⟨(u4 y).trans ?_, fun z => by omega⟩⟩
  unfold exM
  rw [if_neg (by omega), if_neg (by omega), if_neg (by omega), if_neg (by omega), if_neg (by omega), if_neg (by omega), if_neg (by omega), if_neg (by omega), e]
set_option maxHeartbeats 200000 in
theorem m_st8 {n : Nat} {σ : xσ} {T : Tp} (ok : okTp T) {q : Nat} (hq : q ≤ T.1) (h : RSt σ T (true, q)) (hw : wq T q 27) : StM n σ T q (f_X14_statement n σ) := by
  have e : vb T q = 8 := vb_is hw (by decide) rfl
  have W : ∀ j, j < 28 → f_X14_isWord n j σ = some (tf (wq T q j), σ) := fun j hj => m_isWord h.1 ok hq h.2.1 hj
  have N : ∀ j, j < 28 → j ≠ 27 → tf (wq T q j) = 0 := fun j hj hne => tf_f (fun y => hne (wq_u hj (by decide) y hw))
  obtain ⟨σ2, u1, u2, u3, u4⟩ := m_b71 (n := n) ok (v := 8) hq h (by omega)
  rw [← stP_p (T := T) (q := q) (by omega)] at u2 u3 u4
  rw [f_X14_statement, W 4 (by decide), bd, if_pos (N 4 (by decide) (by decide)), W 8 (by decide), bd, if_pos (N 8 (by decide) (by decide)), W 9 (by decide), bd, if_pos (N 9 (by decide) (by decide)), W 10 (by decide), bd, if_pos (N 10 (by decide) (by decide)), W 14 (by decide), bd, if_pos (N 14 (by decide) (by decide)), W 20 (by decide), bd, if_pos (N 20 (by decide) (by decide)), W 21 (by decide), bd, if_pos (N 21 (by decide) (by decide)), W 22 (by decide), bd, if_pos (N 22 (by decide) (by decide)), bd_id, f_X14_readPlain, W 23 (by decide), bd, if_pos (N 23 (by decide) (by decide)), W 24 (by decide), bd, if_pos (N 24 (by decide) (by decide)), W 25 (by decide), bd, if_pos (N 25 (by decide) (by decide)), W 26 (by decide), bd, if_pos (N 26 (by decide) (by decide)), W 27 (by decide), bd, if_neg (tn hw)]
  refine ⟨σ2, u1.mono (fun _ _ => PUr_d), u2, u3, fun y => ⟨(u4 y).trans ?_, fun z => by omega⟩⟩
  unfold exM
  rw [if_neg (by omega), if_neg (by omega), if_neg (by omega), if_neg (by omega), if_neg (by omega), if_neg (by omega), if_neg (by omega), if_neg (by omega), e]
set_option maxHeartbeats 200000 in
theorem m_st0 {n : Nat} {σ : xσ} {T : Tp} (ok : okTp T) {q : Nat} (hq : q ≤ T.1) (h : RSt σ T (true, q)) (hw : wq T q 4) : StM n σ T q (f_X14_statement n σ) := by
  have e : vb T q = 0 := vb_is hw (by decide) rfl
  have W : ∀ j, j < 28 → f_X14_isWord n j σ = some (tf (wq T q j), σ) := fun j hj => m_isWord h.1 ok hq h.2.1 hj
  have N : ∀ j, j < 28 → j ≠ 4 → tf (wq T q j) = 0 := fun j hj hne => tf_f (fun y => hne (wq_u hj (by decide) y hw))
  obtain ⟨σ1, t1, t2, t3⟩ := RSt_nx (n := n) ok hq h
  have n1 := (nx_b hq).2.1
  obtain ⟨σ2, u1, u2, u3, u4⟩ := m_readInts (n := n) ok (c := 1) (by omega) (r := (true, nx T q)) n1 t3
  rw [itS_t] at u3 u4
  obtain ⟨a1, a2, a3⟩ := rdN_b (T := T) 1 (nx T q) n1
  obtain ⟨σ3, v1, v2, v3, v4⟩ := m_readShape (n := n) ok a1 u3
  have b1 : (shT T (rdN T 1 (nx T q))).2 ≤ T.1 := by
    unfold shT
    by_cases k : (rdN T 1 (nx T q)).1 = true
    · rw [if_pos k]; exact (shq_b a1).1
    · rw [if_neg k]; exact a1
  obtain ⟨σ4, w1, w2, w3⟩ := m_expect (n := n) ok b1 v3 (c := 59) (by omega)
  have es : exS T 59 (shT T (rdN T 1 (nx T q))) = stP T q := by
    rw [stP_0 e]
    unfold shT
    by_cases k : (rdN T 1 (nx T q)).1 = true
    · rw [if_pos k, if_pos k]
      have e2 : (rdN T 1 (nx T q)).2 = spq T q := (a3 k).1
      rw [e2]
    · rw [if_neg k, if_neg k]
      unfold exS
      rw [if_neg k]
  obtain ⟨c1, c2, c3⟩ := exS_b (T := T) (c := 59) b1
  rw [es] at w3 c3
  rw [f_X14_statement, W 4 (by decide), bd, if_neg (tn hw), t1, bd, show (1 : Int32) = nI 1 from rfl, u1, bd, v1, bd, show (59 : Int32) = iI 59 from rfl, w1, bd]
  refine ⟨σ4, (((t2.mono (fun _ _ => PU_d)).trans (u2.mono (fun _ _ => PUa_d))).trans (v2.mono (fun _ _ => PMs_d))).trans (w2.mono (fun _ _ => PUr_d)), w3, fun y => by rw [(w3.2.2.2 y).1, if_neg (by decide)], fun y => ?_⟩
  have y1 := (c3 y).1
  have y2 : (rdN T 1 (nx T q)).1 = true := by
    refine Classical.byContradiction (fun k => k ?_)
    unfold shT at y1
    rw [if_neg k] at y1; exact y1
  have e2 : (rdN T 1 (nx T q)).2 = spq T q := (a3 y2).1
  rw [(w3.2.2.1 y).1, if_pos rfl, (c8 _).1, bd_id, z8.1, (w2 1869 0 (PUr_n 0)).1, (v2 1869 0 (PMs_n 0)).1, u4 y2 0 (by omega)]
  unfold exM
  rw [if_pos e]
  have ag : agu T q 0 = nmb T (psN T 0 (nx T q)) := by unfold agu; rw [if_neg (by omega), if_neg (by omega)]
  refine ⟨by rw [ag], fun _ => ?_⟩
  have sh := v4 y1
  rw [e2] at sh
  obtain ⟨s1, s2, s3, s4, s5⟩ := sh
  exact ⟨s1.u w2 (fun _ _ => PUr_233), by rw [(w2 233 50 (fun y => by unfold PUr PU at y; omega)).1]; exact s2, by rw [(w2 233 51 (fun y => by unfold PUr PU at y; omega)).1]; exact s3, s4, s5⟩
set_option maxHeartbeats 200000 in
theorem m_st9 {n : Nat} {σ : xσ} {T : Tp} (ok : okTp T) {q : Nat} (hq : q ≤ T.1) (h : RSt σ T (true, q)) (hw : wq T q 14) : StM n σ T q (f_X14_statement n σ) := by
  have e : vb T q = 9 := vb_is hw (by decide) rfl
  have W : ∀ j, j < 28 → f_X14_isWord n j σ = some (tf (wq T q j), σ) := fun j hj => m_isWord h.1 ok hq h.2.1 hj
  have N : ∀ j, j < 28 → j ≠ 14 → tf (wq T q j) = 0 := fun j hj hne => tf_f (fun y => hne (wq_u hj (by decide) y hw))
  obtain ⟨σ1, t1, t2, t3⟩ := RSt_nx (n := n) ok hq h
  have n1 := (nx_b hq).2.1
  obtain ⟨σ2, u1, u2, u3⟩ := m_relationHere (n := n) ok n1 t3
  have er : ixW T (nx T q) W3 0 = rlq T q := rfl
  rw [er] at u1 u3
  have hr2 : (if rlq T q = 99 then (false, nx T q) else (true, nx T (nx T q))).2 ≤ T.1 := by
    by_cases k : rlq T q = 99
    · rw [if_pos k]; exact n1
    · rw [if_neg k]; exact (nx_b n1).2.1
  obtain ⟨σ3, v1, v2, v3, v4⟩ := m_readShape (n := n) ok hr2 u3
  have b1 : (shT T (if rlq T q = 99 then (false, nx T q) else (true, nx T (nx T q)))).2 ≤ T.1 := by
    unfold shT
    by_cases k : (if rlq T q = 99 then (false, nx T q) else (true, nx T (nx T q))).1 = true
    · rw [if_pos k]; exact (shq_b hr2).1
    · rw [if_neg k]; exact hr2
  obtain ⟨σ4, w1, w2, w3⟩ := m_expect (n := n) ok b1 v3 (c := 59) (by omega)
  have es : exS T 59 (shT T (if rlq T q = 99 then (false, nx T q) else (true, nx T (nx T q)))) = stP T q := by
    rw [stP_9 e]
    unfold shT
    by_cases k : rlq T q = 99
    · rw [if_pos k, if_pos k, if_neg (fun y => nomatch y)]
      unfold exS
      rw [if_neg (fun y => nomatch y)]
    · rw [if_neg k, if_neg k, if_pos rfl]; rfl
  obtain ⟨c1, c2, c3⟩ := exS_b (T := T) (c := 59) b1
  rw [es] at w3 c3
  rw [f_X14_statement, W 4 (by decide), bd, if_pos (N 4 (by decide) (by decide)), W 8 (by decide), bd, if_pos (N 8 (by decide) (by decide)), W 9 (by decide), bd, if_pos (N 9 (by decide) (by decide)), W 10 (by decide), bd, if_pos (N 10 (by decide) (by decide)), W 14 (by decide), bd, if_neg (tn hw), t1, bd, u1, bd, v1, bd, show (59 : Int32) = iI 59 from rfl, w1, bd]
  refine ⟨σ4, (((t2.mono (fun _ _ => PU_d)).trans (u2.mono (fun _ _ => PUr_d))).trans (v2.mono (fun _ _ => PMs_d))).trans (w2.mono (fun _ _ => PUr_d)), w3, fun y => by rw [(w3.2.2.2 y).1, if_neg (by decide)], fun y => ?_⟩
  have y1 := (c3 y).1
  have y2 : ¬ rlq T q = 99 := by
    intro k
    unfold shT at y1
    rw [if_pos k, if_neg (fun y => nomatch y)] at y1; cases y1
  rw [(w3.2.2.1 y).1, if_pos rfl, if_neg y2, ← nI_i]
  rw [if_neg y2] at v4 y1
  unfold exM
  rw [if_neg (by omega), if_neg (by omega), if_neg (by omega), if_neg (by omega), if_pos e]
  refine ⟨?_, fun _ => ?_⟩
  · have : ∀ x : Option (Unit × xσ), bd x (fun v254 σ255 => b_X14_statement_209 n σ255) = x := fun x => bd_id x
    exact this _
  obtain ⟨s1, s2, s3, s4, s5⟩ := v4 y1
  exact ⟨s1.u w2 (fun _ _ => PUr_233), by rw [(w2 233 50 (fun y => by unfold PUr PU at y; omega)).1]; exact s2, by rw [(w2 233 51 (fun y => by unfold PUr PU at y; omega)).1]; exact s3, s4, s5⟩
set_option maxHeartbeats 200000 in
theorem m_st12 {n : Nat} {σ : xσ} {T : Tp} (ok : okTp T) {q : Nat} (hq : q ≤ T.1) (h : RSt σ T (true, q)) (hw : wq T q 22) : StM n σ T q (f_X14_statement n σ) := by
  have e : vb T q = 12 := vb_is hw (by decide) rfl
  have W : ∀ j, j < 28 → f_X14_isWord n j σ = some (tf (wq T q j), σ) := fun j hj => m_isWord h.1 ok hq h.2.1 hj
  have N : ∀ j, j < 28 → j ≠ 22 → tf (wq T q j) = 0 := fun j hj hne => tf_f (fun y => hne (wq_u hj (by decide) y hw))
  obtain ⟨σ1, t1, t2, t3⟩ := RSt_nx (n := n) ok hq h
  have n1 := (nx_b hq).2.1
  obtain ⟨σ2, u1, u2, u3⟩ := m_relationHere (n := n) ok n1 t3
  have er : ixW T (nx T q) W3 0 = rlq T q := rfl
  rw [er] at u1 u3
  have hr2 : (if rlq T q = 99 then (false, nx T q) else (true, nx T (nx T q))).2 ≤ T.1 := by
    by_cases k : rlq T q = 99
    · rw [if_pos k]; exact n1
    · rw [if_neg k]; exact (nx_b n1).2.1
  obtain ⟨σ3, v1, v2, v3, v4⟩ := m_readInts (n := n) ok (c := 4) (by omega) hr2 u3
  have b1 : (itS T 4 (if rlq T q = 99 then (false, nx T q) else (true, nx T (nx T q)))).2 ≤ T.1 := by
    unfold itS
    by_cases k : (if rlq T q = 99 then (false, nx T q) else (true, nx T (nx T q))).1 = true
    · rw [if_pos k]; exact (rdN_b 4 _ hr2).1
    · rw [if_neg k]; exact hr2
  obtain ⟨σ4, w1, w2, w3⟩ := m_expect (n := n) ok b1 v3 (c := 59) (by omega)
  have es : exS T 59 (itS T 4 (if rlq T q = 99 then (false, nx T q) else (true, nx T (nx T q)))) = stP T q := by
    rw [stP_12 e]
    unfold itS
    by_cases k : rlq T q = 99
    · rw [if_pos k, if_pos k, if_neg (fun y => nomatch y)]
      unfold exS
      rw [if_neg (fun y => nomatch y)]
    · rw [if_neg k, if_neg k, if_pos rfl]
  obtain ⟨c1, c2, c3⟩ := exS_b (T := T) (c := 59) b1
  rw [es] at w3 c3
  rw [f_X14_statement, W 4 (by decide), bd, if_pos (N 4 (by decide) (by decide)), W 8 (by decide), bd, if_pos (N 8 (by decide) (by decide)), W 9 (by decide), bd, if_pos (N 9 (by decide) (by decide)), W 10 (by decide), bd, if_pos (N 10 (by decide) (by decide)), W 14 (by decide), bd, if_pos (N 14 (by decide) (by decide)), W 20 (by decide), bd, if_pos (N 20 (by decide) (by decide)), W 21 (by decide), bd, if_pos (N 21 (by decide) (by decide)), W 22 (by decide), bd, if_neg (tn hw), t1, bd, u1, bd, show (4 : Int32) = nI 4 from rfl, v1, bd, show (59 : Int32) = iI 59 from rfl, w1, bd]
  refine ⟨σ4, (((t2.mono (fun _ _ => PU_d)).trans (u2.mono (fun _ _ => PUr_d))).trans (v2.mono (fun _ _ => PUa_d))).trans (w2.mono (fun _ _ => PUr_d)), w3, fun y => by rw [(w3.2.2.2 y).1, if_neg (by decide)], fun y => ⟨?_, fun z => by omega⟩⟩
  have y1 := (c3 y).1
  have y2 : ¬ rlq T q = 99 := by
    intro k
    have := itS_e y1
    rw [if_pos k] at this; cases this
  rw [(w3.2.2.1 y).1, if_pos rfl, if_neg y2, ← nI_i]
  have ag : ∀ i, agu T q i = nmb T (psN T i (nx T (nx T q))) := fun i => by unfold agu; rw [if_neg (by omega), if_pos e]
  have x : ∀ i, i < 4 → sI σ4 1869 i = iI (agu T q i) := fun i hi => by
    rw [(w2 1869 i (PUr_n i)).1, v4 y1 i hi, if_neg y2, ag]
  unfold exM
  rw [if_neg (by omega), if_neg (by omega), if_neg (by omega), if_neg (by omega), if_neg (by omega), if_neg (by omega), if_neg (by omega), if_pos e, (c8 _).1, (c8 _).2.1, (c8 _).2.2.1, (c8 _).2.2.2.1, z8.1, z8.2.1, z8.2.2.1, z8.2.2.2.1, x 0 (by omega), x 1 (by omega), x 2 (by omega), x 3 (by omega)]
  have : ∀ x : Option (Unit × xσ), bd x (fun v254 σ255 => b_X14_statement_398 n σ255) = x := fun x => bd_id x
  exact this _

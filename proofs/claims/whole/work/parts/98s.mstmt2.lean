/-! the reference: a statement, up to what it does -/
set_option maxHeartbeats 200000 in
theorem bd_id (x : Option (Unit × xσ)) : bd x (fun _ s => some ((), s)) = x := by
  cases x with
  | none => rfl
  | some p => rfl
def plnM (n v : Nat) (σ : xσ) : Option (Unit × xσ) :=
  if v = 4 then (if (sI σ 233 32) = 0 then st (wI σ 233 32 1) (fun σ1 => st (wI σ1 233 34 0) (fun σ2 => f_X14_put n 0 σ2)) else f_X14_put n 6 σ)
  else if v = 5 then (if (sI σ 233 32) = 0 then f_X14_put n 6 σ else bd (f_X14_isCommitted n σ) (fun v1 σ1 => if v1 = 0 then some ((), σ1) else f_X14_put n 0 σ1))
  else if v = 6 then (if (sI σ 233 32) = 0 then f_X14_put n 6 σ else bd (f_X13_take n 259 1061 σ) (fun _ σ1 => st (wI σ1 233 32 0) (fun σ2 => st (wI σ2 233 34 0) (fun σ3 => f_X14_put n 0 σ3))))
  else if v = 7 then f_X14_put n 0 σ
  else (if (sI σ 233 32) = 0 then bd (f_X14_isSaved n σ) (fun v1 σ1 => if v1 = 0 then some ((), σ1) else f_X14_put n 0 σ1) else f_X14_put n 6 σ)
noncomputable def exM (n : Nat) (T : Tp) (q : Nat) (σ : xσ) : Option (Unit × xσ) :=
  if vb T q = 0 then f_X14_add n (iI (agu T q 0)) σ
  else if vb T q = 1 then f_X14_drop n (iI (agu T q 0)) σ
  else if vb T q = 2 then f_X14_move n (iI (agu T q 0)) (iI (agu T q 1)) (iI (agu T q 2)) σ
  else if vb T q = 3 then f_X14_fill n (iI (agu T q 0)) (iI (agu T q 1)) (nI (fkq T q)) (iI (agu T q 2)) (iI (agu T q 3)) (iI (agu T q 4)) (iI (agu T q 5)) σ
  else if vb T q = 9 then f_X14_find n (nI (rlq T q)) σ
  else if vb T q = 10 then f_X14_windowOf n (iI (agu T q 0)) (iI (agu T q 1)) (iI (agu T q 2)) (iI (agu T q 3)) σ
  else if vb T q = 11 then f_X14_near n (iI (agu T q 0)) (iI (agu T q 1)) (iI (agu T q 2)) σ
  else if vb T q = 12 then f_X14_joinOf n (nI (rlq T q)) (iI (agu T q 0)) (iI (agu T q 1)) (iI (agu T q 2)) (iI (agu T q 3)) σ
  else plnM n (vb T q) σ
def PMd (b k : Nat) : Prop := PMs b k ∨ b = 1869
set_option maxHeartbeats 200000 in
theorem PUa_d {b k : Nat} (h : PUa b k) : PMd b k := by
  rcases h with h | h
  · exact Or.inl (PU_M h)
  · exact Or.inr h
set_option maxHeartbeats 200000 in
theorem PMs_d {b k : Nat} (h : PMs b k) : PMd b k := Or.inl h
set_option maxHeartbeats 200000 in
theorem PU_d {b k : Nat} (h : PU b k) : PMd b k := Or.inl (PU_M (PU_r h))
set_option maxHeartbeats 200000 in
theorem PUr_d {b k : Nat} (h : PUr b k) : PMd b k := Or.inl (PU_M h)
set_option maxHeartbeats 200000 in
theorem PMs_n (k : Nat) : ¬ PMs 1869 k := by unfold PMs PUr PU PMh; omega
set_option maxHeartbeats 200000 in
theorem PUr_n (k : Nat) : ¬ PUr 1869 k := by unfold PUr PU; omega
def StM (n : Nat) (σ : xσ) (T : Tp) (q : Nat) (f : Option (Unit × xσ)) : Prop := ∃ σ1, Fk PMd σ σ1 ∧ RSt σ1 T (stP T q) ∧ ((stP T q).1 = false → f = some ((), σ1)) ∧ ((stP T q).1 = true → f = exM n T q σ1 ∧ (vb T q = 0 ∨ vb T q = 9 → ShN σ1 (knd T (spq T q)) (shq T (spq T q)).2.2))
set_option maxHeartbeats 200000 in
theorem c8 {α : Type} (x : Option α) : gd (inb 0 8) x = x ∧ gd (inb 1 8) x = x ∧ gd (inb 2 8) x = x ∧ gd (inb 3 8) x = x ∧ gd (inb 4 8) x = x ∧ gd (inb 5 8) x = x := ⟨gd_pos (by decide) x, gd_pos (by decide) x, gd_pos (by decide) x, gd_pos (by decide) x, gd_pos (by decide) x, gd_pos (by decide) x⟩
set_option maxHeartbeats 200000 in
theorem itS_t {T : Tp} {k q : Nat} : itS T k (true, q) = rdN T k q := if_pos rfl
set_option maxHeartbeats 200000 in
theorem itS_e {T : Tp} {k : Nat} {r : Bool × Nat} (h : (itS T k r).1 = true) : r.1 = true := by
  unfold itS at h
  by_cases e : r.1 = true
  · exact e
  · rw [if_neg e] at h; exact h
/-! numbers, then the end; K is what follows if all is well -/
set_option maxHeartbeats 200000 in
theorem m_stN {n : Nat} {σ : xσ} {T : Tp} (ok : okTp T) {c : Nat} (hc : c ≤ 8) {p : Nat} (hp : p ≤ T.1) (h : RSt σ T (true, p)) (K : xσ → Option (Unit × xσ)) : ∃ σ1, Fk PUa σ σ1 ∧ RSt σ1 T (exS T 59 (rdN T c p)) ∧ ((exS T 59 (rdN T c p)).1 = false → bd (f_X14_readInts n (nI c) σ) (fun v s => bd (f_X14_expect n 59 s) (fun v s1 => if (sI s1 233 48) = 0 then K s1 else some ((), s1))) = some ((), σ1)) ∧ ((exS T 59 (rdN T c p)).1 = true → bd (f_X14_readInts n (nI c) σ) (fun v s => bd (f_X14_expect n 59 s) (fun v s1 => if (sI s1 233 48) = 0 then K s1 else some ((), s1))) = K σ1 ∧ ∀ i, i < c → sI σ1 1869 i = iI (nmb T (psN T i p))) := by
  obtain ⟨σ1, t1, t2, t3, t4⟩ := m_readInts (n := n) ok hc (r := (true, p)) hp h
  rw [itS_t] at t3 t4
  obtain ⟨a1, a2, a3⟩ := rdN_b (T := T) c p hp
  obtain ⟨σ2, u1, u2, u3⟩ := m_expect (n := n) ok a1 t3 (c := 59) (by omega)
  obtain ⟨b1, b2, b3⟩ := exS_b (T := T) (c := 59) a1
  rw [t1, bd, show (59 : Int32) = iI 59 from rfl, u1, bd]
  refine ⟨σ2, t2.trans (u2.mono (fun _ _ => Or.inl)), u3, fun y => ?_, fun y => ⟨?_, fun i hi => ?_⟩⟩
  · rw [(u3.2.2.2 y).1, if_neg (by decide)]
  · rw [(u3.2.2.1 y).1, if_pos rfl]
  · rw [(u2 1869 i (PUr_n i)).1]; exact t4 (b3 y).1 i hi
set_option maxHeartbeats 200000 in
theorem z8 : (0 : Int32).toNatClampNeg = 0 ∧ (1 : Int32).toNatClampNeg = 1 ∧ (2 : Int32).toNatClampNeg = 2 ∧ (3 : Int32).toNatClampNeg = 3 ∧ (4 : Int32).toNatClampNeg = 4 ∧ (5 : Int32).toNatClampNeg = 5 := ⟨rfl, rfl, rfl, rfl, rfl, rfl⟩
/-! plain words -/
set_option maxHeartbeats 200000 in
theorem m_b71 {n : Nat} {σ : xσ} {T : Tp} (ok : okTp T) {q v : Nat} (hq : q ≤ T.1) (h : RSt σ T (true, q)) (hv : 4 ≤ v ∧ v ≤ 8) : ∃ σ1, Fk PUr σ σ1 ∧ RSt σ1 T (exS T 59 (true, nx T q)) ∧ ((exS T 59 (true, nx T q)).1 = false → b_X14_readPlain_71 n (nI (v - 4)) σ = some ((), σ1)) ∧ ((exS T 59 (true, nx T q)).1 = true → b_X14_readPlain_71 n (nI (v - 4)) σ = plnM n v σ1) := by
  obtain ⟨σ1, t1, t2, t3⟩ := RSt_nx (n := n) ok hq h
  obtain ⟨σ2, u1, u2, u3⟩ := m_expect (n := n) ok (r := (true, nx T q)) (nx_b hq).2.1 t3 (c := 59) (by omega)
  have p138 : ∀ s, b_X14_readPlain_138 n s = f_X14_put n 6 s := fun s => by rw [b_X14_readPlain_138]; exact bd_id _
  have p225 : ∀ s, b_X14_readPlain_225 n s = f_X14_put n 0 s := fun s => by rw [b_X14_readPlain_225]; exact bd_id _
  refine ⟨σ2, (t2.mono (fun _ _ => PU_r)).trans u2, u3, fun y => ?_, fun y => ?_⟩
  · rw [b_X14_readPlain_71, if_pos ((nIg0 (by omega)).mpr (by omega)), t1, bd, show (59 : Int32) = iI 59 from rfl, u1, bd, (u3.2.2.2 y).1, if_neg (by decide)]
  · unfold plnM
    rw [b_X14_readPlain_71, if_pos ((nIg0 (by omega)).mpr (by omega)), t1, bd, show (59 : Int32) = iI 59 from rfl, u1, bd, (u3.2.2.1 y).1, if_pos rfl]
    simp only [p138, p225, bd_id]
    rcases (show v = 4 ∨ v = 5 ∨ v = 6 ∨ v = 7 ∨ v = 8 by omega) with rfl | rfl | rfl | rfl | rfl
    · simp only [show ((nI (4 - 4)) = 0) = True from eq_true rfl, show ((nI (4 - 4)) = 1) = False from eq_false (by decide), show ((nI (4 - 4)) = 2) = False from eq_false (by decide), show ((nI (4 - 4)) = 3) = False from eq_false (by decide), show ((nI (4 - 4)) = 4) = False from eq_false (by decide), show ((4 : Nat) = 4) = True from eq_true rfl, show ((4 : Nat) = 5) = False from eq_false (by decide), show ((4 : Nat) = 6) = False from eq_false (by decide), show ((4 : Nat) = 7) = False from eq_false (by decide), if_true, if_false]
    · simp only [show ((nI (5 - 4)) = 0) = False from eq_false (by decide), show ((nI (5 - 4)) = 1) = True from eq_true rfl, show ((nI (5 - 4)) = 2) = False from eq_false (by decide), show ((nI (5 - 4)) = 3) = False from eq_false (by decide), show ((nI (5 - 4)) = 4) = False from eq_false (by decide), show ((5 : Nat) = 4) = False from eq_false (by decide), show ((5 : Nat) = 5) = True from eq_true rfl, show ((5 : Nat) = 6) = False from eq_false (by decide), show ((5 : Nat) = 7) = False from eq_false (by decide), if_true, if_false]
    · simp only [show ((nI (6 - 4)) = 0) = False from eq_false (by decide), show ((nI (6 - 4)) = 1) = False from eq_false (by decide), show ((nI (6 - 4)) = 2) = True from eq_true rfl, show ((nI (6 - 4)) = 3) = False from eq_false (by decide), show ((nI (6 - 4)) = 4) = False from eq_false (by decide), show ((6 : Nat) = 4) = False from eq_false (by decide), show ((6 : Nat) = 5) = False from eq_false (by decide), show ((6 : Nat) = 6) = True from eq_true rfl, show ((6 : Nat) = 7) = False from eq_false (by decide), if_true, if_false]
    · simp only [show ((nI (7 - 4)) = 0) = False from eq_false (by decide), show ((nI (7 - 4)) = 1) = False from eq_false (by decide), show ((nI (7 - 4)) = 2) = False from eq_false (by decide), show ((nI (7 - 4)) = 3) = True from eq_true rfl, show ((nI (7 - 4)) = 4) = False from eq_false (by decide), show ((7 : Nat) = 4) = False from eq_false (by decide), show ((7 : Nat) = 5) = False from eq_false (by decide), show ((7 : Nat) = 6) = False from eq_false (by decide), show ((7 : Nat) = 7) = True from eq_true rfl, if_true, if_false]
    · simp only [show ((nI (8 - 4)) = 0) = False from eq_false (by decide), show ((nI (8 - 4)) = 1) = False from eq_false (by decide), show ((nI (8 - 4)) = 2) = False from eq_false (by decide), show ((nI (8 - 4)) = 3) = False from eq_false (by decide), show ((nI (8 - 4)) = 4) = True from eq_true rfl, show ((8 : Nat) = 4) = False from eq_false (by decide), show ((8 : Nat) = 5) = False from eq_false (by decide), show ((8 : Nat) = 6) = False from eq_false (by decide), show ((8 : Nat) = 7) = False from eq_false (by decide), if_true, if_false]

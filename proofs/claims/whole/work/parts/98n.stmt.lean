/-! statements: what they read as -/
noncomputable def vb (T : Tp) (q : Nat) : Nat := ixW T q W0 0
noncomputable def spq (T : Tp) (q : Nat) : Nat := nx T (nx T q)
noncomputable def rlq (T : Tp) (q : Nat) : Nat := ixW T (nx T q) W3 0
noncomputable def fkq (T : Tp) (q : Nat) : Nat := ixW T (psN T 2 (nx T q)) W2 0
def na (v : Nat) : Nat := if v = 0 ∨ v = 1 then 1 else if v = 2 ∨ v = 11 then 3 else if v = 3 then 6 else if v = 10 ∨ v = 12 then 4 else 0
noncomputable def agu (T : Tp) (q i : Nat) : Int := if vb T q = 3 ∧ 2 ≤ i then nmb T (psN T (i - 2) (nx T (psN T 2 (nx T q)))) else if vb T q = 12 then nmb T (psN T i (nx T (nx T q))) else nmb T (psN T i (nx T q))
noncomputable def stP (T : Tp) (q : Nat) : Bool × Nat :=
  if vb T q = 99 then (false, q)
  else if vb T q = 0 then (if (rdN T 1 (nx T q)).1 = true then exS T 59 ((shq T (spq T q)).1, (shq T (spq T q)).2.1) else rdN T 1 (nx T q))
  else if vb T q = 1 then exS T 59 (rdN T 1 (nx T q))
  else if vb T q = 2 ∨ vb T q = 11 then exS T 59 (rdN T 3 (nx T q))
  else if vb T q = 3 then (if (rdN T 2 (nx T q)).1 = true then (if fkq T q = 99 then (false, psN T 2 (nx T q)) else exS T 59 (rdN T 4 (nx T (psN T 2 (nx T q))))) else rdN T 2 (nx T q))
  else if vb T q = 9 then (if rlq T q = 99 then (false, nx T q) else exS T 59 ((shq T (spq T q)).1, (shq T (spq T q)).2.1))
  else if vb T q = 10 then exS T 59 (rdN T 4 (nx T q))
  else if vb T q = 12 then (if rlq T q = 99 then (false, nx T q) else exS T 59 (rdN T 4 (nx T (nx T q))))
  else exS T 59 (true, nx T q)
set_option maxHeartbeats 200000 in
theorem rdN_b {T : Tp} : ∀ k q, q ≤ T.1 → (rdN T k q).2 ≤ T.1 ∧ q ≤ (rdN T k q).2 ∧ ((rdN T k q).1 = true → (rdN T k q).2 = psN T k q ∧ (∀ i, i < k → kd T (psN T i q) = 2) ∧ q + k ≤ (rdN T k q).2) := by
  intro k
  induction k with
  | zero => intro q hq; exact ⟨hq, Nat.le_refl _, fun _ => ⟨rfl, fun i hi => by omega, Nat.le_refl _⟩⟩
  | succ k ih =>
    intro q hq
    rw [rdN]
    by_cases h : kd T q = 2
    · have n1 := num_nx hq h
      rw [ifP_t h]
      obtain ⟨a, b, c⟩ := ih (nx T q) n1.2
      refine ⟨a, by omega, fun y => ⟨(c y).1, fun i hi => ?_, by have := (c y).2.2; omega⟩⟩
      cases i with
      | zero => exact h
      | succ i => exact (c y).2.1 i (by omega)
    · rw [ifP_f h]; exact ⟨hq, Nat.le_refl _, fun y => nomatch y⟩
set_option maxHeartbeats 200000 in
theorem exS_b {T : Tp} {c : Int} {r : Bool × Nat} (h : r.2 ≤ T.1) : (exS T c r).2 ≤ T.1 ∧ r.2 ≤ (exS T c r).2 ∧ ((exS T c r).1 = true → r.1 = true ∧ r.2 + 1 ≤ (exS T c r).2) := by
  unfold exS
  by_cases k : r.1 = true
  · rw [if_pos k]
    by_cases s : sgq T r.2 c
    · have n1 := sgq_nx h s
      rw [ifP_t s]; exact ⟨n1.2, show r.2 ≤ nx T r.2 by omega, fun _ => ⟨k, show r.2 + 1 ≤ nx T r.2 by omega⟩⟩
    · rw [ifP_f s]; exact ⟨h, Nat.le_refl _, fun y => nomatch y⟩
  · rw [if_neg k]; exact ⟨h, Nat.le_refl _, fun y => (k y).elim⟩
set_option maxHeartbeats 200000 in
theorem W_len : ∀ j, j ∈ W0 → 3 ≤ (xTb j).length ∧ (j = 4 ∨ 4 ≤ (xTb j).length) := by decide +kernel
set_option maxHeartbeats 200000 in
theorem vb_w {T : Tp} {q : Nat} (h : vb T q ≠ 99) : ∃ w, w ∈ W0 ∧ wq T q w ∧ W0[vb T q]? = some w ∧ vb T q < 13 := by
  by_cases e : ∃ w, w ∈ W0 ∧ wq T q w
  · obtain ⟨w, h1, h2⟩ := e
    obtain ⟨y, hy⟩ := List.mem_iff_getElem?.mp h1
    have := ixW_is (W0_ok.2.1 w h1) h2 W0 0 y W0_ok.1 W0_ok.2.1 hy
    rw [Nat.zero_add] at this
    have e : vb T q = y := this
    refine ⟨w, h1, h2, by rw [e]; exact hy, ?_⟩
    rw [e]
    refine Classical.byContradiction (fun n => ?_)
    rw [List.getElem?_eq_none (by show W0.length ≤ y; have : W0.length = 13 := rfl; omega)] at hy; cases hy
  · exact (h (ixW_no W0 0 (fun j hj k => e ⟨j, hj, k⟩))).elim
set_option maxHeartbeats 200000 in
theorem vb_nx {T : Tp} {q : Nat} (hq : q ≤ T.1) (h : vb T q ≠ 99) : vb T q < 13 ∧ nx T q ≤ T.1 ∧ q + 3 ≤ nx T q ∧ (vb T q ≠ 0 → q + 4 ≤ nx T q) := by
  obtain ⟨w, h1, h2, h3, h4⟩ := vb_w h
  have l := W_len w h1
  have a := h2.2.1
  have b := fs_ge T q
  have c := nx_b hq
  refine ⟨h4, c.2.1, by omega, fun y => ?_⟩
  rcases l.2 with e | e
  · exfalso
    subst e
    have := ixW_is (by decide) h2 W0 0 0 W0_ok.1 W0_ok.2.1 rfl
    exact y this
  · omega
set_option maxHeartbeats 200000 in
theorem ixW_lt {T : Tp} {q : Nat} : ∀ (W : List Nat) (x : Nat), ixW T q W x ≠ 99 → ixW T q W x < x + W.length := by
  intro W
  induction W with
  | nil => intro x h; exact (h rfl).elim
  | cons w ws ih =>
    intro x h
    rw [ixW] at h ⊢
    by_cases k : wq T q w
    · rw [ifP_t k, List.length_cons]; omega
    · rw [ifP_f k] at h ⊢
      have := ih (x + 1) h
      rw [List.length_cons]; omega
set_option maxHeartbeats 200000 in
theorem rlq_lt {T : Tp} {q : Nat} (h : rlq T q ≠ 99) : rlq T q < 5 := by have := ixW_lt W3 0 h; have e : W3.length = 5 := rfl; unfold rlq; omega
set_option maxHeartbeats 200000 in
theorem fkq_lt {T : Tp} {q : Nat} (h : fkq T q ≠ 99) : fkq T q < 3 := by have := ixW_lt W2 0 h; have e : W2.length = 3 := rfl; unfold fkq; omega
/-! reading never goes back -/
set_option maxHeartbeats 200000 in
theorem rngE_ge {T : Tp} {r : Bool × Nat × Sh} (h : r.2.1 ≤ T.1) : r.2.1 ≤ (rngE T r).2.1 := by
  unfold rngE
  by_cases k : r.1 = true
  · rw [if_pos k]
    by_cases c : sgq T r.2.1 41
    · rw [ifP_t c]; exact Nat.le_of_lt (sgq_nx h c).1
    · rw [ifP_f c]; exact Nat.le_refl _
  · rw [if_neg k]; exact Nat.le_refl _
set_option maxHeartbeats 200000 in
theorem plE_ge {T : Tp} {r : Bool × Nat × Sh} (h : r.2.1 ≤ T.1) : r.2.1 ≤ (plE T r).2.1 := by
  unfold plE
  by_cases k : r.1 = true
  · rw [if_pos k]
    by_cases c : sgq T r.2.1 41
    · rw [ifP_t c]; exact Nat.le_of_lt (sgq_nx h c).1
    · rw [ifP_f c]; exact Nat.le_refl _
  · rw [if_neg k]; exact Nat.le_refl _
set_option maxHeartbeats 200000 in
theorem rgs_ge {T : Tp} : ∀ g p s, p ≤ T.1 → Cld s → p ≤ (rgs T g p s).2.1 := by
  intro g
  induction g with
  | zero => intro p s _ _; exact Nat.le_refl _
  | succ g ih =>
    intro p s hp hs
    obtain ⟨u1, u2, u3, u4⟩ := rg1_b hp hs
    rw [rgs]
    by_cases k : (rg1 T p s).1 = true
    · rw [if_pos k]
      by_cases c : sgq T (rg1 T p s).2.1 44
      · rw [ifP_t c]
        have := ih (nx T (rg1 T p s).2.1) _ (sgq_nx u1 c).2 (u4 k).1
        have := (sgq_nx u1 c).1
        omega
      · rw [ifP_f c]; exact u2
    · rw [if_neg k]; exact u2
set_option maxHeartbeats 200000 in
theorem pol_ge {T : Tp} {q : Nat} {s : Sh} (hq : q ≤ T.1) (hs : Cld s) : q ≤ (pol T q s).2.1 := by
  unfold pol
  by_cases c : sgq T q 40
  · have n1 := sgq_nx hq c
    have g1 := rgs_ge 4001 (nx T q) s n1.2 hs
    have g2 := plE_ge (rgs_b 4001 (nx T q) s n1.2 hs).1
    rw [ifP_t c]; omega
  · rw [ifP_f c]; exact Nat.le_refl _
set_option maxHeartbeats 200000 in
theorem pnt_ge {T : Tp} {q : Nat} {s : Sh} (hq : q ≤ T.1) : q ≤ (pnt T q s).2.1 := by
  unfold pnt
  by_cases c : sgq T q 40
  · have n1 := sgq_nx hq c
    rw [ifP_t c]
    by_cases k1 : kd T (nx T q) = 2
    · have n2 := num_nx n1.2 k1
      rw [ifP_t k1]
      by_cases k2 : kd T (nx T (nx T q)) = 2
      · have n3 := num_nx n2.2 k2
        have g := rngE_ge (T := T) (r := (true, nx T (nx T (nx T q)), adP s (nmb T (nx T q), nmb T (nx T (nx T q))))) n3.2
        rw [ifP_t k2]
        simp only at g
        omega
      · rw [ifP_f k2]; show q ≤ nx T (nx T q); omega
    · rw [ifP_f k1]; show q ≤ nx T q; omega
  · rw [ifP_f c]; exact Nat.le_refl _
set_option maxHeartbeats 200000 in
theorem shq_ge {T : Tp} {q : Nat} (hq : q ≤ T.1) : q ≤ (shq T q).2.1 := by
  unfold shq
  by_cases k : knd T q = 99
  · rw [if_pos k]; exact Nat.le_refl _
  · have n1 := ix_nx (W := W1) (x := 0) hq k
    rw [if_neg k]
    by_cases k0 : knd T q = 0
    · rw [if_pos k0]; have := pnt_ge (s := sh0) n1.2; omega
    · rw [if_neg k0]
      by_cases k1 : knd T q = 1
      · rw [if_pos k1]; have := (rg1_b n1.2 Cl_0).2.1; omega
      · rw [if_neg k1]; have := pol_ge n1.2 Cl_0; omega
/-! by verbs -/
set_option maxHeartbeats 200000 in
theorem stP_99 {T : Tp} {q : Nat} (h : vb T q = 99) : stP T q = (false, q) := by unfold stP; rw [if_pos h]
set_option maxHeartbeats 200000 in
theorem stP_0 {T : Tp} {q : Nat} (h : vb T q = 0) : stP T q = (if (rdN T 1 (nx T q)).1 = true then exS T 59 ((shq T (spq T q)).1, (shq T (spq T q)).2.1) else rdN T 1 (nx T q)) := by
  unfold stP; rw [if_neg (by omega), if_pos h]
set_option maxHeartbeats 200000 in
theorem stP_1 {T : Tp} {q : Nat} (h : vb T q = 1) : stP T q = exS T 59 (rdN T 1 (nx T q)) := by
  unfold stP; rw [if_neg (by omega), if_neg (by omega), if_pos h]
set_option maxHeartbeats 200000 in
theorem stP_2 {T : Tp} {q : Nat} (h : vb T q = 2 ∨ vb T q = 11) : stP T q = exS T 59 (rdN T 3 (nx T q)) := by
  unfold stP; rw [if_neg (by omega), if_neg (by omega), if_neg (by omega), if_pos h]
set_option maxHeartbeats 200000 in
theorem stP_3 {T : Tp} {q : Nat} (h : vb T q = 3) : stP T q = (if (rdN T 2 (nx T q)).1 = true then (if fkq T q = 99 then (false, psN T 2 (nx T q)) else exS T 59 (rdN T 4 (nx T (psN T 2 (nx T q))))) else rdN T 2 (nx T q)) := by
  unfold stP; rw [if_neg (by omega), if_neg (by omega), if_neg (by omega), if_neg (by omega), if_pos h]
set_option maxHeartbeats 200000 in
theorem stP_9 {T : Tp} {q : Nat} (h : vb T q = 9) : stP T q = (if rlq T q = 99 then (false, nx T q) else exS T 59 ((shq T (spq T q)).1, (shq T (spq T q)).2.1)) := by
  unfold stP; rw [if_neg (by omega), if_neg (by omega), if_neg (by omega), if_neg (by omega), if_neg (by omega), if_pos h]
set_option maxHeartbeats 200000 in
theorem stP_10 {T : Tp} {q : Nat} (h : vb T q = 10) : stP T q = exS T 59 (rdN T 4 (nx T q)) := by
  unfold stP; rw [if_neg (by omega), if_neg (by omega), if_neg (by omega), if_neg (by omega), if_neg (by omega), if_neg (by omega), if_pos h]
set_option maxHeartbeats 200000 in
theorem stP_12 {T : Tp} {q : Nat} (h : vb T q = 12) : stP T q = (if rlq T q = 99 then (false, nx T q) else exS T 59 (rdN T 4 (nx T (nx T q)))) := by
  unfold stP; rw [if_neg (by omega), if_neg (by omega), if_neg (by omega), if_neg (by omega), if_neg (by omega), if_neg (by omega), if_neg (by omega), if_pos h]
set_option maxHeartbeats 200000 in
theorem stP_p {T : Tp} {q : Nat} (h : 4 ≤ vb T q ∧ vb T q ≤ 8) : stP T q = exS T 59 (true, nx T q) := by
  unfold stP; rw [if_neg (by omega), if_neg (by omega), if_neg (by omega), if_neg (by omega), if_neg (by omega), if_neg (by omega), if_neg (by omega), if_neg (by omega)]
/-- what is so of a statement that was read -/
def StO (T : Tp) (q : Nat) : Prop := vb T q < 13 ∧ (∀ i, i < na (vb T q) → b30 (agu T q i)) ∧ (vb T q = 0 ∨ vb T q = 9 → spq T q ≤ T.1 ∧ (shq T (spq T q)).1 = true) ∧ (vb T q = 9 ∨ vb T q = 12 → rlq T q < 5) ∧ (vb T q = 3 → fkq T q < 3)
set_option maxHeartbeats 800000 in
theorem stP_b {T : Tp} {q : Nat} (hq : q ≤ T.1) : (stP T q).2 ≤ T.1 ∧ ((stP T q).1 = true → q + 5 ≤ (stP T q).2 ∧ StO T q) := by
  by_cases h99 : vb T q = 99
  · rw [stP_99 h99]; exact ⟨hq, fun y => nomatch y⟩
  obtain ⟨h13, n1, n3, n4⟩ := vb_nx hq h99
  have ns : ∀ k p, p ≤ T.1 → (exS T 59 (rdN T k p)).2 ≤ T.1 ∧ ((exS T 59 (rdN T k p)).1 = true → p + k + 1 ≤ (exS T 59 (rdN T k p)).2 ∧ ∀ i, i < k → b30 (nmb T (psN T i p))) := by
    intro k p hp
    obtain ⟨a1, a2, a3⟩ := rdN_b k p hp
    obtain ⟨b1, b2, b3⟩ := exS_b (c := 59) a1
    exact ⟨b1, fun y => ⟨by have := (b3 y).2; have := (a3 (b3 y).1).2.2; omega, fun i hi => nb_b ((a3 (b3 y).1).2.1 i hi)⟩⟩
  rcases (show vb T q = 0 ∨ vb T q = 1 ∨ (vb T q = 2 ∨ vb T q = 11) ∨ vb T q = 3 ∨ vb T q = 9 ∨ vb T q = 10 ∨ vb T q = 12 ∨ (4 ≤ vb T q ∧ vb T q ≤ 8) by omega) with v | v | v | v | v | v | v | v
  · rw [stP_0 v]
    obtain ⟨a1, a2, a3⟩ := rdN_b 1 (nx T q) n1
    by_cases k : (rdN T 1 (nx T q)).1 = true
    · rw [if_pos k]
      have e : (rdN T 1 (nx T q)).2 = spq T q := (a3 k).1
      rw [e] at a1 a2 a3
      obtain ⟨b1, b2, b3⟩ := shq_b a1
      obtain ⟨c1, c2, c3⟩ := exS_b (c := 59) (r := ((shq T (spq T q)).1, (shq T (spq T q)).2.1)) b1
      refine ⟨c1, fun y => ?_⟩
      have y1 : (shq T (spq T q)).1 = true := (c3 y).1
      have y2 := (c3 y).2
      have y3 := (a3 k).2.2
      have ge := shq_ge a1
      simp only at y2
      refine ⟨by omega, h13, fun i hi => ?_, fun _ => ⟨a1, y1⟩, fun z => by omega, fun z => by omega⟩
      have hi' : i < 1 := by unfold na at hi; rw [if_pos (Or.inl v)] at hi; exact hi
      unfold agu
      rw [if_neg (by omega), if_neg (by omega)]
      exact nb_b ((a3 k).2.1 i hi')
    · rw [if_neg k]; exact ⟨a1, fun y => (k y).elim⟩
  · rw [stP_1 v]
    obtain ⟨a, b⟩ := ns 1 (nx T q) n1
    refine ⟨a, fun y => ⟨by have := (b y).1; have := n4 (by omega); omega, h13, fun i hi => ?_, fun z => by omega, fun z => by omega, fun z => by omega⟩⟩
    have hi' : i < 1 := by unfold na at hi; rw [if_pos (Or.inr v)] at hi; exact hi
    unfold agu
    rw [if_neg (by omega), if_neg (by omega)]
    exact (b y).2 i hi'
  · rw [stP_2 v]
    obtain ⟨a, b⟩ := ns 3 (nx T q) n1
    refine ⟨a, fun y => ⟨by have := (b y).1; have := n4 (by omega); omega, h13, fun i hi => ?_, fun z => by omega, fun z => by omega, fun z => by omega⟩⟩
    have hi' : i < 3 := by unfold na at hi; rw [if_neg (by omega), if_pos v] at hi; exact hi
    unfold agu
    rw [if_neg (by omega), if_neg (by omega)]
    exact (b y).2 i hi'
  · rw [stP_3 v]
    obtain ⟨a1, a2, a3⟩ := rdN_b 2 (nx T q) n1
    by_cases k : (rdN T 2 (nx T q)).1 = true
    · rw [if_pos k]
      have e := (a3 k).1
      rw [e] at a1
      by_cases f : fkq T q = 99
      · rw [if_pos f]; exact ⟨a1, fun y => nomatch y⟩
      · rw [if_neg f]
        have m1 := ix_nx (W := W2) (x := 0) a1 f
        obtain ⟨a, b⟩ := ns 4 _ m1.2
        have x1 := (a3 k).2.2
        refine ⟨a, fun y => ⟨by have := (b y).1; have := n4 (by omega); omega, h13, fun i hi => ?_, fun z => by omega, fun z => by omega, fun _ => fkq_lt f⟩⟩
        have hi' : i < 6 := by unfold na at hi; rw [if_neg (by omega), if_neg (by omega), if_pos v] at hi; exact hi
        unfold agu
        by_cases i2 : 2 ≤ i
        · rw [if_pos ⟨v, i2⟩]; exact (b y).2 (i - 2) (by omega)
        · rw [if_neg (by omega), if_neg (by omega)]; exact nb_b ((a3 k).2.1 i (by omega))
    · rw [if_neg k]; exact ⟨a1, fun y => (k y).elim⟩
  · rw [stP_9 v]
    by_cases f : rlq T q = 99
    · rw [if_pos f]; exact ⟨n1, fun y => nomatch y⟩
    · rw [if_neg f]
      have m1 := ix_nx (W := W3) (x := 0) n1 f
      have m2 : spq T q ≤ T.1 := m1.2
      obtain ⟨b1, b2, b3⟩ := shq_b m2
      obtain ⟨c1, c2, c3⟩ := exS_b (c := 59) (r := ((shq T (spq T q)).1, (shq T (spq T q)).2.1)) b1
      refine ⟨c1, fun y => ?_⟩
      have y1 : (shq T (spq T q)).1 = true := (c3 y).1
      refine ⟨?_, h13, fun i hi => ?_, fun _ => ⟨m2, y1⟩, fun _ => rlq_lt f, fun z => by omega⟩
      · have ge := shq_ge m2
        have y2 := (c3 y).2
        have := n4 (by omega)
        have e : spq T q = nx T (nx T q) := rfl
        simp only at y2
        omega
      · unfold na at hi
        rw [if_neg (by omega), if_neg (by omega), if_neg (by omega), if_neg (by omega)] at hi; omega
  · rw [stP_10 v]
    obtain ⟨a, b⟩ := ns 4 (nx T q) n1
    refine ⟨a, fun y => ⟨by have := (b y).1; have := n4 (by omega); omega, h13, fun i hi => ?_, fun z => by omega, fun z => by omega, fun z => by omega⟩⟩
    have hi' : i < 4 := by unfold na at hi; rw [if_neg (by omega), if_neg (by omega), if_neg (by omega), if_pos (Or.inl v)] at hi; exact hi
    unfold agu
    rw [if_neg (by omega), if_neg (by omega)]
    exact (b y).2 i hi'
  · rw [stP_12 v]
    by_cases f : rlq T q = 99
    · rw [if_pos f]; exact ⟨n1, fun y => nomatch y⟩
    · rw [if_neg f]
      have m1 := ix_nx (W := W3) (x := 0) n1 f
      obtain ⟨a, b⟩ := ns 4 (nx T (nx T q)) m1.2
      refine ⟨a, fun y => ⟨by have := (b y).1; have := n4 (by omega); omega, h13, fun i hi => ?_, fun z => by omega, fun _ => rlq_lt f, fun z => by omega⟩⟩
      have hi' : i < 4 := by unfold na at hi; rw [if_neg (by omega), if_neg (by omega), if_neg (by omega), if_pos (Or.inr v)] at hi; exact hi
      unfold agu
      rw [if_neg (by omega), if_pos v]
      exact (b y).2 i hi'
  · rw [stP_p v]
    obtain ⟨c1, c2, c3⟩ := exS_b (T := T) (c := 59) (r := (true, nx T q)) n1
    refine ⟨c1, fun y => ⟨by have := (c3 y).2; have := n4 (by omega); simp only at *; omega, h13, fun i hi => ?_, fun z => by omega, fun z => by omega, fun z => by omega⟩⟩
    unfold na at hi
    rw [if_neg (by omega), if_neg (by omega), if_neg (by omega), if_neg (by omega)] at hi; omega

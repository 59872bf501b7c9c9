/-! the system reads a statement -/
set_option maxHeartbeats 200000 in
theorem sI_own (σ : xσ) (a k : Nat) (v : Int32) : sI (wI σ a k v) a k = v := if_pos ⟨rfl, rfl⟩
def RdD (n : Nat) (σ : xσ) (T : Tp) (q : Nat) : Prop := (∀ i, i < na (vb T q) → sI σ 4 i = iI (agu T q i)) ∧ (vb T q = 0 ∨ vb T q = 9 → ShB n σ 5 (knd T (spq T q)) (shq T (spq T q)).2.2) ∧ (vb T q = 9 ∨ vb T q = 12 → sI σ 3 4 = nI (rlq T q)) ∧ (vb T q = 3 → sI σ 3 5 = nI (fkq T q)) ∧ sI σ 3 3 = nI (vb T q)
set_option maxHeartbeats 200000 in
theorem RdD.t {n : Nat} {σ σ' : xσ} {T : Tp} {q : Nat} (h : RdD n σ T q) (f : Fk PT σ σ') : RdD n σ' T q := by
  obtain ⟨h1, h2, h3, h4, h5⟩ := h
  have z : ∀ b k, b ≠ 1 → sI σ' b k = sI σ b k := fun b k hb => (f b k (fun y => hb y.1)).1
  refine ⟨fun i hi => ?_, fun y => (h2 y).fr f (fun j k hj y => by have := y.1; omega), fun y => ?_, fun y => ?_, ?_⟩
  · rw [z 4 i (by omega)]; exact h1 i hi
  · rw [z 3 4 (by omega)]; exact h3 y
  · rw [z 3 5 (by omega)]; exact h4 y
  · rw [z 3 3 (by omega)]; exact h5
set_option maxHeartbeats 200000 in
theorem e_242 {n : Nat} {σ : xσ} {T : Tp} (ok : okTp T) {r : Bool × Nat} (hq : r.2 ≤ T.1) (hT : TpS σ T) (hS : TS σ T r.2) : ∃ σ', b_X5_readStatement_242 n (bI r.1) σ = some (bI (exS T 59 r).1, σ') ∧ Fk PT σ σ' ∧ TS σ' T (exS T 59 r).2 := by
  rw [b_X5_readStatement_242]
  unfold exS
  cases k : r.1 with
  | false =>
    rw [if_pos (show bI false = 0 from rfl), if_neg (by decide)]
    exact ⟨σ, by rw [k]; rfl, Fk.refl, hS⟩
  | true =>
    obtain ⟨σ1, t1, t2, t3⟩ := e_skipSign (n := n) hT ok hq hS (c := 59) (by omega)
    rw [if_neg (show ¬ bI true = 0 by decide), show (59 : Int32) = iI 59 from rfl, t1, bd, if_pos rfl]
    by_cases c : sgq T r.2 59
    · rw [ifP_t c] at t3
      rw [if_neg (fun y => (tf_0.mp y) c), ifP_t c]
      exact ⟨σ1, rfl, t2, t3⟩
    · rw [ifP_f c] at t3
      rw [if_pos (tf_f c), ifP_f c]
      exact ⟨σ1, rfl, t2, t3⟩
set_option maxHeartbeats 200000 in
theorem e_readRelation {n : Nat} {σ : xσ} {T : Tp} (ok : okTp T) {q : Nat} (hq : q ≤ T.1) (hT : TpS σ T) (hS : TS σ T q) : ∃ σ', f_X5_readRelation n σ = some (tf (¬ ixW T q W3 0 = 99), σ') ∧ Fk (fun b k => PT b k ∨ (b = 3 ∧ k = 4)) σ σ' ∧ TS σ' T (if ixW T q W3 0 = 99 then q else nx T q) ∧ (¬ ixW T q W3 0 = 99 → sI σ' 3 4 = nI (ixW T q W3 0)) := by
  obtain ⟨σ1, t1, t2, t3, t4⟩ := e_skip (n := n) hS W3_ok.1 W3_ok.2.1 W3_ok.2.2 (e_skip3 hT ok hq hS)
  have w3 : W3.length = 5 := rfl
  have f2 : ∀ v, Fk (fun b k => b = 3 ∧ k = 4) σ1 (wI σ1 3 4 v) := fun v => Fk.wI ⟨rfl, rfl⟩
  rw [f_X5_readRelation, t1, bd, st, sI_own]
  by_cases k : ixW T q W3 0 = 99
  · rw [if_pos k] at t3 ⊢
    rw [if_pos k, if_pos (by decide), tf_f (fun y => y k)]
    exact ⟨_, rfl, (t2.mono (fun _ _ => Or.inl)).trans ((f2 _).mono (fun _ _ => Or.inr)), t3.g (f2 _) (fun k => by omega), fun y => (y k).elim⟩
  · rw [if_neg k] at t3 ⊢
    have rk : R32 (ixW T q W3 0 : Int) := ⟨by omega, by omega⟩
    rw [if_neg k, if_neg (fun y => by have := (iIl0 rk).mp y; omega), tf_t k]
    exact ⟨_, rfl, (t2.mono (fun _ _ => Or.inl)).trans ((f2 _).mono (fun _ _ => Or.inr)), t3.g (f2 _) (fun k => by omega), fun _ => by rw [sI_wI, if_pos ⟨rfl, rfl⟩, nI_i]⟩
set_option maxHeartbeats 200000 in
theorem e_readFillKind {n : Nat} {σ : xσ} {T : Tp} (ok : okTp T) {q : Nat} (hq : q ≤ T.1) (hT : TpS σ T) (hS : TS σ T q) : ∃ σ', f_X5_readFillKind n σ = some (tf (¬ ixW T q W2 0 = 99), σ') ∧ Fk (fun b k => PT b k ∨ (b = 3 ∧ k = 5)) σ σ' ∧ TS σ' T (if ixW T q W2 0 = 99 then q else nx T q) ∧ (¬ ixW T q W2 0 = 99 → sI σ' 3 5 = nI (ixW T q W2 0)) := by
  obtain ⟨σ1, t1, t2, t3, t4⟩ := e_skip (n := n) hS W2_ok.1 W2_ok.2.1 W2_ok.2.2 (e_skip2 hT ok hq hS)
  have w3 : W2.length = 3 := rfl
  have f2 : ∀ v, Fk (fun b k => b = 3 ∧ k = 5) σ1 (wI σ1 3 5 v) := fun v => Fk.wI ⟨rfl, rfl⟩
  rw [f_X5_readFillKind, t1, bd, st, sI_own]
  by_cases k : ixW T q W2 0 = 99
  · rw [if_pos k] at t3 ⊢
    rw [if_pos k, if_pos (by decide), tf_f (fun y => y k)]
    exact ⟨_, rfl, (t2.mono (fun _ _ => Or.inl)).trans ((f2 _).mono (fun _ _ => Or.inr)), t3.g (f2 _) (fun k => by omega), fun y => (y k).elim⟩
  · rw [if_neg k] at t3 ⊢
    have rk : R32 (ixW T q W2 0 : Int) := ⟨by omega, by omega⟩
    rw [if_neg k, if_neg (fun y => by have := (iIl0 rk).mp y; omega), tf_t k]
    exact ⟨_, rfl, (t2.mono (fun _ _ => Or.inl)).trans ((f2 _).mono (fun _ _ => Or.inr)), t3.g (f2 _) (fun k => by omega), fun _ => by rw [sI_wI, if_pos ⟨rfl, rfl⟩, nI_i]⟩
set_option maxHeartbeats 200000 in
theorem PRN_33 {b k : Nat} (h : PRN b k) : ¬ (b = 3 ∧ k ≠ 2) := by
  unfold PRN PT at h; omega
set_option maxHeartbeats 200000 in
theorem PRs_2 (k : Nat) : ¬ PRs 2 k := by unfold PRs PT; omega
set_option maxHeartbeats 200000 in
theorem PRs_11 : ¬ PRs 1 1 := by unfold PRs PT; omega
set_option maxHeartbeats 200000 in
theorem PRN_2 (k : Nat) : ¬ PRN 2 k := by unfold PRN PT; omega
set_option maxHeartbeats 200000 in
theorem PRN_11 : ¬ PRN 1 1 := by unfold PRN PT; omega
/-! statements of numbers alone -/
set_option maxHeartbeats 200000 in
theorem e_stN {n : Nat} {σ : xσ} {T : Tp} (ok : okTp T) {q p c : Nat} (hc : c ≤ 6) (hp : p ≤ T.1) (hT : TpS σ T) (hS : TS σ T p) (h32 : sI σ 3 2 = 0) : ∃ σ', bd (f_X5_readNumbers n (nI c) σ) (fun v115 σ116 => b_X5_readStatement_242 n v115 σ116) = some (bI (exS T 59 (rdN T c p)).1, σ') ∧ Fk PRN σ σ' ∧ TpS σ' T ∧ TS σ' T (exS T 59 (rdN T c p)).2 ∧ ((exS T 59 (rdN T c p)).1 = true → ∀ i, i < c → sI σ' 4 i = iI (nmb T (psN T i p))) := by
  obtain ⟨a1, a2, a3⟩ := rdN_b c p hp
  obtain ⟨b1, b2, b3⟩ := exS_b (c := 59) a1
  obtain ⟨σ1, t1, t2, t3, t4, t5⟩ := e_readNumbers (n := n) ok (m := 0) (c := c) (by omega) hp hT hS h32
  have hT1 := hT.g t2 PRN_11 PRN_2
  obtain ⟨σ2, u1, u2, u3⟩ := e_242 (n := n) ok a1 hT1 t3
  rw [t1, bd, u1]
  refine ⟨σ2, rfl, t2.trans (u2.mono (fun _ _ => PT_N)), hT1.f u2, u3, fun y i hi => ?_⟩
  have := (t4 (b3 y).1).2 i hi
  rw [Nat.zero_add] at this
  rw [(u2 4 i (fun y => by have := y.1; omega)).1, this]
/-! the shape and the end of a statement -/
set_option maxHeartbeats 200000 in
theorem e_stS {n : Nat} {σ : xσ} {T : Tp} (hn : 2476 ≤ n) (ok : okTp T) {p : Nat} (hp : p ≤ T.1) (hT : TpS σ T) (hS : TS σ T p) : ∃ σ', bd (f_X5_readShape n σ) (fun v108 σ109 => if v108 = 0 then b_X5_readStatement_242 n 0 σ109 else b_X5_readStatement_242 n 1 σ109) = some (bI (exS T 59 ((shq T p).1, (shq T p).2.1)).1, σ') ∧ Fk PRs σ σ' ∧ TpS σ' T ∧ TS σ' T (exS T 59 ((shq T p).1, (shq T p).2.1)).2 ∧ ((exS T 59 ((shq T p).1, (shq T p).2.1)).1 = true → ShB n σ' 5 (knd T p) (shq T p).2.2) := by
  obtain ⟨b1, _, _⟩ := shq_b hp
  obtain ⟨c1, c2, c3⟩ := exS_b (c := 59) (r := ((shq T p).1, (shq T p).2.1)) b1
  obtain ⟨σ1, t1, t2, t3, t4, t5⟩ := e_readShape (n := n) hn ok hp hT hS
  obtain ⟨σ2, u1, u2, u3⟩ := e_242 (n := n) ok (r := ((shq T p).1, (shq T p).2.1)) b1 t3 t4
  have e : (if bI (shq T p).1 = 0 then b_X5_readStatement_242 n 0 σ1 else b_X5_readStatement_242 n 1 σ1) = b_X5_readStatement_242 n (bI (shq T p).1) σ1 := by
    cases (shq T p).1
    · rw [if_pos (show bI false = 0 from rfl)]; rfl
    · rw [if_neg (show ¬ bI true = 0 by decide)]; rfl
  rw [t1, bd, e, u1]
  exact ⟨σ2, rfl, t2.trans (u2.mono (fun _ _ => PT_s)), t3.f u2, u3, fun y => (t5 (c3 y).1).fr u2 (fun j k hj y => by have := y.1; omega)⟩
/-! by the verb -/
def ReadT (n : Nat) (σ : xσ) (T : Tp) (q : Nat) (f : Option (Int32 × xσ)) : Prop := ∃ σ', f = some (bI (stP T q).1, σ') ∧ Fk PRd σ σ' ∧ TpS σ' T ∧ TS σ' T (stP T q).2 ∧ ((stP T q).1 = true → RdD n σ' T q)
set_option maxHeartbeats 200000 in
theorem na_1 {v : Nat} (h : v = 0 ∨ v = 1) : na v = 1 := by unfold na; rw [if_pos h]
set_option maxHeartbeats 200000 in
theorem na_3 {v : Nat} (h : v = 2 ∨ v = 11) : na v = 3 := by unfold na; rw [if_neg (by omega), if_pos h]
set_option maxHeartbeats 200000 in
theorem na_6 {v : Nat} (h : v = 3) : na v = 6 := by unfold na; rw [if_neg (by omega), if_neg (by omega), if_pos h]
set_option maxHeartbeats 200000 in
theorem na_4 {v : Nat} (h : v = 10 ∨ v = 12) : na v = 4 := by unfold na; rw [if_neg (by omega), if_neg (by omega), if_neg (by omega), if_pos h]
set_option maxHeartbeats 200000 in
theorem na_0 {v : Nat} (h : 4 ≤ v ∧ v ≤ 9) : na v = 0 := by unfold na; rw [if_neg (by omega), if_neg (by omega), if_neg (by omega), if_neg (by omega)]
set_option maxHeartbeats 200000 in
theorem e_27 {n : Nat} {σ : xσ} {T : Tp} (hn : 2476 ≤ n) (ok : okTp T) {q : Nat} (hq : q ≤ T.1) (hT : TpS σ T) (h99 : vb T q ≠ 99) (hS : TS σ T (nx T q)) (h32 : sI σ 3 2 = 0) (h33 : sI σ 3 3 = nI (vb T q)) : ReadT n σ T q (b_X5_readStatement_27 n 1 σ) := by
  obtain ⟨h13, n1, n3, n4⟩ := vb_nx hq h99
  have g33 : ∀ σ' : xσ, Fk PRN σ σ' → sI σ' 3 3 = nI (vb T q) := fun σ' f => by rw [(f 3 3 (fun y => PRN_33 y ⟨rfl, by omega⟩)).1, h33]
  -- the numbers alone
  have num : ∀ c, c ≤ 6 → stP T q = exS T 59 (rdN T c (nx T q)) → na (vb T q) = c → vb T q ≠ 3 → vb T q ≠ 12 → vb T q ≠ 0 → vb T q ≠ 9 → ReadT n σ T q (bd (f_X5_readNumbers n (nI c) σ) (fun v115 σ116 => b_X5_readStatement_242 n v115 σ116)) := by
    intro c hc e hna m3 m12 m0 m9
    obtain ⟨σ', t1, t2, t3, t4, t5⟩ := e_stN (n := n) (q := q) ok hc n1 hT hS h32
    unfold ReadT
    rw [e]
    refine ⟨σ', t1, t2.mono (fun _ _ => PN_d), t3, t4, fun y => ⟨fun i hi => ?_, fun z => by omega, fun z => by omega, fun z => by omega, g33 σ' t2⟩⟩
    rw [hna] at hi
    rw [t5 y i hi]
    unfold agu
    rw [if_neg (by omega), if_neg (by omega)]
  -- a plain word
  have pln : (4 ≤ vb T q ∧ vb T q ≤ 8) → ReadT n σ T q (if (1 : Int32) = 0 then some (0, σ) else bd (f_X9_skipSign n 59 σ) (fun v147 σ148 => if v147 = 0 then some (0, σ148) else some (1, σ148))) := by
    intro h
    obtain ⟨σ', t1, t2, t3⟩ := e_242 (n := n) ok (r := (true, nx T q)) n1 hT hS
    unfold ReadT
    rw [stP_p h]
    refine ⟨σ', t1, t2.mono (fun _ _ => Or.inl), hT.f t2, t3, fun _ => ⟨fun i hi => ?_, fun z => by omega, fun z => by omega, fun z => by omega, ?_⟩⟩
    · rw [na_0 (by omega)] at hi; omega
    · rw [(t2 3 3 (fun y => by have := y.1; omega)).1, h33]
  rw [b_X5_readStatement_27, h33]
  rcases (show vb T q = 0 ∨ vb T q = 1 ∨ vb T q = 2 ∨ vb T q = 3 ∨ vb T q = 4 ∨ vb T q = 5 ∨ vb T q = 6 ∨ vb T q = 7 ∨ vb T q = 8 ∨ vb T q = 9 ∨ vb T q = 10 ∨ vb T q = 11 ∨ vb T q = 12 by omega) with v | v | v | v | v | v | v | v | v | v | v | v | v
  · -- ADD
    rw [v, if_pos (by decide)]
    obtain ⟨a1, a2, a3⟩ := rdN_b 1 (nx T q) n1
    obtain ⟨σ1, t1, t2, t3, t4, t5⟩ := e_readNumbers (n := n) ok (m := 0) (c := 1) (by omega) n1 hT hS h32
    have hT1 := hT.g t2 PRN_11 PRN_2
    rw [show (1 : Int32) = nI 1 from rfl, t1, bd]
    unfold ReadT
    rw [stP_0 v]
    cases k : (rdN T 1 (nx T q)).1 with
    | true =>
      have e : (rdN T 1 (nx T q)).2 = spq T q := (a3 k).1
      rw [e] at a1 t3
      rw [if_neg (show ¬ bI true = 0 by decide), if_pos rfl]
      obtain ⟨σ2, u1, u2, u3, u4, u5⟩ := e_stS (n := n) hn ok a1 hT1 t3
      refine ⟨σ2, u1, (t2.mono (fun _ _ => PN_d)).trans (u2.mono (fun _ _ => PR_d)), u3, u4, fun y => ⟨fun i hi => ?_, fun _ => u5 y, fun z => by omega, fun z => by omega, ?_⟩⟩
      · rw [v, na_1 (by omega)] at hi
        have := (t4 k).2 i hi
        rw [Nat.zero_add] at this
        rw [(u2 4 i (fun y => by unfold PRs PT at y; omega)).1, this]
        unfold agu
        rw [if_neg (by omega), if_neg (by omega)]
      · rw [(u2 3 3 (fun y => by unfold PRs PT at y; omega)).1]; exact g33 σ1 t2
    | false =>
      rw [if_pos (show bI false = 0 from rfl), if_neg (by decide), b_X5_readStatement_122, b_X5_readStatement_242, if_pos rfl]
      exact ⟨σ1, by rw [k]; rfl, t2.mono (fun _ _ => PN_d), hT1, t3, fun y => by rw [k] at y; cases y⟩
  · rw [v, if_neg (by decide), if_pos (by decide)]
    exact num 1 (by omega) (stP_1 v) (na_1 (by omega)) (by omega) (by omega) (by omega) (by omega)
  · rw [v, if_neg (by decide), if_neg (by decide), if_pos (by decide)]
    exact num 3 (by omega) (stP_2 (by omega)) (na_3 (by omega)) (by omega) (by omega) (by omega) (by omega)
  · -- FILL
    rw [v, if_neg (by decide), if_neg (by decide), if_neg (by decide), if_pos (by decide)]
    obtain ⟨a1, a2, a3⟩ := rdN_b 2 (nx T q) n1
    obtain ⟨σ1, t1, t2, t3, t4, t5⟩ := e_readNumbers (n := n) ok (m := 0) (c := 2) (by omega) n1 hT hS h32
    have hT1 := hT.g t2 PRN_11 PRN_2
    rw [show (2 : Int32) = nI 2 from rfl, t1, bd]
    unfold ReadT
    rw [stP_3 v]
    cases k : (rdN T 2 (nx T q)).1 with
    | true =>
      have e := (a3 k).1
      rw [e] at a1 t3
      rw [if_neg (show ¬ bI true = 0 by decide), if_pos rfl]
      obtain ⟨σ2, u1, u2, u3, u4⟩ := e_readFillKind (n := n) ok a1 hT1 t3
      have hT2 := hT1.g u2 (by unfold PT; omega) (fun k => by unfold PT; omega)
      rw [u1, bd]
      have ef : ixW T (psN T 2 (nx T q)) W2 0 = fkq T q := rfl
      rw [ef] at u3 u4 ⊢
      by_cases f : fkq T q = 99
      · rw [if_pos f] at u3
        rw [if_pos (tf_f (fun y => y f)), if_pos f, b_X5_readStatement_177, b_X5_readStatement_242, if_pos rfl]
        exact ⟨σ2, rfl, (t2.mono (fun _ _ => PN_d)).trans (u2.mono (fun b k y => by rcases y with y | y; exact Or.inl y; exact Or.inr (Or.inl y.1))), hT2, u3, fun y => nomatch y⟩
      · rw [if_neg f] at u3
        have m1 := ix_nx (W := W2) (x := 0) a1 f
        have h32' : sI σ2 3 2 = nI 2 := by rw [(u2 3 2 (fun y => by unfold PT at y; omega)).1, (t4 k).1]
        obtain ⟨d1, d2, d3⟩ := rdN_b 4 (nx T (psN T 2 (nx T q))) m1.2
        obtain ⟨σ3, w1, w2, w3, w4, w5⟩ := e_readNumbers (n := n) ok (m := 2) (c := 4) (by omega) m1.2 hT2 u3 h32'
        have hT3 := hT2.g w2 PRN_11 PRN_2
        obtain ⟨σ4, x1, x2, x3⟩ := e_242 (n := n) ok d1 hT3 w3
        have e2 : (if bI (rdN T 4 (nx T (psN T 2 (nx T q)))).1 = 0 then b_X5_readStatement_177 n 0 σ3 else b_X5_readStatement_177 n 1 σ3) = b_X5_readStatement_242 n (bI (rdN T 4 (nx T (psN T 2 (nx T q)))).1) σ3 := by
          cases (rdN T 4 (nx T (psN T 2 (nx T q)))).1
          · rw [if_pos (show bI false = 0 from rfl), b_X5_readStatement_177]; rfl
          · rw [if_neg (show ¬ bI true = 0 by decide), b_X5_readStatement_177]; rfl
        rw [if_neg (fun y => (tf_0.mp y) f), if_neg f, show (4 : Int32) = nI 4 from rfl, w1, bd, e2, x1]
        obtain ⟨y1, y2, y3⟩ := exS_b (c := 59) d1
        refine ⟨σ4, rfl, (((t2.mono (fun _ _ => PN_d)).trans (u2.mono (fun b k y => by rcases y with y | y; exact Or.inl y; exact Or.inr (Or.inl y.1)))).trans (w2.mono (fun _ _ => PN_d))).trans (x2.mono (fun _ _ => Or.inl)), hT3.f x2, x3, fun y => ⟨fun i hi => ?_, fun z => by omega, fun z => by omega, fun _ => ?_, ?_⟩⟩
        · rw [v, na_6 rfl] at hi
          unfold agu
          rw [(x2 4 i (fun y => by have := y.1; omega)).1]
          by_cases i2 : 2 ≤ i
          · rw [if_pos ⟨v, i2⟩]
            have := (w4 (y3 y).1).2 (i - 2) (by omega)
            rw [show 2 + (i - 2) = i by omega] at this
            exact this
          · rw [if_neg (by omega), if_neg (by omega), w5 i (by omega), (u2 4 i (fun y => by unfold PT at y; omega)).1]
            have := (t4 k).2 i (by omega)
            rw [Nat.zero_add] at this
            exact this
        · rw [(x2 3 5 (fun y => by have := y.1; omega)).1, (w2 3 5 (fun y => PRN_33 y ⟨rfl, by omega⟩)).1]; exact u4 f
        · rw [(x2 3 3 (fun y => by have := y.1; omega)).1, (w2 3 3 (fun y => PRN_33 y ⟨rfl, by omega⟩)).1, (u2 3 3 (fun y => by unfold PT at y; omega)).1]; exact g33 σ1 t2
    | false =>
      rw [if_pos (show bI false = 0 from rfl), if_neg (by decide), b_X5_readStatement_177, b_X5_readStatement_242, if_pos rfl]
      exact ⟨σ1, by rw [k]; rfl, t2.mono (fun _ _ => PN_d), hT1, t3, fun y => by rw [k] at y; cases y⟩
  · rw [v, if_neg (by decide), if_neg (by decide), if_neg (by decide), if_neg (by decide), if_pos (by decide)]; exact pln (by omega)
  · rw [v, if_neg (by decide), if_neg (by decide), if_neg (by decide), if_neg (by decide), if_neg (by decide), if_pos (by decide)]; exact pln (by omega)
  · rw [v, if_neg (by decide), if_neg (by decide), if_neg (by decide), if_neg (by decide), if_neg (by decide), if_neg (by decide), if_pos (by decide)]; exact pln (by omega)
  · rw [v, if_neg (by decide), if_neg (by decide), if_neg (by decide), if_neg (by decide), if_neg (by decide), if_neg (by decide), if_neg (by decide), if_pos (by decide)]; exact pln (by omega)
  · rw [v, if_neg (by decide), if_neg (by decide), if_neg (by decide), if_neg (by decide), if_neg (by decide), if_neg (by decide), if_neg (by decide), if_neg (by decide), if_pos (by decide)]; exact pln (by omega)
  · -- FIND
    rw [v, if_neg (by decide), if_neg (by decide), if_neg (by decide), if_neg (by decide), if_neg (by decide), if_neg (by decide), if_neg (by decide), if_neg (by decide), if_neg (by decide), if_pos (by decide)]
    obtain ⟨σ2, u1, u2, u3, u4⟩ := e_readRelation (n := n) ok n1 hT hS
    have hT2 := hT.g u2 (by unfold PT; omega) (fun k => by unfold PT; omega)
    rw [u1, bd]
    unfold ReadT
    rw [stP_9 v]
    have ef : ixW T (nx T q) W3 0 = rlq T q := rfl
    rw [ef] at u3 u4 ⊢
    have f2 : Fk PRd σ σ2 := u2.mono (fun b k y => by rcases y with y | y; exact Or.inl y; exact Or.inr (Or.inl y.1))
    by_cases f : rlq T q = 99
    · rw [if_pos f] at u3
      rw [if_pos (tf_f (fun y => y f)), if_pos f, b_X5_readStatement_202, b_X5_readStatement_242, if_pos rfl]
      exact ⟨σ2, rfl, f2, hT2, u3, fun y => nomatch y⟩
    · rw [if_neg f] at u3
      have m1 := ix_nx (W := W3) (x := 0) n1 f
      rw [if_neg (fun y => (tf_0.mp y) f), if_neg f]
      obtain ⟨σ3, w1, w2, w3, w4, w5⟩ := e_stS (n := n) hn ok (p := spq T q) m1.2 hT2 u3
      refine ⟨σ3, w1, f2.trans (w2.mono (fun _ _ => PR_d)), w3, w4, fun y => ⟨fun i hi => ?_, fun _ => w5 y, fun _ => ?_, fun z => by omega, ?_⟩⟩
      · rw [na_0 (by omega)] at hi; omega
      · rw [(w2 3 4 (fun y => by unfold PRs PT at y; omega)).1]; exact u4 f
      · rw [(w2 3 3 (fun y => by unfold PRs PT at y; omega)).1, (u2 3 3 (fun y => by unfold PT at y; omega)).1]; exact h33
  · rw [v, if_neg (by decide), if_neg (by decide), if_neg (by decide), if_neg (by decide), if_neg (by decide), if_neg (by decide), if_neg (by decide), if_neg (by decide), if_neg (by decide), if_neg (by decide), if_pos (by decide)]
    exact num 4 (by omega) (stP_10 v) (na_4 (by omega)) (by omega) (by omega) (by omega) (by omega)
  · rw [v, if_neg (by decide), if_neg (by decide), if_neg (by decide), if_neg (by decide), if_neg (by decide), if_neg (by decide), if_neg (by decide), if_neg (by decide), if_neg (by decide), if_neg (by decide), if_neg (by decide), if_pos (by decide)]
    exact num 3 (by omega) (stP_2 (by omega)) (na_3 (by omega)) (by omega) (by omega) (by omega) (by omega)
  · -- JOIN
    rw [v, if_neg (by decide), if_neg (by decide), if_neg (by decide), if_neg (by decide), if_neg (by decide), if_neg (by decide), if_neg (by decide), if_neg (by decide), if_neg (by decide), if_neg (by decide), if_neg (by decide), if_neg (by decide), if_pos (by decide)]
    obtain ⟨σ2, u1, u2, u3, u4⟩ := e_readRelation (n := n) ok n1 hT hS
    have hT2 := hT.g u2 (by unfold PT; omega) (fun k => by unfold PT; omega)
    rw [u1, bd]
    unfold ReadT
    rw [stP_12 v]
    have ef : ixW T (nx T q) W3 0 = rlq T q := rfl
    rw [ef] at u3 u4 ⊢
    have f2 : Fk PRd σ σ2 := u2.mono (fun b k y => by rcases y with y | y; exact Or.inl y; exact Or.inr (Or.inl y.1))
    by_cases f : rlq T q = 99
    · rw [if_pos f] at u3
      rw [if_pos (tf_f (fun y => y f)), if_pos f, b_X5_readStatement_238, b_X5_readStatement_242, if_pos rfl]
      exact ⟨σ2, rfl, f2, hT2, u3, fun y => nomatch y⟩
    · rw [if_neg f] at u3
      have m1 := ix_nx (W := W3) (x := 0) n1 f
      have h32' : sI σ2 3 2 = 0 := by rw [(u2 3 2 (fun y => by unfold PT at y; omega)).1, h32]
      rw [if_neg (fun y => (tf_0.mp y) f), if_neg f]
      obtain ⟨σ3, w1, w2, w3, w4, w5⟩ := e_stN (n := n) (q := q) ok (c := 4) (by omega) m1.2 hT2 u3 h32'
      have e2 : bd (f_X5_readNumbers n 4 σ2) (fun v217 σ218 => if v217 = 0 then b_X5_readStatement_238 n 0 σ218 else b_X5_readStatement_238 n 1 σ218) = bd (f_X5_readNumbers n (nI 4) σ2) (fun v115 σ116 => b_X5_readStatement_242 n v115 σ116) := by
        obtain ⟨σ5, x1, _⟩ := e_readNumbers (n := n) ok (m := 0) (c := 4) (by omega) m1.2 hT2 u3 h32'
        rw [show (4 : Int32) = nI 4 from rfl, x1, bd, bd]
        cases (rdN T 4 (nx T (nx T q))).1
        · rw [if_pos (show bI false = 0 from rfl), b_X5_readStatement_238]; rfl
        · rw [if_neg (show ¬ bI true = 0 by decide), b_X5_readStatement_238]; rfl
      rw [e2]
      refine ⟨σ3, w1, f2.trans (w2.mono (fun _ _ => PN_d)), w3, w4, fun y => ⟨fun i hi => ?_, fun z => by omega, fun _ => ?_, fun z => by omega, ?_⟩⟩
      · rw [v, na_4 (by omega)] at hi
        rw [w5 y i hi]
        unfold agu
        rw [if_neg (by omega), if_pos v]
      · rw [(w2 3 4 (fun y => PRN_33 y ⟨rfl, by omega⟩)).1]; exact u4 f
      · rw [(w2 3 3 (fun y => PRN_33 y ⟨rfl, by omega⟩)).1, (u2 3 3 (fun y => by unfold PT at y; omega)).1]; exact h33
set_option maxHeartbeats 200000 in
theorem e_readStatement {n : Nat} {σ : xσ} {T : Tp} (hn : 2476 ≤ n) (ok : okTp T) {q : Nat} (hq : q ≤ T.1) (hT : TpS σ T) (hS : TS σ T q) : ReadT n σ T q (f_X5_readStatement n σ) := by
  have f1 : Fk (fun b k => b = 3 ∧ k = 2) σ (wI σ 3 2 0) := Fk.wI ⟨rfl, rfl⟩
  have hT1 := hT.g f1 (by omega) (fun k => by omega)
  have hS1 := hS.g f1 (fun k => by omega)
  obtain ⟨σ2, t1, t2, t3, t4⟩ := e_skip (n := n) hS1 W0_ok.1 W0_ok.2.1 W0_ok.2.2 (e_skip0 hT1 ok hq hS1)
  have ev : ixW T q W0 0 = vb T q := rfl
  rw [ev] at t1 t3 t4
  have w0 : W0.length = 13 := rfl
  rw [f_X5_readStatement, st, t1, bd, st, sI_own]
  have f3 : ∀ v, Fk (fun b k => b = 3 ∧ k = 3) σ2 (wI σ2 3 3 v) := fun v => Fk.wI ⟨rfl, rfl⟩
  have F : ∀ v, Fk PRd σ (wI σ2 3 3 v) := fun v => ((f1.mono (fun b k y => Or.inr (Or.inl y.1))).trans (t2.mono (fun _ _ => Or.inl))).trans ((f3 v).mono (fun b k y => Or.inr (Or.inl y.1)))
  have hT3 : ∀ v, TpS (wI σ2 3 3 v) T := fun v => (hT1.f t2).g (f3 v) (by omega) (fun k => by omega)
  by_cases k : vb T q = 99
  · rw [if_pos k] at t3 ⊢
    rw [if_pos (by decide)]
    have h33 : sI (wI σ2 3 3 (iI (-1))) 3 3 = -1 := by rw [sI_wI, if_pos ⟨rfl, rfl⟩]; rfl
    rw [b_X5_readStatement_27, h33]
    refine ⟨wI σ2 3 3 (iI (-1)), ?_, F _, hT3 _, by rw [stP_99 k]; exact t3.g (f3 _) (fun k => by omega), fun y => by rw [stP_99 k] at y; cases y⟩
    rw [stP_99 k, if_neg (by decide), if_neg (by decide), if_neg (by decide), if_neg (by decide), if_neg (by decide), if_neg (by decide), if_neg (by decide), if_neg (by decide), if_neg (by decide), if_neg (by decide), if_neg (by decide), if_neg (by decide), if_neg (by decide), if_pos rfl]
    rfl
  · rw [if_neg k] at t3 ⊢
    have v13 : vb T q < 13 := by
      rcases t4 with y | y
      · exact (k y).elim
      · omega
    have rk : R32 (vb T q : Int) := ⟨by omega, by omega⟩
    rw [if_neg (fun y => by have := (iIl0 rk).mp y; omega)]
    obtain ⟨σ', u1, u2, u3⟩ := e_27 (n := n) (σ := wI σ2 3 3 (iI (vb T q : Int))) hn ok hq (hT3 _) k (t3.g (f3 _) (fun k => by omega)) (by rw [sI_wI, if_neg (by omega), (t2 3 2 (fun y => by have := y.1; omega)).1, sI_wI, if_pos ⟨rfl, rfl⟩]) (by rw [sI_wI, if_pos ⟨rfl, rfl⟩, nI_i])
    exact ⟨σ', u1, (F _).trans u2, u3⟩

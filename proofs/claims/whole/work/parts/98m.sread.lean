/-! the reader of the system -/
def PRs (b k : Nat) : Prop := PT b k ∨ (5 ≤ b ∧ b < 10)
def PRd (b k : Nat) : Prop := PT b k ∨ b = 3 ∨ b = 4 ∨ (5 ≤ b ∧ b < 10)
def PRN (b k : Nat) : Prop := PT b k ∨ (b = 3 ∧ k = 2) ∨ b = 4
set_option maxHeartbeats 200000 in
theorem PT_N {b k : Nat} (h : PT b k) : PRN b k := Or.inl h
set_option maxHeartbeats 200000 in
theorem PN_d {b k : Nat} (h : PRN b k) : PRd b k := by
  rcases h with h | h | h
  · exact Or.inl h
  · exact Or.inr (Or.inl h.1)
  · exact Or.inr (Or.inr (Or.inl h))
set_option maxHeartbeats 200000 in
theorem PR_d {b k : Nat} (h : PRs b k) : PRd b k := by
  rcases h with h | h
  · exact Or.inl h
  · exact Or.inr (Or.inr (Or.inr h))
set_option maxHeartbeats 200000 in
theorem PT_s {b k : Nat} (h : PT b k) : PRs b k := Or.inl h
set_option maxHeartbeats 200000 in
theorem P5_s {b k : Nat} (h : PSh 5 b k) : PRs b k := Or.inr (by unfold PSh at h; omega)
set_option maxHeartbeats 200000 in
theorem PB_s {b k : Nat} (h : PBx 5 b k) : PRs b k := Or.inr (by unfold PBx at h; omega)
set_option maxHeartbeats 200000 in
theorem TpS.g {σ σ' : xσ} {T : Tp} {P : Nat → Nat → Prop} (h : TpS σ T) (f : Fk P σ σ') (h1 : ¬ P 1 1) (h2 : ∀ k, ¬ P 2 k) : TpS σ' T := ⟨by rw [(f 1 1 h1).1]; exact h.1, fun i hi => by rw [(f 2 i (h2 i)).1]; exact h.2 i hi⟩
set_option maxHeartbeats 200000 in
theorem TS.g {σ σ' : xσ} {T : Tp} {q : Nat} {P : Nat → Nat → Prop} (h : TS σ T q) (f : Fk P σ σ') (h1 : ∀ k, ¬ P 1 k) : TS σ' T q := by
  obtain ⟨a, b, c, d⟩ := h
  refine ⟨?_, ?_, ?_, fun y => ?_⟩
  · rw [(f 1 2 (h1 _)).1]; exact a
  · rw [(f 1 3 (h1 _)).1]; exact b
  · rw [(f 1 4 (h1 _)).1]; exact c
  · rw [(f 1 5 (h1 _)).1]; exact d y
set_option maxHeartbeats 200000 in
theorem nP5_1 (k : Nat) : ¬ PSh 5 1 k := by unfold PSh; omega
set_option maxHeartbeats 200000 in
theorem nP5_2 (k : Nat) : ¬ PSh 5 2 k := by unfold PSh; omega
set_option maxHeartbeats 200000 in
theorem TpS.s {σ σ' : xσ} {T : Tp} (h : TpS σ T) (f : Fk (PSh 5) σ σ') : TpS σ' T := h.g f (nP5_1 1) nP5_2
set_option maxHeartbeats 200000 in
theorem TS.s {σ σ' : xσ} {T : Tp} {q : Nat} (h : TS σ T q) (f : Fk (PSh 5) σ σ') : TS σ' T q := h.g f nP5_1
set_option maxHeartbeats 200000 in
theorem ShS.t {n : Nat} {σ σ' : xσ} {kn : Nat} {s : Sh} (h : ShS n σ 5 kn s) (f : Fk PT σ σ') : ShS n σ' 5 kn s := h.fr f (fun j k hj y => by have := y.1; omega)
set_option maxHeartbeats 200000 in
theorem l_readNumbers {n : Nat} {T : Tp} (ok : okTp T) {c : Nat} (hc : c ≤ 6) : ∀ k f i q σ m, k < f → i + k = c → m + k ≤ 6 → q ≤ T.1 → TpS σ T → TS σ T q → sI σ 3 2 = nI m → ∃ σ', l_X5_readNumbers_2 n f (nI c) (nI i) σ = some (bI (rdN T k q).1, σ') ∧ Fk PRN σ σ' ∧ TS σ' T (rdN T k q).2 ∧ ((rdN T k q).1 = true → sI σ' 3 2 = nI (m + k) ∧ ∀ j, j < k → sI σ' 4 (m + j) = iI (nmb T (psN T j q))) ∧ (∀ j, j < m → sI σ' 4 j = sI σ 4 j) := by
  intro k
  induction k with
  | zero =>
    intro f i q σ m hf hi hm hq hT hS h32
    obtain ⟨g, rfl⟩ : ∃ g, f = g + 1 := ⟨f - 1, by omega⟩
    rw [l_X5_readNumbers_2, if_pos ((nI_e' (by omega) (by omega)).mpr (by omega))]
    exact ⟨σ, rfl, Fk.refl, hS, fun _ => ⟨h32, fun j hj => by omega⟩, fun j _ => rfl⟩
  | succ k ih =>
    intro f i q σ m hf hi hm hq hT hS h32
    obtain ⟨g, rfl⟩ : ∃ g, f = g + 1 := ⟨f - 1, by omega⟩
    have k4 := kd_le T q
    rw [l_X5_readNumbers_2, if_neg (fun y => by have := (nI_e' (by omega) (by omega)).mp y; omega), hS.1, h32, rdN]
    simp only [nIq2 (show kd T q < 2147483648 by omega), nIl6 (show m < 2147483648 by omega)]
    by_cases k2 : kd T q = 2
    · have n1 := num_nx hq k2
      have f1 : Fk PRN σ (wI σ 4 m (sI σ 1 5)) := Fk.wI (Or.inr (Or.inr rfl))
      have e32 : sI (wI σ 4 m (sI σ 1 5)) 3 2 = nI m := by rw [sI_wI, if_neg (by omega), h32]
      have f2 : Fk PRN (wI σ 4 m (sI σ 1 5)) (wI (wI σ 4 m (sI σ 1 5)) 3 2 (nI (m + 1))) := Fk.wI (Or.inr (Or.inl ⟨rfl, rfl⟩))
      have f12 := f1.trans f2
      have g12 : Fk (fun b k => (b = 3 ∧ k = 2) ∨ b = 4) σ (wI (wI σ 4 m (sI σ 1 5)) 3 2 (nI (m + 1))) := (Fk.wI (Or.inr rfl)).trans (Fk.wI (Or.inl ⟨rfl, rfl⟩))
      have hT2 := hT.g g12 (by omega) (fun k => by omega)
      have hS2 := hS.g g12 (fun k => by omega)
      rw [if_pos k2, if_pos (by omega), gd_in (by omega) (by omega), nI_k (by omega), st, e32, nI_s, st, ifP_t k2]
      obtain ⟨σ3, t1, t2, t3⟩ := e_advance (n := n) hT2 ok n1.2 hS2.2.2.1
      rw [t1, bd, nI_s]
      have e33 : sI σ3 3 2 = nI (m + 1) := by rw [(t2 3 2 (fun y => by have := y.1; omega)).1, sI_wI, if_pos ⟨rfl, rfl⟩]
      obtain ⟨σ', u1, u2, u3, u4, u5⟩ := ih g (i + 1) (nx T q) σ3 (m + 1) (by omega) (by omega) (by omega) n1.2 (hT2.f t2) t3 e33
      have base : sI σ3 4 m = iI (nmb T q) := by
        rw [(t2 4 m (fun y => by have := y.1; omega)).1, sI_wI, if_neg (by omega), sI_wI, if_pos ⟨rfl, rfl⟩]; exact hS.2.2.2 k2
      refine ⟨σ', u1, (f12.trans (t2.mono (fun _ _ => PT_N))).trans u2, u3, fun y => ⟨by rw [(u4 y).1, show m + 1 + k = m + (k + 1) by omega], fun j hj => ?_⟩, fun j hj => ?_⟩
      · cases j with
        | zero => rw [Nat.add_zero, u5 m (by omega)]; exact base
        | succ j => have := (u4 y).2 j (by omega); rw [show m + 1 + j = m + (j + 1) by omega] at this; exact this
      · rw [u5 j (by omega), (t2 4 j (fun y => by have := y.1; omega)).1, sI_wI, if_neg (by omega), sI_wI, if_neg (by omega)]
    · rw [if_neg k2, ifP_f k2]
      exact ⟨σ, rfl, Fk.refl, hS, fun y => (nomatch y), fun j _ => rfl⟩
set_option maxHeartbeats 200000 in
theorem e_readNumbers {n : Nat} {σ : xσ} {T : Tp} (ok : okTp T) {q m c : Nat} (hm : m + c ≤ 6) (hq : q ≤ T.1) (hT : TpS σ T) (hS : TS σ T q) (h32 : sI σ 3 2 = nI m) : ∃ σ', f_X5_readNumbers n (nI c) σ = some (bI (rdN T c q).1, σ') ∧ Fk PRN σ σ' ∧ TS σ' T (rdN T c q).2 ∧ ((rdN T c q).1 = true → sI σ' 3 2 = nI (m + c) ∧ ∀ j, j < c → sI σ' 4 (m + j) = iI (nmb T (psN T j q))) ∧ (∀ j, j < m → sI σ' 4 j = sI σ 4 j) := by
  have := l_readNumbers (n := n) ok (c := c) (by omega) c xFU 0 q σ m (xFU_lt (by omega)) (by omega) hm hq hT hS h32
  rw [show nI 0 = 0 from rfl] at this
  rw [f_X5_readNumbers]
  exact this
/-! places and rings -/
set_option maxHeartbeats 200000 in
theorem e_readPlace {n : Nat} {σ : xσ} {T : Tp} (ok : okTp T) {q kn : Nat} {s : Sh} (hq : q ≤ T.1) (hT : TpS σ T) (hS : TS σ T q) (h : ShS n σ 5 kn s) : ∃ σ', f_X5_readPlace n σ = some (tf (kd T q = 2 ∧ kd T (nx T q) = 2), σ') ∧ Fk PRs σ σ' ∧ TpS σ' T ∧ (kd T q = 2 ∧ kd T (nx T q) = 2 → TS σ' T (nx T (nx T q)) ∧ ShS n σ' 5 kn (adP s (nmb T q, nmb T (nx T q)))) ∧ (¬ (kd T q = 2 ∧ kd T (nx T q) = 2) → TS σ' T (ifP (kd T q = 2) (nx T q) q) ∧ ShS n σ' 5 kn s) := by
  have k4 := kd_le T q
  rw [f_X5_readPlace, hS.1]
  simp only [nIq2 (show kd T q < 2147483648 by omega)]
  by_cases k1 : kd T q = 2
  · have n1 := num_nx hq k1
    have k5 := kd_le T (nx T q)
    obtain ⟨σ1, t1, t2, t3⟩ := e_advance (n := n) hT ok n1.2 hS.2.2.1
    rw [if_pos k1, st, t1, bd, t3.1]
    simp only [nIq2 (show kd T (nx T q) < 2147483648 by omega)]
    have hT1 := hT.f t2
    by_cases k2 : kd T (nx T q) = 2
    · have n2 := num_nx n1.2 k2
      obtain ⟨σ2, u1, u2, u3⟩ := e_addPlace (h.t t2) (nmb T q, nmb T (nx T q))
      rw [if_pos k2, hS.2.2.2 k1, t3.2.2.2 k2, u1, bd]
      obtain ⟨σ3, v1, v2, v3⟩ := e_advance (n := n) (hT1.s u2) ok n2.2 (t3.s u2).2.2.1
      rw [v1, bd, tf_t ⟨k1, k2⟩]
      exact ⟨σ3, rfl, ((t2.mono (fun _ _ => PT_s)).trans (u2.mono (fun _ _ => P5_s))).trans (v2.mono (fun _ _ => PT_s)), (hT1.s u2).f v2, fun _ => ⟨v3, u3.t v2⟩, fun y => (y ⟨k1, k2⟩).elim⟩
    · rw [if_neg k2, tf_f (fun y => k2 y.2)]
      exact ⟨σ1, rfl, t2.mono (fun _ _ => PT_s), hT1, fun y => (k2 y.2).elim, fun _ => ⟨by rw [ifP_t k1]; exact t3, h.t t2⟩⟩
  · rw [if_neg k1, tf_f (fun y => k1 y.1)]
    exact ⟨σ, rfl, Fk.refl, hT, fun y => (k1 y.1).elim, fun _ => ⟨by rw [ifP_f k1]; exact hS, h⟩⟩
/-- the system's reader at q, with a shape that is being read -/
def RdS (n : Nat) (σ' : xσ) (T : Tp) (kn : Nat) (r : Bool × Nat × Sh) : Prop := TpS σ' T ∧ TS σ' T r.2.1 ∧ ShS n σ' 5 kn r.2.2
set_option maxHeartbeats 200000 in
theorem e_ringEnd {n : Nat} {σ : xσ} {T : Tp} (ok : okTp T) {q kn : Nat} {s : Sh} (hq : q ≤ T.1) (hT : TpS σ T) (hS : TS σ T q) (h : ShS n σ 5 kn s) (hp : 1 ≤ shP s) : ∃ σ', bd (f_X7_closeRing n 5 σ) (fun v102 σ103 => bd (f_X9_skipSign n 41 σ103) (fun v107 σ108 => gd (v107 = 0 ∨ v107 = 1) (some (v107, σ108)))) = some (bI (rngE T (true, q, s)).1, σ') ∧ Fk PRs σ σ' ∧ RdS n σ' T kn (rngE T (true, q, s)) := by
  obtain ⟨σ1, t1, t2, t3⟩ := e_closeRing h hp
  obtain ⟨σ2, u1, u2, u3⟩ := e_skipSign (n := n) (hT.s t2) ok hq (hS.s t2) (c := 41) (by omega)
  rw [t1, bd, show (41 : Int32) = iI 41 from rfl, u1, bd, gd_pos (tf_01 _)]
  have fr := (t2.mono (fun _ _ => P5_s)).trans (u2.mono (fun _ _ => PT_s))
  unfold rngE
  rw [if_pos rfl]
  by_cases c : sgq T q 41
  · rw [ifP_t c] at u3
    rw [tf_t c, ifP_t c]
    exact ⟨σ2, rfl, fr, (hT.s t2).f u2, u3, t3.t u2⟩
  · rw [ifP_f c] at u3
    rw [tf_f c, ifP_f c]
    exact ⟨σ2, rfl, fr, (hT.s t2).f u2, u3, t3.t u2⟩
set_option maxHeartbeats 200000 in
theorem l_readRing {n : Nat} {T : Tp} (ok : okTp T) {kn : Nat} : ∀ g f i q σ s, T.1 - q < g → T.1 - q < f → i < q → q ≤ T.1 → gVs s → TpS σ T → TS σ T q → ShS n σ 5 kn s → ∃ σ', l_X5_readRing_13 n f 4000 (nI i) σ = some (bI (rngE T (rgP T g q s)).1, σ') ∧ Fk PRs σ σ' ∧ RdS n σ' T kn (rngE T (rgP T g q s)) := by
  have h4 := ok.1
  intro g
  induction g with
  | zero => intro f i q σ s h; omega
  | succ g ih =>
    intro f i q σ s hg hf hi hq hs hT hS h
    obtain ⟨f, rfl⟩ : ∃ m, f = m + 1 := ⟨f - 1, by omega⟩
    obtain ⟨σ1, t1, t2, t3, t4, t5⟩ := e_readPlace (n := n) ok hq hT hS h
    rw [l_X5_readRing_13, rgP]
    simp only [nIe4000, nIg4000 (show i < 2147483648 by omega)]
    rw [if_neg (by omega), t1, bd]
    by_cases k : kd T q = 2 ∧ kd T (nx T q) = 2
    · have n1 := num_nx hq k.1
      have n2 := num_nx n1.2 k.2
      obtain ⟨a1, a2⟩ := t4 k
      have e4 : ¬ (nI i + 1 = 4000) := by
        rw [nI_s]
        intro y
        have := (nIq4000 (show i + 1 < 2147483648 by omega)).mp y
        omega
      obtain ⟨σ2, u1, u2, u3⟩ := e_skipSign (n := n) t3 ok n2.2 a1 (c := 44) (by omega)
      rw [if_neg (fun y => (tf_0.mp y) k), if_neg e4, show (44 : Int32) = iI 44 from rfl, u1, bd, ifP_t k.1, ifP_t k.2]
      by_cases c : sgq T (nx T (nx T q)) 44
      · rw [ifP_t c] at u3
        have n3 := sgq_nx n2.2 c
        rw [if_neg (fun y => (tf_0.mp y) c), ifP_t c, nI_s]
        obtain ⟨σ', v1, v2, v3⟩ := ih f (i + 1) _ σ2 _ (by omega) (by omega) (by omega) n3.2 (gV_ad hs (bV_nb k.1 k.2)) (t3.f u2) u3 (a2.t u2)
        exact ⟨σ', v1, (t2.trans (u2.mono (fun _ _ => PT_s))).trans v2, v3⟩
      · rw [ifP_f c] at u3
        rw [if_pos (tf_f c), ifP_f c, b_X5_readRing_53]
        obtain ⟨σ', v1, v2, v3⟩ := e_ringEnd (n := n) ok n2.2 (t3.f u2) u3 (a2.t u2) (by show 1 ≤ shP s + 1; omega)
        exact ⟨σ', v1, (t2.trans (u2.mono (fun _ _ => PT_s))).trans v2, v3⟩
    · obtain ⟨a1, a2⟩ := t5 k
      rw [if_pos (tf_f k)]
      by_cases k1 : kd T q = 2
      · rw [ifP_t k1] at a1
        rw [ifP_t k1, ifP_f (fun y => k ⟨k1, y⟩)]
        exact ⟨σ1, rfl, t2, t3, a1, a2⟩
      · rw [ifP_f k1] at a1
        rw [ifP_f k1]
        exact ⟨σ1, rfl, t2, t3, a1, a2⟩
set_option maxHeartbeats 200000 in
theorem e_readRing {n : Nat} {σ : xσ} {T : Tp} (ok : okTp T) {q kn : Nat} {s : Sh} (hq : q ≤ T.1) (hs : gVs s) (hT : TpS σ T) (hS : TS σ T q) (h : ShS n σ 5 kn s) : ∃ σ', f_X5_readRing n 4000 σ = some (bI (rg1 T q s).1, σ') ∧ Fk PRs σ σ' ∧ RdS n σ' T kn (rg1 T q s) := by
  have h4 := ok.1
  obtain ⟨σ1, t1, t2, t3⟩ := e_skipSign (n := n) hT ok hq hS (c := 40) (by omega)
  rw [f_X5_readRing, show (40 : Int32) = iI 40 from rfl, t1, bd]
  unfold rg1
  by_cases c : sgq T q 40
  · rw [ifP_t c] at t3
    have n1 := sgq_nx hq c
    rw [if_neg (fun y => (tf_0.mp y) c), ifP_t c]
    obtain ⟨σ', v1, v2, v3⟩ := l_readRing (n := n) ok (kn := kn) 4001 xFU 0 (nx T q) σ1 s (by omega) (xFU_lt (by omega)) (by omega) n1.2 hs (hT.f t2) t3 (h.t t2)
    rw [show nI 0 = 0 from rfl] at v1
    exact ⟨σ', v1, (t2.mono (fun _ _ => PT_s)).trans v2, v3⟩
  · rw [ifP_f c] at t3
    rw [if_pos (tf_f c), ifP_f c]
    exact ⟨σ1, rfl, t2.mono (fun _ _ => PT_s), hT.f t2, t3, h.t t2⟩
set_option maxHeartbeats 200000 in
theorem e_readPoint {n : Nat} {σ : xσ} {T : Tp} (ok : okTp T) {q kn : Nat} {s : Sh} (hq : q ≤ T.1) (hT : TpS σ T) (hS : TS σ T q) (h : ShS n σ 5 kn s) : ∃ σ', f_X5_readRing n 1 σ = some (bI (pnt T q s).1, σ') ∧ Fk PRs σ σ' ∧ RdS n σ' T kn (pnt T q s) := by
  have h4 := ok.1
  obtain ⟨σ1, t1, t2, t3⟩ := e_skipSign (n := n) hT ok hq hS (c := 40) (by omega)
  rw [f_X5_readRing, show (40 : Int32) = iI 40 from rfl, t1, bd]
  unfold pnt
  by_cases c : sgq T q 40
  · rw [ifP_t c] at t3
    have n1 := sgq_nx hq c
    obtain ⟨g, hg⟩ := xFU_s
    rw [if_neg (fun y => (tf_0.mp y) c), ifP_t c, hg, l_X5_readRing_13, if_neg (by decide)]
    obtain ⟨σ2, u1, u2, u3, u4, u5⟩ := e_readPlace (n := n) ok n1.2 (hT.f t2) t3 (h.t t2)
    rw [u1, bd]
    by_cases k : kd T (nx T q) = 2 ∧ kd T (nx T (nx T q)) = 2
    · have n2 := num_nx n1.2 k.1
      have n3 := num_nx n2.2 k.2
      obtain ⟨a1, a2⟩ := u4 k
      rw [if_neg (fun y => (tf_0.mp y) k), if_pos (by decide), ifP_t k.1, ifP_t k.2]
      obtain ⟨σ', v1, v2, v3⟩ := e_ringEnd (n := n) ok n3.2 u3 a1 a2 (by show 1 ≤ shP s + 1; omega)
      exact ⟨σ', v1, ((t2.mono (fun _ _ => PT_s)).trans u2).trans v2, v3⟩
    · obtain ⟨a1, a2⟩ := u5 k
      rw [if_pos (tf_f k)]
      by_cases k1 : kd T (nx T q) = 2
      · rw [ifP_t k1] at a1
        rw [ifP_t k1, ifP_f (fun y => k ⟨k1, y⟩)]
        exact ⟨σ2, rfl, (t2.mono (fun _ _ => PT_s)).trans u2, u3, a1, a2⟩
      · rw [ifP_f k1] at a1
        rw [ifP_f k1]
        exact ⟨σ2, rfl, (t2.mono (fun _ _ => PT_s)).trans u2, u3, a1, a2⟩
  · rw [ifP_f c] at t3
    rw [if_pos (tf_f c), ifP_f c]
    exact ⟨σ1, rfl, t2.mono (fun _ _ => PT_s), hT.f t2, t3, h.t t2⟩
set_option maxHeartbeats 200000 in
theorem e_ringsEnd {n : Nat} {σ : xσ} {T : Tp} (ok : okTp T) {q kn : Nat} {s : Sh} (hq : q ≤ T.1) (hT : TpS σ T) (hS : TS σ T q) (h : ShS n σ 5 kn s) : ∃ σ', b_X5_readRings_51 n σ = some (bI (plE T (true, q, s)).1, σ') ∧ Fk PRs σ σ' ∧ RdS n σ' T kn (plE T (true, q, s)) := by
  obtain ⟨σ2, u1, u2, u3⟩ := e_skipSign (n := n) hT ok hq hS (c := 41) (by omega)
  rw [b_X5_readRings_51, show (41 : Int32) = iI 41 from rfl, u1, bd, gd_pos (tf_01 _)]
  unfold plE
  rw [if_pos rfl]
  by_cases c : sgq T q 41
  · rw [ifP_t c] at u3
    rw [tf_t c, ifP_t c]
    exact ⟨σ2, rfl, u2.mono (fun _ _ => PT_s), hT.f u2, u3, h.t u2⟩
  · rw [ifP_f c] at u3
    rw [tf_f c, ifP_f c]
    exact ⟨σ2, rfl, u2.mono (fun _ _ => PT_s), hT.f u2, u3, h.t u2⟩
set_option maxHeartbeats 200000 in
theorem l_readRings {n : Nat} {T : Tp} (ok : okTp T) {kn : Nat} : ∀ g f i q σ s, T.1 - q < g → T.1 - q < f → i < q → q ≤ T.1 → Cld s → TpS σ T → TS σ T q → ShS n σ 5 kn s → ∃ σ', l_X5_readRings_13 n f (nI i) σ = some (bI (plE T (rgs T g q s)).1, σ') ∧ Fk PRs σ σ' ∧ RdS n σ' T kn (plE T (rgs T g q s)) := by
  have h4 := ok.1
  intro g
  induction g with
  | zero => intro f i q σ s h; omega
  | succ g ih =>
    intro f i q σ s hg hf hi hq hs hT hS h
    obtain ⟨f, rfl⟩ : ∃ m, f = m + 1 := ⟨f - 1, by omega⟩
    rw [l_X5_readRings_13, rgs]
    simp only [nIg4000 (show i < 2147483648 by omega)]
    by_cases q4 : 4000 ≤ i
    · omega
    obtain ⟨σ1, t1, t2, t3, t4, t5⟩ := e_readRing (n := n) ok hq hs.1 hT hS h
    obtain ⟨b1, b2, b3, b4⟩ := rg1_b hq hs
    rw [if_neg q4, t1, bd]
    by_cases k : (rg1 T q s).1 = true
    · obtain ⟨c1, c2, c3⟩ := b4 k
      obtain ⟨σ2, u1, u2, u3⟩ := e_skipSign (n := n) t3 ok b1 t4 (c := 44) (by omega)
      rw [if_neg (show ¬ bI (rg1 T q s).1 = 0 by rw [k]; decide), show (44 : Int32) = iI 44 from rfl, u1, bd, if_pos k]
      by_cases c : sgq T (rg1 T q s).2.1 44
      · rw [ifP_t c] at u3
        have n3 := sgq_nx b1 c
        rw [if_neg (fun y => (tf_0.mp y) c), ifP_t c, nI_s]
        obtain ⟨σ', v1, v2, v3⟩ := ih f (i + 1) _ σ2 _ (by omega) (by omega) (by omega) n3.2 c1 (t3.f u2) u3 (t5.t u2)
        exact ⟨σ', v1, (t2.trans (u2.mono (fun _ _ => PT_s))).trans v2, v3⟩
      · rw [ifP_f c] at u3
        rw [if_pos (tf_f c), ifP_f c]
        obtain ⟨σ', v1, v2, v3⟩ := e_ringsEnd (n := n) ok b1 (t3.f u2) u3 (t5.t u2)
        have e : rg1 T q s = (true, (rg1 T q s).2.1, (rg1 T q s).2.2) := by rw [← k]
        rw [e]
        exact ⟨σ', v1, (t2.trans (u2.mono (fun _ _ => PT_s))).trans v2, v3⟩
    · have kf : (rg1 T q s).1 = false := by cases y : (rg1 T q s).1 with
        | true => exact (k y).elim
        | false => rfl
      rw [if_pos (show bI (rg1 T q s).1 = 0 by rw [kf]; rfl), if_neg k]
      unfold plE
      rw [if_neg k, kf]
      exact ⟨σ1, rfl, t2, t3, t4, t5⟩
set_option maxHeartbeats 200000 in
theorem e_readRings {n : Nat} {σ : xσ} {T : Tp} (ok : okTp T) {q kn : Nat} {s : Sh} (hq : q ≤ T.1) (hs : Cld s) (hT : TpS σ T) (hS : TS σ T q) (h : ShS n σ 5 kn s) : ∃ σ', f_X5_readRings n σ = some (bI (pol T q s).1, σ') ∧ Fk PRs σ σ' ∧ RdS n σ' T kn (pol T q s) := by
  have h4 := ok.1
  obtain ⟨σ1, t1, t2, t3⟩ := e_skipSign (n := n) hT ok hq hS (c := 40) (by omega)
  rw [f_X5_readRings, show (40 : Int32) = iI 40 from rfl, t1, bd]
  unfold pol
  by_cases c : sgq T q 40
  · rw [ifP_t c] at t3
    have n1 := sgq_nx hq c
    rw [if_neg (fun y => (tf_0.mp y) c), ifP_t c]
    obtain ⟨σ', v1, v2, v3⟩ := l_readRings (n := n) ok (kn := kn) 4001 xFU 0 (nx T q) σ1 s (by omega) (xFU_lt (by omega)) (by omega) n1.2 hs (hT.f t2) t3 (h.t t2)
    rw [show nI 0 = 0 from rfl] at v1
    exact ⟨σ', v1, (t2.mono (fun _ _ => PT_s)).trans v2, v3⟩
  · rw [ifP_f c] at t3
    rw [if_pos (tf_f c), ifP_f c]
    exact ⟨σ1, rfl, t2.mono (fun _ _ => PT_s), hT.f t2, t3, h.t t2⟩
/-! a shape -/
def ShB (n : Nat) (σ : xσ) (a kn : Nat) (s : Sh) : Prop := ShS n σ a kn s ∧ (1 ≤ shP s → sI σ a 4 = iI (mn (fun j => (shV s j).1) (min (shP s) 40 - 1)) ∧ sI σ a 6 = iI (mx (fun j => (shV s j).1) (min (shP s) 40 - 1)) ∧ sI σ a 5 = iI (mn (fun j => (shV s j).2) (min (shP s) 40 - 1)) ∧ sI σ a 7 = iI (mx (fun j => (shV s j).2) (min (shP s) 40 - 1)))
set_option maxHeartbeats 200000 in
theorem ShB.fr {n : Nat} {σ σ' : xσ} {a kn : Nat} {s : Sh} {P : Nat → Nat → Prop} (h : ShB n σ a kn s) (f : Fk P σ σ') (hP : ∀ j k, j < 5 → P (a + j) k → j = 0 ∧ k = 8) : ShB n σ' a kn s := by
  refine ⟨h.1.fr f (fun j k hj y => by have := hP j k hj y; omega), fun p => ?_⟩
  have z : ∀ k, k < 8 → sI σ' a k = sI σ a k := fun k hk => (f a k (fun y => by have := hP 0 k (by omega) y; omega)).1
  rw [z 4 (by omega), z 5 (by omega), z 6 (by omega), z 7 (by omega)]
  exact h.2 p
set_option maxHeartbeats 200000 in
theorem W1_ok : W1.Nodup ∧ (∀ j, j ∈ W1 → j < 28) ∧ W1.length < 99 := by decide
set_option maxHeartbeats 200000 in
theorem W2_ok : W2.Nodup ∧ (∀ j, j ∈ W2 → j < 28) ∧ W2.length < 99 := by decide
set_option maxHeartbeats 200000 in
theorem W3_ok : W3.Nodup ∧ (∀ j, j ∈ W3 → j < 28) ∧ W3.length < 99 := by decide
set_option maxHeartbeats 200000 in
theorem W0_ok : W0.Nodup ∧ (∀ j, j ∈ W0 → j < 28) ∧ W0.length < 99 := by decide
set_option maxHeartbeats 200000 in
theorem e_fin50 {n : Nat} {σ : xσ} {T : Tp} {kn : Nat} {r : Bool × Nat × Sh} (h : RdS n σ T kn r) (hg : gVs r.2.2) : ∃ σ', b_X5_readShape_50 n (bI r.1) σ = some (bI r.1, σ') ∧ Fk PRs σ σ' ∧ TpS σ' T ∧ TS σ' T r.2.1 ∧ ShB n σ' 5 kn r.2.2 := by
  obtain ⟨hT, hS, hH⟩ := h
  obtain ⟨σ1, t1, t2, t3, t4⟩ := e_finish hH (fun i hi => hg i (by omega))
  rw [b_X5_readShape_50, t1, bd, gd_pos (by cases r.1; exact Or.inl rfl; exact Or.inr rfl)]
  exact ⟨σ1, rfl, t2.mono (fun _ _ => PB_s), hT.g t2 (by unfold PBx; omega) (fun k => by unfold PBx; omega), hS.g t2 (fun k => by unfold PBx; omega), t3, t4⟩
set_option maxHeartbeats 200000 in
theorem e_readShape {n : Nat} {σ : xσ} {T : Tp} (hn : 2476 ≤ n) (ok : okTp T) {q : Nat} (hq : q ≤ T.1) (hT : TpS σ T) (hS : TS σ T q) : ∃ σ', f_X5_readShape n σ = some (bI (shq T q).1, σ') ∧ Fk PRs σ σ' ∧ TpS σ' T ∧ TS σ' T (shq T q).2.1 ∧ ((shq T q).1 = true → ShB n σ' 5 (knd T q) (shq T q).2.2) := by
  obtain ⟨σ1, t1, t2, t3, t4⟩ := e_skip (n := n) hS W1_ok.1 W1_ok.2.1 W1_ok.2.2 (e_skip1 hT ok hq hS)
  have hT1 := hT.f t2
  rw [f_X5_readShape, t1, bd]
  have e : ixW T q W1 0 = knd T q := rfl
  rw [e] at t3 ⊢
  unfold shq
  by_cases k : knd T q = 99
  · rw [if_pos k] at t3 ⊢
    rw [if_pos k, if_neg (by decide)]
    exact ⟨σ1, rfl, t2.mono (fun _ _ => PT_s), hT1, t3, fun y => nomatch y⟩
  · have kv : knd T q < 3 := by rcases knd_v T q with y | y; exact (k y).elim; exact y
    have n1 := (ix_nx (W := W1) (x := 0) hq k).2
    rw [if_neg k] at t3 ⊢
    rw [if_neg k]
    have rk : R32 (knd T q : Int) := ⟨by omega, by omega⟩
    simp only [iIg0 rk, iIq2 rk, iIq0 rk]
    rw [if_pos (by omega), ← nI_i]
    have o5 : okS n 5 := ⟨by omega, Or.inl rfl⟩
    obtain ⟨σ2, u1, u2, u3⟩ := e_start (σ := σ1) o5 (knd T q) (shV sh0) (shE sh0)
    have u3' : ShS n σ2 5 (knd T q) sh0 := u3
    have hT2 := hT1.s u2
    have hS2 := t3.s u2
    have fr := (t2.mono (fun _ _ => PT_s)).trans (u2.mono (fun _ _ => P5_s))
    rw [u1, bd]
    by_cases k2 : knd T q = 2
    · rw [if_pos (by omega), if_neg (by omega), if_neg (by omega)]
      obtain ⟨σ3, v1, v2, v3⟩ := e_readRings (n := n) ok n1 Cl_0 hT2 hS2 u3'
      obtain ⟨σ4, w1, w2, w3, w4, w5⟩ := e_fin50 v3 (pol_b n1 Cl_0).2.1
      rw [v1, bd, w1]
      exact ⟨σ4, rfl, (fr.trans v2).trans w2, w3, w4, fun _ => w5⟩
    · rw [if_neg (by omega)]
      by_cases k0 : knd T q = 0
      · rw [if_pos (by omega), if_pos k0]
        obtain ⟨σ3, v1, v2, v3⟩ := e_readPoint (n := n) ok n1 hT2 hS2 u3'
        obtain ⟨σ4, w1, w2, w3, w4, w5⟩ := e_fin50 v3 (pnt_b n1 Cl_0).2.1
        rw [b_X5_readShape_47, v1, bd, w1]
        exact ⟨σ4, rfl, (fr.trans v2).trans w2, w3, w4, fun _ => w5⟩
      · rw [if_neg (by omega), if_neg k0, if_pos (by omega)]
        obtain ⟨σ3, v1, v2, v3⟩ := e_readRing (n := n) ok n1 Cl_0.1 hT2 hS2 u3'
        obtain ⟨σ4, w1, w2, w3, w4, w5⟩ := e_fin50 v3 (rg1_b n1 Cl_0).2.2.1
        rw [b_X5_readShape_47, v1, bd, w1]
        exact ⟨σ4, rfl, (fr.trans v2).trans w2, w3, w4, fun _ => w5⟩

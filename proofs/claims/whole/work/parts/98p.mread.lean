/-! the reader of the reference -/
def PUr (b k : Nat) : Prop := PU b k ∨ (b = 233 ∧ (k = 42 ∨ k = 48))
set_option maxHeartbeats 200000 in
theorem PU_r {b k : Nat} (h : PU b k) : PUr b k := Or.inl h
def RSt (σ : xσ) (T : Tp) (r : Bool × Nat) : Prop := TpM σ T ∧ TM σ T r.2 ∧ (r.1 = true → sI σ 233 48 = 0 ∧ sI σ 233 42 = -1) ∧ (r.1 = false → sI σ 233 48 = 1 ∧ sI σ 233 42 = nI (fs T r.2))
set_option maxHeartbeats 200000 in
theorem TM.g {σ σ' : xσ} {T : Tp} {q : Nat} {P : Nat → Nat → Prop} (h : TM σ T q) (f : Fk P σ σ') (h1 : ∀ k, k = 41 ∨ k = 45 ∨ k = 46 ∨ k = 47 → ¬ P 233 k) : TM σ' T q := by
  obtain ⟨a, b, c, d⟩ := h
  refine ⟨?_, ?_, ?_, fun y => ?_⟩
  · rw [(f 233 45 (h1 _ (by omega))).1]; exact a
  · rw [(f 233 46 (h1 _ (by omega))).1]; exact b
  · rw [(f 233 41 (h1 _ (by omega))).1]; exact c
  · rw [(f 233 47 (h1 _ (by omega))).1]; exact d y
set_option maxHeartbeats 200000 in
theorem TpM.g {σ σ' : xσ} {T : Tp} {P : Nat → Nat → Prop} (h : TpM σ T) (f : Fk P σ σ') (h1 : ¬ P 233 40) (h2 : ∀ k, ¬ P 1863 k) : TpM σ' T := ⟨by rw [(f 233 40 h1).1]; exact h.1, fun i hi => by rw [(f 1863 i (h2 i)).1]; exact h.2 i hi⟩
set_option maxHeartbeats 200000 in
theorem RSt.g {σ σ' : xσ} {T : Tp} {r : Bool × Nat} {P : Nat → Nat → Prop} (h : RSt σ T r) (f : Fk P σ σ') (h1 : ∀ k, 40 ≤ k ∧ k ≤ 48 → ¬ P 233 k) (h2 : ∀ k, ¬ P 1863 k) : RSt σ' T r := by
  obtain ⟨a, b, c, d⟩ := h
  have z : ∀ k, 40 ≤ k ∧ k ≤ 48 → sI σ' 233 k = sI σ 233 k := fun k hk => (f 233 k (h1 k hk)).1
  refine ⟨a.g f (h1 40 (by omega)) h2, b.g f (fun k hk => h1 k (by omega)), fun y => ?_, fun y => ?_⟩
  · rw [z 48 (by omega), z 42 (by omega)]; exact c y
  · rw [z 48 (by omega), z 42 (by omega)]; exact d y
set_option maxHeartbeats 200000 in
theorem m_refuse {n : Nat} {σ : xσ} {T : Tp} {q : Nat} (h : RSt σ T (true, q)) : ∃ σ', f_X14_refuse n σ = some ((), σ') ∧ Fk PUr σ σ' ∧ RSt σ' T (false, q) := by
  obtain ⟨a, b, c, _⟩ := h
  have c1 := (c rfl).1
  have f1 : Fk (fun b k => b = 233 ∧ (k = 42 ∨ k = 48)) σ (wI σ 233 48 1) := Fk.wI ⟨rfl, Or.inr rfl⟩
  have e : sI (wI σ 233 48 1) 233 46 = nI (fs T q) := by rw [sI_wI, if_neg (by omega)]; exact b.2.1
  have f2 : Fk (fun b k => b = 233 ∧ (k = 42 ∨ k = 48)) (wI σ 233 48 1) (wI (wI σ 233 48 1) 233 42 (nI (fs T q))) := Fk.wI ⟨rfl, Or.inl rfl⟩
  rw [f_X14_refuse, c1, if_pos rfl, st, e, st]
  have F := f1.trans f2
  refine ⟨_, rfl, F.mono (fun _ _ => Or.inr), a.g F (by omega) (fun k => by omega), b.g F (fun k hk => by omega), (fun y => nomatch y), fun _ => ⟨?_, ?_⟩⟩
  · rw [sI_wI, if_neg (by omega), sI_own]
  · rw [sI_own]
set_option maxHeartbeats 200000 in
theorem m_isSign {n : Nat} {σ : xσ} {T : Tp} (ok : okTp T) {q : Nat} (hT : TpM σ T) (hM : TM σ T q) {c : Int} (hc : 0 ≤ c ∧ c < 128) : f_X14_isSign n (iI c) σ = some (tf (sgq T q c), σ) := by
  have h4 := ok.1
  have k4 := kd_le T q
  rw [f_X14_isSign, hM.1, hM.2.1]
  simp only [nIq3 (show kd T q < 2147483648 by omega)]
  by_cases k : kd T q = 3
  · have l := kd_lt (T := T) (q := q) (by omega)
    have hz := ok.2 _ l
    have e : (iI (T.2 (fs T q)) = iI c) ↔ byt T (fs T q) = c := by
      rw [iI_eq ⟨by omega, by omega⟩ ⟨by omega, by omega⟩, bt_in l]
    rw [if_pos k, gd_in (by omega) (by omega), nI_k (by omega), hT.2 _ l]
    by_cases s : byt T (fs T q) = c
    · rw [if_pos (e.mpr s), tf_t ⟨k, s⟩]
    · rw [if_neg (fun y => s (e.mp y)), tf_f (fun y => s y.2)]
  · rw [if_neg k, tf_f (fun y => k y.1)]
set_option maxHeartbeats 200000 in
theorem RSt_nx {n : Nat} {σ : xσ} {T : Tp} (ok : okTp T) {q : Nat} (hq : q ≤ T.1) (h : RSt σ T (true, q)) : ∃ σ', f_X14_next n σ = some ((), σ') ∧ Fk PU σ σ' ∧ RSt σ' T (true, nx T q) := by
  obtain ⟨a, b, c, d⟩ := h
  obtain ⟨σ', t1, t2, t3⟩ := m_next (n := n) a ok (nx_b hq).2.1 b.2.2.1
  refine ⟨σ', t1, t2, a.f t2, t3, fun _ => ?_, (fun y => nomatch y)⟩
  rw [(t2 233 48 (fun y => by have := y.2; omega)).1, (t2 233 42 (fun y => by have := y.2; omega)).1]
  exact c rfl
set_option maxHeartbeats 200000 in
theorem RSt.t {σ : xσ} {T : Tp} {r : Bool × Nat} (h : RSt σ T r) (k : r.1 = true) : RSt σ T (true, r.2) := by
  obtain ⟨a, b⟩ := r
  simp only at k
  rw [k] at h; exact h
set_option maxHeartbeats 200000 in
theorem m_expect {n : Nat} {σ : xσ} {T : Tp} (ok : okTp T) {r : Bool × Nat} (hq : r.2 ≤ T.1) (h : RSt σ T r) {c : Int} (hc : 0 ≤ c ∧ c < 128) : ∃ σ', f_X14_expect n (iI c) σ = some ((), σ') ∧ Fk PUr σ σ' ∧ RSt σ' T (exS T c r) := by
  unfold exS
  by_cases k : r.1 = true
  · have h' := h.t k
    rw [f_X14_expect, (h.2.2.1 k).1, if_pos rfl, m_isSign ok h.1 h.2.1 hc, bd, if_pos k]
    by_cases s : sgq T r.2 c
    · obtain ⟨σ', t1, t2, t3⟩ := RSt_nx (n := n) ok hq h'
      rw [if_neg (fun y => (tf_0.mp y) s), t1, bd, ifP_t s]
      exact ⟨σ', rfl, t2.mono (fun _ _ => PU_r), t3⟩
    · obtain ⟨σ', t1, t2, t3⟩ := m_refuse (n := n) h'
      rw [if_pos (tf_f s), t1, bd, ifP_f s]
      exact ⟨σ', rfl, t2, t3⟩
  · have kf : r.1 = false := by cases y : r.1 with
      | true => exact (k y).elim
      | false => rfl
    rw [f_X14_expect, (h.2.2.2 kf).1, if_neg (by decide), if_neg k]
    exact ⟨σ, rfl, Fk.refl, h⟩
noncomputable def inS (T : Tp) (r : Bool × Nat) : Bool × Nat := if r.1 = true then ifP (kd T r.2 = 2) (true, nx T r.2) (false, r.2) else r
noncomputable def itS (T : Tp) (k : Nat) (r : Bool × Nat) : Bool × Nat := if r.1 = true then rdN T k r.2 else r
set_option maxHeartbeats 200000 in
theorem itS_s (T : Tp) (k : Nat) (r : Bool × Nat) : itS T (k + 1) r = itS T k (inS T r) := by
  unfold itS inS
  by_cases h : r.1 = true
  · rw [if_pos h, if_pos h, rdN]
    by_cases d : kd T r.2 = 2
    · rw [ifP_t d, ifP_t d, if_pos rfl]
    · rw [ifP_f d, ifP_f d, if_neg (fun y => nomatch y)]
  · rw [if_neg h, if_neg h, if_neg h]
set_option maxHeartbeats 200000 in
theorem itS_0 (T : Tp) (r : Bool × Nat) : itS T 0 r = r := by
  unfold itS
  by_cases h : r.1 = true
  · rw [if_pos h, rdN, ← h]
  · rw [if_neg h]
set_option maxHeartbeats 200000 in
theorem inS_b {T : Tp} {r : Bool × Nat} (h : r.2 ≤ T.1) : (inS T r).2 ≤ T.1 ∧ r.2 ≤ (inS T r).2 := by
  unfold inS
  by_cases k : r.1 = true
  · rw [if_pos k]
    by_cases d : kd T r.2 = 2
    · have := num_nx h d
      rw [ifP_t d]; exact ⟨this.2, by show r.2 ≤ nx T r.2; omega⟩
    · rw [ifP_f d]; exact ⟨h, Nat.le_refl _⟩
  · rw [if_neg k]; exact ⟨h, Nat.le_refl _⟩
set_option maxHeartbeats 200000 in
theorem m_readInt {n : Nat} {σ : xσ} {T : Tp} (ok : okTp T) {r : Bool × Nat} (hq : r.2 ≤ T.1) (h : RSt σ T r) : ∃ σ' z, f_X14_readInt n σ = some (iI z, σ') ∧ Fk PUr σ σ' ∧ RSt σ' T (inS T r) ∧ ((inS T r).1 = true → z = nmb T r.2) := by
  have k4 := kd_le T r.2
  unfold inS
  by_cases k : r.1 = true
  · have h' := h.t k
    rw [f_X14_readInt, (h.2.2.1 k).1, if_pos rfl, h.2.1.1, if_pos k]
    simp only [nIq2 (show kd T r.2 < 2147483648 by omega)]
    by_cases d : kd T r.2 = 2
    · obtain ⟨σ', t1, t2, t3⟩ := RSt_nx (n := n) ok hq h'
      rw [if_pos d, st, t1, bd, ifP_t d, h.2.1.2.2.2 d]
      exact ⟨σ', _, rfl, t2.mono (fun _ _ => PU_r), t3, fun _ => rfl⟩
    · obtain ⟨σ', t1, t2, t3⟩ := m_refuse (n := n) h'
      rw [if_neg d, t1, bd, ifP_f d]
      exact ⟨σ', 0, rfl, t2, t3, fun y => nomatch y⟩
  · have kf : r.1 = false := by cases y : r.1 with
      | true => exact (k y).elim
      | false => rfl
    rw [f_X14_readInt, (h.2.2.2 kf).1, if_neg (by decide), if_neg k]
    exact ⟨σ, 0, rfl, Fk.refl, h, fun y => (k y).elim⟩
def PUa (b k : Nat) : Prop := PUr b k ∨ b = 1869
set_option maxHeartbeats 200000 in
theorem RSt.a {σ : xσ} {T : Tp} {r : Bool × Nat} (h : RSt σ T r) {k : Nat} {v : Int32} : RSt (wI σ 1869 k v) T r := h.g (P := fun b _ => b = 1869) (Fk.wI rfl) (fun k _ => by omega) (fun k => by omega)
set_option maxHeartbeats 200000 in
theorem l_readInts {n : Nat} {T : Tp} (ok : okTp T) {c : Nat} (hc : c ≤ 8) : ∀ k f i σ r, k < f → i + k = c → r.2 ≤ T.1 → RSt σ T r → ∃ σ', l_X14_readInts_2 n f (nI c) (nI i) σ = some ((), σ') ∧ Fk PUa σ σ' ∧ RSt σ' T (itS T k r) ∧ ((itS T k r).1 = true → ∀ j, j < k → sI σ' 1869 (i + j) = iI (nmb T (psN T j r.2))) ∧ (∀ j, j < i → sI σ' 1869 j = sI σ 1869 j) := by
  intro k
  induction k with
  | zero =>
    intro f i σ r hf hi hq h
    obtain ⟨g, rfl⟩ : ∃ g, f = g + 1 := ⟨f - 1, by omega⟩
    rw [l_X14_readInts_2, if_pos ((nI_e' (by omega) (by omega)).mpr (by omega)), itS_0]
    exact ⟨σ, rfl, Fk.refl, h, fun _ j hj => by omega, fun j _ => rfl⟩
  | succ k ih =>
    intro f i σ r hf hi hq h
    obtain ⟨g, rfl⟩ : ∃ g, f = g + 1 := ⟨f - 1, by omega⟩
    obtain ⟨σ1, z, t1, t2, t3, t4⟩ := m_readInt (n := n) ok hq h
    rw [l_X14_readInts_2, if_neg (fun y => by have := (nI_e' (by omega) (by omega)).mp y; omega), t1, bd, gd_in (by omega) (by omega), nI_k (by omega), st, nI_s]
    obtain ⟨σ', u1, u2, u3, u4, u5⟩ := ih g (i + 1) (wI σ1 1869 i (iI z)) (inS T r) (by omega) (by omega) (inS_b hq).1 t3.a
    have f1 : Fk PUa σ1 (wI σ1 1869 i (iI z)) := Fk.wI (Or.inr rfl)
    rw [itS_s]
    refine ⟨σ', u1, ((t2.mono (fun _ _ => Or.inl)).trans f1).trans u2, u3, fun y j hj => ?_, fun j hj => ?_⟩
    · have k1 : (inS T r).1 = true := by
        unfold itS at y
        by_cases e : (inS T r).1 = true
        · exact e
        · rw [if_neg e] at y; exact y
      have e2 : (inS T r).2 = nx T r.2 := by
        unfold inS at k1 ⊢
        by_cases e : r.1 = true
        · rw [if_pos e] at k1 ⊢
          by_cases d : kd T r.2 = 2
          · rw [ifP_t d]
          · rw [ifP_f d] at k1; cases k1
        · rw [if_neg e] at k1; exact (e k1).elim
      cases j with
      | zero => rw [Nat.add_zero, u5 i (by omega), sI_own, t4 k1]; rfl
      | succ j =>
        have := u4 y j (by omega)
        rw [show i + 1 + j = i + (j + 1) by omega, e2] at this
        exact this
    · rw [u5 j (by omega), sI_wI, if_neg (by omega), (t2 1869 j (fun y => by unfold PUr PU at y; omega)).1]
set_option maxHeartbeats 200000 in
theorem m_readInts {n : Nat} {σ : xσ} {T : Tp} (ok : okTp T) {c : Nat} (hc : c ≤ 8) {r : Bool × Nat} (hq : r.2 ≤ T.1) (h : RSt σ T r) : ∃ σ', f_X14_readInts n (nI c) σ = some ((), σ') ∧ Fk PUa σ σ' ∧ RSt σ' T (itS T c r) ∧ ((itS T c r).1 = true → ∀ j, j < c → sI σ' 1869 j = iI (nmb T (psN T j r.2))) := by
  obtain ⟨σ', t1, t2, t3, t4, _⟩ := l_readInts (n := n) ok hc c xFU 0 σ r (xFU_lt (by omega)) (by omega) hq h
  rw [show nI 0 = 0 from rfl] at t1
  rw [f_X14_readInts]
  exact ⟨σ', t1, t2, t3, fun y j hj => by have := t4 y j hj; rw [Nat.zero_add] at this; exact this⟩
/-! a shape of the reference that is being made -/
def ShM (σ : xσ) (a kn : Nat) (s : Sh) : Prop := okM a ∧ (sI σ a 1 = nI kn ∧ sI σ a 2 = nI (min (shP s) 40) ∧ sI σ a 3 = nI (min (shR s) 8)) ∧ (∀ i, i < min (shP s) 40 → sI σ (a + 2) i = iI (shV s i).1 ∧ sI σ (a + 3) i = iI (shV s i).2) ∧ (∀ r, r < min (shR s) 8 → sI σ (a + 1) r = nI (shE s r))
def PMh (a b k : Nat) : Prop := (a < b ∧ b < a + 4) ∨ (b = a ∧ 1 ≤ k ∧ k ≤ 3)
set_option maxHeartbeats 200000 in
theorem ShM.fr {σ σ' : xσ} {a kn : Nat} {s : Sh} {P : Nat → Nat → Prop} (h : ShM σ a kn s) (f : Fk P σ σ') (hP : ∀ j k, j < 4 → P (a + j) k → j = 0 ∧ (k < 1 ∨ 3 < k)) : ShM σ' a kn s := by
  obtain ⟨h1, ⟨h2, h3, h4⟩, h6, h7⟩ := h
  have z : ∀ k, 1 ≤ k → k ≤ 3 → sI σ' a k = sI σ a k := fun k hk h3 => (f a k (fun y => by have := hP 0 k (by omega) y; omega)).1
  have w : ∀ j k, 1 ≤ j → j < 4 → sI σ' (a + j) k = sI σ (a + j) k := fun j k h1 h2 => (f (a + j) k (fun y => by have := hP j k h2 y; omega)).1
  refine ⟨h1, ⟨?_, ?_, ?_⟩, fun i hi => ?_, fun r hr => ?_⟩
  · rw [z 1 (by omega) (by omega)]; exact h2
  · rw [z 2 (by omega) (by omega)]; exact h3
  · rw [z 3 (by omega) (by omega)]; exact h4
  · rw [w 2 i (by omega) (by omega), w 3 i (by omega) (by omega)]; exact h6 i hi
  · rw [w 1 r (by omega) (by omega)]; exact h7 r hr
set_option maxHeartbeats 200000 in
theorem m_beg {n : Nat} {σ : xσ} {a : Nat} (oa : okM a) (kn : Nat) (V : Nat → V2) (E : Nat → Nat) : ∃ σ', f_X12_begin n a (nI kn) σ = some ((), σ') ∧ Fk (PMh a) σ σ' ∧ ShM σ' a kn (0, 0, V, E) := by
  rw [f_X12_begin, gd_pos oa, st, st, st]
  have fr : ∀ {s : xσ} {k : Nat} {v : Int32}, 1 ≤ k ∧ k ≤ 3 → Fk (PMh a) s (wI s a k v) := fun hk => Fk.wI (Or.inr ⟨rfl, hk⟩)
  refine ⟨_, rfl, ((fr (by omega)).trans (fr (by omega))).trans (fr (by omega)), oa, ⟨?_, ?_, ?_⟩, fun i hi => ?_, fun r hr => ?_⟩
  · rw [sI_wI, if_neg (by omega), sI_wI, if_neg (by omega), sI_own]
  · rw [sI_wI, if_neg (by omega), sI_own]; rfl
  · rw [sI_own]; rfl
  · have : i < min 0 40 := hi
    omega
  · have : r < min 0 8 := hr
    omega
set_option maxHeartbeats 200000 in
theorem m_adp {n : Nat} {σ : xσ} {a kn : Nat} {s : Sh} (h : ShM σ a kn s) (hp : shP s < 40) (v : V2) : ∃ σ', f_X12_add n a (iI v.1) (iI v.2) σ = some ((), σ') ∧ Fk (PMh a) σ σ' ∧ ShM σ' a kn (adP s v) := by
  obtain ⟨oa, ⟨h0, h1, h2⟩, h4, h5⟩ := id h
  have fr : ∀ {s : xσ} {k : Nat} {v : Int32}, 1 ≤ k ∧ k ≤ 3 → Fk (PMh a) s (wI s a k v) := fun hk => Fk.wI (Or.inr ⟨rfl, hk⟩)
  have fj : ∀ {s : xσ} {j k : Nat} {v : Int32}, 1 ≤ j → j < 4 → Fk (PMh a) s (wI s (a + j) k v) := fun h1 h2 => Fk.wI (Or.inl ⟨by omega, by omega⟩)
  have m : min (shP s) 40 = shP s := by omega
  rw [m] at h1 h4
  have e1 : ∀ v, sI (wI σ (a + 2) (shP s) v) a 2 = nI (shP s) := fun v => by rw [sI_wI, if_neg (by omega), h1]
  have e2 : ∀ v w, sI (wI (wI σ (a + 2) (shP s) v) (a + 3) (shP s) w) a 2 = nI (shP s) := fun v w => by rw [sI_wI, if_neg (by omega), e1]
  rw [f_X12_add, gd_pos oa, h1, gd_in hp (by omega), nI_k (by omega), st, e1, gd_in hp (by omega), nI_k (by omega), st, e2, st, nI_s]
  have mp : min (shP (adP s v)) 40 = shP s + 1 := by show min (shP s + 1) 40 = _; omega
  refine ⟨_, rfl, ((fj (by omega) (by omega)).trans (fj (by omega) (by omega))).trans (fr (by omega)), oa, ⟨?_, ?_, ?_⟩, fun i hi => ?_, fun r hr => ?_⟩
  · rw [sI_wI, if_neg (by omega), sI_wI, if_neg (by omega), sI_wI, if_neg (by omega), h0]
  · rw [sI_own, mp]
  · rw [sI_wI, if_neg (by omega), sI_wI, if_neg (by omega), sI_wI, if_neg (by omega), h2]; rfl
  · rw [mp] at hi
    show _ = iI (if i = shP s then v else shV s i).1 ∧ _ = iI (if i = shP s then v else shV s i).2
    by_cases z : i = shP s
    · subst z
      rw [if_pos rfl]
      refine ⟨?_, ?_⟩
      · rw [sI_wI, if_neg (by omega), sI_wI, if_neg (by omega), sI_own]
      · rw [sI_wI, if_neg (by omega), sI_own]
    · have := h4 i (by omega)
      rw [if_neg z]
      refine ⟨?_, ?_⟩
      · rw [sI_wI, if_neg (by omega), sI_wI, if_neg (by omega), sI_wI, if_neg (by omega)]; exact this.1
      · rw [sI_wI, if_neg (by omega), sI_wI, if_neg (by omega), sI_wI, if_neg (by omega)]; exact this.2
  · rw [sI_wI, if_neg (by omega), sI_wI, if_neg (by omega), sI_wI, if_neg (by omega)]; exact h5 r hr
/-! a place too many is counted only -/
set_option maxHeartbeats 200000 in
theorem ShM_over {σ : xσ} {a kn : Nat} {s : Sh} (h : ShM σ a kn s) (hp : 40 ≤ shP s) (v : V2) : ShM σ a kn (adP s v) := by
  obtain ⟨oa, ⟨h0, h1, h2⟩, h4, h5⟩ := h
  have mp : min (shP (adP s v)) 40 = min (shP s) 40 := by show min (shP s + 1) 40 = _; omega
  refine ⟨oa, ⟨h0, by rw [mp]; exact h1, h2⟩, fun i hi => ?_, h5⟩
  rw [mp] at hi
  show _ = iI (if i = shP s then v else shV s i).1 ∧ _ = iI (if i = shP s then v else shV s i).2
  rw [if_neg (by omega)]
  exact h4 i hi
set_option maxHeartbeats 200000 in
theorem m_endR {n : Nat} {σ : xσ} {a kn : Nat} {s : Sh} (h : ShM σ a kn s) (hr : shR s < 8) : ∃ σ', f_X12_endRing n a σ = some ((), σ') ∧ Fk (PMh a) σ σ' ∧ ShM σ' a kn (clR s) := by
  obtain ⟨oa, ⟨h0, h1, h2⟩, h4, h5⟩ := id h
  have fr : ∀ {s : xσ} {k : Nat} {v : Int32}, 1 ≤ k ∧ k ≤ 3 → Fk (PMh a) s (wI s a k v) := fun hk => Fk.wI (Or.inr ⟨rfl, hk⟩)
  have fj : ∀ {s : xσ} {j k : Nat} {v : Int32}, 1 ≤ j → j < 4 → Fk (PMh a) s (wI s (a + j) k v) := fun h1 h2 => Fk.wI (Or.inl ⟨by omega, by omega⟩)
  have m : min (shR s) 8 = shR s := by omega
  rw [m] at h2 h5
  have e1 : ∀ v, sI (wI σ (a + 1) (shR s) v) a 3 = nI (shR s) := fun v => by rw [sI_wI, if_neg (by omega), h2]
  rw [f_X12_endRing, gd_pos oa, h2, gd_in hr (by omega), nI_k (by omega), h1, st, e1, st, nI_s]
  have mr : min (shR (clR s)) 8 = shR s + 1 := by show min (shR s + 1) 8 = _; omega
  refine ⟨_, rfl, (fj (by omega) (by omega)).trans (fr (by omega)), oa, ⟨?_, ?_, ?_⟩, fun i hi => ?_, fun r hr => ?_⟩
  · rw [sI_wI, if_neg (by omega), sI_wI, if_neg (by omega), h0]
  · rw [sI_wI, if_neg (by omega), sI_wI, if_neg (by omega), h1]; rfl
  · rw [sI_own, mr]
  · have := h4 i hi
    refine ⟨?_, ?_⟩
    · rw [sI_wI, if_neg (by omega), sI_wI, if_neg (by omega)]; exact this.1
    · rw [sI_wI, if_neg (by omega), sI_wI, if_neg (by omega)]; exact this.2
  · rw [mr] at hr
    show _ = nI (if r = shR s then min (shP s) 40 else shE s r)
    by_cases y : r = shR s
    · rw [if_pos y, sI_wI, if_neg (by omega), sI_wI, if_pos ⟨rfl, y⟩]
    · rw [if_neg y, sI_wI, if_neg (by omega), sI_wI, if_neg (fun z => y z.2)]; exact h5 r (by omega)
set_option maxHeartbeats 200000 in
theorem ShM_ring {σ : xσ} {a kn : Nat} {s : Sh} (h : ShM σ a kn s) (hr : 8 ≤ shR s) : ShM σ a kn (clR s) := by
  obtain ⟨oa, ⟨h0, h1, h2⟩, h4, h5⟩ := h
  have mr : min (shR (clR s)) 8 = min (shR s) 8 := by show min (shR s + 1) 8 = _; omega
  refine ⟨oa, ⟨h0, h1, by rw [mr]; exact h2⟩, h4, fun r hr => ?_⟩
  rw [mr] at hr
  show _ = nI (if r = shR s then min (shP s) 40 else shE s r)
  rw [if_neg (by omega)]
  exact h5 r hr
set_option maxHeartbeats 200000 in
theorem MH_of {σ : xσ} {a kn : Nat} {s : Sh} (h : ShM σ a kn s) (h40 : shP s ≤ 40) (h8 : shR s ≤ 8) : MH σ a ((kn, s) : Ct) := by
  obtain ⟨oa, ⟨h0, k1, k2⟩, k4, k5⟩ := h
  rw [show min (shP s) 40 = shP s by omega] at k1 k4
  rw [show min (shR s) 8 = shR s by omega] at k2 k5
  exact ⟨oa, ⟨h0, k1, k2⟩, k4, k5⟩

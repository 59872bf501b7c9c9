/-! tables of the reference -/
def mq (a j : Nat) : Nat := a + 2 + 4 * j
set_option maxHeartbeats 200000 in
theorem okM_mq {a j : Nat} (oa : okU a) (hj : j < 200) : okM (mq a j) := by
  unfold mq
  rcases oa with rfl | rfl
  · exact Or.inr (Or.inr (Or.inl ⟨by omega, by omega, by omega⟩))
  · exact Or.inr (Or.inr (Or.inr (Or.inl ⟨by omega, by omega, by omega⟩)))
set_option maxHeartbeats 200000 in
theorem MH.fk {σ σ' : xσ} {a : Nat} {c : Ct} {P : Nat → Nat → Prop} (h : MH σ a c) (f : Fk P σ σ') (hP : ∀ j k, j < 4 → P (a + j) k → j = 0 ∧ k = 0) : MH σ' a c := by
  obtain ⟨h1, ⟨h2, h3, h4⟩, h9, h10⟩ := h
  have z : ∀ k, 1 ≤ k → sI σ' a k = sI σ a k := fun k hk => (f a k (fun y => by have := hP 0 k (by omega) y; omega)).1
  have w : ∀ j k, 1 ≤ j → j < 4 → sI σ' (a + j) k = sI σ (a + j) k := fun j k h1 h2 => (f (a + j) k (fun y => by have := hP j k h2 y; omega)).1
  refine ⟨h1, ⟨?_, ?_, ?_⟩, fun i hi => ?_, fun r hr => ?_⟩
  · rw [z 1 (by omega)]; exact h2
  · rw [z 2 (by omega)]; exact h3
  · rw [z 3 (by omega)]; exact h4
  · rw [w 2 i (by omega) (by omega), w 3 i (by omega) (by omega)]; exact h9 i hi
  · rw [w 1 r (by omega) (by omega)]; exact h10 r hr
def PB4 (a b k : Nat) : Prop := a ≤ b ∧ b < a + 4
set_option maxHeartbeats 200000 in
theorem l_take62 {n a0 a1 : Nat} {c : Ct} (F : WF c) (dj : a0 + 4 ≤ a1 ∨ a1 + 4 ≤ a0) : ∀ f i σ, 40 - i < f → i ≤ cN c → sI σ a0 2 = nI (cN c) → (∀ j, j < cN c → sI σ (a1 + 2) j = iI (cV c j).1 ∧ sI σ (a1 + 3) j = iI (cV c j).2) → (∀ j, j < i → sI σ (a0 + 2) j = iI (cV c j).1 ∧ sI σ (a0 + 3) j = iI (cV c j).2) → ∃ σ', l_X12_take_62 n f a0 a1 (nI i) σ = some ((), σ') ∧ Fk (fun b _ => b = a0 + 2 ∨ b = a0 + 3) σ σ' ∧ ∀ j, j < cN c → sI σ' (a0 + 2) j = iI (cV c j).1 ∧ sI σ' (a0 + 3) j = iI (cV c j).2 := by
  have hN := F.n
  intro f
  induction f with
  | zero => intro i σ h; omega
  | succ f ih =>
    intro i σ hf hi h2 h3 h4
    rw [l_X12_take_62, h2]
    by_cases q : cN c ≤ i
    · rw [if_pos ((nI_e' (by omega) (by omega)).mpr q)]
      exact ⟨σ, rfl, Fk.refl, fun j hj => h4 j (by omega)⟩
    · have i1 : ∀ {α : Type} (y : Option α), gd (inb (nI i) 40) y = y := fun y => gd_in (by omega) (by omega)
      have nIk : (nI i).toNatClampNeg = i := nI_k (by omega)
      obtain ⟨s1, s2⟩ := h3 i (by omega)
      have e2 : ∀ v, sI (wI σ (a0 + 2) i v) (a1 + 3) i = iI (cV c i).2 := fun v => by rw [sI_wI, if_neg (by omega)]; exact s2
      rw [if_neg (fun y => q ((nI_e' (by omega) (by omega)).mp y))]
      simp only [i1, nIk, st, s1, e2, nI_s]
      have G : Fk (fun b _ => b = a0 + 2 ∨ b = a0 + 3) σ (wI (wI σ (a0 + 2) i (iI (cV c i).1)) (a0 + 3) i (iI (cV c i).2)) := (Fk.wI (Or.inl rfl)).trans (Fk.wI (Or.inr rfl))
      obtain ⟨σ', t1, t2, t3⟩ := ih (i + 1) _ (by omega) (by omega) (by rw [(G a0 2 (by omega)).1]; exact h2) (fun j hj => by rw [(G (a1 + 2) j (by omega)).1, (G (a1 + 3) j (by omega)).1]; exact h3 j hj) (fun j hj => by
        by_cases e : j = i
        · subst e
          rw [sI_wI, if_neg (by omega), sI_own, sI_own]; exact ⟨rfl, rfl⟩
        · rw [sI_wI, if_neg (by omega), sI_wI, if_neg (by omega), sI_wI, if_neg (by omega), sI_wI, if_neg (by omega)]; exact h4 j (by omega))
      exact ⟨σ', t1, G.trans t2, t3⟩
set_option maxHeartbeats 200000 in
theorem l_take34 {n a0 a1 : Nat} {c : Ct} (F : WF c) (dj : a0 + 4 ≤ a1 ∨ a1 + 4 ≤ a0) : ∀ f i σ, 8 - i < f → i ≤ cR c → sI σ a0 3 = nI (cR c) → (∀ j, j < cR c → sI σ (a1 + 1) j = nI (cE c j)) → (∀ j, j < i → sI σ (a0 + 1) j = nI (cE c j)) → ∃ σ', l_X12_take_34 n f a0 a1 (nI i) σ = l_X12_take_62 n xFU a0 a1 0 σ' ∧ Fk (fun b _ => b = a0 + 1) σ σ' ∧ ∀ j, j < cR c → sI σ' (a0 + 1) j = nI (cE c j) := by
  have hR := F.r
  intro f
  induction f with
  | zero => intro i σ h; omega
  | succ f ih =>
    intro i σ hf hi h2 h3 h4
    rw [l_X12_take_34, h2]
    by_cases q : cR c ≤ i
    · rw [if_pos ((nI_e' (by omega) (by omega)).mpr q)]
      exact ⟨σ, rfl, Fk.refl, fun j hj => h4 j (by omega)⟩
    · have i1 : ∀ {α : Type} (y : Option α), gd (inb (nI i) 8) y = y := fun y => gd_in (by omega) (by omega)
      have nIk : (nI i).toNatClampNeg = i := nI_k (by omega)
      rw [if_neg (fun y => q ((nI_e' (by omega) (by omega)).mp y))]
      simp only [i1, nIk, st, h3 i (by omega), nI_s]
      have G : Fk (fun b _ => b = a0 + 1) σ (wI σ (a0 + 1) i (nI (cE c i))) := Fk.wI rfl
      obtain ⟨σ', t1, t2, t3⟩ := ih (i + 1) _ (by omega) (by omega) (by rw [(G a0 3 (by omega)).1]; exact h2) (fun j hj => by rw [(G (a1 + 1) j (by omega)).1]; exact h3 j hj) (fun j hj => by
        by_cases e : j = i
        · subst e; rw [sI_own]
        · rw [sI_wI, if_neg (by omega)]; exact h4 j (by omega))
      exact ⟨σ', t1, G.trans t2, t3⟩
set_option maxHeartbeats 200000 in
theorem m_takeS {n : Nat} {σ : xσ} {a0 a1 : Nat} {c : Ct} (o0 : okM a0) (S : MH σ a1 c) (F : WF c) (dj : a0 + 4 ≤ a1 ∨ a1 + 4 ≤ a0) : ∃ σ', f_X12_take n a0 a1 σ = some ((), σ') ∧ Fk (PB4 a0) σ σ' ∧ MH σ' a0 c ∧ sI σ' a0 0 = sI σ a1 0 := by
  have hN := F.n
  have hR := F.r
  rw [f_X12_take, gd_pos o0, gd_pos S.1, st, st, st, st]
  have z : ∀ (σ : xσ) (k : Nat) (v : Int32) (b j : Nat), a1 ≤ b → b < a1 + 4 → sI (wI σ a0 k v) b j = sI σ b j := fun σ k v b j h1 h2 => by rw [sI_wI, if_neg (by omega)]
  rw [z _ _ _ a1 1 (by omega) (by omega), S.K, z _ _ _ a1 2 (by omega) (by omega), z _ _ _ a1 2 (by omega) (by omega), S.N, z _ _ _ a1 3 (by omega) (by omega), z _ _ _ a1 3 (by omega) (by omega), z _ _ _ a1 3 (by omega) (by omega), S.R]
  have fr : ∀ {s : xσ} {k : Nat} {v : Int32}, Fk (PB4 a0) s (wI s a0 k v) := Fk.wI ⟨Nat.le_refl _, by omega⟩
  have G : Fk (PB4 a0) σ (wI (wI (wI (wI σ a0 0 (sI σ a1 0)) a0 1 (nI (cK c))) a0 2 (nI (cN c))) a0 3 (nI (cR c))) := ((fr.trans fr).trans fr).trans fr
  have g : ∀ b j, a1 ≤ b → b < a1 + 4 → sI (wI (wI (wI (wI σ a0 0 (sI σ a1 0)) a0 1 (nI (cK c))) a0 2 (nI (cN c))) a0 3 (nI (cR c))) b j = sI σ b j := fun b j h1 h2 => (G b j (fun y => by unfold PB4 at y; omega)).1
  obtain ⟨σ1, t1, t2, t3⟩ := l_take34 (n := n) (a0 := a0) F dj xFU 0 (wI (wI (wI (wI σ a0 0 (sI σ a1 0)) a0 1 (nI (cK c))) a0 2 (nI (cN c))) a0 3 (nI (cR c))) (xFU_lt (by omega)) (by omega) (by rw [sI_own]) (fun j hj => by rw [g (a1 + 1) j (by omega) (by omega)]; exact S.E hj) (fun j hj => by omega)
  obtain ⟨σ2, u1, u2, u3⟩ := l_take62 (n := n) (a0 := a0) F dj xFU 0 σ1 (xFU_lt (by omega)) (by omega) (by rw [(t2 a0 2 (by omega)).1, sI_wI, if_neg (by omega), sI_own]) (fun j hj => by rw [(t2 (a1 + 2) j (by omega)).1, (t2 (a1 + 3) j (by omega)).1, g _ j (by omega) (by omega), g _ j (by omega) (by omega)]; exact ⟨S.X hj, S.Y hj⟩) (fun j hj => by omega)
  rw [show nI 0 = 0 from rfl] at t1 u1
  rw [t1, u1]
  have h0 : ∀ k, sI σ2 a0 k = sI (wI (wI (wI (wI σ a0 0 (sI σ a1 0)) a0 1 (nI (cK c))) a0 2 (nI (cN c))) a0 3 (nI (cR c))) a0 k := fun k => by rw [(u2 a0 k (by omega)).1, (t2 a0 k (by omega)).1]
  refine ⟨σ2, rfl, (G.trans (t2.mono (fun b k y => ⟨by omega, by omega⟩))).trans (u2.mono (fun b k y => ⟨by omega, by omega⟩)), ⟨o0, ⟨?_, ?_, ?_⟩, u3, fun r hr => ?_⟩, ?_⟩
  · rw [h0, sI_wI, if_neg (by omega), sI_wI, if_neg (by omega), sI_own]
  · rw [h0, sI_wI, if_neg (by omega), sI_own]
  · rw [h0, sI_own]
  · rw [(u2 (a0 + 1) r (by omega)).1]; exact t3 r hr
  · rw [h0, sI_wI, if_neg (by omega), sI_wI, if_neg (by omega), sI_wI, if_neg (by omega), sI_own]
def TbM (σ : xσ) (a : Nat) (t : Tb) (u : Nat → Nat) : Prop := (okU a ∧ sI σ a 1 = nI (tC t) ∧ tC t ≤ 200) ∧ (∀ i, i < 200 → u i < 200 ∧ sR σ (a + 1) i = some (mq a (u i))) ∧ (∀ i j, i < 200 → j < 200 → u i = u j → i = j) ∧ ∀ i, i < tC t → sI σ (mq a (u i)) 0 = iI (tI t i) ∧ MH σ (mq a (u i)) (tS t i)
set_option maxHeartbeats 200000 in
theorem TbM.fk {σ σ' : xσ} {a : Nat} {t : Tb} {u : Nat → Nat} {P : Nat → Nat → Prop} (h : TbM σ a t u) (f : Fk P σ σ') (hP : ∀ b k, a ≤ b → b < a + 802 → ¬ P b k) : TbM σ' a t u := by
  obtain ⟨⟨h1, h2, h2'⟩, h3, h4, h5⟩ := h
  refine ⟨⟨h1, by rw [(f a 1 (hP a 1 (by omega) (by omega))).1]; exact h2, h2'⟩, fun i hi => ⟨(h3 i hi).1, by rw [(f (a + 1) i (hP _ _ (by omega) (by omega))).2.2]; exact (h3 i hi).2⟩, h4, fun i hi => ?_⟩
  have := (h3 i (by omega)).1
  exact ⟨by rw [(f _ 0 (hP _ _ (by unfold mq; omega) (by unfold mq; omega))).1]; exact (h5 i hi).1, (h5 i hi).2.fk f (fun j k hj y => (hP _ _ (by unfold mq; omega) (by unfold mq; omega) y).elim)⟩
set_option maxHeartbeats 200000 in
theorem l_mfind {n : Nat} {σ : xσ} {a : Nat} {t : Tb} {u : Nat → Nat} (ok : okTb t) (h : TbM σ a t u) {z : Int} (hz : R32 z) : ∀ f i, tC t - i < f → i ≤ tC t → l_X13_find_2 n f a (iI z) (nI i) σ = some (iI (fx (tI t) z (tC t - i) i), σ) := by
  have h2 := ok.1
  intro f
  induction f with
  | zero => intro i h; omega
  | succ f ih =>
    intro i hf hi
    rw [l_X13_find_2, h.1.2.1]
    by_cases q : tC t ≤ i
    · rw [if_pos ((nI_e' (by omega) (by omega)).mpr q), show tC t - i = 0 by omega]; rfl
    · obtain ⟨u1, u2⟩ := h.2.1 i (by omega)
      rw [if_neg (fun y => q ((nI_e' (by omega) (by omega)).mp y)), gd_in (by omega) (by omega), nI_k (by omega), u2, nn, gd_pos (okM_mq h.1.1 u1), (h.2.2.2 i (by omega)).1, show tC t - i = (tC t - (i + 1)) + 1 by omega, fx, nI_s, ih (i + 1) (by omega) (by omega)]
      by_cases e : tI t i = z
      · rw [if_pos ((iI_eq (ok.R (by omega)) hz).mpr e), if_pos e, nI_i]
      · rw [if_neg (fun y => e ((iI_eq (ok.R (by omega)) hz).mp y)), if_neg e]
set_option maxHeartbeats 200000 in
theorem m_find {n : Nat} {σ : xσ} {a : Nat} {t : Tb} {u : Nat → Nat} (ok : okTb t) (h : TbM σ a t u) {z : Int} (hz : R32 z) : f_X13_find n a (iI z) σ = some (iI (fdT t z), σ) := by
  have h2 := ok.1
  have l := l_mfind (n := n) ok h hz xFU 0 (xFU_lt (by omega)) (by omega)
  rw [show nI 0 = 0 from rfl] at l
  rw [f_X13_find, gd_pos h.1.1, l]
  rfl
/-! one table takes another -/
set_option maxHeartbeats 200000 in
theorem mq_dj {a b i j : Nat} (oa : okU a) (ob : okU b) (hi : i < 200) (hj : j < 200) (h : a ≠ b ∨ i ≠ j) : mq a i + 4 ≤ mq b j ∨ mq b j + 4 ≤ mq a i := by
  unfold mq okU at *; omega
def PU8 (a b k : Nat) : Prop := (a + 2 ≤ b ∧ b < a + 802)
set_option maxHeartbeats 200000 in
theorem l_mtake {n a0 a1 : Nat} (oa : (a0 = 259 ∧ a1 = 1061) ∨ (a0 = 1061 ∧ a1 = 259)) {t : Tb} (ok : okTb t) {u0 u1 : Nat → Nat} (hu : ∀ i j, i < 200 → j < 200 → u0 i = u0 j → i = j) : ∀ f i σ, tC t - i < f → i ≤ tC t → sI σ a0 1 = nI (tC t) → (∀ i, i < 200 → u0 i < 200 ∧ sR σ (a0 + 1) i = some (mq a0 (u0 i))) → TbM σ a1 t u1 → (∀ j, j < i → sI σ (mq a0 (u0 j)) 0 = iI (tI t j) ∧ MH σ (mq a0 (u0 j)) (tS t j)) → ∃ σ', l_X13_take_10 n f a0 a1 (nI i) σ = some ((), σ') ∧ Fk (PU8 a0) σ σ' ∧ ∀ j, j < tC t → sI σ' (mq a0 (u0 j)) 0 = iI (tI t j) ∧ MH σ' (mq a0 (u0 j)) (tS t j) := by
  have h2 := ok.1
  have o0 : okU a0 := by unfold okU; omega
  have o1 : okU a1 := by unfold okU; omega
  intro f
  induction f with
  | zero => intro i σ h; omega
  | succ f ih =>
    intro i σ hf hi hC hR T hd
    rw [l_X13_take_10, hC]
    by_cases q : tC t ≤ i
    · rw [if_pos ((nI_e' (by omega) (by omega)).mpr q)]
      exact ⟨σ, rfl, Fk.refl, fun j hj => hd j (by omega)⟩
    · obtain ⟨v1, v2⟩ := hR i (by omega)
      obtain ⟨w1, w2⟩ := T.2.1 i (by omega)
      obtain ⟨x1, x2⟩ := T.2.2.2 i (by omega)
      have W := (ok.2.2.2 i (by omega)).1
      obtain ⟨σ1, t1, t2, t3, t4⟩ := m_takeS (n := n) (okM_mq o0 v1) x2 W (mq_dj o0 o1 v1 w1 (Or.inl (by omega)))
      have i1 : ∀ {α : Type} (y : Option α), gd (inb (nI i) 200) y = y := fun y => gd_in (by omega) (by omega)
      have nIk : (nI i).toNatClampNeg = i := nI_k (by omega)
      rw [if_neg (fun y => q ((nI_e' (by omega) (by omega)).mp y))]
      simp only [i1, nIk, v2, w2, nn]
      rw [gd_pos (okM_mq o0 v1), gd_pos (okM_mq o1 w1), t1, bd, nI_s]
      have G : Fk (PU8 a0) σ σ1 := t2.mono (fun b k y => by unfold PB4 mq at y; unfold PU8; omega)
      obtain ⟨σ', y1, y2, y3⟩ := ih (i + 1) σ1 (by omega) (by omega) (by rw [(G a0 1 (fun y => by unfold PU8 at y; omega)).1]; exact hC) (fun j hj => ⟨(hR j hj).1, by rw [(G (a0 + 1) j (fun y => by unfold PU8 at y; omega)).2.2]; exact (hR j hj).2⟩) (T.fk G (fun b k l1 l2 y => by unfold PU8 at y; omega)) (fun j hj => by
        by_cases e : j = i
        · subst e
          exact ⟨by rw [t4]; exact x1, t3⟩
        · have d := mq_dj o0 o0 (hR j (by omega)).1 v1 (Or.inr (fun y => e (hu j i (by omega) (by omega) y)))
          have := hd j (by omega)
          exact ⟨by rw [(t2 (mq a0 (u0 j)) 0 (fun y => by unfold PB4 at y; omega)).1]; exact this.1, this.2.fk t2 (fun p r hp y => by unfold PB4 at y; omega)⟩)
      exact ⟨σ', y1, G.trans y2, y3⟩
set_option maxHeartbeats 200000 in
theorem m_takeT {n : Nat} {σ : xσ} {a0 a1 : Nat} (oa : (a0 = 259 ∧ a1 = 1061) ∨ (a0 = 1061 ∧ a1 = 259)) {t0 t1 : Tb} (ok1 : okTb t1) {u0 u1 : Nat → Nat} (h0 : TbM σ a0 t0 u0) (h1 : TbM σ a1 t1 u1) : ∃ σ', f_X13_take n a0 a1 σ = some ((), σ') ∧ Fk (fun b _ => a0 ≤ b ∧ b < a0 + 802) σ σ' ∧ TbM σ' a0 t1 u0 ∧ TbM σ' a1 t1 u1 := by
  have h2 := ok1.1
  have o0 : okU a0 := by unfold okU; omega
  have o1 : okU a1 := by unfold okU; omega
  have G : Fk (fun b _ => a0 ≤ b ∧ b < a0 + 802) σ (wI σ a0 1 (nI (tC t1))) := Fk.wI ⟨by omega, by omega⟩
  have T1 := h1.fk G (fun b k l1 l2 y => by omega)
  obtain ⟨σ1, t1', t2, t3⟩ := l_mtake (n := n) oa ok1 h0.2.2.1 xFU 0 (wI σ a0 1 (nI (tC t1))) (xFU_lt (by omega)) (by omega) (by rw [sI_own]) (fun i hi => ⟨(h0.2.1 i hi).1, by rw [sR_wI]; exact (h0.2.1 i hi).2⟩) T1 (fun j hj => by omega)
  rw [show nI 0 = 0 from rfl] at t1'
  rw [f_X13_take, gd_pos o0, gd_pos o1, h1.1.2.1, st, t1']
  refine ⟨σ1, rfl, G.trans (t2.mono (fun b k y => by unfold PU8 at y; omega)), ⟨⟨o0, ?_, h2⟩, fun i hi => ⟨(h0.2.1 i hi).1, ?_⟩, h0.2.2.1, t3⟩, T1.fk t2 (fun b k l1 l2 y => by unfold PU8 at y; omega)⟩
  · rw [(t2 a0 1 (fun y => by unfold PU8 at y; omega)).1, sI_own]
  · rw [(t2 (a0 + 1) i (fun y => by unfold PU8 at y; omega)).2.2, sR_wI]; exact (h0.2.1 i hi).2
/-! a new shape in a table -/
def pIns (m p j : Nat) : Nat := if j < p then j else if j = p then m else if j ≤ m then j - 1 else j
set_option maxHeartbeats 200000 in
theorem pIns_i {m p : Nat} (h : p ≤ m) {i j : Nat} (e : pIns m p i = pIns m p j) : i = j := by
  unfold pIns at e
  repeat' split at e
  all_goals omega
set_option maxHeartbeats 200000 in
theorem pIns_b {m p : Nat} (h : p ≤ m) (hm : m < 200) {j : Nat} (hj : j < 200) : pIns m p j < 200 := by
  unfold pIns
  repeat' split
  all_goals omega
set_option maxHeartbeats 200000 in
theorem l_madd {n : Nat} {ids : Nat → Int} {u : Nat → Nat} {m : Nat} (hm : m < 200) {z : Int} (hz : R32 z) (hI : ∀ j, j < m → R32 (ids j)) (hU : ∀ j, j < 200 → u j < 200) {a2 : Nat} : ∀ i f σ, i < f → i ≤ m → (∀ j, j < m → sI σ (mq 259 (u j)) 0 = iI (ids j)) → (∀ j, j < i → sR σ 260 j = some (mq 259 (u j))) → (∀ j, i < j → j ≤ m → sR σ 260 j = some (mq 259 (u (j - 1)))) → (∀ j, m < j → j < 200 → sR σ 260 j = some (mq 259 (u j))) → ∃ σ', l_X13_add_16 n f 259 (iI z) a2 (mq 259 (u m)) (nI i) σ = bd (f_X12_take n (mq 259 (u m)) a2 σ') (fun v106 σ107 => st (wI σ107 (mq 259 (u m)) 0 (iI z)) (fun σ111 => st (wI σ111 259 1 ((sI σ111 259 1) + 1)) (fun σ114 => some ((), σ114)))) ∧ Fk (fun b _ => b = 260) σ σ' ∧ (∀ j, j < 200 → sR σ' 260 j = some (mq 259 (u (pIns m (insP ids z i) j)))) := by
  intro i
  have put : ∀ i σ, i ≤ m → (∀ j, j < i → sR σ 260 j = some (mq 259 (u j))) → (∀ j, i < j → j ≤ m → sR σ 260 j = some (mq 259 (u (j - 1)))) → (∀ j, m < j → j < 200 → sR σ 260 j = some (mq 259 (u j))) → (∀ j, j < 200 → sR (wR σ 260 i (some (mq 259 (u m)))) 260 j = some (mq 259 (u (pIns m i j)))) := by
    intro i σ hi h1 h2 h3 j hj
    rw [sR_wR]
    unfold pIns
    by_cases l : j < i
    · rw [if_neg (by omega), if_pos l]; exact h1 j l
    · rw [if_neg l]
      by_cases e : j = i
      · rw [if_pos ⟨rfl, e⟩, if_pos e]
      · rw [if_neg (fun y => e y.2), if_neg e]
        by_cases l2 : j ≤ m
        · rw [if_pos l2]; exact h2 j (by omega) l2
        · rw [if_neg l2]; exact h3 j (by omega) hj
  induction i with
  | zero =>
    intro f σ hf hi hid h1 h2 h3
    obtain ⟨g, rfl⟩ : ∃ g, f = g + 1 := ⟨f - 1, by omega⟩
    have i1 : ∀ {α : Type} (y : Option α), gd (inb (nI 0) 200) y = y := fun y => gd_in (by omega) (by omega)
    have nIk : (nI 0).toNatClampNeg = 0 := nI_k (by omega)
    rw [l_X13_add_16, if_pos (show nI 0 ≤ 0 by decide), i1, nIk, st]
    exact ⟨wR σ 260 0 (some (mq 259 (u m))), rfl, Fk.wR rfl, put 0 σ hi h1 h2 h3⟩
  | succ i ih =>
    intro f σ hf hi hid h1 h2 h3
    obtain ⟨g, rfl⟩ : ∃ g, f = g + 1 := ⟨f - 1, by omega⟩
    have q2 := h1 i (by omega)
    have q2' : sR σ (259 + 1) i = some (mq 259 (u i)) := q2
    have ok := okM_mq (a := 259) (Or.inl rfl) (hU i (by omega))
    have i1 : ∀ {α : Type} (y : Option α), gd (inb (nI i) 200) y = y := fun y => gd_in (by omega) (by omega)
    have i2 : ∀ {α : Type} (y : Option α), gd (inb (nI (i + 1)) 200) y = y := fun y => gd_in (by omega) (by omega)
    have nIk : (nI i).toNatClampNeg = i := nI_k (by omega)
    have nIk2 : (nI (i + 1)).toNatClampNeg = i + 1 := nI_k (by omega)
    have m1 : nI (i + 1) - 1 = nI i := by rw [nIm1 (by omega), Nat.add_sub_cancel]
    have m2 : nI (i + 1) + (-1) = nI i := by rw [nI_m1' (by omega), Nat.add_sub_cancel]
    rw [insP, l_X13_add_16, if_neg (fun y => by have := (nIe0 (show i + 1 < 2147483648 by omega)).mp y; omega), m1]
    simp only [i1, i2, nIk, nIk2, q2', nn, st, m2]
    rw [gd_pos ok, hid i (by omega)]
    by_cases c : z < ids i
    · rw [if_pos c, if_neg (fun y => by have := (iI_le (hI i (by omega)) hz).mp y; omega), gd_pos ok]
      have F : Fk (fun b _ => b = 260) σ (wR σ (259 + 1) (i + 1) (some (mq 259 (u i)))) := Fk.wR rfl
      obtain ⟨σ', t1, t2, t3⟩ := ih g (wR σ (259 + 1) (i + 1) (some (mq 259 (u i)))) (by omega) (by omega) (fun j hj => by rw [sI_wR]; exact hid j hj) (fun j hj => by rw [sR_wR, if_neg (by omega)]; exact h1 j (by omega)) (fun j l1 l2 => by
        rw [sR_wR]
        by_cases e : j = i + 1
        · rw [if_pos ⟨rfl, e⟩, e, Nat.add_sub_cancel]
        · rw [if_neg (fun y => e y.2)]; exact h2 j (by omega) l2) (fun j l1 l2 => by rw [sR_wR, if_neg (by omega)]; exact h3 j l1 l2)
      exact ⟨σ', t1, F.trans t2, t3⟩
    · rw [if_neg c, if_pos ((iI_le (hI i (by omega)) hz).mpr (by omega))]
      exact ⟨wR σ 260 (i + 1) (some (mq 259 (u m))), rfl, Fk.wR rfl, put (i + 1) σ hi h1 h2 h3⟩
def PL8 (b : Nat) : Prop := 259 ≤ b ∧ b < 1061
set_option maxHeartbeats 200000 in
theorem m_addT {n : Nat} {σ : xσ} {t : Tb} (ok : okTb t) {u : Nat → Nat} (h : TbM σ 259 t u) (h2 : tC t < 200) {z : Int} (hz : R32 z) {c : Ct} (S : MH σ 1865 c) (W : WF c) : ∃ σ' u', f_X13_add n 259 (iI z) 1865 σ = some ((), σ') ∧ Fk (fun b _ => PL8 b) σ σ' ∧ TbM σ' 259 (insT t z c) u' := by
  have iv := insP_v (tI t) z (tC t)
  have o9 : okU 259 := Or.inl rfl
  have um := (h.2.1 (tC t) h2)
  have okm := okM_mq o9 um.1
  obtain ⟨σ1, t1, t2, t3⟩ := l_madd (n := n) h2 hz (fun j hj => ok.R hj) (fun j hj => (h.2.1 j hj).1) (a2 := 1865) (tC t) xFU σ (xFU_lt (by omega)) (Nat.le_refl _) (fun j hj => (h.2.2.2 j hj).1) (fun j hj => (h.2.1 j (by omega)).2) (fun j l1 l2 => by omega) (fun j l1 l2 => (h.2.1 j l2).2)
  have S1 : MH σ1 1865 c := S.fk t2 (fun j k hj y => by omega)
  have dj : mq 259 (u (tC t)) + 4 ≤ 1865 ∨ 1865 + 4 ≤ mq 259 (u (tC t)) := by have := um.1; unfold mq; omega
  obtain ⟨σ2, v1, v2, v3, v4⟩ := m_takeS (n := n) okm S1 W dj
  have um' : sR σ (259 + 1) (tC t) = some (mq 259 (u (tC t))) := um.2
  rw [f_X13_add, gd_pos o9, gd_pos S.1, h.1.2.1, gd_in (by omega) (by omega), nI_k (by omega), um', nn, gd_pos okm, st, t1, v1, bd, st]
  have e1 : sI (wI σ2 (mq 259 (u (tC t))) 0 (iI z)) 259 1 = nI (tC t) := by
    rw [sI_wI, if_neg (by unfold mq; omega), (v2 259 1 (fun y => by unfold PB4 mq at y; omega)).1, (t2 259 1 (by omega)).1]; exact h.1.2.1
  rw [e1, nI_s, st]
  have Fa : Fk (fun b _ => PL8 b) σ (wI (wI σ2 (mq 259 (u (tC t))) 0 (iI z)) 259 1 (nI (tC t + 1))) := by
    have a1 : Fk (fun b _ => PL8 b) σ σ1 := t2.mono (fun b k y => by unfold PL8; omega)
    have a2 : Fk (fun b _ => PL8 b) σ1 σ2 := v2.mono (fun b k y => by have := um.1; unfold PB4 mq at y; unfold PL8; omega)
    have a3 : Fk (fun b _ => PL8 b) σ2 (wI σ2 (mq 259 (u (tC t))) 0 (iI z)) := Fk.wI (by have := um.1; unfold PL8 mq; omega)
    exact ((a1.trans a2).trans a3).trans (Fk.wI (by unfold PL8; omega))
  -- cells of other shapes
  have oth : ∀ j, j < 200 → u j ≠ u (tC t) → ∀ b k, mq 259 (u j) ≤ b → b < mq 259 (u j) + 4 → sI (wI (wI σ2 (mq 259 (u (tC t))) 0 (iI z)) 259 1 (nI (tC t + 1))) b k = sI σ b k := by
    intro j hj hne b k l1 l2
    have d := mq_dj o9 o9 (h.2.1 j hj).1 um.1 (Or.inr hne)
    rw [sI_wI, if_neg (by unfold mq at *; omega), sI_wI, if_neg (by unfold mq at *; omega), (v2 b k (fun y => by unfold PB4 at y; omega)).1, (t2 b k (by unfold mq at *; omega)).1]
  refine ⟨_, fun j => u (pIns (tC t) (insP (tI t) z (tC t)) j), rfl, Fa, ⟨o9, ?_, by show tC t + 1 ≤ 200; omega⟩, fun i hi => ⟨(h.2.1 _ (pIns_b iv.1 h2 hi)).1, ?_⟩, fun i j hi hj e => pIns_i iv.1 (h.2.2.1 _ _ (pIns_b iv.1 h2 hi) (pIns_b iv.1 h2 hj) e), fun i hi => ?_⟩
  · rw [sI_own]; rfl
  · rw [sR_wI, sR_wI]
    have := (v2 260 i (fun y => by unfold PB4 mq at y; omega)).2.2
    show sR σ2 260 i = _
    rw [this]; exact t3 i hi
  · have hi' : i < tC t + 1 := hi
    show sI _ (mq 259 (u (pIns (tC t) (insP (tI t) z (tC t)) i))) 0 = iI (insF (tI t) z (insP (tI t) z (tC t)) i) ∧ MH _ (mq 259 (u (pIns (tC t) (insP (tI t) z (tC t)) i))) (insF (tS t) c (insP (tI t) z (tC t)) i)
    -- an old one
    have old : ∀ j, j < tC t → sI (wI (wI σ2 (mq 259 (u (tC t))) 0 (iI z)) 259 1 (nI (tC t + 1))) (mq 259 (u j)) 0 = iI (tI t j) ∧ MH (wI (wI σ2 (mq 259 (u (tC t))) 0 (iI z)) 259 1 (nI (tC t + 1))) (mq 259 (u j)) (tS t j) := by
      intro j hj
      have hne : u j ≠ u (tC t) := fun e => by have := h.2.2.1 j (tC t) (by omega) h2 e; omega
      obtain ⟨x1, ⟨y1, ⟨y2, y3, y4⟩, y5, y6⟩⟩ := h.2.2.2 j hj
      have o := oth j (by omega) hne
      refine ⟨by rw [o _ 0 (Nat.le_refl _) (by omega)]; exact x1, y1, ⟨by rw [o _ 1 (Nat.le_refl _) (by omega)]; exact y2, by rw [o _ 2 (Nat.le_refl _) (by omega)]; exact y3, by rw [o _ 3 (Nat.le_refl _) (by omega)]; exact y4⟩, fun q hq => by rw [o _ q (by omega) (by omega), o _ q (by omega) (by omega)]; exact y5 q hq, fun q hq => by rw [o _ q (by omega) (by omega)]; exact y6 q hq⟩
    unfold insF pIns
    by_cases l : i < insP (tI t) z (tC t)
    · rw [if_pos l, if_pos l, if_pos l]; exact old i (by omega)
    · rw [if_neg l, if_neg l, if_neg l]
      by_cases e : i = insP (tI t) z (tC t)
      · rw [if_pos e, if_pos e, if_pos e]
        have Fn : Fk (fun b k => (b = mq 259 (u (tC t)) ∧ k = 0) ∨ b = 259) σ2 (wI (wI σ2 (mq 259 (u (tC t))) 0 (iI z)) 259 1 (nI (tC t + 1))) := (Fk.wI (Or.inl ⟨rfl, rfl⟩)).trans (Fk.wI (Or.inr rfl))
        refine ⟨by rw [sI_wI, if_neg (by unfold mq; omega), sI_own], v3.fk Fn (fun j k hj y => by unfold mq at y; omega)⟩
      · rw [if_neg e, if_neg e, if_neg e, if_pos (by omega)]; exact old (i - 1) (by omega)

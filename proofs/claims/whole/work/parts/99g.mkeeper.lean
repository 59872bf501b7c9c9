/-! the reference: a shape leaves a table -/
def pRem (m p j : Nat) : Nat := if j < p then j else if j + 1 < m then j + 1 else if j + 1 = m then p else j
set_option maxHeartbeats 200000 in
theorem pRem_i {m p : Nat} (h : p < m) {i j : Nat} (e : pRem m p i = pRem m p j) : i = j := by
  unfold pRem at e
  repeat' split at e
  all_goals omega
set_option maxHeartbeats 200000 in
theorem pRem_b {m p : Nat} (h : p < m) (hm : m ≤ 200) {j : Nat} (hj : j < 200) : pRem m p j < 200 := by
  unfold pRem
  repeat' split
  all_goals omega
set_option maxHeartbeats 200000 in
theorem l_mdrop {n : Nat} {u : Nat → Nat} {m p : Nat} (hm : m ≤ 200) (hp : p < m) (hU : ∀ j, j < 200 → u j < 200) {a2 : Nat} : ∀ f i σ, m - i < f → p ≤ i → i + 1 ≤ m → sI σ 259 1 = nI m → (∀ j, j < i → sR σ 260 j = some (mq 259 (u (if j < p then j else j + 1)))) → (∀ j, i < j → j < 200 → sR σ 260 j = some (mq 259 (u j))) → ∃ σ', l_X13_drop_9 n f 259 a2 (nI i) σ = some ((), wR (wI σ' 259 1 (nI (m - 1))) 260 (m - 1) (some a2)) ∧ Fk (fun b _ => b = 260) σ σ' ∧ (∀ j, j + 1 < m → sR σ' 260 j = some (mq 259 (u (if j < p then j else j + 1)))) ∧ (∀ j, m ≤ j → j < 200 → sR σ' 260 j = some (mq 259 (u j))) := by
  intro f
  induction f with
  | zero => intro i σ h; omega
  | succ f ih =>
    intro i σ hf h0 hi hC h1 h2
    rw [l_X13_drop_9, hC, nI_s]
    by_cases q : m ≤ i + 1
    · rw [if_pos ((nI_e' (by omega) (by omega)).mpr q), nIm1 (by omega), st, sI_own, gd_in (by omega) (by omega), nI_k (by omega), st]
      exact ⟨σ, rfl, Fk.refl, fun j hj => h1 j (by omega), fun j a b => h2 j (by omega) b⟩
    · have q2 := h2 (i + 1) (by omega) (by omega)
      have q2' : sR σ (259 + 1) (i + 1) = some (mq 259 (u (i + 1))) := q2
      have ok := okM_mq (a := 259) (Or.inl rfl) (hU (i + 1) (by omega))
      have i1 : ∀ {α : Type} (y : Option α), gd (inb (nI i) 200) y = y := fun y => gd_in (by omega) (by omega)
      have i2 : ∀ {α : Type} (y : Option α), gd (inb (nI (i + 1)) 200) y = y := fun y => gd_in (by omega) (by omega)
      have nIk : (nI i).toNatClampNeg = i := nI_k (by omega)
      have nIk2 : (nI (i + 1)).toNatClampNeg = i + 1 := nI_k (by omega)
      rw [if_neg (fun y => q ((nI_e' (by omega) (by omega)).mp y))]
      simp only [i1, i2, nIk, nIk2, q2', nn, st]
      rw [gd_pos ok]
      have F : Fk (fun b _ => b = 260) σ (wR σ (259 + 1) i (some (mq 259 (u (i + 1))))) := Fk.wR rfl
      obtain ⟨σ', t1, t2, t3, t4⟩ := ih (i + 1) (wR σ (259 + 1) i (some (mq 259 (u (i + 1))))) (by omega) (by omega) (by omega) (by rw [sI_wR]; exact hC) (fun j hj => by
        rw [sR_wR]
        by_cases e : j = i
        · rw [if_pos ⟨rfl, e⟩, if_neg (by omega), e]
        · rw [if_neg (fun y => e y.2)]; exact h1 j (by omega)) (fun j a b => by rw [sR_wR, if_neg (by omega)]; exact h2 j (by omega) b)
      exact ⟨σ', t1, F.trans t2, t3, t4⟩
set_option maxHeartbeats 200000 in
theorem m_dropT {n : Nat} {σ : xσ} {t : Tb} (ok : okTb t) {u : Nat → Nat} (h : TbM σ 259 t u) {p : Nat} (hp : p < tC t) : ∃ σ' u', f_X13_drop n 259 (nI p) σ = some ((), σ') ∧ Fk (fun b _ => PL8 b) σ σ' ∧ TbM σ' 259 (remT t p) u' := by
  have h2 := ok.1
  have o9 : okU 259 := Or.inl rfl
  have up := h.2.1 p (by omega)
  have up' : sR σ (259 + 1) p = some (mq 259 (u p)) := up.2
  have okm := okM_mq o9 up.1
  obtain ⟨σ1, t1, t2, t3, t4⟩ := l_mdrop (n := n) (a2 := mq 259 (u p)) h2 hp (fun j hj => (h.2.1 j hj).1) xFU p σ (xFU_lt (by omega)) (Nat.le_refl _) (by omega) h.1.2.1 (fun j hj => by rw [if_pos hj]; exact (h.2.1 j (by omega)).2) (fun j a b => (h.2.1 j b).2)
  rw [f_X13_drop, gd_pos o9, gd_in (by omega) (by omega), nI_k (by omega), up', nn, gd_pos okm, t1]
  have Fa : Fk (fun b _ => b = 260 ∨ b = 259) σ (wR (wI σ1 259 1 (nI (tC t - 1))) 260 (tC t - 1) (some (mq 259 (u p)))) := by
    have f1 : Fk (fun b _ => b = 260 ∨ b = 259) σ σ1 := t2.mono (fun b k y => Or.inl y)
    have f2 : Fk (fun b _ => b = 260 ∨ b = 259) σ1 (wI σ1 259 1 (nI (tC t - 1))) := Fk.wI (Or.inr rfl)
    exact (f1.trans f2).trans (Fk.wR (Or.inl rfl))
  refine ⟨_, fun j => u (pRem (tC t) p j), rfl, Fa.mono (fun b k y => by unfold PL8; omega), ⟨o9, ?_, by show tC t - 1 ≤ 200; omega⟩, fun i hi => ⟨(h.2.1 _ (pRem_b hp h2 hi)).1, ?_⟩, fun i j hi hj e => pRem_i hp (h.2.2.1 _ _ (pRem_b hp h2 hi) (pRem_b hp h2 hj) e), fun i hi => ?_⟩
  · rw [sI_wR, sI_own]; rfl
  · show sR (wR (wI σ1 259 1 (nI (tC t - 1))) 260 (tC t - 1) (some (mq 259 (u p)))) 260 i = some (mq 259 (u (pRem (tC t) p i)))
    rw [sR_wR]
    unfold pRem
    by_cases e : i = tC t - 1
    · rw [if_pos ⟨rfl, e⟩]
      by_cases l : i < p
      · omega
      · rw [if_neg l, if_neg (by omega), if_pos (by omega)]
    · rw [if_neg (fun y => e y.2), sR_wI]
      by_cases l : i + 1 < tC t
      · rw [t3 i l]
        by_cases l2 : i < p
        · rw [if_pos l2, if_pos l2]
        · rw [if_neg l2, if_neg l2, if_pos l]
      · rw [t4 i (by omega) hi, if_neg (by omega), if_neg l, if_neg (by omega)]
  · have hi' : i < tC t - 1 := hi
    have e2 : pRem (tC t) p i = if i < p then i else i + 1 := by
      unfold pRem
      by_cases l : i < p
      · rw [if_pos l, if_pos l]
      · rw [if_neg l, if_neg l, if_pos (by omega)]
    show sI _ (mq 259 (u (pRem (tC t) p i))) 0 = iI (remF (tI t) p i) ∧ MH _ (mq 259 (u (pRem (tC t) p i))) (remF (tS t) p i)
    rw [e2]
    have old : ∀ j, j < tC t → sI (wR (wI σ1 259 1 (nI (tC t - 1))) 260 (tC t - 1) (some (mq 259 (u p)))) (mq 259 (u j)) 0 = iI (tI t j) ∧ MH (wR (wI σ1 259 1 (nI (tC t - 1))) 260 (tC t - 1) (some (mq 259 (u p)))) (mq 259 (u j)) (tS t j) := by
      intro j hj
      obtain ⟨x1, x2⟩ := h.2.2.2 j hj
      exact ⟨by rw [(Fa _ 0 (by unfold mq; omega)).1]; exact x1, x2.fk Fa (fun q r hq y => by unfold mq at y; omega)⟩
    unfold remF
    by_cases l : i < p
    · rw [if_pos l, if_pos l, if_pos l]; exact old i (by omega)
    · rw [if_neg l, if_neg l, if_neg l]; exact old (i + 1) (by omega)
/-! the reference's keeper -/
def KM (σ : xσ) (k : Kp) : Prop := ((∃ u, TbM σ 259 (kL k) u) ∧ ∃ u, TbM σ 1061 (kC k) u) ∧ (sI σ 233 32 = bI (kO k) ∧ sI σ 233 33 = bI (kD k)) ∧ (kD k = false → sI σ 233 34 = nI (if kO k = true then kB k else 0)) ∧ sI σ 233 35 = nI (kU k) ∧ sI σ 233 36 = kS k ∧ (kD k = false → sI σ 233 37 = iI (kK k) ∧ (kK k = 0 → sI σ 233 38 = nI (kX k)))
def P3x (b k : Nat) : Prop := b = 233 ∧ 32 ≤ k ∧ k ≤ 38
def PKm (b k : Nat) : Prop := P3x b k ∨ (259 ≤ b ∧ b < 1863)
set_option maxHeartbeats 200000 in
theorem TbM.z {σ : xσ} {a : Nat} {t : Tb} {u : Nat → Nat} (h : TbM σ a t u) {k : Nat} {v : Int32} : TbM (wI σ 233 k v) a t u := h.fk (P := fun b _ => b = 233) (Fk.wI rfl) (fun b k l1 l2 y => by have := h.1.1; unfold okU at this; omega)
set_option maxHeartbeats 200000 in
theorem F3 {σ : xσ} {j : Nat} {v : Int32} (h : 32 ≤ j ∧ j ≤ 38) : Fk PKm σ (wI σ 233 j v) := Fk.wI (Or.inl ⟨rfl, h⟩)
/-- what the reference knows before it writes its log: k is closed -/
def KM0 (σ : xσ) (k : Kp) : Prop := ((∃ u, TbM σ 259 (kL k) u) ∧ ∃ u, TbM σ 1061 (kC k) u) ∧ sI σ 233 33 = 0 ∧ sI σ 233 35 = nI (kU k) ∧ sI σ 233 36 = kS k ∧ sI σ 233 37 = iI (kK k) ∧ (kK k = 0 → sI σ 233 38 = nI (kX k))
set_option maxHeartbeats 200000 in
theorem m_fall {n : Nat} {σ : xσ} {k : Kp} (h : KM0 σ k) : ∃ σ', f_X14_fall n σ = some ((), σ') ∧ Fk PKm σ σ' ∧ KM σ' (kfall k) := by
  obtain ⟨⟨⟨u1, T1⟩, u2, T2⟩, h33, h35, h36, h37, h38⟩ := h
  rw [f_X14_fall, st, st, st]
  refine ⟨_, rfl, ((F3 (by omega)).trans (F3 (by omega))).trans (F3 (by omega)), ⟨⟨u1, T1.z.z.z⟩, u2, T2.z.z.z⟩, ⟨?_, ?_⟩, (fun y => by cases y), ?_, ?_, (fun y => by cases y)⟩
  · rw [sI_wI, if_neg (by omega), sI_own]; rfl
  · rw [sI_wI, if_neg (by omega), sI_wI, if_neg (by omega), sI_own]; rfl
  · rw [sI_wI, if_neg (by omega), sI_wI, if_neg (by omega), sI_wI, if_neg (by omega)]; exact h35
  · rw [sI_wI, if_neg (by omega), sI_wI, if_neg (by omega), sI_wI, if_neg (by omega)]; exact h36
set_option maxHeartbeats 200000 in
theorem m_isSaved {n : Nat} {σ : xσ} {k : Kp} (h : KM0 σ k) (hk3 : kK k = -1 ∨ kK k = 0 ∨ kK k = 1) : ∃ σ', f_X14_isSaved n σ = some (tf (kK k ≠ 1), σ') ∧ Fk PKm σ σ' ∧ (kK k = 1 → KM σ' (kfall k)) ∧ (kK k ≠ 1 → ((∃ u, TbM σ' 259 (kL k) u) ∧ ∃ u, TbM σ' 1061 (kC k) u) ∧ sI σ' 233 35 = 0 ∧ sI σ' 233 36 = kS k + 1 ∧ ∀ j, j ≠ 35 → j ≠ 36 → sI σ' 233 j = sI σ 233 j) := by
  obtain ⟨⟨⟨u1, T1⟩, u2, T2⟩, h33, h35, h36, h37, h38⟩ := id h
  have rk : R32 (kK k) := ⟨by omega, by omega⟩
  rw [f_X14_isSaved, h37]
  by_cases e : kK k = 1
  · obtain ⟨σ', t1, t2, t3⟩ := m_fall (n := n) h
    rw [if_pos ((iIq1 rk).mpr e), t1, bd, tf_f (fun y => y e)]
    exact ⟨σ', rfl, t2, fun _ => t3, fun y => (y e).elim⟩
  · have e36 : sI (wI σ 233 35 0) 233 36 = kS k := by rw [sI_wI, if_neg (by omega), h36]
    rw [if_neg (fun y => e ((iIq1 rk).mp y)), st, e36, st, tf_t e]
    refine ⟨_, rfl, (F3 (by omega)).trans (F3 (by omega)), fun y => (e y).elim, fun _ => ⟨⟨⟨u1, T1.z.z⟩, u2, T2.z.z⟩, ?_, ?_, fun j a b => ?_⟩⟩
    · rw [sI_wI, if_neg (by omega), sI_own]
    · rw [sI_own]
    · rw [sI_wI, if_neg (by omega), sI_wI, if_neg (by omega)]
/-! all is written: live becomes committed -/
set_option maxHeartbeats 200000 in
theorem m_done {n : Nat} {σ : xσ} {L C : Tb} (okL : okTb L) (h : (∃ u, TbM σ 259 L u) ∧ ∃ u, TbM σ 1061 C u) : ∃ σ', b_X14_isCommitted_69 n σ = some (1, σ') ∧ Fk PKm σ σ' ∧ ((∃ u, TbM σ' 259 L u) ∧ ∃ u, TbM σ' 1061 L u) ∧ sI σ' 233 32 = 0 ∧ sI σ' 233 34 = 0 ∧ ∀ j, j ≠ 32 → j ≠ 34 → sI σ' 233 j = sI σ 233 j := by
  obtain ⟨⟨u1, T1⟩, u2, T2⟩ := h
  obtain ⟨σ1, t1, t2, t3, t4⟩ := m_takeT (n := n) (a0 := 1061) (a1 := 259) (Or.inr ⟨rfl, rfl⟩) okL T2 T1
  rw [b_X14_isCommitted_69, t1, bd, st, st]
  refine ⟨_, rfl, ((t2.mono (fun b k y => Or.inr (by omega))).trans (F3 (by omega))).trans (F3 (by omega)), ⟨⟨u1, t4.z.z⟩, u2, t3.z.z⟩, ?_, ?_, fun j a b => ?_⟩
  · rw [sI_wI, if_neg (by omega), sI_own]
  · rw [sI_own]
  · rw [sI_wI, if_neg (by omega), sI_wI, if_neg (by omega), (t2 233 j (by omega)).1]
set_option maxHeartbeats 200000 in
theorem l_isCommitted {n : Nat} {k : Kp} (okL : okTb (kL k)) (hk3 : kK k = -1 ∨ kK k = 0 ∨ kK k = 1) (hX : kK k = 0 → 1 ≤ kX k ∧ kX k ≤ 1000) {m : Nat} (hm : m ≤ 64) (hU : kU k ≤ 64) : ∀ r f j σ, r < f → j + r = m → KM0 σ (kL k, kC k, (false, false), (kB k, kU k), kS k, (kK k, kX k - j)) → (kK k = 0 → j < kX k) → ∃ σ', l_X14_isCommitted_39 n f (nI m) (nI j) σ = some (tf (¬ (kK k = 0 ∧ kX k ≤ m)), σ') ∧ Fk PKm σ σ' ∧ (kK k = 0 ∧ kX k ≤ m → KM σ' (kfall k)) ∧ (¬ (kK k = 0 ∧ kX k ≤ m) → KM σ' (kL k, kL k, (false, false), (kB k, kU k + m), kS k, (kK k, if kK k = 0 then kX k - m else kX k))) := by
  have rk : R32 (kK k) := ⟨by omega, by omega⟩
  intro r
  induction r with
  | zero =>
    intro f j σ hf hj h hlt
    obtain ⟨g, rfl⟩ : ∃ g, f = g + 1 := ⟨f - 1, by omega⟩
    have ejm : j = m := by omega
    subst ejm
    obtain ⟨⟨⟨u1, T1⟩, u2, T2⟩, h33, h35, h36, h37, h38⟩ := id h
    have h35' : sI σ 233 35 = nI (kU k) := h35
    have h36' : sI σ 233 36 = kS k := h36
    have h37' : sI σ 233 37 = iI (kK k) := h37
    have no : ¬ (kK k = 0 ∧ kX k ≤ j) := fun y => by have := hlt y.1; omega
    rw [l_X14_isCommitted_39, if_pos ((nI_e' (by omega) (by omega)).mpr (by omega)), h35', nI_ad, st]
    obtain ⟨σ1, t1, t2, t3, t4, t5, t6⟩ := m_done (n := n) (σ := wI σ 233 35 (nI (kU k + j))) (L := kL k) (C := kC k) okL ⟨⟨u1, T1.z⟩, u2, T2.z⟩
    rw [t1, tf_t no]
    refine ⟨σ1, rfl, (F3 (by omega)).trans t2, fun y => (no y).elim, fun _ => ⟨t3, ⟨t4, ?_⟩, fun _ => ?_, ?_, ?_, fun _ => ⟨?_, fun w => ?_⟩⟩⟩
    · rw [t6 33 (by omega) (by omega), sI_wI, if_neg (by omega)]; exact h33
    · rw [t5]; rfl
    · rw [t6 35 (by omega) (by omega), sI_own]; rfl
    · rw [t6 36 (by omega) (by omega), sI_wI, if_neg (by omega)]; exact h36'
    · rw [t6 37 (by omega) (by omega), sI_wI, if_neg (by omega)]; exact h37'
    · have w' : kK k = 0 := w
      have h38' : sI σ 233 38 = nI (kX k - j) := h38 w'
      show _ = nI (if kK k = 0 then kX k - j else kX k)
      rw [t6 38 (by omega) (by omega), sI_wI, if_neg (by omega), if_pos w']; exact h38'
  | succ r ih =>
    intro f j σ hf hj h hlt
    obtain ⟨g, rfl⟩ : ∃ g, f = g + 1 := ⟨f - 1, by omega⟩
    obtain ⟨⟨⟨u1, T1⟩, u2, T2⟩, h33, h35, h36, h37, h38⟩ := id h
    have h37' : sI σ 233 37 = iI (kK k) := h37
    rw [l_X14_isCommitted_39, if_neg (fun y => by have := (nI_e' (by omega) (by omega)).mp y; omega), f_X14_isBlockWritten, h37', nI_s]
    by_cases e : kK k = 0
    · have x1 := hX e
      have xl := hlt e
      have h38' : sI σ 233 38 = nI (kX k - j) := h38 e
      rw [if_pos ((iIq0 rk).mpr e), h38', nIm1 (by omega), st, sI_own]
      simp only [nIe0 (show kX k - j - 1 < 2147483648 by omega)]
      have h' : KM0 (wI σ 233 38 (nI (kX k - j - 1))) (kL k, kC k, (false, false), (kB k, kU k), kS k, (kK k, kX k - (j + 1))) := by
        refine ⟨⟨⟨u1, T1.z⟩, u2, T2.z⟩, ?_, ?_, ?_, ?_, fun _ => ?_⟩
        · rw [sI_wI, if_neg (by omega)]; exact h33
        · rw [sI_wI, if_neg (by omega)]; exact h35
        · rw [sI_wI, if_neg (by omega)]; exact h36
        · rw [sI_wI, if_neg (by omega)]; exact h37
        · rw [sI_own]; congr 1
      by_cases q : kX k - j - 1 ≤ 0
      · obtain ⟨σ', t1, t2, t3⟩ := m_fall (n := n) h'
        have yes : kK k = 0 ∧ kX k ≤ m := ⟨e, by omega⟩
        rw [if_pos q, t1, bd, bd, if_pos rfl, tf_f (fun y => y yes)]
        refine ⟨σ', rfl, (F3 (by omega)).trans t2, fun _ => ?_, fun y => (y yes).elim⟩
        obtain ⟨a1, a2, a3, a4, a5, a6⟩ := t3
        exact ⟨a1, a2, a3, a4, a5, (fun y => by cases y)⟩
      · rw [if_neg q, bd, if_neg (by decide)]
        obtain ⟨σ', t1, t2, t3⟩ := ih g (j + 1) _ (by omega) (by omega) h' (fun _ => by omega)
        exact ⟨σ', t1, (F3 (by omega)).trans t2, t3⟩
    · rw [if_neg (fun y => e ((iIq0 rk).mp y)), bd, if_neg (by decide)]
      exact ih g (j + 1) σ (by omega) (by omega) ⟨⟨⟨u1, T1⟩, u2, T2⟩, h33, h35, h36, h37, fun y => (e y).elim⟩ (fun y => (e y).elim)
set_option maxHeartbeats 200000 in
theorem wl_cl (k : Kp) (c : Nat) (hD : kD k = false) : wlK (closeK k) c = (if kU k + blk c ≤ 64 then (if kK k = 0 ∧ kX k ≤ blk c then (-1, kfall k) else (0, (kL k, kL k, (false, false), (kB k, kU k + blk c), kS k, (kK k, if kK k = 0 then kX k - blk c else kX k)))) else (if kK k = 1 then (-1, kfall k) else (0, (kL k, kL k, (false, false), (kB k, 0), kS k + 1, (kK k, kX k))))) := by
  unfold wlK svK cmtK
  have e1 : kU (closeK k) = kU k := rfl
  have e2 : kK (closeK k) = kK k := rfl
  have e3 : kX (closeK k) = kX k := rfl
  have e4 : kD (closeK k) = false := hD
  have e5 : kfall (closeK k) = kfall k := rfl
  have e6 : kO (closeK k) = false := rfl
  have e7 : kL (closeK k) = kL k := rfl
  have e8 : kB (closeK k) = kB k := rfl
  have e9 : kS (closeK k) = kS k := rfl
  rw [e1, e2, e3, e4, e5, e6, e7, e8, e9]
  by_cases q : kU k + blk c ≤ 64
  · rw [if_pos q, if_pos q]
    by_cases e : kK k = 0
    · rw [if_pos e, if_pos e]
      by_cases l : blk c < kX k
      · rw [if_pos l, if_neg (fun y => by have := y.2; omega)]
      · rw [if_neg l, if_pos ⟨e, by omega⟩]
    · rw [if_neg e, if_neg (fun y => e y.1), if_neg e]
  · rw [if_neg q, if_neg q]
set_option maxHeartbeats 200000 in
theorem m_isCommitted {n : Nat} {σ : xσ} {k : Kp} (okL : okTb (kL k)) (hk3 : kK k = -1 ∨ kK k = 0 ∨ kK k = 1) (hX : kK k = 0 → 1 ≤ kX k ∧ kX k ≤ 1000) (hU : kU k ≤ 64) (hD : kD k = false) (h : KM0 σ k) {c : Nat} (hc : c ≤ 14112) (h34 : sI σ 233 34 = nI c) : ∃ σ', f_X14_isCommitted n σ = some (tf ((wlK (closeK k) c).1 ≠ -1), σ') ∧ Fk PKm σ σ' ∧ KM σ' (wlK (closeK k) c).2 ∧ ((wlK (closeK k) c).1 = 0 ∨ (wlK (closeK k) c).1 = -1) := by
  have bb := blk_b hc
  obtain ⟨⟨⟨u1, T1⟩, u2, T2⟩, h33, h35, h36, h37, h38⟩ := id h
  rw [f_X14_isCommitted, h34, e_blk (by omega), st, h35, nI_ad, wl_cl k c hD]
  simp only [nIe64 (show kU k + blk c < 2147483648 by omega)]
  by_cases q : kU k + blk c ≤ 64
  · obtain ⟨σ', t1, t2, t3, t4⟩ := l_isCommitted (n := n) okL hk3 hX (m := blk c) bb.1 hU (blk c) xFU 0 σ (xFU_lt (by omega)) (by omega) ⟨⟨⟨u1, T1⟩, u2, T2⟩, h33, h35, h36, h37, fun y => by rw [show kX k - 0 = kX k from Nat.sub_zero _]; exact h38 y⟩ (fun y => (hX y).1)
    rw [show nI 0 = 0 from rfl] at t1
    rw [if_pos q, if_pos q, t1]
    by_cases e : kK k = 0 ∧ kX k ≤ blk c
    · rw [if_pos e, tf_f (fun y => y e), tf_f (fun y => y rfl)]
      exact ⟨σ', rfl, t2, t3 e, Or.inr rfl⟩
    · rw [if_neg e, tf_t e, tf_t (show (0 : Int) ≠ -1 by decide)]
      exact ⟨σ', rfl, t2, t4 e, Or.inl rfl⟩
  · obtain ⟨σ1, t1, t2, t3, t4⟩ := m_isSaved (n := n) h hk3
    rw [if_neg q, if_neg q, t1, bd]
    by_cases e : kK k = 1
    · rw [if_pos e, if_pos (tf_f (fun y => y e)), tf_f (fun y => y rfl)]
      exact ⟨σ1, rfl, t2, t3 e, Or.inr rfl⟩
    · obtain ⟨s1, s2, s3, s4⟩ := t4 e
      obtain ⟨σ2, v1, v2, v3, v4, v5, v6⟩ := m_done (n := n) (σ := σ1) okL s1
      rw [b_X14_isCommitted_69] at v1
      rw [if_neg e, if_neg (tn e), v1, tf_t (show (0 : Int) ≠ -1 by decide)]
      refine ⟨σ2, rfl, t2.trans v2, ⟨v3, ⟨v4, ?_⟩, fun _ => ?_, ?_, ?_, fun _ => ⟨?_, fun w => ?_⟩⟩, Or.inl rfl⟩
      · rw [v6 33 (by omega) (by omega), s4 33 (by omega) (by omega)]; exact h33
      · rw [v5]; rfl
      · rw [v6 35 (by omega) (by omega), s2]; rfl
      · rw [v6 36 (by omega) (by omega), s3]; rfl
      · rw [v6 37 (by omega) (by omega), s4 37 (by omega) (by omega)]; exact h37
      · rw [v6 38 (by omega) (by omega), s4 38 (by omega) (by omega)]; exact h38 w

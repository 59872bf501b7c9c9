/-! changes of a table: insert, replace, remove -/
def insF {α : Type} (f : Nat → α) (x : α) (p j : Nat) : α := if j < p then f j else if j = p then x else f (j - 1)
def insP (ids : Nat → Int) (z : Int) : Nat → Nat
  | 0 => 0
  | i + 1 => if z < ids i then insP ids z i else i + 1
set_option maxHeartbeats 200000 in
theorem insP_v (ids : Nat → Int) (z : Int) : ∀ i, insP ids z i ≤ i ∧ (0 < insP ids z i → ids (insP ids z i - 1) ≤ z) ∧ ∀ j, insP ids z i ≤ j → j < i → z < ids j := by
  intro i
  induction i with
  | zero => exact ⟨Nat.le_refl _, fun h => by exact absurd h (by show ¬ 0 < 0; omega), fun j a b => by omega⟩
  | succ i ih =>
    rw [insP]
    by_cases h : z < ids i
    · rw [if_pos h]
      refine ⟨by omega, ih.2.1, fun j a b => ?_⟩
      by_cases e : j = i
      · rw [e]; exact h
      · exact ih.2.2 j a (by omega)
    · rw [if_neg h]
      exact ⟨Nat.le_refl _, fun _ => by rw [Nat.add_sub_cancel]; omega, fun j a b => by omega⟩
def remF {α : Type} (f : Nat → α) (p j : Nat) : α := if j < p then f j else f (j + 1)
def repF {α : Type} (f : Nat → α) (x : α) (p j : Nat) : α := if j = p then x else f j
def insT (t : Tb) (z : Int) (c : Ct) : Tb := (tC t + 1, insF (tI t) z (insP (tI t) z (tC t)), insF (tS t) c (insP (tI t) z (tC t)))
def remT (t : Tb) (i : Nat) : Tb := (tC t - 1, remF (tI t) i, remF (tS t) i)
def repT (t : Tb) (i : Nat) (c : Ct) : Tb := (tC t, tI t, repF (tS t) c i)
set_option maxHeartbeats 200000 in
theorem cn_ins (p : Nat → Nat) (k x : Nat) : ∀ m q, q ≤ m → cnX (insF p k q) (m + 1) 0 x = cnX p m 0 x + (if k = x then 1 else 0) := by
  intro m
  induction m with
  | zero =>
    intro q hq
    have : q = 0 := by omega
    subst this
    rw [cnX_s, cnX, cnX]
    simp [insF]
  | succ m ih =>
    intro q hq
    rw [cnX_s]
    by_cases e : q = m + 1
    · rw [cnX_c (q := p) (m + 1) 0 x (fun j _ hj => by unfold insF; rw [if_pos (by omega)])]
      have : insF p k q (0 + (m + 1)) = k := by unfold insF; rw [if_neg (by omega), if_pos (by omega)]
      rw [this]
    · rw [ih q (by omega), cnX_s p m 0 x]
      have : insF p k q (0 + (m + 1)) = p (0 + m) := by unfold insF; rw [if_neg (by omega), if_neg (by omega)]; congr 1
      rw [this]; omega
set_option maxHeartbeats 200000 in
theorem cn_rem (p : Nat → Nat) (x : Nat) : ∀ m i, i < m → cnX (remF p i) (m - 1) 0 x + (if p i = x then 1 else 0) = cnX p m 0 x := by
  intro m
  induction m with
  | zero => intro i h; omega
  | succ m ih =>
    intro i hi
    rw [Nat.add_sub_cancel, cnX_s p m 0 x, Nat.zero_add]
    by_cases e : i = m
    · rw [e, cnX_c (q := p) m 0 x (fun j _ hj => by unfold remF; rw [if_pos (by omega)])]
    · have := ih i (by omega)
      obtain ⟨r, rfl⟩ : ∃ r, m = r + 1 := ⟨m - 1, by omega⟩
      rw [Nat.add_sub_cancel] at this
      rw [cnX_s (remF p i) r 0 x, Nat.zero_add]
      have e2 : remF p i r = p (r + 1) := by unfold remF; rw [if_neg (by omega)]
      rw [e2]; omega
set_option maxHeartbeats 200000 in
theorem cn_rep (p : Nat → Nat) (k x : Nat) : ∀ m i, i < m → cnX (repF p k i) m 0 x + (if p i = x then 1 else 0) = cnX p m 0 x + (if k = x then 1 else 0) := by
  intro m
  induction m with
  | zero => intro i h; omega
  | succ m ih =>
    intro i hi
    rw [cnX_s, cnX_s p m 0 x, Nat.zero_add]
    by_cases e : i = m
    · have e2 : repF p k i m = k := by unfold repF; rw [if_pos e.symm]
      rw [e2, cnX_c (q := p) m 0 x (fun j _ hj => by unfold repF; rw [if_neg (by omega)]), e]; omega
    · have := ih i (by omega)
      have e2 : repF p k i m = p m := by unfold repF; rw [if_neg (by omega)]
      rw [e2]; omega
/-! insert -/
def PIn (a k b j : Nat) : Prop := b = a + 1 ∨ b = a + 2 ∨ (b = a ∧ j = 2) ∨ (b = ad k ∧ j = 8)
set_option maxHeartbeats 200000 in
theorem l_insert {n a K : Nat} (hn : n = ad K) (oa : a = 11 ∨ a = 14) {ids : Nat → Int} {P : Nat → Nat} {m : Nat} (hm : m < 200) {z : Int} (hz : R32 z) (hI : ∀ j, j < m → R32 (ids j)) (hP : ∀ j, j < m → P j < K) {k : Nat} : ∀ i f σ, i < f → i ≤ m → (∀ j, j < i → sI σ (a + 1) j = iI (ids j) ∧ sR σ (a + 2) j = some (ad (P j))) → (∀ j, i < j → j ≤ m → sI σ (a + 1) j = iI (ids (j - 1)) ∧ sR σ (a + 2) j = some (ad (P (j - 1)))) → ∃ σ', l_X8_insert_16 n f a (iI z) (ad k) (nI i) σ = some ((), σ') ∧ Fk (PIn a k) σ σ' ∧ (∀ j, j ≤ m → sI σ' (a + 1) j = iI (insF ids z (insP ids z i) j) ∧ sR σ' (a + 2) j = some (ad (insF P k (insP ids z i) j))) ∧ sI σ' (ad k) 8 = sI σ (ad k) 8 + 1 ∧ sI σ' a 2 = sI σ a 2 + 1 := by
  intro i
  have ak : ∀ k, 2476 ≤ ad k := fun k => by unfold ad; omega
  -- the place is found
  have put : ∀ i σ, i ≤ m → (∀ j, j < i → sI σ (a + 1) j = iI (ids j) ∧ sR σ (a + 2) j = some (ad (P j))) → (∀ j, i < j → j ≤ m → sI σ (a + 1) j = iI (ids (j - 1)) ∧ sR σ (a + 2) j = some (ad (P (j - 1)))) → ∃ σ', some ((), wI (wI (wR (wI σ (a + 1) i (iI z)) (a + 2) i (some (ad k))) (ad k) 8 (sI (wR (wI σ (a + 1) i (iI z)) (a + 2) i (some (ad k))) (ad k) 8 + 1)) a 2 (sI (wI (wR (wI σ (a + 1) i (iI z)) (a + 2) i (some (ad k))) (ad k) 8 (sI (wR (wI σ (a + 1) i (iI z)) (a + 2) i (some (ad k))) (ad k) 8 + 1)) a 2 + 1)) = some ((), σ') ∧ Fk (PIn a k) σ σ' ∧ (∀ j, j ≤ m → sI σ' (a + 1) j = iI (insF ids z i j) ∧ sR σ' (a + 2) j = some (ad (insF P k i j))) ∧ sI σ' (ad k) 8 = sI σ (ad k) 8 + 1 ∧ sI σ' a 2 = sI σ a 2 + 1 := by
    intro i σ hi h1 h2
    have a8 := ak k
    refine ⟨_, rfl, (((Fk.wI (Or.inl rfl)).trans (Fk.wR (Or.inr (Or.inl rfl)))).trans (Fk.wI (Or.inr (Or.inr (Or.inr ⟨rfl, rfl⟩))))).trans (Fk.wI (Or.inr (Or.inr (Or.inl ⟨rfl, rfl⟩)))), fun j hj => ?_, ?_, ?_⟩
    · have s1 : sI (wI (wI (wR (wI σ (a + 1) i (iI z)) (a + 2) i (some (ad k))) (ad k) 8 (sI (wR (wI σ (a + 1) i (iI z)) (a + 2) i (some (ad k))) (ad k) 8 + 1)) a 2 (sI (wI (wR (wI σ (a + 1) i (iI z)) (a + 2) i (some (ad k))) (ad k) 8 (sI (wR (wI σ (a + 1) i (iI z)) (a + 2) i (some (ad k))) (ad k) 8 + 1)) a 2 + 1)) (a + 1) j = if j = i then iI z else sI σ (a + 1) j := by
        rw [sI_wI, if_neg (by omega), sI_wI, if_neg (by omega), sI_wR, sI_wI]
        by_cases e : j = i
        · rw [if_pos ⟨rfl, e⟩, if_pos e]
        · rw [if_neg (fun y => e y.2), if_neg e]
      have s2 : sR (wI (wI (wR (wI σ (a + 1) i (iI z)) (a + 2) i (some (ad k))) (ad k) 8 (sI (wR (wI σ (a + 1) i (iI z)) (a + 2) i (some (ad k))) (ad k) 8 + 1)) a 2 (sI (wI (wR (wI σ (a + 1) i (iI z)) (a + 2) i (some (ad k))) (ad k) 8 (sI (wR (wI σ (a + 1) i (iI z)) (a + 2) i (some (ad k))) (ad k) 8 + 1)) a 2 + 1)) (a + 2) j = if j = i then some (ad k) else sR σ (a + 2) j := by
        rw [sR_wI, sR_wI, sR_wR, sR_wI]
        by_cases e : j = i
        · rw [if_pos ⟨rfl, e⟩, if_pos e]
        · rw [if_neg (fun y => e y.2), if_neg e]
      rw [s1, s2]
      unfold insF
      by_cases e : j = i
      · rw [if_pos e, if_pos e, if_neg (by omega), if_pos e, if_neg (by omega), if_pos e]; exact ⟨rfl, rfl⟩
      · simp only [if_neg e]
        by_cases l : j < i
        · simp only [if_pos l]; exact h1 j l
        · simp only [if_neg l]; exact h2 j (by omega) hj
    · rw [sI_wI, if_neg (by omega), sI_own, sI_wR, sI_wI, if_neg (by omega)]
    · rw [sI_own, sI_wI, if_neg (by omega), sI_wR, sI_wI, if_neg (by omega)]
  induction i with
  | zero =>
    intro f σ hf hi h1 h2
    obtain ⟨g, rfl⟩ : ∃ g, f = g + 1 := ⟨f - 1, by omega⟩
    have i1 : ∀ {α : Type} (y : Option α), gd (inb (nI 0) 200) y = y := fun y => gd_in (by omega) (by omega)
    have nIk : (nI 0).toNatClampNeg = 0 := nI_k (by omega)
    rw [l_X8_insert_16, if_pos (show nI 0 ≤ 0 by decide)]
    simp only [i1, nIk, st]
    exact put 0 σ hi h1 h2
  | succ i ih =>
    intro f σ hf hi h1 h2
    obtain ⟨g, rfl⟩ : ∃ g, f = g + 1 := ⟨f - 1, by omega⟩
    obtain ⟨q1, q2⟩ := h1 i (by omega)
    have ok := okS_ad hn (hP i (by omega))
    have i1 : ∀ {α : Type} (y : Option α), gd (inb (nI i) 200) y = y := fun y => gd_in (by omega) (by omega)
    have i2 : ∀ {α : Type} (y : Option α), gd (inb (nI (i + 1)) 200) y = y := fun y => gd_in (by omega) (by omega)
    have nIk : (nI i).toNatClampNeg = i := nI_k (by omega)
    have nIk2 : (nI (i + 1)).toNatClampNeg = i + 1 := nI_k (by omega)
    have m1 : nI (i + 1) - 1 = nI i := by rw [nIm1 (by omega), Nat.add_sub_cancel]
    have m2 : nI (i + 1) + (-1) = nI i := by rw [nI_m1' (by omega), Nat.add_sub_cancel]
    rw [insP, l_X8_insert_16, if_neg (fun y => by have := (nIe0 (show i + 1 < 2147483648 by omega)).mp y; omega), m1]
    simp only [i1, i2, nIk, nIk2, q1, st, m2]
    by_cases c : z < ids i
    · rw [if_pos c, if_neg (fun y => by have := (iI_le (hI i (by omega)) hz).mp y; omega)]
      have e1 : sR (wI σ (a + 1) (i + 1) (iI (ids i))) (a + 2) i = some (ad (P i)) := by rw [sR_wI]; exact q2
      rw [e1, nn, gd_pos ok]
      have F : Fk (PIn a k) σ (wR (wI σ (a + 1) (i + 1) (iI (ids i))) (a + 2) (i + 1) (some (ad (P i)))) := (Fk.wI (Or.inl rfl)).trans (Fk.wR (Or.inr (Or.inl rfl)))
      have a8 := ak k
      obtain ⟨σ', t1, t2, t3, t4, t5⟩ := ih g (wR (wI σ (a + 1) (i + 1) (iI (ids i))) (a + 2) (i + 1) (some (ad (P i)))) (by omega) (by omega) (fun j hj => by
        rw [sI_wR, sI_wI, if_neg (by omega), sR_wR, if_neg (by omega), sR_wI]; exact h1 j (by omega)) (fun j l1 l2 => by
        by_cases e : j = i + 1
        · subst e
          rw [sI_wR, sI_own, sR_wR, if_pos ⟨rfl, rfl⟩, Nat.add_sub_cancel]; exact ⟨rfl, rfl⟩
        · rw [sI_wR, sI_wI, if_neg (by omega), sR_wR, if_neg (by omega), sR_wI]; exact h2 j (by omega) l2)
      refine ⟨σ', t1, F.trans t2, t3, ?_, ?_⟩
      · rw [t4, sI_wR, sI_wI, if_neg (by omega)]
      · rw [t5, sI_wR, sI_wI, if_neg (by omega)]
    · rw [if_neg c, if_pos ((iI_le (hI i (by omega)) hz).mpr (by omega))]
      exact put (i + 1) σ hi h1 h2
set_option maxHeartbeats 200000 in
theorem KP_ins {n : Nat} {σ : xσ} {L C : Tb} {K lg : Nat} {pl pc : Nat → Nat} (h : KP n σ L C K lg pl pc) (okL : okTb L) (okC : okTb C) (h2 : tC L < 200) {z : Int} (hz : R32 z) {k : Nat} (hk : Fre L C K pl pc k) {c : Ct} (S : SH n σ (ad k) c) : ∃ σ' pl', f_X8_insert n 11 (iI z) (ad k) σ = some ((), σ') ∧ Fk (PIn 11 k) σ σ' ∧ KP n σ' (insT L z c) C K lg pl' pc := by
  obtain ⟨⟨a1, a2, a3, a4⟩, ⟨b1, b2, b3⟩, cL, cC, e⟩ := id h
  have ak : ∀ k, 2476 ≤ ad k := fun k => by unfold ad; omega
  have a8 := ak k
  obtain ⟨σ', t1, t2, t3, t4, t5⟩ := l_insert (a := 11) a1 (Or.inl rfl) (P := pl) h2 hz (fun j hj => okL.R hj) (fun j hj => (cL.2 j hj).1) (k := k) (tC L) xFU σ (xFU_lt (by omega)) (Nat.le_refl _) (fun j hj => ⟨cL.1.2 j hj, (cL.2 j hj).2.1⟩) (fun j l1 l2 => by omega)
  have iv := insP_v (tI L) z (tC L)
  rw [f_X8_insert, gd_pos (Or.inl rfl), gd_pos (okS_ad a1 hk.1), cL.1.1, if_pos ((nIl200 (by omega)).mpr h2), st, t1]
  have nh : ∀ x j q, j < 5 → PIn 11 k (ad x + j) q → j = 0 ∧ q = 8 := fun x j q hj y => by unfold PIn ad at y; omega
  refine ⟨σ', insF pl k (insP (tI L) z (tC L)), rfl, t2, ⟨a1, a2, a3, a4⟩, ⟨by rw [(t2 10 3 (fun y => by unfold PIn at y; omega)).1]; exact b1, by rw [(t2 10 4 (fun y => by unfold PIn at y; omega)).1]; exact b2, fun x hx => by rw [(t2 17 x (fun y => by unfold PIn at y; omega)).2.2]; exact b3 x hx⟩, ⟨⟨?_, fun j hj => (t3 j (by have : j < tC L + 1 := hj; omega)).1⟩, fun j hj => ?_⟩, cC.fk t2 (fun y => by unfold PIn at y; omega) (fun q y => by unfold PIn at y; omega) (fun q y => by unfold PIn at y; omega) (fun x j q _ hj y => nh (pc x) j q hj y), fun x hx => ?_⟩
  · rw [t5, cL.1.1, nI_s]; rfl
  · have hj' : j < tC L + 1 := hj
    refine ⟨?_, (t3 j (by omega)).2, ?_⟩
    · unfold insF
      by_cases l : j < insP (tI L) z (tC L)
      · rw [if_pos l]; exact (cL.2 j (by omega)).1
      · rw [if_neg l]
        by_cases l2 : j = insP (tI L) z (tC L)
        · rw [if_pos l2]; exact hk.1
        · rw [if_neg l2]; exact (cL.2 (j - 1) (by omega)).1
    · show SH n σ' (ad (insF pl k (insP (tI L) z (tC L)) j)) (insF (tS L) c (insP (tI L) z (tC L)) j)
      unfold insF
      by_cases l : j < insP (tI L) z (tC L)
      · rw [if_pos l, if_pos l]; exact (cL.2 j (by omega)).2.2.fk t2 (fun q r hq y => nh (pl j) q r hq y)
      · rw [if_neg l, if_neg l]
        by_cases l2 : j = insP (tI L) z (tC L)
        · rw [if_pos l2, if_pos l2]; exact S.fk t2 (fun q r hq y => nh k q r hq y)
        · rw [if_neg l2, if_neg l2]; exact (cL.2 (j - 1) (by omega)).2.2.fk t2 (fun q r hq y => nh (pl (j - 1)) q r hq y)
  · have ci := cn_ins pl k x (tC L) (insP (tI L) z (tC L)) iv.1
    have eC : tC (insT L z c) = tC L + 1 := rfl
    rw [eC, ci]
    by_cases y : x = k
    · subst y
      rw [t4, e x hx, nI_s, if_pos rfl]; congr 1; omega
    · rw [(t2 (ad x) 8 (fun w => by unfold PIn at w; have := ak x; rcases w with w | w | w | w; omega; omega; omega; exact y (ad_inj w.1))).1, e x hx, if_neg (fun w => y w.symm), Nat.add_zero]

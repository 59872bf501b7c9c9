/-! tables of the system -/
abbrev Tb := Nat × (Nat → Int) × (Nat → Ct)
def tC (t : Tb) : Nat := t.1
def tI (t : Tb) : Nat → Int := t.2.1
def tS (t : Tb) : Nat → Ct := t.2.2
def okTb (t : Tb) : Prop := tC t ≤ 200 ∧ (∀ i, i < tC t → 1 ≤ tI t i ∧ tI t i ≤ 9999) ∧ (∀ i, i + 1 < tC t → tI t i < tI t (i + 1)) ∧ (∀ i, i < tC t → WF (tS t i) ∧ Val (tS t i))
set_option maxHeartbeats 200000 in
theorem okTb.R {t : Tb} (h : okTb t) {i : Nat} (hi : i < tC t) : R32 (tI t i) := by have := h.2.1 i hi; exact ⟨by omega, by omega⟩
/-- where an id stands: -1 if nowhere -/
def fx (ids : Nat → Int) (z : Int) : Nat → Nat → Int
  | 0, _ => -1
  | k + 1, i => if ids i = z then i else fx ids z k (i + 1)
def fdT (t : Tb) (z : Int) : Int := fx (tI t) z (tC t) 0
set_option maxHeartbeats 200000 in
theorem fx_v (ids : Nat → Int) (z : Int) : ∀ k i, (fx ids z k i = -1 ∧ ∀ j, i ≤ j → j < i + k → ids j ≠ z) ∨ (∃ j : Nat, fx ids z k i = (j : Int) ∧ i ≤ j ∧ j < i + k ∧ ids j = z) := by
  intro k
  induction k with
  | zero => intro i; exact Or.inl ⟨rfl, fun j a b => by omega⟩
  | succ k ih =>
    intro i
    rw [fx]
    by_cases e : ids i = z
    · rw [if_pos e]; exact Or.inr ⟨i, rfl, by omega, by omega, e⟩
    · rw [if_neg e]
      rcases ih (i + 1) with ⟨a, b⟩ | ⟨j, a, b, c, d⟩
      · refine Or.inl ⟨a, fun j h1 h2 => ?_⟩
        by_cases q : j = i
        · rw [q]; exact e
        · exact b j (by omega) (by omega)
      · exact Or.inr ⟨j, a, by omega, by omega, d⟩
set_option maxHeartbeats 200000 in
theorem fdT_v (t : Tb) (z : Int) : (fdT t z = -1 ∧ ∀ j, j < tC t → tI t j ≠ z) ∨ (∃ j : Nat, fdT t z = (j : Int) ∧ j < tC t ∧ tI t j = z) := by
  rcases fx_v (tI t) z (tC t) 0 with ⟨a, b⟩ | ⟨j, a, b, c, d⟩
  · exact Or.inl ⟨a, fun j hj => b j (by omega) (by omega)⟩
  · exact Or.inr ⟨j, a, by omega, d⟩
def IdS (σ : xσ) (a : Nat) (t : Tb) : Prop := sI σ a 2 = nI (tC t) ∧ ∀ i, i < tC t → sI σ (a + 1) i = iI (tI t i)
set_option maxHeartbeats 200000 in
theorem l_indexOf {n : Nat} {σ : xσ} {a : Nat} {t : Tb} (ok : okTb t) (h : IdS σ a t) {z : Int} (hz : R32 z) : ∀ f i, tC t - i < f → i ≤ tC t → l_X8_indexOf_2 n f a (iI z) (nI i) σ = some (iI (fx (tI t) z (tC t - i) i), σ) := by
  have h2 := ok.1
  intro f
  induction f with
  | zero => intro i h; omega
  | succ f ih =>
    intro i hf hi
    rw [l_X8_indexOf_2, h.1]
    by_cases q : tC t ≤ i
    · rw [if_pos ((nI_e' (by omega) (by omega)).mpr q), show tC t - i = 0 by omega]; rfl
    · rw [if_neg (fun y => q ((nI_e' (by omega) (by omega)).mp y)), gd_in (by omega) (by omega), nI_k (by omega), h.2 i (by omega), show tC t - i = (tC t - (i + 1)) + 1 by omega, fx, nI_s, ih (i + 1) (by omega) (by omega)]
      by_cases e : tI t i = z
      · rw [if_pos ((iI_eq (ok.R (by omega)) hz).mpr e), if_pos e, nI_i]
      · rw [if_neg (fun y => e ((iI_eq (ok.R (by omega)) hz).mp y)), if_neg e]
set_option maxHeartbeats 200000 in
theorem e_indexOf {n : Nat} {σ : xσ} {a : Nat} (oa : okT a) {t : Tb} (ok : okTb t) (h : IdS σ a t) {z : Int} (hz : R32 z) : f_X8_indexOf n a (iI z) σ = some (iI (fdT t z), σ) := by
  have h2 := ok.1
  have l := l_indexOf (n := n) ok h hz xFU 0 (xFU_lt (by omega)) (by omega)
  rw [show nI 0 = 0 from rfl] at l
  rw [f_X8_indexOf, gd_pos oa, l]
  rfl
/-! the pool, and who holds what -/
def cnX (p : Nat → Nat) : Nat → Nat → Nat → Nat
  | 0, _, _ => 0
  | r + 1, i, k => (if p i = k then 1 else 0) + cnX p r (i + 1) k
set_option maxHeartbeats 200000 in
theorem cnX_s (p : Nat → Nat) : ∀ r i k, cnX p (r + 1) i k = cnX p r i k + (if p (i + r) = k then 1 else 0) := by
  intro r
  induction r with
  | zero => intro i k; rw [cnX, cnX]; simp [cnX]
  | succ r ih =>
    intro i k
    rw [cnX, ih (i + 1) k, cnX, show i + 1 + r = i + (r + 1) by omega]
    omega
set_option maxHeartbeats 200000 in
theorem cnX_c {p q : Nat → Nat} : ∀ r i k, (∀ j, i ≤ j → j < i + r → p j = q j) → cnX p r i k = cnX q r i k := by
  intro r
  induction r with
  | zero => intro i k _; rfl
  | succ r ih =>
    intro i k h
    rw [cnX, cnX, h i (by omega) (by omega), ih (i + 1) k (fun j a b => h j (by omega) (by omega))]
set_option maxHeartbeats 200000 in
theorem cnX_0 {p : Nat → Nat} : ∀ r i k, cnX p r i k = 0 ↔ ∀ j, i ≤ j → j < i + r → p j ≠ k := by
  intro r
  induction r with
  | zero => intro i k; exact ⟨fun _ j a b => by omega, fun _ => rfl⟩
  | succ r ih =>
    intro i k
    rw [cnX]
    constructor
    · intro h j a b e
      by_cases q : j = i
      · subst q; rw [if_pos e] at h; omega
      · exact (ih (i + 1) k).mp (by omega) j (by omega) (by omega) e
    · intro h
      rw [if_neg (h i (by omega) (by omega)), (ih (i + 1) k).mpr (fun j a b => h j (by omega) (by omega))]
set_option maxHeartbeats 200000 in
theorem cnX_le (p : Nat → Nat) : ∀ r i k, cnX p r i k ≤ r := by
  intro r
  induction r with
  | zero => intro i k; exact Nat.le_refl _
  | succ r ih => intro i k; rw [cnX]; have := ih (i + 1) k; split <;> omega
def ad (k : Nat) : Nat := 2476 + 5 * k
def TbS (n : Nat) (σ : xσ) (a : Nat) (t : Tb) (K : Nat) (p : Nat → Nat) : Prop := IdS σ a t ∧ ∀ i, i < tC t → p i < K ∧ sR σ (a + 2) i = some (ad (p i)) ∧ SH n σ (ad (p i)) (tS t i)
def KP (n : Nat) (σ : xσ) (L C : Tb) (K lg : Nat) (pl pc : Nat → Nat) : Prop := (n = ad K ∧ K ≤ 401 ∧ lg < 401 ∧ (lg = 0 ∨ lg < K)) ∧ (sI σ 10 3 = nI K ∧ sI σ 10 4 = nI lg ∧ ∀ k, k < K → sR σ 17 k = some (ad k)) ∧ TbS n σ 11 L K pl ∧ TbS n σ 14 C K pc ∧ ∀ k, k < K → sI σ (ad k) 8 = nI (cnX pl (tC L) 0 k + cnX pc (tC C) 0 k)
set_option maxHeartbeats 200000 in
theorem okS_ad {n K k : Nat} (h : n = ad K) (hk : k < K) : okS n (ad k) := by
  unfold ad at *
  exact ⟨by omega, Or.inr (Or.inr ⟨by omega, by omega⟩)⟩
set_option maxHeartbeats 200000 in
theorem SH.fk {n : Nat} {σ σ' : xσ} {a : Nat} {c : Ct} {P : Nat → Nat → Prop} (h : SH n σ a c) (f : Fk P σ σ') (hP : ∀ j k, j < 5 → P (a + j) k → j = 0 ∧ k = 8) : SH n σ' a c := by
  obtain ⟨h1, ⟨h2, h3, h4⟩, ⟨h5, h6, h7, h8⟩, h9, h10⟩ := h
  have z : ∀ k, k < 8 → sI σ' a k = sI σ a k := fun k hk => (f a k (fun y => by have := hP 0 k (by omega) y; omega)).1
  have w : ∀ j k, 1 ≤ j → j < 5 → sI σ' (a + j) k = sI σ (a + j) k := fun j k h1 h2 => (f (a + j) k (fun y => by have := hP j k h2 y; omega)).1
  refine ⟨h1, ⟨?_, ?_, ?_⟩, ⟨?_, ?_, ?_, ?_⟩, fun i hi => ?_, fun r hr => ?_⟩
  · rw [z 0 (by omega)]; exact h2
  · rw [z 1 (by omega)]; exact h3
  · rw [z 2 (by omega)]; exact h4
  · rw [z 4 (by omega)]; exact h5
  · rw [z 5 (by omega)]; exact h6
  · rw [z 6 (by omega)]; exact h7
  · rw [z 7 (by omega)]; exact h8
  · rw [w 1 i (by omega) (by omega), w 2 i (by omega) (by omega), w 4 i (by omega) (by omega)]; exact h9 i hi
  · rw [w 3 r (by omega) (by omega)]; exact h10 r hr
set_option maxHeartbeats 200000 in
theorem SH.up {n m : Nat} {σ : xσ} {a : Nat} {c : Ct} (h : SH n σ a c) (hm : n ≤ m) : SH m σ a c := ⟨⟨by have := h.1.1; omega, h.1.2⟩, h.2⟩
set_option maxHeartbeats 200000 in
theorem TbS.fk {n : Nat} {σ σ' : xσ} {a : Nat} {t : Tb} {K : Nat} {p : Nat → Nat} {P : Nat → Nat → Prop} (h : TbS n σ a t K p) (f : Fk P σ σ') (h1 : ¬ P a 2) (h2 : ∀ k, ¬ P (a + 1) k) (h3 : ∀ k, ¬ P (a + 2) k) (h4 : ∀ i j k, i < tC t → j < 5 → P (ad (p i) + j) k → j = 0 ∧ k = 8) : TbS n σ' a t K p := by
  obtain ⟨⟨a1, a2⟩, b⟩ := h
  refine ⟨⟨by rw [(f a 2 h1).1]; exact a1, fun i hi => by rw [(f (a + 1) i (h2 i)).1]; exact a2 i hi⟩, fun i hi => ?_⟩
  obtain ⟨b1, b2, b3⟩ := b i hi
  exact ⟨b1, by rw [(f (a + 2) i (h3 i)).2.2]; exact b2, b3.fk f (fun j k hj y => h4 i j k hi hj y)⟩
/-! whole copies of tables -/
def PHd (b k : Nat) : Prop := k = 8 ∧ 2476 ≤ b ∧ (b - 2476) % 5 = 0
set_option maxHeartbeats 200000 in
theorem PHd_ad (k : Nat) : PHd (ad k) 8 := ⟨rfl, by unfold ad; omega, by unfold ad; omega⟩
set_option maxHeartbeats 200000 in
theorem ad_inj {i j : Nat} (h : ad i = ad j) : i = j := by unfold ad at h; omega
set_option maxHeartbeats 200000 in
theorem l_copy1 {n a0 a1 K : Nat} (hn : n = ad K) {t : Tb} (h2 : tC t ≤ 200) {p : Nat → Nat} : ∀ f i σ (h : Nat → Nat), tC t - i < f → i ≤ tC t → (a0 = 11 ∨ a0 = 14) → sI σ a0 2 = nI (tC t) → (∀ j, j < tC t → p j < K ∧ sR σ (a0 + 2) j = some (ad (p j))) → (∀ k, k < K → sI σ (ad k) 8 = nI (h k) ∧ h k < 1000 ∧ cnX p (tC t - i) i k ≤ h k) → ∃ σ', l_X8_copyFrom_2 n f a0 a1 (nI i) σ = st (wI σ' a0 2 (sI σ' a1 2)) (fun σ102 => l_X8_copyFrom_41 n xFU a0 a1 0 σ102) ∧ Fk PHd σ σ' ∧ ∀ k, k < K → sI σ' (ad k) 8 = nI (h k - cnX p (tC t - i) i k) := by
  intro f
  induction f with
  | zero => intro i σ h hf; omega
  | succ f ih =>
    intro i σ h hf hi oa hC hp hh
    rw [l_X8_copyFrom_2, hC]
    by_cases q : tC t ≤ i
    · rw [if_pos ((nI_e' (by omega) (by omega)).mpr q)]
      refine ⟨σ, rfl, Fk.refl, fun k hk => ?_⟩
      rw [(hh k hk).1, show tC t - i = 0 by omega, cnX, Nat.sub_zero]
    · have hpi := hp i (by omega)
      have ok := okS_ad hn hpi.1
      have hi8 := hh (p i) hpi.1
      have c1 : 1 ≤ h (p i) := by
        have := hi8.2.2
        rw [show tC t - i = (tC t - (i + 1)) + 1 by omega, cnX, if_pos rfl] at this
        omega
      rw [if_neg (fun y => q ((nI_e' (by omega) (by omega)).mp y)), gd_in (by omega) (by omega), nI_k (by omega), hpi.2, nn, gd_pos ok, hi8.1, nIm1 c1, st, nI_s]
      have F : Fk PHd σ (wI σ (ad (p i)) 8 (nI (h (p i) - 1))) := Fk.wI (PHd_ad _)
      obtain ⟨σ', t1, t2, t3⟩ := ih (i + 1) (wI σ (ad (p i)) 8 (nI (h (p i) - 1))) (fun k => if k = p i then h k - 1 else h k) (by omega) (by omega) oa (by rw [(F a0 2 (fun y => by unfold PHd at y; omega)).1]; exact hC) (fun j hj => ⟨(hp j hj).1, by rw [(F (a0 + 2) j (fun y => by unfold PHd at y; omega)).2.2]; exact (hp j hj).2⟩) (fun k hk => by
        have hk8 := hh k hk
        have cx := hk8.2.2
        rw [show tC t - i = (tC t - (i + 1)) + 1 by omega, cnX] at cx
        by_cases e : k = p i
        · rw [if_pos e, e, sI_own]
          rw [e, if_pos rfl] at cx
          refine ⟨rfl, by have := hi8.2.1; omega, by omega⟩
        · rw [if_neg e, sI_wI, if_neg (fun y => e (ad_inj y.1))]
          rw [if_neg (fun y => e y.symm)] at cx
          exact ⟨hk8.1, hk8.2.1, by omega⟩)
      refine ⟨σ', t1, F.trans t2, fun k hk => ?_⟩
      rw [t3 k hk, show tC t - i = (tC t - (i + 1)) + 1 by omega, cnX]
      by_cases e : k = p i
      · rw [if_pos e, if_pos e.symm]; congr 1; omega
      · rw [if_neg e, if_neg (fun y => e y.symm)]; congr 1; omega
def PCp (a0 b k : Nat) : Prop := PHd b k ∨ b = a0 + 1 ∨ b = a0 + 2
set_option maxHeartbeats 200000 in
theorem l_copy2 {n a0 a1 K : Nat} (hn : n = ad K) {t : Tb} (h2 : tC t ≤ 200) {p : Nat → Nat} (oa : (a0 = 11 ∧ a1 = 14) ∨ (a0 = 14 ∧ a1 = 11)) : ∀ f i σ (h : Nat → Nat), tC t - i < f → i ≤ tC t → sI σ a0 2 = nI (tC t) → (∀ j, j < tC t → p j < K ∧ sR σ (a1 + 2) j = some (ad (p j)) ∧ sI σ (a1 + 1) j = iI (tI t j)) → (∀ j, j < i → sR σ (a0 + 2) j = some (ad (p j)) ∧ sI σ (a0 + 1) j = iI (tI t j)) → (∀ k, k < K → sI σ (ad k) 8 = nI (h k) ∧ h k + (tC t - i) < 10000) → ∃ σ', l_X8_copyFrom_41 n f a0 a1 (nI i) σ = some ((), σ') ∧ Fk (PCp a0) σ σ' ∧ (∀ j, j < tC t → sR σ' (a0 + 2) j = some (ad (p j)) ∧ sI σ' (a0 + 1) j = iI (tI t j)) ∧ ∀ k, k < K → sI σ' (ad k) 8 = nI (h k + cnX p (tC t - i) i k) := by
  intro f
  induction f with
  | zero => intro i σ h hf; omega
  | succ f ih =>
    intro i σ h hf hi hC hp hd hh
    rw [l_X8_copyFrom_41, hC]
    by_cases q : tC t ≤ i
    · rw [if_pos ((nI_e' (by omega) (by omega)).mpr q)]
      refine ⟨σ, rfl, Fk.refl, fun j hj => hd j (by omega), fun k hk => ?_⟩
      rw [(hh k hk).1, show tC t - i = 0 by omega, cnX, Nat.add_zero]
    · obtain ⟨p1, p2, p3⟩ := hp i (by omega)
      have ok := okS_ad hn p1
      have i1 : ∀ {α : Type} (y : Option α), gd (inb (nI i) 200) y = y := fun y => gd_in (by omega) (by omega)
      have e1 : ∀ v, sR (wI σ (a0 + 1) i v) (a1 + 2) i = some (ad (p i)) := fun v => by rw [sR_wI]; exact p2
      have e2 : ∀ v, sR (wR (wI σ (a0 + 1) i v) (a0 + 2) i (some (ad (p i)))) (a0 + 2) i = some (ad (p i)) := fun v => by rw [sR_wR, if_pos ⟨rfl, rfl⟩]
      have aa : 2476 ≤ ad (p i) := by unfold ad; omega
      have e3 : ∀ v, sI (wR (wI σ (a0 + 1) i v) (a0 + 2) i (some (ad (p i)))) (ad (p i)) 8 = nI (h (p i)) := fun v => by rw [sI_wR, sI_wI, if_neg (by omega)]; exact (hh (p i) p1).1
      have nIk : (nI i).toNatClampNeg = i := nI_k (by omega)
      rw [if_neg (fun y => q ((nI_e' (by omega) (by omega)).mp y))]
      simp only [i1, nIk]
      rw [p3, st, e1, nn, gd_pos ok, st, e2, nn, gd_pos ok, e3, nI_s, st, nI_s]
      have F : Fk (PCp a0) σ (wI (wR (wI σ (a0 + 1) i (iI (tI t i))) (a0 + 2) i (some (ad (p i)))) (ad (p i)) 8 (nI (h (p i) + 1))) := ((Fk.wI (Or.inr (Or.inl rfl))).trans (Fk.wR (Or.inr (Or.inr rfl)))).trans (Fk.wI (Or.inl (PHd_ad _)))
      obtain ⟨σ', t1, t2, t3, t4⟩ := ih (i + 1) _ (fun k => if k = p i then h k + 1 else h k) (by omega) (by omega) (by rw [(F a0 2 (fun y => by unfold PCp PHd at y; omega)).1]; exact hC) (fun j hj => ⟨(hp j hj).1, by rw [(F (a1 + 2) j (fun y => by unfold PCp PHd at y; omega)).2.2]; exact (hp j hj).2.1, by rw [(F (a1 + 1) j (fun y => by unfold PCp PHd at y; omega)).1]; exact (hp j hj).2.2⟩) (fun j hj => by
        by_cases e : j = i
        · subst e
          refine ⟨?_, ?_⟩
          · rw [sR_wI, sR_wR, if_pos ⟨rfl, rfl⟩]
          · rw [sI_wI, if_neg (by omega), sI_wR, sI_own]
        · have := hd j (by omega)
          refine ⟨?_, ?_⟩
          · rw [sR_wI, sR_wR, if_neg (by omega), sR_wI]; exact this.1
          · rw [sI_wI, if_neg (by omega), sI_wR, sI_wI, if_neg (by omega)]; exact this.2) (fun k hk => by
        have hk8 := hh k hk
        by_cases e : k = p i
        · rw [if_pos e, e, sI_own]; rw [e] at hk8; exact ⟨rfl, by omega⟩
        · rw [if_neg e, sI_wI, if_neg (fun y => e (ad_inj y.1)), sI_wR, sI_wI, if_neg (by unfold ad; omega)]; exact ⟨hk8.1, by omega⟩)
      refine ⟨σ', t1, F.trans t2, t3, fun k hk => ?_⟩
      rw [t4 k hk, show tC t - i = (tC t - (i + 1)) + 1 by omega, cnX]
      by_cases e : k = p i
      · rw [if_pos e, if_pos e.symm]; congr 1; omega
      · rw [if_neg e, if_neg (fun y => e y.symm)]; congr 1; omega

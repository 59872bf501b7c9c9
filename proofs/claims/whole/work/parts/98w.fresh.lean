/-! copies, and fresh shapes -/
def PCq (a0 b k : Nat) : Prop := PHd b k ∨ (a0 ≤ b ∧ b ≤ a0 + 2)
set_option maxHeartbeats 200000 in
theorem nPHd {i j k : Nat} (hj : j < 5) (h : PHd (ad i + j) k) : j = 0 ∧ k = 8 := by unfold PHd ad at h; omega
set_option maxHeartbeats 200000 in
theorem e_copyFrom {n : Nat} {σ : xσ} {a0 a1 K : Nat} (hn : n = ad K) (oa : (a0 = 11 ∧ a1 = 14) ∨ (a0 = 14 ∧ a1 = 11)) {t0 t1 : Tb} {p0 p1 : Nat → Nat} (ok0 : okTb t0) (ok1 : okTb t1) (h0 : TbS n σ a0 t0 K p0) (h1 : TbS n σ a1 t1 K p1) (hh : ∀ k, k < K → sI σ (ad k) 8 = nI (cnX p0 (tC t0) 0 k + cnX p1 (tC t1) 0 k)) : ∃ σ', f_X8_copyFrom n a0 a1 σ = some ((), σ') ∧ Fk (PCq a0) σ σ' ∧ TbS n σ' a0 t1 K p1 ∧ TbS n σ' a1 t1 K p1 ∧ ∀ k, k < K → sI σ' (ad k) 8 = nI (cnX p1 (tC t1) 0 k + cnX p1 (tC t1) 0 k) := by
  have l0 := ok0.1
  have l1 := ok1.1
  obtain ⟨σ1, t1', t2, t3⟩ := l_copy1 (a0 := a0) (a1 := a1) hn l0 (p := p0) xFU 0 σ (fun k => cnX p0 (tC t0) 0 k + cnX p1 (tC t1) 0 k) (xFU_lt (by omega)) (by omega) (by omega) h0.1.1 (fun j hj => ⟨(h0.2 j hj).1, (h0.2 j hj).2.1⟩) (fun k hk => ⟨hh k hk, by have := cnX_le p0 (tC t0) 0 k; have := cnX_le p1 (tC t1) 0 k; omega, by rw [Nat.sub_zero]; omega⟩)
  have g2 : sI σ1 a1 2 = nI (tC t1) := by rw [(t2 a1 2 (fun y => by unfold PHd at y; omega)).1]; exact h1.1.1
  have F2 : Fk (PCq a0) σ1 (wI σ1 a0 2 (nI (tC t1))) := Fk.wI (Or.inr ⟨by omega, by omega⟩)
  obtain ⟨σ2, u1, u2, u3, u4⟩ := l_copy2 (a0 := a0) (a1 := a1) hn l1 (p := p1) oa xFU 0 (wI σ1 a0 2 (nI (tC t1))) (fun k => cnX p1 (tC t1) 0 k) (xFU_lt (by omega)) (by omega) (by rw [sI_own]) (fun j hj => by
    obtain ⟨b1, b2, b3⟩ := h1.2 j hj
    refine ⟨b1, ?_, ?_⟩
    · rw [sR_wI, (t2 (a1 + 2) j (fun y => by unfold PHd at y; omega)).2.2]; exact b2
    · rw [sI_wI, if_neg (by omega), (t2 (a1 + 1) j (fun y => by unfold PHd at y; omega)).1]; exact h1.1.2 j hj) (fun j hj => by omega) (fun k hk => by
    refine ⟨?_, by have := cnX_le p1 (tC t1) 0 k; omega⟩
    rw [sI_wI, if_neg (by unfold ad; omega), t3 k hk, Nat.sub_zero, Nat.add_sub_cancel_left])
  have F : Fk (PCq a0) σ σ2 := ((t2.mono (fun _ _ => Or.inl)).trans F2).trans (u2.mono (fun b k y => by
    rcases y with y | y | y
    · exact Or.inl y
    · exact Or.inr ⟨by omega, by omega⟩
    · exact Or.inr ⟨by omega, by omega⟩))
  have hs : ∀ i j k, i < tC t1 → j < 5 → PCq a0 (ad (p1 i) + j) k → j = 0 ∧ k = 8 := fun i j k _ hj y => by
    rcases y with y | y
    · exact nPHd hj y
    · unfold ad at y; omega
  have T1 := h1.fk F (by unfold PCq PHd; omega) (fun k => by unfold PCq PHd; omega) (fun k => by unfold PCq PHd; omega) hs
  rw [show nI 0 = 0 from rfl] at t1' u1
  rw [f_X8_copyFrom, gd_pos (show okT a0 by rcases oa with y | y; exact Or.inl y.1; exact Or.inr y.1), gd_pos (show okT a1 by rcases oa with y | y; exact Or.inr y.2; exact Or.inl y.2), t1', st, g2, u1]
  refine ⟨σ2, rfl, F, ⟨⟨?_, fun i hi => (u3 i hi).2⟩, fun i hi => ⟨(h1.2 i hi).1, (u3 i hi).1, (T1.2 i hi).2.2⟩⟩, T1, fun k hk => ?_⟩
  · rw [(u2 a0 2 (fun y => by unfold PCp PHd at y; omega)).1, sI_own]
  · rw [u4 k hk, Nat.sub_zero]
/-! a fresh shape -/
set_option maxHeartbeats 200000 in
theorem wN_f (σ : xσ) (n : Nat) : Fk (fun b _ => n ≤ b ∧ b < n + 5) σ (wN σ n) := fun b k h => by
  refine ⟨?_, ?_, ?_⟩
  · simp [sI, wN, h]
  · simp [sJ, wN, h]
  · simp [sR, wN, h]
def suN (f : Nat → Nat) : Nat → Nat
  | 0 => 0
  | k + 1 => suN f k + f k
set_option maxHeartbeats 200000 in
theorem suN_add (f g : Nat → Nat) : ∀ k, suN (fun i => f i + g i) k = suN f k + suN g k := by
  intro k
  induction k with
  | zero => rfl
  | succ k ih => rw [suN, suN, suN, ih]; omega
set_option maxHeartbeats 200000 in
theorem suN_one (x : Nat) : ∀ k, suN (fun i => if x = i then 1 else 0) k ≤ 1 ∧ (k ≤ x → suN (fun i => if x = i then 1 else 0) k = 0) := by
  intro k
  induction k with
  | zero => exact ⟨Nat.zero_le _, fun _ => rfl⟩
  | succ k ih =>
    rw [suN]
    by_cases e : x = k
    · rw [if_pos e, ih.2 (by omega)]; omega
    · rw [if_neg e]
      exact ⟨by omega, fun y => by have := ih.2 (by omega); omega⟩
set_option maxHeartbeats 200000 in
theorem suN_cn (p : Nat → Nat) (K : Nat) : ∀ r i, suN (cnX p r i) K ≤ r := by
  intro r
  induction r with
  | zero =>
    intro i
    have : ∀ K, suN (cnX p 0 i) K = 0 := by
      intro K
      induction K with
      | zero => rfl
      | succ K ih => rw [suN, ih, cnX]
    rw [this]; omega
  | succ r ih =>
    intro i
    have e : cnX p (r + 1) i = (fun k => (if p i = k then 1 else 0) + cnX p r (i + 1) k) := by funext k; rw [cnX]
    rw [e, suN_add (fun k => if p i = k then 1 else 0) (cnX p r (i + 1))]
    have := (suN_one (p i) K).1
    have := ih (i + 1)
    omega
set_option maxHeartbeats 200000 in
theorem suN_ge {f : Nat → Nat} : ∀ K, (∀ k, k < K → 1 ≤ f k) → K ≤ suN f K := by
  intro K
  induction K with
  | zero => intro _; omega
  | succ K ih => intro h; rw [suN]; have := ih (fun k hk => h k (by omega)); have := h K (by omega); omega
def PFr (n b k : Nat) : Prop := (b = 10 ∧ (k = 3 ∨ k = 4)) ∨ b = 17 ∨ (n ≤ b ∧ b < n + 5)
/-- what a fresh shape is: it is in the pool, and no table holds it -/
def Fre (L C : Tb) (K : Nat) (pl pc : Nat → Nat) (k : Nat) : Prop := k < K ∧ (∀ i, i < tC L → pl i ≠ k) ∧ (∀ i, i < tC C → pc i ≠ k)
set_option maxHeartbeats 200000 in
theorem KP.fre {n : Nat} {σ : xσ} {L C : Tb} {K lg : Nat} {pl pc : Nat → Nat} (h : KP n σ L C K lg pl pc) (l1 : tC L ≤ 200) (l2 : tC C ≤ 200) {k : Nat} (hk : k < K) : sI σ (ad k) 8 = 0 ↔ Fre L C K pl pc k := by
  rw [h.2.2.2.2 k hk]
  have a1 := cnX_le pl (tC L) 0 k
  have a2 := cnX_le pc (tC C) 0 k
  rw [nIq0 (by omega)]
  have z1 := cnX_0 (p := pl) (tC L) 0 k
  have z2 := cnX_0 (p := pc) (tC C) 0 k
  constructor
  · intro e
    exact ⟨hk, fun i hi => z1.mp (by omega) i (by omega) (by omega), fun i hi => z2.mp (by omega) i (by omega) (by omega)⟩
  · rintro ⟨_, e1, e2⟩
    rw [z1.mpr (fun i _ hi => e1 i (by omega)), z2.mpr (fun i _ hi => e2 i (by omega))]
set_option maxHeartbeats 200000 in
theorem KP.lg {n : Nat} {σ : xσ} {L C : Tb} {K lg : Nat} {pl pc : Nat → Nat} (h : KP n σ L C K lg pl pc) {l : Nat} (hl : l < K) : KP n (wI σ 10 4 (nI l)) L C K l pl pc := by
  obtain ⟨⟨a1, a2, a3, a4⟩, ⟨b1, b2, b3⟩, c, d, e⟩ := h
  have F : Fk (fun b k => b = 10 ∧ k = 4) σ (wI σ 10 4 (nI l)) := Fk.wI ⟨rfl, rfl⟩
  refine ⟨⟨a1, a2, by omega, Or.inr hl⟩, ⟨by rw [(F 10 3 (by omega)).1]; exact b1, by rw [sI_own], fun k hk => by rw [(F 17 k (by omega)).2.2]; exact b3 k hk⟩, c.fk F (by omega) (fun k => by omega) (fun k => by omega) (fun i j k _ _ y => by unfold ad at y; omega), d.fk F (by omega) (fun k => by omega) (fun k => by omega) (fun i j k _ _ y => by unfold ad at y; omega), fun k hk => by rw [(F (ad k) 8 (by unfold ad; omega)).1]; exact e k hk⟩
set_option maxHeartbeats 200000 in
theorem l_fresh {L C : Tb} (okL : okTb L) (okC : okTb C) (hs : tC L + tC C ≤ 400) {n K : Nat} {pl pc : Nat → Nat} {l0 : Nat} : ∀ f i σ lg, K - i < f → i ≤ K → KP n σ L C K lg pl pc → (0 < K → lg = (l0 + i) % K ∧ l0 < K) → (∀ j, j < i → ¬ Fre L C K pl pc ((l0 + 1 + j) % K)) → ∃ k n' σ' K' lg', l_X3_freshShape_2 f (nI i) n σ = some (ad k, n', σ') ∧ Fk (PFr n) σ σ' ∧ n ≤ n' ∧ KP n' σ' L C K' lg' pl pc ∧ Fre L C K' pl pc k := by
  have o1 := okL.1
  have o2 := okC.1
  intro f
  induction f with
  | zero => intro i σ lg h; omega
  | succ f ih =>
    intro i σ lg hf hi h hlg hno
    obtain ⟨⟨a1, a2, a3, a4⟩, ⟨b1, b2, b3⟩, c, d, e⟩ := id h
    rw [l_X3_freshShape_2, b1]
    by_cases q : K ≤ i
    · have : i = K := by omega
      subst this
      have all : ∀ k, k < i → ¬ Fre L C i pl pc k := by
        intro k hk
        have l1 := (hlg (by omega)).2
        by_cases y : l0 < k
        · have := hno (k - l0 - 1) (by omega)
          rw [show l0 + 1 + (k - l0 - 1) = k by omega, Nat.mod_eq_of_lt hk] at this
          exact this
        · have := hno (k + i - l0 - 1) (by omega)
          rw [show l0 + 1 + (k + i - l0 - 1) = k + i by omega, Nat.add_mod_right, Nat.mod_eq_of_lt hk] at this
          exact this
      have lt : i < 401 := by
        refine Classical.byContradiction (fun y => ?_)
        have k1 : i ≤ suN (fun k => cnX pl (tC L) 0 k + cnX pc (tC C) 0 k) i := suN_ge i (fun k hk => by
          refine Classical.byContradiction (fun z => all k hk ((h.fre o1 o2 hk).mp ?_))
          rw [e k hk, show cnX pl (tC L) 0 k + cnX pc (tC C) 0 k = 0 by omega]; rfl)
        rw [suN_add (cnX pl (tC L) 0) (cnX pc (tC C) 0)] at k1
        have := suN_cn pl i (tC L) 0
        have := suN_cn pc i (tC C) 0
        omega
      have W := wN_f σ n
      have w1 : ∀ k, sI (wN σ n) 10 k = sI σ 10 k := fun k => (W 10 k (by unfold ad at a1; omega)).1
      rw [if_pos ((nI_e' (by omega) (by omega)).mpr q), stn, w1, b1, if_neg (fun y => by have := (nIg401 (show i < 2147483648 by omega)).mp y; omega), gd_in (by omega) (by omega), nI_k (by omega), st]
      have w2 : sI (wR (wN σ n) 17 i (some n)) 10 3 = nI i := by rw [sI_wR, w1, b1]
      rw [w2, nI_s, st, b_X3_freshShape_106]
      have F : Fk (PFr n) σ (wI (wR (wN σ n) 17 i (some n)) 10 3 (nI (i + 1))) := by
        have F1 : Fk (PFr n) σ (wN σ n) := W.mono (fun b k y => Or.inr (Or.inr y))
        have F2 : Fk (PFr n) (wN σ n) (wR (wN σ n) 17 i (some n)) := Fk.wR (Or.inr (Or.inl rfl))
        exact (F1.trans F2).trans (Fk.wI (Or.inl ⟨rfl, Or.inl rfl⟩))
      have Ft : ∀ j, TbS n σ 11 L j pl → TbS (n + 5) (wI (wR (wN σ n) 17 i (some n)) 10 3 (nI (i + 1))) 11 L j pl → True := fun _ _ _ => trivial
      have up : ∀ (a : Nat) (t : Tb) (p : Nat → Nat), (a = 11 ∨ a = 14) → TbS n σ a t i p → TbS (n + 5) (wI (wR (wN σ n) 17 i (some n)) 10 3 (nI (i + 1))) a t (i + 1) p := by
        intro a t p ha T
        have T' := T.fk F (by unfold PFr ad at *; omega) (fun k => by unfold PFr ad at *; omega) (fun k => by unfold PFr ad at *; omega) (fun x j k hx hj y => by
          have := (T.2 x hx).1
          unfold PFr ad at *
          omega)
        exact ⟨T'.1, fun x hx => ⟨by have := (T'.2 x hx).1; omega, (T'.2 x hx).2.1, (T'.2 x hx).2.2.up (by omega)⟩⟩
      have nt : ∀ x, x < tC L → pl x ≠ i := fun x hx => by have := (c.2 x hx).1; omega
      have nt2 : ∀ x, x < tC C → pc x ≠ i := fun x hx => by have := (d.2 x hx).1; omega
      rw [show n = ad i from a1]
      rw [a1] at F up
      refine ⟨i, ad i + 5, _, i + 1, lg, rfl, F, by omega, ⟨⟨by unfold ad; omega, by omega, a3, by omega⟩, ⟨by rw [sI_own], ?_, fun k hk => ?_⟩, up 11 L pl (Or.inl rfl) (a1 ▸ c), up 14 C pc (Or.inr rfl) (a1 ▸ d), fun k hk => ?_⟩, by omega, nt, nt2⟩
      · rw [sI_wI, if_neg (by omega), sI_wR, ← a1, w1, b2]
      · rw [sR_wI, sR_wR]
        by_cases y : k = i
        · rw [if_pos ⟨rfl, y⟩, y]
        · rw [if_neg (fun z => y z.2), ← a1, (W 17 k (by unfold ad at a1; omega)).2.2]; exact b3 k (by omega)
      · rw [sI_wI, if_neg (by unfold ad; omega), sI_wR]
        by_cases y : k = i
        · subst y
          rw [sI_wN0 (Nat.le_refl _) (by omega), (cnX_0 (p := pl) (tC L) 0 k).mpr (fun x _ hx => nt x (by omega)), (cnX_0 (p := pc) (tC C) 0 k).mpr (fun x _ hx => nt2 x (by omega))]; rfl
        · rw [← a1, (W (ad k) 8 (by unfold ad at *; omega)).1]; exact e k (by omega)
    · have Kp : 0 < K := by omega
      obtain ⟨g1, g2⟩ := hlg Kp
      have lgK : lg < K := by rw [g1]; exact Nat.mod_lt _ Kp
      have nxt : ∀ l, l < K → l = (l0 + (i + 1)) % K → ∃ k n' σ' K' lg', b_X3_freshShape_34 (l_X3_freshShape_2 f) (nI i) (nI l) n σ = some (ad k, n', σ') ∧ Fk (PFr n) σ σ' ∧ n ≤ n' ∧ KP n' σ' L C K' lg' pl pc ∧ Fre L C K' pl pc k := by
        intro l hl el
        have h' := h.lg hl
        have F : Fk (PFr n) σ (wI σ 10 4 (nI l)) := Fk.wI (Or.inl ⟨rfl, Or.inr rfl⟩)
        have ok := okS_ad a1 hl
        have i1 : ∀ {α : Type} (y : Option α), gd (inb (nI l) 401) y = y := fun y => gd_in (by omega) (by omega)
        have nIk : (nI l).toNatClampNeg = l := nI_k (by omega)
        rw [b_X3_freshShape_34, st, sI_own]
        simp only [i1, nIk, h'.2.1.2.2 l hl, nn]
        rw [gd_pos ok]
        by_cases z : sI (wI σ 10 4 (nI l)) (ad l) 8 = 0
        · rw [if_pos z, gd_pos ok]
          exact ⟨l, n, _, K, l, rfl, F, Nat.le_refl _, h', (h'.fre o1 o2 hl).mp z⟩
        · rw [if_neg z, nI_s]
          obtain ⟨k, n', σ', K', lg', t1, t2, t3, t4, t5⟩ := ih (i + 1) _ l (by omega) (by omega) h' (fun _ => ⟨el, g2⟩) (fun j hj => by
            by_cases y : j = i
            · rw [y, show l0 + 1 + i = l0 + (i + 1) by omega, ← el]
              exact fun w => z ((h'.fre o1 o2 hl).mpr w)
            · exact hno j (by omega))
          exact ⟨k, n', σ', K', lg', t1, F.trans t2, t3, t4, t5⟩
      rw [if_neg (fun y => q ((nI_e' (by omega) (by omega)).mp y)), b2, nI_s]
      by_cases w : K ≤ lg + 1
      · rw [if_pos ((nI_e' (by omega) (by omega)).mpr w)]
        have := nxt 0 (by omega) (by
          have : (l0 + i) % K = K - 1 := by omega
          have e2 : (l0 + (i + 1)) % K = ((l0 + i) % K + 1) % K := by rw [← Nat.add_assoc, Nat.mod_add_mod]
          rw [e2, this, show K - 1 + 1 = K by omega, Nat.mod_self])
        rw [show nI 0 = 0 from rfl] at this
        exact this
      · rw [if_neg (fun y => w ((nI_e' (by omega) (by omega)).mp y))]
        exact nxt (lg + 1) (by omega) (by
          have e2 : (l0 + (i + 1)) % K = ((l0 + i) % K + 1) % K := by rw [← Nat.add_assoc, Nat.mod_add_mod]
          rw [e2, ← g1, Nat.mod_eq_of_lt (by omega)])
set_option maxHeartbeats 200000 in
theorem e_fresh {L C : Tb} (okL : okTb L) (okC : okTb C) (hs : tC L + tC C ≤ 400) {n : Nat} {σ : xσ} {K lg : Nat} {pl pc : Nat → Nat} (h : KP n σ L C K lg pl pc) : ∃ k n' σ' K' lg', f_X3_freshShape n σ = some (ad k, n', σ') ∧ Fk (PFr n) σ σ' ∧ n ≤ n' ∧ KP n' σ' L C K' lg' pl pc ∧ Fre L C K' pl pc k := by
  have l := l_fresh okL okC hs (l0 := lg) xFU 0 σ lg (xFU_lt (by have := h.1.2.1; omega)) (by omega) h (fun hK => by
    have : lg < K := by have := h.1.2.2.2; omega
    exact ⟨by rw [Nat.add_zero, Nat.mod_eq_of_lt this], this⟩) (fun j hj => by omega)
  rw [show nI 0 = 0 from rfl] at l
  rw [f_X3_freshShape]
  exact l

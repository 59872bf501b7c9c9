/-! NEAR: the order by distances -/
set_option maxHeartbeats 200000 in
theorem wyD_p (p A B : V2) : 0 < (wyD p A B).2 := by
  unfold wyD
  by_cases h : dt (sub2 p A) (sub2 B A) ≤ 0
  · rw [if_pos h]; show 0 < 1; omega
  · rw [if_neg h]
    by_cases h2 : dt (sub2 B A) (sub2 B A) ≤ dt (sub2 p A) (sub2 B A)
    · rw [if_pos h2]; show 0 < 1; omega
    · rw [if_neg h2]; show 0 < (dt (sub2 B A) (sub2 B A)).toNat; omega
set_option maxHeartbeats 200000 in
theorem fle_tot (x y : Nat × Nat) : fle x y ∨ fle y x := by unfold fle; omega
set_option maxHeartbeats 200000 in
theorem exR (c : Ct) (p : V2) : ∀ m, ∃ x, Mn (CrI c p m) x ∧ 0 < x.2 := by
  intro m
  induction m with
  | zero =>
    refine ⟨(sqN p (cV c 0), 1), ⟨Or.inl rfl, fun y hy => ?_⟩, by show 0 < 1; omega⟩
    rcases hy with rfl | ⟨k, h, _⟩
    · exact fle_rf _
    · omega
  | succ m ih =>
    obtain ⟨x, h1, h2⟩ := ih
    by_cases w : wy c m
    · rcases fle_tot x (wyD p (cV c m) (cV c (m + 1))) with t | t
      · refine ⟨x, ⟨(CrI_s c p m x).mpr (Or.inl h1.1), fun y hy => ?_⟩, h2⟩
        rcases (CrI_s c p m y).mp hy with hy | ⟨_, rfl⟩
        · exact h1.2 y hy
        · exact t
      · refine ⟨wyD p (cV c m) (cV c (m + 1)), ⟨(CrI_s c p m _).mpr (Or.inr ⟨w, rfl⟩), fun y hy => ?_⟩, wyD_p _ _ _⟩
        rcases (CrI_s c p m y).mp hy with hy | ⟨_, rfl⟩
        · exact fle_tr h2 t (h1.2 y hy)
        · exact fle_rf _
    · refine ⟨x, ⟨(CrI_s c p m x).mpr (Or.inl h1.1), fun y hy => ?_⟩, h2⟩
      rcases (CrI_s c p m y).mp hy with hy | ⟨z, _⟩
      · exact h1.2 y hy
      · exact (w z).elim
set_option maxHeartbeats 200000 in
theorem exD (c : Ct) (p : V2) : ∃ x, DRn c p x ∧ 0 < x.2 := by
  unfold DRn
  by_cases l : 0 ≤ loc c p
  · exact ⟨(0, 1), by rw [if_pos l], by show 0 < 1; omega⟩
  · obtain ⟨x, h1, h2⟩ := exR c p (cN c - 1)
    exact ⟨x, by rw [if_neg l]; exact h1, h2⟩
set_option maxHeartbeats 200000 in
theorem DRn_u {c : Ct} {p : V2} {x y : Nat × Nat} (hx : DRn c p x) (hy : DRn c p y) : fle x y := by
  unfold DRn at hx hy
  by_cases l : 0 ≤ loc c p
  · rw [if_pos l] at hx hy; rw [hx, hy]; exact fle_rf _
  · rw [if_neg l] at hx hy; exact hx.2 y hy.1
def gtD (c d : Ct) (p : V2) : Prop := ∃ x y, (DRn c p x ∧ 0 < x.2) ∧ (DRn d p y ∧ 0 < y.2) ∧ ¬ fle x y
set_option maxHeartbeats 200000 in
theorem gtD_r {c d : Ct} {p : V2} {x y : Nat × Nat} (hx : DRn c p x) (hx0 : 0 < x.2) (hy : DRn d p y) (hy0 : 0 < y.2) : gtD c d p ↔ ¬ fle x y := by
  constructor
  · rintro ⟨u, v, ⟨u1, u2⟩, ⟨v1, v2⟩, h⟩ t
    exact h (fle_tr hx0 (DRn_u u1 hx) (fle_tr hy0 t (DRn_u hy v1)))
  · intro h
    exact ⟨x, y, ⟨hx, hx0⟩, ⟨hy, hy0⟩, h⟩
set_option maxHeartbeats 200000 in
theorem gtD_s {c d : Ct} (F : WF c) (vc : Val c) (G : WF d) (vd : Val d) {p : V2} {x y : Nat × Nat} (hx : DMn c p x) (hx0 : 0 < x.2) (hy : DMn d p y) (hy0 : 0 < y.2) : gtD c d p ↔ ¬ fle x y := by
  obtain ⟨u, u1, u2⟩ := exD c p
  obtain ⟨v, v1, v2⟩ := exD d p
  rw [gtD_r u1 u2 v1 v2, eqv_cm hx0 u2 hy0 v2 (D_same F vc hx u1) (D_same G vd hy v1)]
/-! a stable order -/
noncomputable def insQ (g : Nat → Prop) : Nat → Nat
  | 0 => 0
  | t + 1 => ifP (g t) (insQ g t) (t + 1)
set_option maxHeartbeats 200000 in
theorem insQ_v (g : Nat → Prop) : ∀ i, insQ g i ≤ i ∧ (0 < insQ g i → ¬ g (insQ g i - 1)) ∧ ∀ j, insQ g i ≤ j → j < i → g j := by
  intro i
  induction i with
  | zero => exact ⟨Nat.le_refl _, fun h => absurd h (by show ¬ 0 < 0; omega), fun j a b => by omega⟩
  | succ i ih =>
    rw [insQ]
    by_cases h : g i
    · rw [ifP_t h]
      refine ⟨by omega, ih.2.1, fun j a b => ?_⟩
      by_cases e : j = i
      · rw [e]; exact h
      · exact ih.2.2 j a (by omega)
    · rw [ifP_f h]
      exact ⟨Nat.le_refl _, fun _ => by rw [Nat.add_sub_cancel]; exact h, fun j a b => by omega⟩
set_option maxHeartbeats 200000 in
theorem insQ_u {g : Nat → Prop} {i l : Nat} (h1 : l ≤ i) (h2 : ∀ j, j < l → ¬ g j) (h3 : ∀ j, l ≤ j → j < i → g j) : l = insQ g i := by
  obtain ⟨a, b, c⟩ := insQ_v g i
  rcases Nat.lt_trichotomy l (insQ g i) with t | t | t
  · exact (b (by omega) (h3 _ (by omega) (by omega))).elim
  · exact t
  · exact (h2 _ t (c _ (Nat.le_refl _) (by omega))).elim
noncomputable def ordS (cs : Nat → Ct) (p : V2) : Nat → Nat → Nat
  | 0, _ => 0
  | i + 1, j => insF (ordS cs p i) i (insQ (fun t => gtD (cs (ordS cs p i t)) (cs i) p) i) j
set_option maxHeartbeats 200000 in
theorem ordS_b (cs : Nat → Ct) (p : V2) : ∀ i j, j < i → ordS cs p i j < i := by
  intro i
  induction i with
  | zero => intro j h; omega
  | succ i ih =>
    intro j hj
    rw [ordS]
    have v := (insQ_v (fun t => gtD (cs (ordS cs p i t)) (cs i) p) i).1
    unfold insF
    by_cases l : j < insQ (fun t => gtD (cs (ordS cs p i t)) (cs i) p) i
    · rw [if_pos l]; have := ih j (by omega); omega
    · rw [if_neg l]
      by_cases e : j = insQ (fun t => gtD (cs (ordS cs p i t)) (cs i) p) i
      · rw [if_pos e]; omega
      · rw [if_neg e]; have := ih (j - 1) (by omega); omega
set_option maxHeartbeats 200000 in
theorem gtD_nt {c d e : Ct} {p : V2} (h1 : ¬ gtD c d p) (h2 : ¬ gtD d e p) : ¬ gtD c e p := by
  obtain ⟨x, x1, x2⟩ := exD c p
  obtain ⟨y, y1, y2⟩ := exD d p
  obtain ⟨z, z1, z2⟩ := exD e p
  rw [gtD_r x1 x2 y1 y2, Classical.not_not] at h1
  rw [gtD_r y1 y2 z1 z2, Classical.not_not] at h2
  rw [gtD_r x1 x2 z1 z2, Classical.not_not]
  exact fle_tr y2 h1 h2
set_option maxHeartbeats 200000 in
theorem gtD_as {c d : Ct} {p : V2} (h : gtD c d p) : ¬ gtD d c p := by
  obtain ⟨x, x1, x2⟩ := exD c p
  obtain ⟨y, y1, y2⟩ := exD d p
  rw [gtD_r x1 x2 y1 y2] at h
  rw [gtD_r y1 y2 x1 x2, Classical.not_not]
  rcases fle_tot x y with t | t
  · exact (h t).elim
  · exact t
set_option maxHeartbeats 200000 in
theorem gtD_rf (c : Ct) (p : V2) : ¬ gtD c c p := fun h => gtD_as h h
/-! the order rises -/
set_option maxHeartbeats 200000 in
theorem ordS_s (cs : Nat → Ct) (p : V2) : ∀ i a b, a < b → b < i → ¬ gtD (cs (ordS cs p i a)) (cs (ordS cs p i b)) p := by
  intro i
  induction i with
  | zero => intro a b _ h; omega
  | succ i ih =>
    intro a b hab hb
    obtain ⟨v1, v2, v3⟩ := insQ_v (fun t => gtD (cs (ordS cs p i t)) (cs i) p) i
    rw [ordS, ordS]
    generalize hq : insQ (fun t => gtD (cs (ordS cs p i t)) (cs i) p) i = q at *
    have lo : ∀ j, j < q → ¬ gtD (cs (ordS cs p i j)) (cs i) p := fun j hj => by
      have l := v2 (by omega)
      by_cases e : j = q - 1
      · rw [e]; exact l
      · exact gtD_nt (ih j (q - 1) (by omega) (by omega)) l
    unfold insF
    by_cases la : a < q
    · rw [if_pos la]
      by_cases lb : b < q
      · rw [if_pos lb]; exact ih a b hab (by omega)
      · rw [if_neg lb]
        by_cases eb : b = q
        · rw [if_pos eb]; exact lo a la
        · rw [if_neg eb]; exact ih a (b - 1) (by omega) (by omega)
    · rw [if_neg la, if_neg (show ¬ b < q by omega), if_neg (show ¬ b = q by omega)]
      by_cases ea : a = q
      · rw [if_pos ea]; exact gtD_as (v3 (b - 1) (by omega) (by omega))
      · rw [if_neg ea]; exact ih (a - 1) (b - 1) (by omega) (by omega)
/-! NEAR of the system -/
set_option maxHeartbeats 200000 in
theorem e_cmpW {n : Nat} {σ : xσ} {a b : Nat} {x y : Nat × Nat} (oa : okD a) (ob : okD b) (h : DV σ a x) (k : DV σ b y) : f_X2_compareWith n a b σ = some (cmN (x.1 * y.2) (y.1 * x.2), σ) := by
  obtain ⟨u, w, v, h1, h2, h3, h4, h5, rfl⟩ := h
  obtain ⟨U, W, V, k1, k2, k3, k4, k5, rfl⟩ := k
  rw [f_X2_compareWith, gd_pos oa, gd_pos ob, k1.1, k1.2.1, k1.2.2, e_compareParts oa h1 h2 h3 h4 k2 k3 k4, bd]
def Rw30 (σ : xσ) : Prop := ∀ i, i < 200 → sR σ 30 i = some (31 + i)
def DsS (σ : xσ) (cs : Nat → Ct) (p : V2) (m : Nat) : Prop := ∀ j, j < m → ∃ x, DV σ (31 + j) x ∧ DMn (cs j) p x
set_option maxHeartbeats 200000 in
theorem DV.fk {σ σ' : xσ} {a : Nat} {x : Nat × Nat} {P : Nat → Nat → Prop} (h : DV σ a x) (f : Fk P σ σ') (hP : ∀ k, ¬ P a k) : DV σ' a x := by
  obtain ⟨u, w, v, ⟨h1, h2, h3⟩, hh⟩ := h
  exact ⟨u, w, v, ⟨by rw [(f a 0 (hP 0)).2.1]; exact h1, by rw [(f a 1 (hP 1)).2.1]; exact h2, by rw [(f a 2 (hP 2)).2.1]; exact h3⟩, hh⟩
set_option maxHeartbeats 200000 in
theorem l_sort71 {n i lo : Nat} (hi : i < 200) (hlo : lo ≤ i) {g : Nat → Nat} : ∀ r f j σ, r < f → lo + r = j → j ≤ i → (∀ t, t < j → sI σ 231 t = nI (g t)) → (∀ t, j < t → t ≤ i → sI σ 231 t = nI (g (t - 1))) → ∃ σ', l_X10_sortIn_71 n f (nI i) (nI lo) (nI j) σ = some ((), σ') ∧ Fk (fun b _ => b = 231) σ σ' ∧ ∀ t, t ≤ i → sI σ' 231 t = nI (insF g i lo t) := by
  intro r
  induction r with
  | zero =>
    intro f j σ hf hj hji h1 h2
    obtain ⟨q, rfl⟩ : ∃ q, f = q + 1 := ⟨f - 1, by omega⟩
    have : j = lo := by omega
    subst this
    rw [l_X10_sortIn_71, if_pos ((nI_e' (by omega) (by omega)).mpr (Nat.le_refl _)), gd_in (by omega) (by omega), nI_k (by omega), st]
    refine ⟨_, rfl, Fk.wI rfl, fun t ht => ?_⟩
    unfold insF
    rw [sI_wI]
    by_cases e : t = j
    · rw [if_pos ⟨rfl, e⟩, if_neg (by omega), if_pos e]
    · rw [if_neg (fun y => e y.2)]
      by_cases l : t < j
      · rw [if_pos l]; exact h1 t l
      · rw [if_neg l, if_neg e]; exact h2 t (by omega) ht
  | succ r ih =>
    intro f j σ hf hj hji h1 h2
    obtain ⟨q, rfl⟩ : ∃ q, f = q + 1 := ⟨f - 1, by omega⟩
    have m1 : nI j - 1 = nI (j - 1) := nIm1 (by omega)
    have m2 : nI j + (-1) = nI (j - 1) := nI_m1' (by omega)
    have i1 : ∀ {α : Type} (y : Option α), gd (inb (nI j) 200) y = y := fun y => gd_in (by omega) (by omega)
    have i2 : ∀ {α : Type} (y : Option α), gd (inb (nI (j - 1)) 200) y = y := fun y => gd_in (by omega) (by omega)
    have nIk : (nI j).toNatClampNeg = j := nI_k (by omega)
    have nIk2 : (nI (j - 1)).toNatClampNeg = j - 1 := nI_k (by omega)
    rw [l_X10_sortIn_71, if_neg (fun y => by have := (nI_e' (by omega) (by omega)).mp y; omega), m1, m2]
    simp only [i1, i2, nIk, nIk2, st, h1 (j - 1) (by omega)]
    have F : Fk (fun b _ => b = 231) σ (wI σ 231 j (nI (g (j - 1)))) := Fk.wI rfl
    obtain ⟨σ', t1, t2, t3⟩ := ih q (j - 1) (wI σ 231 j (nI (g (j - 1)))) (by omega) (by omega) (by omega) (fun t ht => by rw [sI_wI, if_neg (by omega)]; exact h1 t (by omega)) (fun t a b => by
      rw [sI_wI]
      by_cases e : t = j
      · rw [if_pos ⟨rfl, e⟩, e]
      · rw [if_neg (fun y => e y.2)]; exact h2 t (by omega) b)
    exact ⟨σ', t1, F.trans t2, t3⟩
set_option maxHeartbeats 200000 in
theorem l_sort7 {n i : Nat} {σ : xσ} {cs : Nat → Ct} {p : V2} (hi : i < 200) (hc : ∀ j, j ≤ i → WF (cs j) ∧ Val (cs j)) (R : Rw30 σ) (D : DsS σ cs p (i + 1)) (ho : ∀ t, t < i → sI σ 231 t = nI (ordS cs p i t)) : ∀ r f lo hi' st', hi' - lo ≤ r → r < f → lo ≤ hi' → hi' ≤ i → st' + (hi' - lo) ≤ i → (∀ j, j < lo → ¬ gtD (cs (ordS cs p i j)) (cs i) p) → (∀ j, hi' ≤ j → j < i → gtD (cs (ordS cs p i j)) (cs i) p) → ∃ σ', l_X10_sortIn_7 n f (nI i) (nI lo) (nI hi') (nI st') σ = some ((), σ') ∧ Fk (fun b _ => b = 231) σ σ' ∧ ∀ t, t ≤ i → sI σ' 231 t = nI (ordS cs p (i + 1) t) := by
  intro r
  have done : ∀ lo, lo ≤ i → (∀ j, j < lo → ¬ gtD (cs (ordS cs p i j)) (cs i) p) → (∀ j, lo ≤ j → j < i → gtD (cs (ordS cs p i j)) (cs i) p) → ∃ σ', l_X10_sortIn_71 n xFU (nI i) (nI lo) (nI i) σ = some ((), σ') ∧ Fk (fun b _ => b = 231) σ σ' ∧ ∀ t, t ≤ i → sI σ' 231 t = nI (ordS cs p (i + 1) t) := by
    intro lo hlo h1 h2
    have e := insQ_u (g := fun t => gtD (cs (ordS cs p i t)) (cs i) p) hlo h1 h2
    obtain ⟨σ', t1, t2, t3⟩ := l_sort71 (n := n) hi hlo (g := ordS cs p i) (i - lo) xFU i σ (xFU_lt (by omega)) (by omega) (Nat.le_refl _) ho (fun t a b => by omega)
    refine ⟨σ', t1, t2, fun t ht => ?_⟩
    rw [t3 t ht, ordS, ← e]
  induction r with
  | zero =>
    intro f lo hi' st' h0 hf hl hh hs h1 h2
    obtain ⟨q, rfl⟩ : ∃ q, f = q + 1 := ⟨f - 1, by omega⟩
    have : hi' = lo := by omega
    subst this
    have fin := done hi' hh h1 h2
    rw [l_X10_sortIn_7]
    by_cases z : 200 ≤ st'
    · rw [if_pos ((nIg200 (by omega)).mpr z)]; exact fin
    · rw [if_neg (fun y => z ((nIg200 (by omega)).mp y)), if_pos ((nI_e' (by omega) (by omega)).mpr (Nat.le_refl _))]; exact fin
  | succ r ih =>
    intro f lo hi' st' h0 hf hl hh hs h1 h2
    obtain ⟨q, rfl⟩ : ∃ q, f = q + 1 := ⟨f - 1, by omega⟩
    by_cases e : hi' = lo
    · subst e
      have fin := done hi' hh h1 h2
      rw [l_X10_sortIn_7]
      by_cases z : 200 ≤ st'
      · rw [if_pos ((nIg200 (by omega)).mpr z)]; exact fin
      · rw [if_neg (fun y => z ((nIg200 (by omega)).mp y)), if_pos ((nI_e' (by omega) (by omega)).mpr (Nat.le_refl _))]; exact fin
    · have mid : (nI lo + nI hi') / 2 = nI ((lo + hi') / 2) := by
        rw [nI_ad]; exact nI_div (b := 2) (by omega) (by omega) (by omega)
      generalize hm : (lo + hi') / 2 = m at *
      have m1 : lo ≤ m ∧ m < hi' := by omega
      have om := ordS_b cs p i m (by omega)
      obtain ⟨x, x1, x2⟩ := D (ordS cs p i m) (by omega)
      obtain ⟨y, y1, y2⟩ := D i (by omega)
      have c1 := hc (ordS cs p i m) (by omega)
      have c2 := hc i (Nat.le_refl _)
      have oa : okD (31 + ordS cs p i m) := ⟨by omega, by omega⟩
      have ob : okD (31 + i) := ⟨by omega, by omega⟩
      have gs := gtD_s c1.1 c1.2 c2.1 c2.2 x2 x1.pos y2 y1.pos
      have i1 : ∀ {α : Type} (y : Option α), gd (inb (nI m) 200) y = y := fun y => gd_in (by omega) (by omega)
      have i2 : ∀ {α : Type} (y : Option α), gd (inb (nI (ordS cs p i m)) 200) y = y := fun y => gd_in (by omega) (by omega)
      have i3 : ∀ {α : Type} (y : Option α), gd (inb (nI i) 200) y = y := fun y => gd_in (by omega) (by omega)
      have k1 : (nI m).toNatClampNeg = m := nI_k (by omega)
      have k2 : (nI (ordS cs p i m)).toNatClampNeg = ordS cs p i m := nI_k (by omega)
      have k3 : (nI i).toNatClampNeg = i := nI_k (by omega)
      rw [l_X10_sortIn_7, if_neg (fun y => by have := (nIg200 (show st' < 2147483648 by omega)).mp y; omega), if_neg (fun y => by have := (nI_e' (by omega) (by omega)).mp y; omega), mid, st]
      simp only [i1, k1, ho m (by omega), i2, k2, R _ (show ordS cs p i m < 200 by omega), nn, i3, k3, R i hi]
      rw [gd_pos oa, gd_pos ob, e_cmpW oa ob x1 y1, bd]
      simp only [cmN_le]
      by_cases z : x.1 * y.2 ≤ y.1 * x.2
      · have ng : ¬ gtD (cs (ordS cs p i m)) (cs i) p := fun t => (gs.mp t) z
        rw [if_pos z, nI_s, st, b_X10_sortIn_62, nI_s]
        exact ih q (m + 1) hi' (st' + 1) (by omega) (by omega) (by omega) hh (by omega) (fun j hj => by
          by_cases e2 : j = m
          · rw [e2]; exact ng
          · exact gtD_nt (ordS_s cs p i j m (by omega) (by omega)) ng) h2
      · have g : gtD (cs (ordS cs p i m)) (cs i) p := gs.mpr z
        rw [if_neg z, b_X10_sortIn_62, nI_s]
        exact ih q lo m (st' + 1) (by omega) (by omega) (by omega) (by omega) (by omega) h1 (fun j a b => by
          by_cases e2 : j = m
          · rw [e2]; exact g
          · refine Classical.byContradiction (fun t => ?_)
            exact gtD_nt (ordS_s cs p i m j (by omega) b) t g)

/-! NEAR and JOIN of the reference -/
def Rw74 (σ : xσ) : Prop := ∀ i, i < 200 → sR σ 1874 i = some (1876 + 3 * i)
set_option maxHeartbeats 200000 in
theorem Rw74.m {σ σ' : xσ} (h : Rw74 σ) (f : Fm PXm σ σ') : Rw74 σ' := fun i hi => by rw [(f.2 1874 i (by decide) (fun y => by unfold PXm at y; omega)).2]; exact h i hi
set_option maxHeartbeats 200000 in
theorem Rw74.fk {σ σ' : xσ} {P : Nat → Nat → Prop} (h : Rw74 σ) (f : Fk P σ σ') (hP : ∀ k, ¬ P 1874 k) : Rw74 σ' := fun i hi => by rw [(f 1874 i (hP i)).2.2]; exact h i hi
set_option maxHeartbeats 200000 in
theorem okE_i {i : Nat} (h : i < 200) : okE (1876 + 3 * i) := by unfold okE; omega
def DsM (σ : xσ) (cs : Nat → Ct) (p : V2) (m : Nat) : Prop := ∀ j, j < m → ∃ x, EV σ (1876 + 3 * j) x ∧ DRn (cs j) p x
set_option maxHeartbeats 200000 in
theorem DsM.fk {σ σ' : xσ} {cs : Nat → Ct} {p : V2} {m : Nat} {P : Nat → Nat → Prop} (h : DsM σ cs p m) (f : Fk P σ σ') (hP : ∀ j k, j < m → ¬ P (1876 + 3 * j + 1) k ∧ ¬ P (1876 + 3 * j + 2) k) : DsM σ' cs p m := fun j hj => by
  obtain ⟨x, ⟨e1, e2, e3⟩, d⟩ := h j hj
  exact ⟨x, ⟨fun k hk => ((f _ k (hP j k hj).1).2.1).trans (e1 k hk), fun k hk => ((f _ k (hP j k hj).2).2.1).trans (e2 k hk), e3⟩, d⟩
def PN5 (b _ : Nat) : Prop := b = 1875 ∨ A47 b
set_option maxHeartbeats 200000 in
theorem lm_near60 {n : Nat} {cs : Nat → Ct} {p : V2} {i : Nat} (hi : i < 200) (K : Int32 → Int32 → Int32 → Int32 → xσ → Option (Unit × xσ)) (x1 x2 x3 : Int32) : ∀ t f σ, t < f → t ≤ i → Rw74 σ → DsM σ cs p (i + 1) → insQ (fun t => gtD (cs (ordS cs p i t)) (cs i) p) t = insQ (fun t => gtD (cs (ordS cs p i t)) (cs i) p) i → (∀ j, j < t → sI σ 1875 j = nI (ordS cs p i j)) → (∀ j, t < j → j ≤ i → sI σ 1875 j = nI (ordS cs p i (j - 1))) → ∃ σ', l_X14_near_60 n K f x1 x2 x3 (nI i) (nI t) σ = K x1 x2 x3 (nI (i + 1)) σ' ∧ Fk PN5 σ σ' ∧ ∀ j, j < i + 1 → sI σ' 1875 j = nI (ordS cs p (i + 1) j) := by
  intro t
  have fin : ∀ t σ, t ≤ i → t = insQ (fun t => gtD (cs (ordS cs p i t)) (cs i) p) i → (∀ j, j < t → sI σ 1875 j = nI (ordS cs p i j)) → (∀ j, t < j → j ≤ i → sI σ 1875 j = nI (ordS cs p i (j - 1))) → ∀ j, j < i + 1 → sI (wI σ 1875 t (nI i)) 1875 j = nI (ordS cs p (i + 1) j) := by
    intro t σ ht hq lo hi2 j hj
    rw [ordS, ← hq]
    unfold insF
    by_cases a : j < t
    · rw [if_pos a, sI_wI, if_neg (by omega)]; exact lo j a
    · rw [if_neg a]
      by_cases b : j = t
      · rw [if_pos b, b, sI_own]
      · rw [if_neg b, sI_wI, if_neg (by omega)]; exact hi2 j (by omega) (by omega)
  induction t with
  | zero =>
    intro f σ hf ht R D hq lo hi2
    obtain ⟨g, rfl⟩ : ∃ g, f = g + 1 := ⟨f - 1, by omega⟩
    rw [l_X14_near_60, if_pos (by decide), gd_in (by omega) (by omega), nI_k (by omega), st, nI_s]
    exact ⟨_, rfl, Fk.wI (Or.inl rfl), fin 0 σ (by omega) hq lo hi2⟩
  | succ t ih =>
    intro f σ hf ht R D hq lo hi2
    obtain ⟨g, rfl⟩ : ∃ g, f = g + 1 := ⟨f - 1, by omega⟩
    have ob := ordS_b cs p i t (by omega)
    have i1 : ∀ {α : Type} (y : Option α), gd (inb (nI t) 200) y = y := fun y => gd_in (by omega) (by omega)
    have i2 : ∀ {α : Type} (y : Option α), gd (inb (nI (t + 1)) 200) y = y := fun y => gd_in (by omega) (by omega)
    have i3 : ∀ {α : Type} (y : Option α), gd (inb (nI (ordS cs p i t)) 200) y = y := fun y => gd_in (by omega) (by omega)
    have i4 : ∀ {α : Type} (y : Option α), gd (inb (nI i) 200) y = y := fun y => gd_in (by omega) (by omega)
    have k1 : (nI t).toNatClampNeg = t := nI_k (by omega)
    have k2 : (nI (t + 1)).toNatClampNeg = t + 1 := nI_k (by omega)
    have k3 : (nI (ordS cs p i t)).toNatClampNeg = ordS cs p i t := nI_k (by omega)
    have k4 : (nI i).toNatClampNeg = i := nI_k (by omega)
    have m1 : nI (t + 1) - 1 = nI t := by rw [nIm1 (by omega), Nat.add_sub_cancel]
    have m2 : nI (t + 1) + (-1) = nI t := by rw [nI_m1' (by omega), Nat.add_sub_cancel]
    obtain ⟨x, dx, ex⟩ := D (ordS cs p i t) (by omega)
    obtain ⟨y, dy, ey⟩ := D i (by omega)
    have o1 := okE_i (show ordS cs p i t < 200 by omega)
    have o2 := okE_i hi
    obtain ⟨σ1, c1, c2⟩ := m_cmpD (n := n) o1 o2 dx dy
    have F1 : Fk PN5 σ σ1 := (Fk.of c2).mono (fun b k y => Or.inr y)
    have z5 : ∀ j, sI σ1 1875 j = sI σ 1875 j := fun j => (c2 1875 (by unfold A47; omega) j).1
    rw [l_X14_near_60, if_neg (fun y => by have := (nIe0 (show t + 1 < 2147483648 by omega)).mp y; omega)]
    simp only [m1, i1, k1, lo t (by omega), i3, k3, R _ (show ordS cs p i t < 200 by omega), nn, i4, k4, R i hi, i2, k2]
    rw [gd_pos o1, gd_pos o2, c1, bd]
    simp only [cmN_le]
    have gr := gtD_r ex dx.2.2.2.2 ey dy.2.2.2.2
    rw [insQ] at hq
    by_cases q : x.1 * y.2 ≤ y.1 * x.2
    · have ng : ¬ gtD (cs (ordS cs p i t)) (cs i) p := fun y => (gr.mp y) q
      rw [ifP_f ng] at hq
      rw [if_pos q, st, nI_s]
      exact ⟨_, rfl, F1.trans (Fk.wI (Or.inl rfl)), fin (t + 1) σ1 ht hq (fun j hj => by rw [z5]; exact lo j hj) (fun j a b => by rw [z5]; exact hi2 j a b)⟩
    · have yg : gtD (cs (ordS cs p i t)) (cs i) p := gr.mpr q
      rw [ifP_t yg] at hq
      have e5 : sI σ1 1875 t = nI (ordS cs p i t) := by rw [z5]; exact lo t (by omega)
      rw [if_neg q, e5, st, m2]
      have F2 : Fk PN5 σ (wI σ1 1875 (t + 1) (nI (ordS cs p i t))) := F1.trans (Fk.wI (Or.inl rfl))
      obtain ⟨σ2, v1, v2, v3⟩ := ih g (wI σ1 1875 (t + 1) (nI (ordS cs p i t))) (by omega) (by omega) (R.fk F2 (fun k y => by unfold PN5 A47 at y; omega)) (D.fk F2 (fun j k hj => ⟨fun y => by unfold PN5 A47 at y; omega, fun y => by unfold PN5 A47 at y; omega⟩)) hq (fun j hj => by rw [sI_wI, if_neg (by omega), z5]; exact lo j (by omega)) (fun j a b => by
        by_cases e : j = t + 1
        · rw [e, sI_own]; rfl
        · rw [sI_wI, if_neg (by omega), z5]; exact hi2 j (by omega) b)
      exact ⟨σ2, v1, F2.trans v2, v3⟩
set_option maxHeartbeats 200000 in
theorem lm_near137 {n : Nat} {k : Kp} (o : okK k) {m K : Nat} (hm : m = tC (kL k)) (hK : K ≤ 200) {g : Nat → Nat} (hg : ∀ t, t < m → g t < m) {w : Ou} (hw : w.1 < 20000) : ∀ r f i σ a, r < f → i + r = min K m → KM σ k → (∀ t, t < m → sI σ 1875 t = nI (g t)) → AnM σ w a → a.1 + r < 1000 → StQ σ (l_X14_near_137 n f (nI K) (nI i) σ) k w 1 (0, fiA (fun _ => True) (fun i => tI (kL k) (g i)) r i a) := by
  have l2 := o.1.1.1
  intro r
  induction r with
  | zero =>
    intro f i σ a hf hi h ho hA ha
    obtain ⟨q, rfl⟩ : ∃ q, f = q + 1 := ⟨f - 1, by omega⟩
    obtain ⟨u, T⟩ := h.1.1
    rw [l_X14_near_137, T.1.2.1]
    by_cases z : tC (kL k) ≤ i
    · rw [if_pos ((nI_e' (by omega) (by omega)).mpr z)]; exact m_endAnswers h hA hw (by omega) (Or.inl rfl)
    · rw [if_neg (fun y => z ((nI_e' (by omega) (by omega)).mp y)), if_pos ((nI_e' (by omega) (by omega)).mpr (by omega))]; exact m_endAnswers h hA hw (by omega) (Or.inl rfl)
  | succ r ih =>
    intro f i σ a hf hi h ho hA ha
    obtain ⟨q, rfl⟩ : ∃ q, f = q + 1 := ⟨f - 1, by omega⟩
    obtain ⟨u, T⟩ := h.1.1
    have gi := hg i (by omega)
    obtain ⟨r0, r1, r2, r3, r4, r5⟩ := KM.row T o (show g i < tC (kL k) by omega)
    have i1 : ∀ {α : Type} (y : Option α), gd (inb (nI i) 200) y = y := fun y => gd_in (by omega) (by omega)
    have i2 : ∀ {α : Type} (y : Option α), gd (inb (nI (g i)) 200) y = y := fun y => gd_in (by omega) (by omega)
    have k1 : (nI i).toNatClampNeg = i := nI_k (by omega)
    have k2 : (nI (g i)).toNatClampNeg = g i := nI_k (by omega)
    obtain ⟨σ1, u1, u2, u3⟩ := m_answer (n := n) hA (by omega) (tI (kL k) (g i))
    rw [l_X14_near_137, T.1.2.1, if_neg (fun y => by have := (nI_e' (by omega) (by omega)).mp y; omega), if_neg (fun y => by have := (nI_e' (by omega) (by omega)).mp y; omega)]
    simp only [i1, k1, ho i (by omega), i2, k2, r1, nn]
    rw [gd_pos r0, r5, u1, bd, nI_s, fiA, ifP_t trivial]
    exact (ih q (i + 1) σ1 _ (by omega) (by omega) (h.am u2) (fun t ht => by rw [(u2 1875 t (fun y => by unfold PAm at y; omega)).1]; exact ho t ht) u3 (by show a.1 + 1 + r < 1000; omega)).of (u2.mono (fun _ _ => PAm_x)).m
set_option maxHeartbeats 200000 in
theorem lm_near21 {n : Nat} {k : Kp} (o : okK k) {K : Nat} {p : V2} (hp : bV p) {w : Ou} : ∀ r f i σ, r < f → i + r = tC (kL k) → KM σ k → Rw74 σ → DsM σ (tS (kL k)) p i → (∀ t, t < i → sI σ 1875 t = nI (ordS (tS (kL k)) p i t)) → OM σ w → ∃ σ', l_X14_near_21 n f (nI K) (iI p.1) (iI p.2) (nI i) σ = bd (f_X14_beginAnswers n σ') (fun v102 σ103 => l_X14_near_137 n xFU (nI K) 0 σ103) ∧ Fm PXm σ σ' ∧ KM σ' k ∧ OM σ' w ∧ ∀ t, t < tC (kL k) → sI σ' 1875 t = nI (ordS (tS (kL k)) p (tC (kL k)) t) := by
  have l2 := o.1.1.1
  intro r
  induction r with
  | zero =>
    intro f i σ hf hi h R D ho hA
    obtain ⟨q, rfl⟩ : ∃ q, f = q + 1 := ⟨f - 1, by omega⟩
    obtain ⟨u, T⟩ := h.1.1
    rw [l_X14_near_21, T.1.2.1, if_pos ((nI_e' (by omega) (by omega)).mpr (by omega))]
    rw [show i = tC (kL k) by omega] at ho
    exact ⟨σ, rfl, Fm.refl, h, hA, ho⟩
  | succ r ih =>
    intro f i σ hf hi h R D ho hA
    obtain ⟨q, rfl⟩ : ∃ q, f = q + 1 := ⟨f - 1, by omega⟩
    obtain ⟨u, T⟩ := h.1.1
    obtain ⟨r0, r1, r2, r3, r4, r5⟩ := KM.row T o (show i < tC (kL k) by omega)
    have i1 : ∀ {α : Type} (y : Option α), gd (inb (nI i) 200) y = y := fun y => gd_in (by omega) (by omega)
    have k1 : (nI i).toNatClampNeg = i := nI_k (by omega)
    have oi := okE_i (show i < 200 by omega)
    obtain ⟨σ1, x, t1, t2, t3, t4⟩ := m_distance (n := n) oi (by omega) r2 r3 hp
    have F1 := Fk.of t2
    have h1 : KM σ1 k := h.fk F1 (fun j hj y => by unfold AT AH at y; omega) (fun b j a1 a2 y => by unfold AT AH at y; omega)
    have O1 : OM σ1 w := hA.fk F1 (fun y => by unfold AT AH at y; omega) (fun k y => by unfold AT AH at y; omega)
    have R1 : Rw74 σ1 := R.fk F1 (fun k y => by unfold AT AH at y; omega)
    have D0 : DsM σ1 (tS (kL k)) p i := D.fk F1 (fun j k hj => ⟨fun y => by unfold AT AH at y; omega, fun y => by unfold AT AH at y; omega⟩)
    have D1 : DsM σ1 (tS (kL k)) p (i + 1) := fun j hj => by
      by_cases e : j = i
      · rw [e]; exact ⟨x, t3, t4⟩
      · exact D0 j (by omega)
    have z5 : ∀ j, sI σ1 1875 j = sI σ 1875 j := fun j => (F1 1875 j (by unfold AT AH; omega)).1
    obtain ⟨σ2, v1, v2, v3⟩ := lm_near60 (n := n) (cs := tS (kL k)) (p := p) (show i < 200 by omega) (l_X14_near_21 n q) (nI K) (iI p.1) (iI p.2) i xFU σ1 (xFU_lt (by omega)) (Nat.le_refl _) R1 D1 rfl (fun j hj => by rw [z5]; exact ho j hj) (fun j a b => by omega)
    have h2 : KM σ2 k := h1.fk v2 (fun j hj y => by unfold PN5 A47 at y; omega) (fun b j a1 a2 y => by unfold PN5 A47 at y; omega)
    have O2 : OM σ2 w := O1.fk v2 (fun y => by unfold PN5 A47 at y; omega) (fun k y => by unfold PN5 A47 at y; omega)
    obtain ⟨σ3, w1, w2, w3, w4, w5⟩ := ih q (i + 1) σ2 (by omega) (by omega) h2 (R1.fk v2 (fun k y => by unfold PN5 A47 at y; omega)) (D1.fk v2 (fun j k hj => ⟨fun y => by unfold PN5 A47 at y; omega, fun y => by unfold PN5 A47 at y; omega⟩)) v3 O2
    rw [l_X14_near_21, T.1.2.1, if_neg (fun y => by have := (nI_e' (by omega) (by omega)).mp y; omega)]
    simp only [i1, k1, r1, nn, R i (show i < 200 by omega)]
    rw [gd_pos r0, gd_pos oi, t1, bd, v1]
    have G1 : Fk PXm σ σ1 := F1.mono (fun b k y => by unfold AT AH at y; unfold PXm; omega)
    have G2 : Fk PXm σ1 σ2 := v2.mono (fun b k y => by unfold PN5 A47 at y; unfold PXm; omega)
    exact ⟨σ3, w1, (G1.m.trans G2.m).trans w2, w3, w4, w5⟩
set_option maxHeartbeats 200000 in
theorem m_nearQ {n : Nat} {σ : xσ} {k : Kp} (h : KM σ k) (o : okK k) (R : Rw74 σ) {K : Int} (hK : b30 K) {p : V2} (hp : bV p) {w : Ou} (hO : OM σ w) (hw : w.1 < 20000) : StQ σ (f_X14_near n (iI K) (iI p.1) (iI p.2) σ) k w 1 (nearA k K p) := by
  have l2 := o.1.1.1
  rw [f_X14_near]
  simp only [iIl1 hK.r, iIe200 hK.r]
  unfold nearA
  by_cases q1 : K < 1
  · rw [if_pos q1, ifP_t (Or.inl q1)]; exact m_sayQ h hO (by omega) (v := 5) (by decide) rfl
  rw [if_neg q1]
  by_cases q2 : K ≤ 200
  · rw [if_pos q2, ifP_f (by omega)]
    have eK : ((K.toNat : Nat) : Int) = K := Int.toNat_of_nonneg (by omega)
    obtain ⟨σ1, t1, t2, t3, t4, t5⟩ := lm_near21 (n := n) o (K := K.toNat) hp (w := w) (tC (kL k)) xFU 0 σ (xFU_lt (by omega)) (by omega) h R (fun j hj => by omega) (fun t ht => by omega) hO
    obtain ⟨σ2, u1, u2, u3⟩ := m_beginAnswers (n := n) t4
    have v := lm_near137 (n := n) o (m := tC (kL k)) (K := K.toNat) rfl (by omega) (g := ordS (tS (kL k)) p (tC (kL k))) (fun t ht => ordS_b _ _ _ t ht) hw (min K.toNat (tC (kL k))) xFU 0 σ2 an0 (xFU_lt (by omega)) (by omega) (t3.am u2) (fun t ht => by rw [(u2 1875 t (fun y => by unfold PAm at y; omega)).1]; exact t5 t ht) u3 (by show 0 + _ < 1000; omega)
    rw [show nI 0 = 0 from rfl, nI_i K.toNat, eK] at t1
    rw [show nI 0 = 0 from rfl, nI_i K.toNat, eK] at v
    rw [t1, u1, bd]
    exact (v.of (u2.mono (fun _ _ => PAm_x)).m).of t2
  · rw [if_neg q2, ifP_t (Or.inr (by omega))]; exact m_sayQ h hO (by omega) (v := 5) (by decide) rfl

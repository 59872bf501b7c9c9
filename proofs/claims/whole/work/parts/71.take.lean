/-! THE REFERENCE: shapes in the making -/
def MB (σ : xσ) (a k j r : Nat) (V : Nat → V2) (E : Nat → Nat) : Prop := (sI σ a 1 = nI k ∧ sI σ a 2 = nI j ∧ sI σ a 3 = nI r) ∧ (∀ i, i < j → sI σ (a + 2) i = iI (V i).1 ∧ sI σ (a + 3) i = iI (V i).2) ∧ (∀ q, q < r → sI σ (a + 1) q = nI (E q))
def A4a (a b : Nat) : Prop := a ≤ b ∧ b < a + 4
set_option maxHeartbeats 200000 in
theorem MB.MH {σ : xσ} {a : Nat} {c : Ct} (g : okM a) (h : MB σ a (cK c) (cN c) (cR c) (cV c) (cE c)) : MH σ a c := ⟨g, h.1, h.2.1, h.2.2⟩
set_option maxHeartbeats 200000 in
theorem MB.cg {σ : xσ} {a k j r : Nat} {V V' : Nat → V2} {E E' : Nat → Nat} (h : MB σ a k j r V E) (h1 : ∀ i, i < j → V i = V' i) (h2 : ∀ q, q < r → E q = E' q) : MB σ a k j r V' E' := ⟨h.1, fun i hi => by rw [← h1 i hi]; exact h.2.1 i hi, fun q hq => by rw [← h2 q hq]; exact h.2.2 q hq⟩
def set' {α : Type} (f : Nat → α) (i : Nat) (v : α) : Nat → α := fun j => if j = i then v else f j
set_option maxHeartbeats 200000 in
theorem m_begin {n : Nat} {σ : xσ} {a k : Nat} (g : okM a) (V : Nat → V2) (E : Nat → Nat) : ∃ σ', f_X12_begin n a (nI k) σ = some ((), σ') ∧ Fr (A4a a) σ σ' ∧ sI σ' a 0 = sI σ a 0 ∧ MB σ' a k 0 0 V E := by
  rw [f_X12_begin, gd_pos g]
  simp only [st]
  have f : ∀ {s : xσ} {i : Nat} {v : Int32}, Fr (A4a a) s (wI s a i v) := Fr.wI (by unfold A4a; omega)
  refine ⟨_, rfl, (f.trans f).trans f, ?_, ⟨?_, ?_, ?_⟩, fun i hi => by omega, fun q hq => by omega⟩
  · rw [sI_wI, if_neg (by omega), sI_wI, if_neg (by omega), sI_wI, if_neg (by omega)]
  · rw [sI_wI, if_neg (by omega), sI_wI, if_neg (by omega), sI_wI, if_pos ⟨rfl, rfl⟩]
  · rw [sI_wI, if_neg (by omega), sI_wI, if_pos ⟨rfl, rfl⟩]; rfl
  · rw [sI_wI, if_pos ⟨rfl, rfl⟩]; rfl
set_option maxHeartbeats 200000 in
theorem m_add {n : Nat} {σ : xσ} {a k j r : Nat} {V : Nat → V2} {E : Nat → Nat} (g : okM a) (h : MB σ a k j r V E) (hj : j < 40) (x y : Int) : ∃ σ', f_X12_add n a (iI x) (iI y) σ = some ((), σ') ∧ Fr (A4a a) σ σ' ∧ sI σ' a 0 = sI σ a 0 ∧ MB σ' a k (j + 1) r (set' V j (x, y)) E := by
  obtain ⟨⟨h1, h2, h3⟩, h4, h5⟩ := h
  rw [f_X12_add, gd_pos g, h2]
  simp (disch := omega) only [gd_in, nI_k, st]
  have e1 : sI (wI σ (a + 2) j (iI x)) a 2 = nI j := by rw [sI_wI, if_neg (by omega)]; exact h2
  rw [e1]
  simp (disch := omega) only [gd_in, nI_k]
  have e2 : sI (wI (wI σ (a + 2) j (iI x)) (a + 3) j (iI y)) a 2 = nI j := by rw [sI_wI, if_neg (by omega)]; exact e1
  rw [e2, nI_s]
  have f : ∀ {s : xσ} {b i : Nat} {v : Int32}, a ≤ b → b < a + 4 → Fr (A4a a) s (wI s b i v) := fun p q => Fr.wI ⟨p, q⟩
  refine ⟨_, rfl, ((f (by omega) (by omega)).trans (f (by omega) (by omega))).trans (f (by omega) (by omega)), ?_, ⟨?_, ?_, ?_⟩, fun i hi => ⟨?_, ?_⟩, fun q hq => ?_⟩
  · rw [sI_wI, if_neg (by omega), sI_wI, if_neg (by omega), sI_wI, if_neg (by omega)]
  · rw [sI_wI, if_neg (by omega), sI_wI, if_neg (by omega), sI_wI, if_neg (by omega)]; exact h1
  · rw [sI_wI, if_pos ⟨rfl, rfl⟩]
  · rw [sI_wI, if_neg (by omega), sI_wI, if_neg (by omega), sI_wI, if_neg (by omega)]; exact h3
  · unfold set'
    by_cases z : i = j
    · subst z
      rw [sI_wI, if_neg (by omega), sI_wI, if_neg (by omega), sI_wI, if_pos ⟨rfl, rfl⟩, if_pos rfl]
    · rw [sI_wI, if_neg (by omega), sI_wI, if_neg (by omega), sI_wI, if_neg (by omega), if_neg z]
      exact (h4 i (by omega)).1
  · unfold set'
    by_cases z : i = j
    · subst z
      rw [sI_wI, if_neg (by omega), sI_wI, if_pos ⟨rfl, rfl⟩, if_pos rfl]
    · rw [sI_wI, if_neg (by omega), sI_wI, if_neg (by omega), sI_wI, if_neg (by omega), if_neg z]
      exact (h4 i (by omega)).2
  · rw [sI_wI, if_neg (by omega), sI_wI, if_neg (by omega), sI_wI, if_neg (by omega)]; exact h5 q hq
set_option maxHeartbeats 200000 in
theorem m_endRing {n : Nat} {σ : xσ} {a k j r : Nat} {V : Nat → V2} {E : Nat → Nat} (g : okM a) (h : MB σ a k j r V E) (hr : r < 8) : ∃ σ', f_X12_endRing n a σ = some ((), σ') ∧ Fr (A4a a) σ σ' ∧ sI σ' a 0 = sI σ a 0 ∧ MB σ' a k j (r + 1) V (set' E r j) := by
  obtain ⟨⟨h1, h2, h3⟩, h4, h5⟩ := h
  rw [f_X12_endRing, gd_pos g, h3]
  simp (disch := omega) only [gd_in, nI_k, st]
  have e1 : sI (wI σ (a + 1) r (sI σ a 2)) a 3 = nI r := by rw [sI_wI, if_neg (by omega)]; exact h3
  rw [e1, nI_s, h2]
  have f : ∀ {s : xσ} {b i : Nat} {v : Int32}, a ≤ b → b < a + 4 → Fr (A4a a) s (wI s b i v) := fun p q => Fr.wI ⟨p, q⟩
  refine ⟨_, rfl, (f (by omega) (by omega)).trans (f (by omega) (by omega)), ?_, ⟨?_, ?_, ?_⟩, fun i hi => ⟨?_, ?_⟩, fun q hq => ?_⟩
  · rw [sI_wI, if_neg (by omega), sI_wI, if_neg (by omega)]
  · rw [sI_wI, if_neg (by omega), sI_wI, if_neg (by omega)]; exact h1
  · rw [sI_wI, if_neg (by omega), sI_wI, if_neg (by omega)]; exact h2
  · rw [sI_wI, if_pos ⟨rfl, rfl⟩]
  · rw [sI_wI, if_neg (by omega), sI_wI, if_neg (by omega)]; exact (h4 i hi).1
  · rw [sI_wI, if_neg (by omega), sI_wI, if_neg (by omega)]; exact (h4 i hi).2
  · unfold set'
    by_cases z : q = r
    · subst z
      rw [sI_wI, if_neg (by omega), sI_wI, if_pos ⟨rfl, rfl⟩, if_pos rfl]
    · rw [sI_wI, if_neg (by omega), sI_wI, if_neg (by omega), if_neg z]; exact h5 q (by omega)
/-- a ring as a shape of its own -/
def rgC (c : Ct) (r k : Nat) : Ct := (k, cE c r - sr c r, 1, fun i => cV c (sr c r + i), fun _ => cE c r - sr c r)
set_option maxHeartbeats 200000 in
theorem rgC_WF {c : Ct} (F : WF c) {r k : Nat} (hr : r < cR c) (hk : k = 1 ∨ k = 2) : WF (rgC c r k) := by
  have h1 := sr_lt F hr
  have h2 := F.e hr
  have h3 := F.n
  refine ⟨⟨?_, ?_, ?_, ?_, ?_⟩, fun q hq => ?_, fun q hq => ?_, ?_, fun i hi => ?_, fun _ => rfl, fun z => ?_⟩
  · show k ≤ 2; omega
  · show 1 ≤ cE c r - sr c r; omega
  · show cE c r - sr c r ≤ 40; omega
  · exact Nat.le_refl 1
  · show 1 ≤ 8; omega
  · exact ⟨by show 1 ≤ cE c r - sr c r; omega, Nat.le_refl _⟩
  · have : q + 1 < 1 := hq
    omega
  · rfl
  · have : i < cE c r - sr c r := hi
    exact F.b (by omega)
  · have : k = 0 := z
    omega
set_option maxHeartbeats 200000 in
theorem rgC_wy {c : Ct} (F : WF c) {r k e : Nat} (hr : r < cR c) (hk : k = 1 ∨ k = 2) : wy (rgC c r k) e ↔ e < ml c r := by
  have h1 := sr_lt F hr
  unfold wy isE
  constructor
  · rintro ⟨_, h, _⟩
    have : e + 1 < cE c r - sr c r := h
    unfold ml; omega
  · intro h
    unfold ml at h
    refine ⟨by show k ≠ 0; omega, by show e + 1 < cE c r - sr c r; omega, ?_⟩
    rintro ⟨q, _, h3⟩
    have : cE c r - sr c r = e + 1 := h3
    omega
set_option maxHeartbeats 200000 in
theorem l_takeRing {n : Nat} {a b r k : Nat} {c : Ct} (F : WF c) (g : okM a) (hr : r < cR c) (hab : a + 4 ≤ b ∨ b + 4 ≤ a) : ∀ (fu j : Nat) (σ : xσ), cE c r - sr c r - j < fu → j ≤ cE c r - sr c r → MH σ b c → MB σ a k j 0 (fun i => cV c (sr c r + i)) (fun _ => cE c r - sr c r) →
    ∃ σ', l_X14_takeRing_12 n fu a b (nI r) (nI (sr c r + j)) σ = some ((), σ') ∧ Fr (A4a a) σ σ' ∧ MH σ' a (rgC c r k) := by
  have hN := F.n
  have hR := F.r
  have he := F.e hr
  have hs := sr_lt F hr
  intro fu
  induction fu with
  | zero => intro j σ h; omega
  | succ fu ih =>
    intro j σ hf hj S M
    rw [l_X14_takeRing_12]
    simp (disch := omega) only [gd_in, nI_k, S.E]
    by_cases q : cE c r ≤ sr c r + j
    · rw [if_pos ((nI_e' (by omega) (by omega)).mpr q)]
      obtain ⟨σ', a1, a2, a3, a4⟩ := m_endRing (n := n) g M (by omega)
      rw [a1, bd]
      refine ⟨σ', rfl, a2, MB.MH g ?_⟩
      have ej : j = cE c r - sr c r := by omega
      subst ej
      exact a4.cg (fun i _ => rfl) (fun q hq => by unfold set'; rw [if_pos (by omega)]; rfl)
    · rw [if_neg (fun z => q ((nI_e' (by omega) (by omega)).mp z))]
      simp (disch := omega) only [gd_in, nI_k]
      rw [S.X (show sr c r + j < cN c by omega), S.Y (show sr c r + j < cN c by omega)]
      obtain ⟨σ1, a1, a2, a3, a4⟩ := m_add (n := n) g M (by omega) (cV c (sr c r + j)).1 (cV c (sr c r + j)).2
      rw [a1, bd, nI_s]
      obtain ⟨σ', b1, b2, b3⟩ := ih (j + 1) σ1 (by omega) (by omega) (S.fr a2 (fun t ht h => by unfold A4a at h; omega)) (a4.cg (fun i hi => by
        unfold set'
        by_cases z : i = j
        · rw [if_pos z, z]
        · rw [if_neg z]) (fun q hq => by omega))
      exact ⟨σ', b1, a2.trans b2, b3⟩
set_option maxHeartbeats 200000 in
theorem m_takeRing {n : Nat} {σ : xσ} {a b r k : Nat} {c : Ct} (S : MH σ b c) (F : WF c) (g : okM a) (hr : r < cR c) (hab : a + 4 ≤ b ∨ b + 4 ≤ a) : ∃ σ', f_X14_takeRing n a b (nI r) (nI k) σ = some ((), σ') ∧ Fr (A4a a) σ σ' ∧ MH σ' a (rgC c r k) := by
  have hN := F.n
  have he := F.e hr
  obtain ⟨σ1, a1, a2, a3, a4⟩ := m_begin (n := n) (σ := σ) (k := k) g (fun i => cV c (sr c r + i)) (fun _ => cE c r - sr c r)
  have S1 := S.fr a2 (fun t ht h => by unfold A4a at h; omega)
  rw [f_X14_takeRing, gd_pos g, gd_pos S.1, a1, bd, m_beginOf S1 F (by omega), bd]
  obtain ⟨σ', b1, b2, b3⟩ := l_takeRing (n := n) F g hr hab xFU 0 σ1 (xFU_lt (by omega)) (by omega) S1 a4
  exact ⟨σ', b1, a2.trans b2, b3⟩
/-! the same ways under other numbers -/
def SyR (k : Nat) (T' T : Sy) : Prop := (∀ e, sV T' e = sV T (e + k)) ∧ (∀ e, inT T e → k ≤ e) ∧ (∀ e, inT T' e ↔ inT T (e + k)) ∧ ∀ f : Nat → Bool, XS T' (fun e => f (e + k)) = XS T f
set_option maxHeartbeats 200000 in
theorem SyR.erl {k : Nat} {T' T : Sy} (h : SyR k T' T) (D : Int) (X : V2) (e : Nat) : rl T' D X e = rl T D X (e + k) := by unfold rl rel; rw [h.1]
set_option maxHeartbeats 200000 in
theorem SyR.epa {k : Nat} {T' T : Sy} (h : SyR k T' T) (D : Int) (X s : V2) : pa T' D X s = pa T D X s := by
  unfold pa
  rw [← h.2.2.2]
  refine XS_congr (fun e _ => ?_)
  rw [h.erl, h.erl, show e + 1 + k = e + k + 1 by omega]
set_option maxHeartbeats 200000 in
theorem SyR.eHW {k : Nat} {T' T : Sy} (h : SyR k T' T) (D : Int) (X g : V2) : HW T' D X g ↔ HW T D X g := by
  constructor
  · rintro ⟨h1, e, h2, h3, h4⟩
    rw [h.erl, h.erl, show e + 1 + k = e + k + 1 by omega] at h3 h4
    exact ⟨h1, e + k, (h.2.2.1 e).mp h2, h3, h4⟩
  · rintro ⟨h1, e, h2, h3, h4⟩
    have hk := h.2.1 e h2
    refine ⟨h1, e - k, (h.2.2.1 _).mpr (by rw [show e - k + k = e by omega]; exact h2), ?_⟩
    rw [h.erl, h.erl, show e - k + k = e by omega, show e - k + 1 + k = e + 1 by omega]
    exact ⟨h3, h4⟩
set_option maxHeartbeats 200000 in
theorem SyR.ecv {k : Nat} {T' T : Sy} (h : SyR k T' T) (P Q : V2) (p D : Int) : cvT T' P Q p D ↔ cvT T P Q p D := by
  constructor
  · rintro ⟨g, h1, h2⟩; exact ⟨g, (h.eHW _ _ _).mp h1, h2⟩
  · rintro ⟨g, h1, h2⟩; exact ⟨g, (h.eHW _ _ _).mpr h1, h2⟩
set_option maxHeartbeats 200000 in
theorem SyR.ept {k : Nat} {T' T : Sy} (h : SyR k T' T) (P Q : V2) (p D : Int) : paT T' P Q p D = paT T P Q p D := h.epa _ _ _
set_option maxHeartbeats 200000 in
theorem SyR.eGD {k : Nat} {T' T : Sy} (h : SyR k T' T) (G : GD T) : GD T' := by
  refine ⟨fun w => ?_, fun e he => ?_⟩
  · rw [← G.1 w, ← h.2.2.2]
    refine XS_congr (fun e _ => ?_)
    rw [h.1, h.1, show e + 1 + k = e + k + 1 by omega]
  · rw [h.1, h.1, show e + 1 + k = e + k + 1 by omega]
    exact G.2 _ ((h.2.2.1 e).mp he)
set_option maxHeartbeats 200000 in
theorem SyR.eIn {k : Nat} {T' T : Sy} (h : SyR k T' T) (P Q : V2) : InP T' P Q ↔ InP T P Q := by
  constructor
  · rintro ⟨p, D, a, b, c, d⟩; exact ⟨p, D, a, b, fun z => c ((h.ecv _ _ _ _).mpr z), by rw [← h.ept]; exact d⟩
  · rintro ⟨p, D, a, b, c, d⟩; exact ⟨p, D, a, b, fun z => c ((h.ecv _ _ _ _).mp z), by rw [h.ept]; exact d⟩
set_option maxHeartbeats 200000 in
theorem SyR.eOu {k : Nat} {T' T : Sy} (h : SyR k T' T) (P Q : V2) : OuP T' P Q ↔ OuP T P Q := by
  constructor
  · rintro ⟨p, D, a, b, c, d⟩; exact ⟨p, D, a, b, fun z => c ((h.ecv _ _ _ _).mpr z), by rw [← h.ept]; exact d⟩
  · rintro ⟨p, D, a, b, c, d⟩; exact ⟨p, D, a, b, fun z => c ((h.ecv _ _ _ _).mp z), by rw [h.ept]; exact d⟩
set_option maxHeartbeats 200000 in
theorem SyR.eAl {k : Nat} {T' T : Sy} (h : SyR k T' T) (P Q : V2) : AlP T' P Q ↔ AlP T P Q := by
  constructor
  · rintro ⟨p, D, a, b, c⟩; exact ⟨p, D, a, b, (h.ecv _ _ _ _).mp c⟩
  · rintro ⟨p, D, a, b, c⟩; exact ⟨p, D, a, b, (h.ecv _ _ _ _).mpr c⟩
set_option maxHeartbeats 200000 in
theorem TR_ring {c : Ct} (F : WF c) {r : Nat} (hr : r < cR c) : SyR 0 (TR c (sr c r) (cE c r)) (TG c r) := by
  have hs := sr_lt F hr
  have em : cE c r - sr c r - 1 = ml c r := by unfold ml; omega
  refine ⟨fun e => rfl, fun e _ => by omega, fun e => ?_, fun f => ?_⟩
  · rw [inTR, Nat.add_zero, inTG]
    unfold rgE
    exact ⟨fun h => ⟨h.1, by unfold ml; omega⟩, fun h => ⟨h.1, by unfold ml at h; omega, isE_ring F hr h.1 (by unfold ml at h; omega)⟩⟩
  · rw [XS_TG]
    show xs (fun e => dB (¬ isE c e) && f (e + 0)) (sr c r) (cE c r - sr c r - 1) = _
    rw [em]
    refine xs_congr (fun e h1 h2 => ?_)
    rw [dB_t (isE_ring F hr h1 (by unfold ml at h2; omega)), Bool.true_and, Nat.add_zero]
set_option maxHeartbeats 200000 in
theorem TR_all {c : Ct} (hk : cK c ≠ 0) : SyR 0 (TR c 0 (cN c)) (TC c) := by
  refine ⟨fun e => rfl, fun e _ => by omega, fun e => ?_, fun f => ?_⟩
  · rw [inTR, Nat.add_zero, inTC]
    unfold rgE wy
    exact ⟨fun h => ⟨hk, h.2.1, h.2.2⟩, fun h => ⟨by omega, h.2.1, h.2.2⟩⟩
  · show xs (fun e => dB (¬ isE c e) && f (e + 0)) 0 (cN c - 0 - 1) = xs (fun e => dB (wy c e) && f e) 0 (cN c - 1)
    rw [Nat.sub_zero]
    refine xs_congr (fun e h1 h2 => ?_)
    rw [Nat.add_zero, dB_c (show (¬ isE c e) ↔ wy c e from ⟨fun h => ⟨hk, by omega, h⟩, fun h => h.2.2⟩)]
set_option maxHeartbeats 200000 in
theorem xs_sh (f : Nat → Bool) (lo m k : Nat) : xs (fun e => f (e + k)) lo m = xs f (lo + k) m := by
  induction m with
  | zero => rfl
  | succ m ih => rw [xs, xs, ih, show lo + m + k = lo + k + m by omega]
set_option maxHeartbeats 200000 in
theorem TC_rg {c : Ct} (F : WF c) {r k : Nat} (hr : r < cR c) (hk : k = 1 ∨ k = 2) : SyR (sr c r) (TC (rgC c r k)) (TG c r) := by
  have hs := sr_lt F hr
  refine ⟨fun e => by show cV c (sr c r + e) = cV c (e + sr c r); rw [Nat.add_comm], fun e h => (inTG.mp h).1, fun e => ?_, fun f => ?_⟩
  · rw [inTC, inTG, rgC_wy F hr hk]; omega
  · rw [XS_TG]
    show xs (fun e => dB (wy (rgC c r k) e) && f (e + sr c r)) 0 (cE c r - sr c r - 1) = _
    have em : cE c r - sr c r - 1 = ml c r := by unfold ml; omega
    rw [em, xs_congr (g := fun e => f (e + sr c r)) (fun e h1 h2 => by rw [dB_t ((rgC_wy F hr hk).mpr (by omega)), Bool.true_and]), xs_sh, Nat.zero_add]

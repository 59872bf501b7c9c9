/-! NEAR, JOIN of the system, and what is put out -/
def PNr (b k : Nat) : Prop := PAn b k ∨ (18 ≤ b ∧ b ≤ 28) ∨ (31 ≤ b ∧ b ≤ 231)
set_option maxHeartbeats 200000 in
theorem PNr_o {b k : Nat} (h : PNr b k) : outK b := by unfold PNr PAn at h; unfold outK; omega
set_option maxHeartbeats 200000 in
theorem PQs_n {b k : Nat} (h : PQs b k) : PNr b k := by
  rcases h with h | h
  · exact Or.inl h
  · exact Or.inr (Or.inl h)
set_option maxHeartbeats 200000 in
theorem l_near88 {n : Nat} {k : Kp} (o : okK k) {m K : Nat} (hm : m = tC (kL k)) (hK : K ≤ 200) {g : Nat → Nat} (hg : ∀ t, t < m → g t < m) {w : Ou} (hw : w.1 < 20000) : ∀ r f i σ a, r < f → i + r = min K m → KS n σ k → (∀ t, t < m → sI σ 231 t = nI (g t)) → AnS σ w a → a.1 + r < 1000 → ∃ σ', l_X10_near_88 n f (nI K) (nI i) σ = some (0, σ') ∧ Fk PAn σ σ' ∧ AnS σ' w (fiA (fun _ => True) (fun i => tI (kL k) (g i)) r i a) := by
  have l2 := o.1.1.1
  intro r
  induction r with
  | zero =>
    intro f i σ a hf hi h ho hA _
    obtain ⟨q, rfl⟩ : ∃ q, f = q + 1 := ⟨f - 1, by omega⟩
    rw [l_X10_near_88, h.cnt]
    by_cases z : K ≤ i
    · rw [if_pos ((nI_e' (by omega) (by omega)).mpr z)]; exact ⟨σ, rfl, Fk.refl, hA⟩
    · rw [if_neg (fun y => z ((nI_e' (by omega) (by omega)).mp y)), if_pos ((nI_e' (by omega) (by omega)).mpr (by omega))]; exact ⟨σ, rfl, Fk.refl, hA⟩
  | succ r ih =>
    intro f i σ a hf hi h ho hA ha
    obtain ⟨q, rfl⟩ : ∃ q, f = q + 1 := ⟨f - 1, by omega⟩
    have gi := hg i (by omega)
    have i1 : ∀ {α : Type} (y : Option α), gd (inb (nI i) 200) y = y := fun y => gd_in (by omega) (by omega)
    have i2 : ∀ {α : Type} (y : Option α), gd (inb (nI (g i)) 200) y = y := fun y => gd_in (by omega) (by omega)
    have k1 : (nI i).toNatClampNeg = i := nI_k (by omega)
    have k2 : (nI (g i)).toNatClampNeg = g i := nI_k (by omega)
    have e12 : sI σ 12 (g i) = iI (tI (kL k) (g i)) := h.ids.2 (g i) (by omega)
    obtain ⟨σ1, u1, u2, u3⟩ := e_offer (n := n) hA hw (by omega) (tI (kL k) (g i))
    rw [l_X10_near_88, h.cnt, if_neg (fun y => by have := (nI_e' (by omega) (by omega)).mp y; omega), if_neg (fun y => by have := (nI_e' (by omega) (by omega)).mp y; omega)]
    simp only [i1, k1, ho i (by omega), i2, k2, e12]
    rw [u1, bd, nI_s, fiA, ifP_t trivial]
    obtain ⟨σ2, v1, v2, v3⟩ := ih q (i + 1) σ1 _ (by omega) (by omega) (h.fk u2 (fun b k y => by unfold PAn at y; unfold outK; omega)) (fun t ht => by rw [(u2 231 t (fun y => by unfold PAn at y; omega)).1]; exact ho t ht) u3 (by show a.1 + 1 + r < 1000; omega)
    exact ⟨σ2, v1, u2.trans v2, v3⟩
set_option maxHeartbeats 200000 in
theorem l_near34 {n : Nat} {k : Kp} (o : okK k) {K : Nat} {p : V2} (hp : bV p) {w : Ou} {a : An} : ∀ r f i σ, r < f → i + r = tC (kL k) → KS n σ k → Rw30 σ → sI σ 4 1 = iI p.1 → sI σ 4 2 = iI p.2 → DsS σ (tS (kL k)) p i → (∀ t, t < i → sI σ 231 t = nI (ordS (tS (kL k)) p i t)) → AnS σ w a → ∃ σ', l_X10_near_34 n f (nI K) (nI i) σ = l_X10_near_88 n xFU (nI K) 0 σ' ∧ Fk PNr σ σ' ∧ KS n σ' k ∧ AnS σ' w a ∧ ∀ t, t < tC (kL k) → sI σ' 231 t = nI (ordS (tS (kL k)) p (tC (kL k)) t) := by
  have l2 := o.1.1.1
  intro r
  induction r with
  | zero =>
    intro f i σ hf hi h R h1 h2 D ho hA
    obtain ⟨q, rfl⟩ : ∃ q, f = q + 1 := ⟨f - 1, by omega⟩
    have e : i = tC (kL k) := by omega
    subst e
    rw [l_X10_near_34, h.cnt, if_pos ((nI_e' (by omega) (by omega)).mpr (Nat.le_refl _))]
    exact ⟨σ, rfl, Fk.refl, h, hA, ho⟩
  | succ r ih =>
    intro f i σ hf hi h R h1 h2 D ho hA
    obtain ⟨q, rfl⟩ : ∃ q, f = q + 1 := ⟨f - 1, by omega⟩
    obtain ⟨x, r1, r2, r3, r4, r5⟩ := h.row o (show i < tC (kL k) by omega)
    have od : okD (31 + i) := ⟨by omega, by omega⟩
    obtain ⟨σ1, v, t1, t2, t3, t4⟩ := e_measure (n := n) od r2 r3 r4 hp
    have i1 : ∀ {α : Type} (y : Option α), gd (inb (nI i) 200) y = y := fun y => gd_in (by omega) (by omega)
    have k1 : (nI i).toNatClampNeg = i := nI_k (by omega)
    have g1 : Fk PNr σ σ1 := (Fk.of t2).mono (fun b k y => Or.inr (Or.inr (by omega)))
    have R1 : Rw30 σ1 := fun j hj => by rw [(g1 30 j (fun y => by unfold PNr PAn at y; omega)).2.2]; exact R j hj
    have D1 : DsS σ1 (tS (kL k)) p (i + 1) := fun j hj => by
      by_cases e : j = i
      · rw [e]; exact ⟨v, t3, t4⟩
      · obtain ⟨x, x1, x2⟩ := D j (by omega)
        exact ⟨x, x1.fk (Fk.of t2) (fun k y => by omega), x2⟩
    have ho1 : ∀ t, t < i → sI σ1 231 t = nI (ordS (tS (kL k)) p i t) := fun t ht => by rw [((Fk.of t2) 231 t (by omega)).1]; exact ho t ht
    obtain ⟨σ2, u1, u2, u3⟩ := l_sort7 (n := n) (σ := σ1) (cs := tS (kL k)) (p := p) (i := i) (by omega) (fun j hj => o.1.1.2.2.2 j (by omega)) R1 D1 ho1 i xFU 0 i 0 (by omega) (xFU_lt (by omega)) (by omega) (Nat.le_refl _) (by omega) (fun j hj => by omega) (fun j a b => by omega)
    have g2 : Fk PNr σ1 σ2 := u2.mono (fun b k y => Or.inr (Or.inr (by omega)))
    rw [show nI 0 = 0 from rfl] at u1
    rw [l_X10_near_34, h.cnt, if_neg (fun y => by have := (nI_e' (by omega) (by omega)).mp y; omega)]
    simp only [i1, k1, R i (by omega), nn, r1]
    rw [gd_pos od, gd_pos r2.1, gd_pos (show inb 1 6 by decide), gd_pos (show inb 2 6 by decide), z8.2.1, z8.2.2.1, h1, h2, t1, bd, f_X10_sortIn, u1, bd, nI_s]
    have g12 := g1.trans g2
    obtain ⟨σ3, y1, y2, y3⟩ := ih q (i + 1) σ2 (by omega) (by omega) (h.fk g12 (fun _ _ => PNr_o)) (fun j hj => by rw [(g12 30 j (fun y => by unfold PNr PAn at y; omega)).2.2]; exact R j hj) (by rw [(g12 4 1 (fun y => by unfold PNr PAn at y; omega)).1]; exact h1) (by rw [(g12 4 2 (fun y => by unfold PNr PAn at y; omega)).1]; exact h2) (fun j hj => by
      obtain ⟨x, x1, x2⟩ := D1 j hj
      exact ⟨x, x1.fk u2 (fun k y => by omega), x2⟩) (fun t ht => u3 t (by omega)) (hA.fk ((Fk.of t2).mono (Q := fun b _ => 31 ≤ b ∧ b ≤ 231) (fun b k y => by omega) |>.trans (u2.mono (fun b k y => by omega))) (fun k y => by omega) (fun k y => by omega))
    exact ⟨σ3, y1, g12.trans y2, y3⟩
noncomputable def nearA (k : Kp) (K : Int) (p : V2) : Int × An := ifP (K < 1 ∨ 200 < K) (5, an0) (0, fiA (fun _ => True) (fun i => tI (kL k) (ordS (tS (kL k)) p (tC (kL k)) i)) (min K.toNat (tC (kL k))) 0 an0)
set_option maxHeartbeats 200000 in
theorem e_near {n : Nat} {σ : xσ} {k : Kp} (h : KS n σ k) (o : okK k) (R : Rw30 σ) {K : Int} (hK : b30 K) {p : V2} (hp : bV p) (h0 : sI σ 4 0 = iI K) (h1 : sI σ 4 1 = iI p.1) (h2 : sI σ 4 2 = iI p.2) {w : Ou} (hw : w.1 < 20000) (hA : AnS σ w an0) : ∃ σ', f_X10_near n σ = some (iI (nearA k K p).1, σ') ∧ Fk PNr σ σ' ∧ AnS σ' w (nearA k K p).2 := by
  have l2 := o.1.1.1
  rw [f_X10_near, gd_pos (by decide), z8.1, h0, st]
  simp only [iIl1 hK.r, iIe200 hK.r]
  unfold nearA
  by_cases q1 : K < 1
  · rw [if_pos q1, ifP_t (Or.inl q1)]; exact ⟨σ, rfl, Fk.refl, hA⟩
  rw [if_neg q1]
  by_cases q2 : K ≤ 200
  · rw [if_pos q2, ifP_f (by omega)]
    have eK : ((K.toNat : Nat) : Int) = K := Int.toNat_of_nonneg (by omega)
    obtain ⟨σ1, t1, t2, t3, t4, t5⟩ := l_near34 (n := n) o (K := K.toNat) hp (w := w) (a := an0) (tC (kL k)) xFU 0 σ (xFU_lt (by omega)) (by omega) h R h1 h2 (fun j hj => by omega) (fun t ht => by omega) hA
    obtain ⟨σ2, u1, u2, u3⟩ := l_near88 (n := n) o (m := tC (kL k)) (K := K.toNat) rfl (by omega) (g := ordS (tS (kL k)) p (tC (kL k))) (fun t ht => ordS_b _ _ _ t ht) hw (min K.toNat (tC (kL k))) xFU 0 σ1 an0 (xFU_lt (by omega)) (by omega) t3 t5 t4 (by show 0 + _ < 1000; omega)
    rw [show nI 0 = 0 from rfl, nI_i K.toNat, eK] at t1
    rw [show nI 0 = 0 from rfl, nI_i K.toNat, eK] at u1
    rw [t1, u1]
    exact ⟨σ2, rfl, t2.trans (u2.mono (fun _ _ => Or.inl)), u3⟩
  · rw [if_neg q2, ifP_t (Or.inr (by omega))]; exact ⟨σ, rfl, Fk.refl, hA⟩
/-! JOIN -/
noncomputable def jiA (P : Nat → Prop) (ids : Nat → Int) (i : Nat) : Nat → Nat → An → An
  | 0, _, a => a
  | r + 1, j, a => jiA P ids i r (j + 1) (ifP (P j) (snc (snc a (ids i)) (ids j)) a)
noncomputable def joA (O : Nat → Prop) (P : Nat → Nat → Prop) (ids : Nat → Int) (m : Nat) : Nat → Nat → An → An
  | 0, _, a => a
  | r + 1, i, a => joA O P ids m r (i + 1) (ifP (O i) (jiA (P i) ids i m 0 a) a)
set_option maxHeartbeats 200000 in
theorem jiA_b (P : Nat → Prop) (ids : Nat → Int) (i : Nat) : ∀ r j a, (jiA P ids i r j a).1 ≤ a.1 + 2 * r := by
  intro r
  induction r with
  | zero => intro j a; exact Nat.le_refl _
  | succ r ih =>
    intro j a
    rw [jiA]
    have := ih (j + 1) (ifP (P j) (snc (snc a (ids i)) (ids j)) a)
    by_cases p : P j
    · rw [ifP_t p] at this ⊢
      have e : (snc (snc a (ids i)) (ids j)).1 = a.1 + 1 + 1 := rfl
      omega
    · rw [ifP_f p] at this ⊢; omega
def jnP (k : Kp) (rel : Nat) (c d : Int) (i j : Nat) : Prop := j ≠ i ∧ c ≤ tI (kL k) j ∧ tI (kL k) j ≤ d ∧ Rel rel (tS (kL k) i) (tS (kL k) j)
set_option maxHeartbeats 200000 in
theorem l_join123 {n : Nat} {k : Kp} (o : okK k) {rel : Nat} (hr : rel < 5) {a b c d : Int} (hc : b30 c) (hd : b30 d) {w : Ou} (hw : w.1 < 20000) {i : Nat} (hi : i < tC (kL k)) (K : Int32 → Int32 → Int32 → Int32 → Int32 → xσ → Option (Int32 × xσ)) : ∀ r f j σ e, r < f → j + r = tC (kL k) → KS n σ k → sI σ 3 4 = nI rel → AnS σ w e → e.1 + 2 * r < 100000 → ∃ σ', l_X10_join_123 n K f (iI a) (iI b) (iI c) (iI d) (nI i) (nI j) σ = K (iI a) (iI b) (iI c) (iI d) (nI (i + 1)) σ' ∧ Fk PQs σ σ' ∧ KS n σ' k ∧ sI σ' 3 4 = nI rel ∧ AnS σ' w (jiA (jnP k rel c d i) (tI (kL k)) i r j e) := by
  have l2 := o.1.1.1
  intro r
  induction r with
  | zero =>
    intro f j σ e hf hj h h34 hA _
    obtain ⟨q, rfl⟩ : ∃ q, f = q + 1 := ⟨f - 1, by omega⟩
    rw [l_X10_join_123, h.cnt, if_pos ((nI_e' (by omega) (by omega)).mpr (by omega)), nI_s]
    exact ⟨σ, rfl, Fk.refl, h, h34, hA⟩
  | succ r ih =>
    intro f j σ e hf hj h h34 hA he
    obtain ⟨q, rfl⟩ : ∃ q, f = q + 1 := ⟨f - 1, by omega⟩
    obtain ⟨x, r1, r2, r3, r4, r5⟩ := h.row o hi
    obtain ⟨y, s1, s2, s3, s4, s5⟩ := h.row o (show j < tC (kL k) by omega)
    have Rj := o.1.1.R (show j < tC (kL k) by omega)
    have i1 : ∀ {α : Type} (y : Option α), gd (inb (nI i) 200) y = y := fun y => gd_in (by omega) (by omega)
    have i2 : ∀ {α : Type} (y : Option α), gd (inb (nI j) 200) y = y := fun y => gd_in (by omega) (by omega)
    have k1 : (nI i).toNatClampNeg = i := nI_k (by omega)
    have k2 : (nI j).toNatClampNeg = j := nI_k (by omega)
    have skip : ¬ jnP k rel c d i j → ∃ σ', b_X10_join_170 n K (l_X10_join_123 n K q) (iI a) (iI b) (iI c) (iI d) (nI i) (nI j) 0 σ = K (iI a) (iI b) (iI c) (iI d) (nI (i + 1)) σ' ∧ Fk PQs σ σ' ∧ KS n σ' k ∧ sI σ' 3 4 = nI rel ∧ AnS σ' w (jiA (jnP k rel c d i) (tI (kL k)) i r (j + 1) e) := by
      intro no
      rw [b_X10_join_170, if_pos rfl, nI_s]
      exact ih q (j + 1) σ e (by omega) (by omega) h h34 hA (by omega)
    rw [l_X10_join_123, h.cnt, if_neg (fun y => by have := (nI_e' (by omega) (by omega)).mp y; omega), jiA]
    simp only [nI_q' (show j < 2147483648 by omega) (show i < 2147483648 by omega)]
    by_cases q1 : j = i
    · have no : ¬ jnP k rel c d i j := fun y => y.1 q1
      rw [if_pos q1, ifP_f no]; exact skip no
    rw [if_neg q1]
    simp only [i2, k2, s5, iI_lt Rj hc.r, iI_lt hd.r Rj]
    by_cases q2 : tI (kL k) j < c
    · have no : ¬ jnP k rel c d i j := fun y => by have := y.2.1; omega
      rw [if_pos q2, ifP_f no]; exact skip no
    rw [if_neg q2]
    by_cases q3 : d < tI (kL k) j
    · have no : ¬ jnP k rel c d i j := fun y => by have := y.2.2.1; omega
      rw [if_pos q3, ifP_f no]; exact skip no
    rw [if_neg q3, b_X10_join_170, if_neg (by decide)]
    simp only [i1, k1, r1, nn, i2, k2, s1]
    obtain ⟨σ1, f1, t1⟩ := e_holds (n := n) r2 r3 r4 s2 s3 s4 hr
    have g1 : Fk PQs σ σ1 := (Fk.of f1).mono (fun b k y => Or.inr (A4_q y))
    have h1 : KS n σ1 k := h.fk g1 (fun _ _ => PQs_o)
    have e34 : sI σ1 3 4 = nI rel := by rw [(g1 3 4 (fun y => by unfold PQs PAn at y; omega)).1]; exact h34
    rw [gd_pos r2.1, gd_pos s2.1, h34, t1, bd]
    by_cases q4 : Rel rel (tS (kL k) i) (tS (kL k) j)
    · have yes : jnP k rel c d i j := ⟨q1, by omega, by omega, q4⟩
      have e12 : sI σ1 12 i = iI (tI (kL k) i) := by rw [(g1 12 i (fun y => by unfold PQs PAn at y; omega)).1]; exact r5
      obtain ⟨σ2, u1, u2, u3⟩ := e_offer (n := n) (hA.a4 f1) hw (by omega) (tI (kL k) i)
      have e13 : sI σ2 12 j = iI (tI (kL k) j) := by rw [(u2 12 j (fun y => by unfold PAn at y; omega)).1, (g1 12 j (fun y => by unfold PQs PAn at y; omega)).1]; exact s5
      obtain ⟨σ3, v1, v2, v3⟩ := e_offer (n := n) u3 hw (by show e.1 + 1 < 100000; omega) (tI (kL k) j)
      have g2 : Fk PQs σ1 σ3 := (u2.trans v2).mono (fun _ _ => Or.inl)
      rw [if_neg (tn q4), e12, u1, bd, e13, v1, bd, b_X10_join_234, nI_s, ifP_t yes]
      obtain ⟨σ4, w1, w2, w3⟩ := ih q (j + 1) σ3 _ (by omega) (by omega) (h1.fk g2 (fun _ _ => PQs_o)) (by rw [(g2 3 4 (fun y => by unfold PQs PAn at y; omega)).1]; exact e34) v3 (by show e.1 + 1 + 1 + 2 * r < 100000; omega)
      exact ⟨σ4, w1, (g1.trans g2).trans w2, w3⟩
    · rw [if_pos (tf_f q4), nI_s, ifP_f (fun y => q4 y.2.2.2)]
      obtain ⟨σ4, w1, w2, w3⟩ := ih q (j + 1) σ1 _ (by omega) (by omega) h1 e34 (hA.a4 f1) (by omega)
      exact ⟨σ4, w1, g1.trans w2, w3⟩
set_option maxHeartbeats 200000 in
theorem l_join83 {n : Nat} {k : Kp} (o : okK k) {rel : Nat} (hr : rel < 5) {a b c d : Int} (ha : b30 a) (hb : b30 b) (hc : b30 c) (hd : b30 d) {w : Ou} (hw : w.1 < 20000) : ∀ r f i σ e, r < f → i + r = tC (kL k) → KS n σ k → sI σ 3 4 = nI rel → AnS σ w e → e.1 + 400 * r < 90000 → ∃ σ', l_X10_join_83 n f (iI a) (iI b) (iI c) (iI d) (nI i) σ = some (0, σ') ∧ Fk PQs σ σ' ∧ AnS σ' w (joA (fun i => a ≤ tI (kL k) i ∧ tI (kL k) i ≤ b) (jnP k rel c d) (tI (kL k)) (tC (kL k)) r i e) := by
  have l2 := o.1.1.1
  intro r
  induction r with
  | zero =>
    intro f i σ e hf hi h h34 hA _
    obtain ⟨q, rfl⟩ : ∃ q, f = q + 1 := ⟨f - 1, by omega⟩
    rw [l_X10_join_83, h.cnt, if_pos ((nI_e' (by omega) (by omega)).mpr (by omega))]
    exact ⟨σ, rfl, Fk.refl, hA⟩
  | succ r ih =>
    intro f i σ e hf hi h h34 hA he
    obtain ⟨q, rfl⟩ : ∃ q, f = q + 1 := ⟨f - 1, by omega⟩
    have e12 := h.ids.2 i (by omega)
    have e12' : sI σ 12 i = iI (tI (kL k) i) := e12
    have Ri := o.1.1.R (show i < tC (kL k) by omega)
    have i1 : ∀ {α : Type} (y : Option α), gd (inb (nI i) 200) y = y := fun y => gd_in (by omega) (by omega)
    have k1 : (nI i).toNatClampNeg = i := nI_k (by omega)
    rw [l_X10_join_83, h.cnt, if_neg (fun y => by have := (nI_e' (by omega) (by omega)).mp y; omega), joA]
    simp only [i1, k1, e12', iI_lt Ri ha.r, iI_le Ri hb.r, nI_s]
    by_cases q1 : tI (kL k) i < a
    · rw [if_pos q1, ifP_f (by omega)]
      exact ih q (i + 1) σ e (by omega) (by omega) h h34 hA (by omega)
    rw [if_neg q1]
    by_cases q2 : tI (kL k) i ≤ b
    · rw [if_pos q2, ifP_t ⟨by omega, q2⟩]
      obtain ⟨σ1, t1, t2, t3, t4, t5⟩ := l_join123 (n := n) o hr (a := a) (b := b) hc hd hw (show i < tC (kL k) by omega) (l_X10_join_83 n q) (tC (kL k)) xFU 0 σ e (xFU_lt (by omega)) (by omega) h h34 hA (by omega)
      rw [show nI 0 = 0 from rfl] at t1
      have jb := jiA_b (jnP k rel c d i) (tI (kL k)) i (tC (kL k)) 0 e
      obtain ⟨σ2, u1, u2, u3⟩ := ih q (i + 1) σ1 _ (by omega) (by omega) t3 t4 t5 (by omega)
      rw [t1]
      exact ⟨σ2, u1, t2.trans u2, u3⟩
    · rw [if_neg q2, ifP_f (by omega), b_X10_join_240, nI_s]
      exact ih q (i + 1) σ e (by omega) (by omega) h h34 hA (by omega)
noncomputable def joinA (k : Kp) (rel : Nat) (a b c d : Int) : Int × An := ifP (b < a ∨ d < c ∨ 63 < b - a ∨ 63 < d - c) (5, an0) (0, joA (fun i => a ≤ tI (kL k) i ∧ tI (kL k) i ≤ b) (jnP k rel c d) (tI (kL k)) (tC (kL k)) (tC (kL k)) 0 an0)
set_option maxHeartbeats 200000 in
theorem e_join {n : Nat} {σ : xσ} {k : Kp} (h : KS n σ k) (o : okK k) {rel : Nat} (hr : rel < 5) (h34 : sI σ 3 4 = nI rel) {A : Nat → Int} (hA4 : ∀ i, i < 4 → b30 (A i) ∧ sI σ 4 i = iI (A i)) {w : Ou} (hw : w.1 < 20000) (hA : AnS σ w an0) : ∃ σ', f_X10_join n σ = some (iI (joinA k rel (A 0) (A 1) (A 2) (A 3)).1, σ') ∧ Fk PQs σ σ' ∧ AnS σ' w (joinA k rel (A 0) (A 1) (A 2) (A 3)).2 := by
  have l2 := o.1.1.1
  obtain ⟨b0, g0⟩ := hA4 0 (by omega)
  obtain ⟨b1, g1⟩ := hA4 1 (by omega)
  obtain ⟨b2, g2⟩ := hA4 2 (by omega)
  obtain ⟨b3, g3⟩ := hA4 3 (by omega)
  have s1 : R32 (A 1 - A 0) := by unfold b30 at *; exact ⟨by omega, by omega⟩
  have s2 : R32 (A 3 - A 2) := by unfold b30 at *; exact ⟨by omega, by omega⟩
  rw [f_X10_join, gd_pos (by decide), z8.1, g0, st, gd_pos (by decide), z8.2.1, g1, st, gd_pos (by decide), z8.2.2.1, g2, st, gd_pos (by decide), z8.2.2.2.1, g3, st, iI_sub, iI_sub]
  simp only [iI_lt b1.r b0.r, iI_lt b3.r b2.r, iIh63 s1, iIe63 s2]
  unfold joinA
  by_cases q1 : A 1 < A 0
  · rw [if_pos q1, ifP_t (Or.inl q1)]; exact ⟨σ, rfl, Fk.refl, hA⟩
  rw [if_neg q1]
  by_cases q2 : A 3 < A 2
  · rw [if_pos q2, ifP_t (by omega)]; exact ⟨σ, rfl, Fk.refl, hA⟩
  rw [if_neg q2]
  by_cases q3 : 63 < A 1 - A 0
  · rw [if_pos q3, ifP_t (by omega)]; exact ⟨σ, rfl, Fk.refl, hA⟩
  rw [if_neg q3]
  by_cases q4 : A 3 - A 2 ≤ 63
  · rw [if_pos q4, ifP_f (by omega)]
    obtain ⟨σ2, u1, u2, u3⟩ := l_join83 (n := n) o hr b0 b1 b2 b3 hw (tC (kL k)) xFU 0 σ an0 (xFU_lt (by omega)) (by omega) h h34 hA (by show 0 + _ < 90000; omega)
    rw [show nI 0 = 0 from rfl] at u1
    exact ⟨σ2, u1, u2, u3⟩
  · rw [if_neg q4, ifP_t (by omega)]; exact ⟨σ, rfl, Fk.refl, hA⟩
/-! what is put out -/
def quO (w : Ou) (each : Nat) (a : An) : Ou := if w.1 + 2 + a.1 ≤ 19000 then (w.1 + 2 + a.1, fun i => if i < w.1 then w.2 i else if i = w.1 then 0 else if i = w.1 + 1 then nI (a.1 / each) else iI (a.2 (i - w.1 - 2))) else puO w 7
def POu (b k : Nat) : Prop := (b = 0 ∧ k = 8) ∨ b = 232
set_option maxHeartbeats 200000 in
theorem e_putInt {n : Nat} {σ : xσ} {w : Ou} (h : OS σ w) (hw : w.1 < 20000) (v : Int32) : ∃ σ', f_X10_putInt n v σ = some ((), σ') ∧ Fk POu σ σ' ∧ OS σ' (puO w v) ∧ ∀ j, j ≠ w.1 → sI σ' 232 j = sI σ 232 j := by
  obtain ⟨h1, h2⟩ := h
  have e8 : sI (wI σ 232 w.1 v) 0 8 = nI w.1 := by rw [sI_wI, if_neg (by omega)]; exact h1
  rw [f_X10_putInt, h1, if_neg (fun y => by have := (nIg20000 (show w.1 < 2147483648 by omega)).mp y; omega), gd_in (by omega) (by omega), nI_k (by omega), st, e8, nI_s, st]
  refine ⟨_, rfl, (Fk.wI (Or.inr rfl)).trans (Fk.wI (Or.inl ⟨rfl, rfl⟩)), ⟨by rw [sI_own]; rfl, fun i hi => ?_⟩, fun j hj => by rw [sI_wI, if_neg (by omega), sI_wI, if_neg (fun y => hj y.2)]⟩
  have hi' : i < w.1 + 1 := hi
  show _ = if i = w.1 then v else w.2 i
  rw [sI_wI, if_neg (by omega)]
  by_cases e : i = w.1
  · rw [if_pos e, e, sI_own]
  · rw [if_neg e, sI_wI, if_neg (fun y => e y.2)]; exact h2 i (by omega)
set_option maxHeartbeats 200000 in
theorem e_putCode {n : Nat} {σ : xσ} {w : Ou} (h : OS σ w) (hw : w.1 < 20000) {v : Nat} (hv : v < 13) (h33 : sI σ 3 3 = nI v) {code : Int} (hc : R32 code) (hq : v < 9 ∨ code ≠ 0) : ∃ σ', f_X10_putAnswer n (iI code) σ = some ((), σ') ∧ Fk POu σ σ' ∧ OS σ' (puO w (iI code)) := by
  obtain ⟨σ', t1, t2, t3, _⟩ := e_putInt (n := n) h hw (iI code)
  rw [f_X10_putAnswer, h33]
  simp only [nIl9 (show v < 2147483648 by omega), iIq0 hc]
  by_cases q : v < 9
  · rw [if_pos q, t1, bd]; exact ⟨σ', rfl, t2, t3⟩
  · rw [if_neg q, if_neg (by rcases hq with y | y; exact (q y).elim; exact y), t1, bd]; exact ⟨σ', rfl, t2, t3⟩
set_option maxHeartbeats 200000 in
theorem e_putAll {n : Nat} {σ : xσ} {w : Ou} {a : An} (h : AnS σ w a) (hw : w.1 + 1 < 20000) (ha : a.1 < 100000) {v : Nat} (hv : 9 ≤ v ∧ v < 13) (h33 : sI σ 3 3 = nI v) : ∃ σ', f_X10_putAnswer n 0 σ = some ((), σ') ∧ Fk POu σ σ' ∧ OS σ' (quO w (if v = 12 then 2 else 1) a) := by
  obtain ⟨h1, h2, h3⟩ := h
  rw [f_X10_putAnswer, h33]
  rw [if_neg (fun y => by have := (nIl9 (show v < 2147483648 by omega)).mp y; omega), if_pos rfl, h1.1, h2, nIp2, nI_ad, st]
  simp only [nIe19000 (show w.1 + 2 + a.1 < 2147483648 by omega)]
  unfold quO
  by_cases q : w.1 + 2 + a.1 ≤ 19000
  · obtain ⟨σ1, t1, t2, t3, t4⟩ := e_putInt (n := n) h1 (by omega) 0
    have e33 : sI σ1 3 3 = nI v := by rw [(t2 3 3 (fun y => by unfold POu at y; omega)).1]; exact h33
    have e09 : sI σ1 0 9 = nI a.1 := by rw [(t2 0 9 (fun y => by unfold POu at y; omega)).1]; exact h2
    have fin : ∀ c : Nat, ∃ σ', b_X10_putAnswer_79 n (nI (w.1 + 2 + a.1)) (nI c) σ1 = some ((), σ') ∧ Fk POu σ σ' ∧ OS σ' (w.1 + 2 + a.1, fun i => if i < w.1 then w.2 i else if i = w.1 then 0 else if i = w.1 + 1 then nI c else iI (a.2 (i - w.1 - 2))) := by
      intro c
      obtain ⟨σ2, u1, u2, u3, u4⟩ := e_putInt (n := n) t3 hw (nI c)
      rw [b_X10_putAnswer_79, u1, bd, st]
      refine ⟨_, rfl, (t2.trans u2).trans (Fk.wI (Or.inl ⟨rfl, rfl⟩)), by rw [sI_own], fun i hi => ?_⟩
      have hi' : i < w.1 + 2 + a.1 := hi
      show _ = if i < w.1 then w.2 i else if i = w.1 then 0 else if i = w.1 + 1 then nI c else iI (a.2 (i - w.1 - 2))
      rw [sI_wI, if_neg (by omega)]
      have e1 : (puO w 0).1 = w.1 + 1 := rfl
      by_cases l : i < w.1 + 2
      · have := u3.2 i (by show i < w.1 + 1 + 1; omega)
        rw [this]
        show (if i = w.1 + 1 then nI c else if i = w.1 then 0 else w.2 i) = _
        by_cases a1 : i = w.1 + 1
        · rw [if_pos a1, if_neg (by omega), if_neg (by omega), if_pos a1]
        · rw [if_neg a1]
          by_cases a2 : i = w.1
          · rw [if_pos a2, if_neg (by omega), if_pos a2]
          · rw [if_neg a2, if_pos (by omega)]
      · rw [u4 i (by rw [e1]; omega), t4 i (by omega), if_neg (by omega), if_neg (by omega), if_neg (by omega)]
        have := h3 (i - w.1 - 2) (by omega) (by omega)
        rw [show w.1 + 2 + (i - w.1 - 2) = i by omega] at this
        exact this
    rw [if_pos q, if_pos q, t1, bd, e33, e09]
    simp only [nIq12 (show v < 2147483648 by omega)]
    by_cases z : v = 12
    · have ed : nI a.1 / 2 = nI (a.1 / 2) := nI_div (b := 2) (by omega) (by omega) (by omega)
      rw [if_pos z, ed, if_pos z]; exact fin (a.1 / 2)
    · rw [if_neg z, if_neg z, Nat.div_one]; exact fin a.1
  · obtain ⟨σ1, t1, t2, t3, t4⟩ := e_putInt (n := n) h1 (by omega) 7
    rw [if_neg q, if_neg q, t1, bd]
    exact ⟨σ1, rfl, t2, t3⟩

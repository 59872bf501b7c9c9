/-! questions of the system -/
abbrev An := Nat × (Nat → Int)
def snc (a : An) (v : Int) : An := (a.1 + 1, fun j => if j = a.1 then v else a.2 j)
def an0 : An := (0, fun _ => 0)
def OS (σ : xσ) (w : Ou) : Prop := sI σ 0 8 = nI w.1 ∧ ∀ i, i < w.1 → sI σ 232 i = w.2 i
def AnS (σ : xσ) (w : Ou) (a : An) : Prop := OS σ w ∧ sI σ 0 9 = nI a.1 ∧ ∀ j, j < a.1 → w.1 + 2 + j < 19000 → sI σ 232 (w.1 + 2 + j) = iI (a.2 j)
def PAn (b k : Nat) : Prop := (b = 0 ∧ k = 9) ∨ b = 232
set_option maxHeartbeats 200000 in
theorem OS.fk {σ σ' : xσ} {w : Ou} {P : Nat → Nat → Prop} (h : OS σ w) (f : Fk P σ σ') (h1 : ¬ P 0 8) (h2 : ∀ k, ¬ P 232 k) : OS σ' w := ⟨by rw [(f 0 8 h1).1]; exact h.1, fun i hi => by rw [(f 232 i (h2 i)).1]; exact h.2 i hi⟩
set_option maxHeartbeats 200000 in
theorem AnS.fk {σ σ' : xσ} {w : Ou} {a : An} {P : Nat → Nat → Prop} (h : AnS σ w a) (f : Fk P σ σ') (h1 : ∀ k, ¬ P 0 k) (h2 : ∀ k, ¬ P 232 k) : AnS σ' w a := ⟨h.1.fk f (h1 8) h2, by rw [(f 0 9 (h1 9)).1]; exact h.2.1, fun j hj l => by rw [(f 232 _ (h2 _)).1]; exact h.2.2 j hj l⟩
set_option maxHeartbeats 200000 in
theorem e_offer {n : Nat} {σ : xσ} {w : Ou} {a : An} (h : AnS σ w a) (hw : w.1 < 20000) (ha : a.1 < 100000) (v : Int) : ∃ σ', f_X10_offer n (iI v) σ = some ((), σ') ∧ Fk PAn σ σ' ∧ AnS σ' w (snc a v) := by
  obtain ⟨⟨h1, h2⟩, h3, h4⟩ := h
  rw [f_X10_offer, h1, h3, nIp2, nI_ad, st]
  simp only [nIg19000 (show w.1 + 2 + a.1 < 2147483648 by omega)]
  by_cases q : 19000 ≤ w.1 + 2 + a.1
  · rw [if_pos q, nI_s, st]
    refine ⟨_, rfl, Fk.wI (Or.inl ⟨rfl, rfl⟩), ⟨?_, fun i hi => ?_⟩, ?_, fun j hj l => ?_⟩
    · rw [sI_wI, if_neg (by omega)]; exact h1
    · rw [sI_wI, if_neg (by omega)]; exact h2 i hi
    · rw [sI_own]; rfl
    · have hj' : j < a.1 + 1 := hj
      show _ = iI (if j = a.1 then v else a.2 j)
      rw [if_neg (by omega), sI_wI, if_neg (by omega)]
      exact h4 j (by omega) l
  · rw [if_neg q, gd_in (by omega) (by omega), nI_k (by omega), st, b_X10_offer_26]
    have e9 : sI (wI σ 232 (w.1 + 2 + a.1) (iI v)) 0 9 = nI a.1 := by rw [sI_wI, if_neg (by omega)]; exact h3
    rw [e9, nI_s, st]
    refine ⟨_, rfl, (Fk.wI (Or.inr rfl)).trans (Fk.wI (Or.inl ⟨rfl, rfl⟩)), ⟨?_, fun i hi => ?_⟩, ?_, fun j hj l => ?_⟩
    · rw [sI_wI, if_neg (by omega), sI_wI, if_neg (by omega)]; exact h1
    · rw [sI_wI, if_neg (by omega), sI_wI, if_neg (by omega)]; exact h2 i hi
    · rw [sI_own]; rfl
    · have hj' : j < a.1 + 1 := hj
      show _ = iI (if j = a.1 then v else a.2 j)
      rw [sI_wI, if_neg (by omega)]
      by_cases e : j = a.1
      · rw [if_pos e, e, sI_own]
      · rw [if_neg e, sI_wI, if_neg (by omega)]; exact h4 j (by omega) l
/-- those of a table of which P is so -/
noncomputable def fiA (P : Nat → Prop) (ids : Nat → Int) : Nat → Nat → An → An
  | 0, _, a => a
  | r + 1, i, a => fiA P ids r (i + 1) (ifP (P i) (snc a (ids i)) a)
set_option maxHeartbeats 200000 in
theorem fiA_b (P : Nat → Prop) (ids : Nat → Int) : ∀ r i a, (fiA P ids r i a).1 ≤ a.1 + r := by
  intro r
  induction r with
  | zero => intro i a; exact Nat.le_refl _
  | succ r ih =>
    intro i a
    rw [fiA]
    have := ih (i + 1) (ifP (P i) (snc a (ids i)) a)
    by_cases p : P i
    · rw [ifP_t p] at this ⊢
      have e : (snc a (ids i)).1 = a.1 + 1 := rfl
      omega
    · rw [ifP_f p] at this ⊢; omega
set_option maxHeartbeats 200000 in
theorem fiA_c {P Q : Nat → Prop} (ids : Nat → Int) : ∀ r i a, (∀ j, i ≤ j → j < i + r → (P j ↔ Q j)) → fiA P ids r i a = fiA Q ids r i a := by
  intro r
  induction r with
  | zero => intro i a _; rfl
  | succ r ih =>
    intro i a h
    rw [fiA, fiA, ifP_c (h i (by omega) (by omega)), ih (i + 1) _ (fun j l1 l2 => h j (by omega) (by omega))]
def PQs (b k : Nat) : Prop := PAn b k ∨ (18 ≤ b ∧ b ≤ 28)
set_option maxHeartbeats 200000 in
theorem PQs_o {b k : Nat} (h : PQs b k) : outK b := by unfold PQs PAn at h; unfold outK; omega
set_option maxHeartbeats 200000 in
theorem A4_q {b : Nat} (h : A4 b) : 18 ≤ b ∧ b ≤ 28 := by unfold A4 at h; omega
set_option maxHeartbeats 200000 in
theorem AnS.a4 {σ σ' : xσ} {w : Ou} {a : An} (h : AnS σ w a) (f : Fr A4 σ σ') : AnS σ' w a := h.fk (Fk.of f) (fun k y => by have := A4_q y; omega) (fun k y => by have := A4_q y; omega)
/-! a row of the live table -/
set_option maxHeartbeats 200000 in
theorem KS.row {n : Nat} {σ : xσ} {k : Kp} (h : KS n σ k) (o : okK k) {i : Nat} (hi : i < tC (kL k)) : ∃ x, sR σ 13 i = some (ad x) ∧ SH n σ (ad x) (tS (kL k) i) ∧ WF (tS (kL k) i) ∧ Val (tS (kL k) i) ∧ sI σ 12 i = iI (tI (kL k) i) := by
  obtain ⟨⟨K, lg, pl, pc, P⟩, _⟩ := h
  obtain ⟨_, p2, p3⟩ := P.2.2.1.2 i hi
  obtain ⟨W, V⟩ := o.1.1.2.2.2 i hi
  exact ⟨pl i, p2, p3, W, V, P.2.2.1.1.2 i hi⟩
set_option maxHeartbeats 200000 in
theorem KS.cnt {n : Nat} {σ : xσ} {k : Kp} (h : KS n σ k) : sI σ 11 2 = nI (tC (kL k)) := h.ids.1
set_option maxHeartbeats 200000 in
theorem l_find {n : Nat} {k : Kp} (o : okK k) {c : Ct} (W : WF c) (V : Val c) {rel : Nat} (hr : rel < 5) {w : Ou} (hw : w.1 < 20000) : ∀ r f i σ a, r < f → i + r = tC (kL k) → KS n σ k → SH n σ 5 c → sI σ 3 4 = nI rel → AnS σ w a → a.1 + r < 1000 → ∃ σ', l_X10_find_44 n f (nI i) σ = some (0, σ') ∧ Fk PQs σ σ' ∧ AnS σ' w (fiA (fun j => Rel rel (tS (kL k) j) c) (tI (kL k)) r i a) := by
  have l2 := o.1.1.1
  intro r
  induction r with
  | zero =>
    intro f i σ a hf hi h S h34 hA _
    obtain ⟨g, rfl⟩ : ∃ g, f = g + 1 := ⟨f - 1, by omega⟩
    rw [l_X10_find_44, h.cnt, if_pos ((nI_e' (by omega) (by omega)).mpr (by omega))]
    exact ⟨σ, rfl, Fk.refl, hA⟩
  | succ r ih =>
    intro f i σ a hf hi h S h34 hA ha
    obtain ⟨g, rfl⟩ : ∃ g, f = g + 1 := ⟨f - 1, by omega⟩
    obtain ⟨x, r1, r2, r3, r4, r5⟩ := h.row o (show i < tC (kL k) by omega)
    obtain ⟨σ1, f1, t1⟩ := e_holds (n := n) r2 r3 r4 S W V hr
    have i1 : ∀ {α : Type} (y : Option α), gd (inb (nI i) 200) y = y := fun y => gd_in (by omega) (by omega)
    have nIk : (nI i).toNatClampNeg = i := nI_k (by omega)
    have g1 : Fk PQs σ σ1 := (Fk.of f1).mono (fun b k y => Or.inr (A4_q y))
    have h1 : KS n σ1 k := h.fk g1 (fun _ _ => PQs_o)
    have S1 : SH n σ1 5 c := S.fr f1 (fun j hj y => by have := A4_q y; omega)
    have e34 : sI σ1 3 4 = nI rel := by rw [(g1 3 4 (fun y => by unfold PQs PAn at y; omega)).1]; exact h34
    have e12 : sI σ1 12 i = iI (tI (kL k) i) := by rw [(g1 12 i (fun y => by unfold PQs PAn at y; omega)).1]; exact r5
    rw [l_X10_find_44, h.cnt, if_neg (fun y => by have := (nI_e' (by omega) (by omega)).mp y; omega)]
    simp only [i1, nIk, r1, nn]
    rw [gd_pos r2.1, h34, t1, bd, fiA]
    by_cases q : Rel rel (tS (kL k) i) c
    · obtain ⟨σ2, u1, u2, u3⟩ := e_offer (n := n) (hA.a4 f1) hw (by omega) (tI (kL k) i)
      have g2 : Fk PQs σ1 σ2 := u2.mono (fun _ _ => Or.inl)
      rw [if_neg (tn q), e12, u1, bd, b_X10_find_92, nI_s, ifP_t q]
      obtain ⟨σ3, v1, v2, v3⟩ := ih g (i + 1) σ2 _ (by omega) (by omega) (h1.fk g2 (fun _ _ => PQs_o)) (S1.fk g2 (fun j k hj y => by unfold PQs PAn at y; omega)) (by rw [(g2 3 4 (fun y => by unfold PQs PAn at y; omega)).1]; exact e34) u3 (by show a.1 + 1 + r < 1000; omega)
      exact ⟨σ3, v1, (g1.trans g2).trans v2, v3⟩
    · rw [if_pos (tf_f q), nI_s, ifP_f q]
      obtain ⟨σ3, v1, v2, v3⟩ := ih g (i + 1) σ1 _ (by omega) (by omega) h1 S1 e34 (hA.a4 f1) (by omega)
      exact ⟨σ3, v1, g1.trans v2, v3⟩
/-- a question: a code, or answers -/
def quA (code : Int) (a : An) : Int × An := (code, a)
noncomputable def findA (k : Kp) (big : Prop) (c : Ct) (rel : Nat) : Int × An := ifP big (4, an0) (ifP (¬ Val c) (3, an0) (0, fiA (fun j => Rel rel (tS (kL k) j) c) (tI (kL k)) (tC (kL k)) 0 an0))
set_option maxHeartbeats 200000 in
theorem e_find {n : Nat} {σ : xσ} {k : Kp} (h : KS n σ k) (o : okK k) {kn : Nat} {s : Sh} (hs : ShB n σ 5 kn s) (hW : ¬ (40 < shP s ∨ 8 < shR s) → WF ((kn, s) : Ct)) {rel : Nat} (hr : rel < 5) (h34 : sI σ 3 4 = nI rel) {w : Ou} (hw : w.1 < 20000) (hA : AnS σ w an0) : ∃ σ', f_X10_find n σ = some (iI (findA k (40 < shP s ∨ 8 < shR s) (kn, s) rel).1, σ') ∧ Fk PQs σ σ' ∧ AnS σ' w (findA k (40 < shP s ∨ 8 < shR s) (kn, s) rel).2 := by
  have l2 := o.1.1.1
  rw [f_X10_find, hs.1.2.1.2.2.2]
  unfold findA
  by_cases q4 : 40 < shP s ∨ 8 < shR s
  · rw [if_neg (tn q4), ifP_t q4]; exact ⟨σ, rfl, Fk.refl, hA⟩
  have W := hW q4
  have S : SH n σ 5 ((kn, s) : Ct) := b5 hs W.n.1 (by omega) (by omega)
  obtain ⟨σ1, f1, t1⟩ := e_isValid (n := n) S W
  have g1 : Fk PQs σ σ1 := (Fk.of f1).mono (fun b k y => Or.inr (A5_x y))
  have h1 : KS n σ1 k := h.fk g1 (fun _ _ => PQs_o)
  have S1 : SH n σ1 5 ((kn, s) : Ct) := S.fr f1 (fun j hj y => by have := A5_x y; omega)
  have A1 : AnS σ1 w an0 := hA.fk (Fk.of f1) (fun k y => by have := A5_x y; omega) (fun k y => by have := A5_x y; omega)
  rw [if_pos (tf_f q4), ifP_f q4, t1, bd]
  by_cases q5 : Val ((kn, s) : Ct)
  · rw [if_neg (tn q5), ifP_f (fun y => y q5)]
    obtain ⟨σ2, u1, u2, u3⟩ := l_find (n := n) o W q5 hr hw (tC (kL k)) xFU 0 σ1 an0 (xFU_lt (by omega)) (by omega) h1 S1 (by rw [(g1 3 4 (fun y => by unfold PQs PAn at y; omega)).1]; exact h34) A1 (by show 0 + tC (kL k) < 1000; omega)
    rw [show nI 0 = 0 from rfl] at u1
    exact ⟨σ2, u1, g1.trans u2, u3⟩
  · rw [if_pos (tf_f q5), ifP_t q5]; exact ⟨σ1, rfl, g1, A1⟩
/-! WINDOW -/
set_option maxHeartbeats 200000 in
theorem l_window {n : Nat} {k : Kp} (o : okK k) {P Q : V2} (hP : bV P) (hQ : bV Q) {w : Ou} (hw : w.1 < 20000) : ∀ r f i σ a, r < f → i + r = tC (kL k) → KS n σ k → AnS σ w a → a.1 + r < 1000 → ∃ σ', l_X10_window_66 n f (iI P.1) (iI P.2) (iI Q.1) (iI Q.2) (nI i) σ = some (0, σ') ∧ Fk PQs σ σ' ∧ AnS σ' w (fiA (fun j => WnS (tS (kL k) j) P Q) (tI (kL k)) r i a) := by
  have l2 := o.1.1.1
  intro r
  induction r with
  | zero =>
    intro f i σ a hf hi h hA _
    obtain ⟨g, rfl⟩ : ∃ g, f = g + 1 := ⟨f - 1, by omega⟩
    rw [l_X10_window_66, h.cnt, if_pos ((nI_e' (by omega) (by omega)).mpr (by omega))]
    exact ⟨σ, rfl, Fk.refl, hA⟩
  | succ r ih =>
    intro f i σ a hf hi h hA ha
    obtain ⟨g, rfl⟩ : ∃ g, f = g + 1 := ⟨f - 1, by omega⟩
    obtain ⟨x, r1, r2, r3, r4, r5⟩ := h.row o (show i < tC (kL k) by omega)
    have i1 : ∀ {α : Type} (y : Option α), gd (inb (nI i) 200) y = y := fun y => gd_in (by omega) (by omega)
    have nIk : (nI i).toNatClampNeg = i := nI_k (by omega)
    rw [l_X10_window_66, h.cnt, if_neg (fun y => by have := (nI_e' (by omega) (by omega)).mp y; omega)]
    simp only [i1, nIk, r1, nn]
    rw [gd_pos r2.1, e_isInWindow r2 r3 r4 hP hQ, bd, fiA]
    by_cases q : WnS (tS (kL k) i) P Q
    · obtain ⟨σ2, u1, u2, u3⟩ := e_offer (n := n) hA hw (by omega) (tI (kL k) i)
      have g2 : Fk PQs σ σ2 := u2.mono (fun _ _ => Or.inl)
      rw [if_neg (tn q), r5, u1, bd, b_X10_window_107, nI_s, ifP_t q]
      obtain ⟨σ3, v1, v2, v3⟩ := ih g (i + 1) σ2 _ (by omega) (by omega) (h.fk g2 (fun _ _ => PQs_o)) u3 (by show a.1 + 1 + r < 1000; omega)
      exact ⟨σ3, v1, g2.trans v2, v3⟩
    · rw [if_pos (tf_f q), nI_s, ifP_f q]
      exact ih g (i + 1) σ _ (by omega) (by omega) h hA (by omega)
noncomputable def winA (k : Kp) (P Q : V2) : Int × An := ifP (Q.1 < P.1 ∨ Q.2 < P.2) (5, an0) (0, fiA (fun j => WnS (tS (kL k) j) P Q) (tI (kL k)) (tC (kL k)) 0 an0)
set_option maxHeartbeats 200000 in
theorem e_window {n : Nat} {σ : xσ} {k : Kp} (h : KS n σ k) (o : okK k) {P Q : V2} (hP : bV P) (hQ : bV Q) (h0 : sI σ 4 0 = iI P.1) (h1 : sI σ 4 1 = iI P.2) (h2 : sI σ 4 2 = iI Q.1) (h3 : sI σ 4 3 = iI Q.2) {w : Ou} (hw : w.1 < 20000) (hA : AnS σ w an0) : ∃ σ', f_X10_window n σ = some (iI (winA k P Q).1, σ') ∧ Fk PQs σ σ' ∧ AnS σ' w (winA k P Q).2 := by
  have l2 := o.1.1.1
  rw [f_X10_window, gd_pos (by decide), z8.1, h0, st, gd_pos (by decide), z8.2.1, h1, st, gd_pos (by decide), z8.2.2.1, h2, st, gd_pos (by decide), z8.2.2.2.1, h3, st]
  simp only [iI_lt hQ.1.r hP.1.r, iI_le hP.2.r hQ.2.r]
  unfold winA
  by_cases q1 : Q.1 < P.1
  · rw [if_pos q1, ifP_t (Or.inl q1)]; exact ⟨σ, rfl, Fk.refl, hA⟩
  rw [if_neg q1]
  by_cases q2 : P.2 ≤ Q.2
  · rw [if_pos q2, ifP_f (by omega)]
    obtain ⟨σ2, u1, u2, u3⟩ := l_window (n := n) o hP hQ hw (tC (kL k)) xFU 0 σ an0 (xFU_lt (by omega)) (by omega) h hA (by show 0 + tC (kL k) < 1000; omega)
    rw [show nI 0 = 0 from rfl] at u1
    exact ⟨σ2, u1, u2, u3⟩
  · rw [if_neg q2, ifP_t (Or.inr (by omega))]; exact ⟨σ, rfl, Fk.refl, hA⟩

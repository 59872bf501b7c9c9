/-! a shape that is being made: places and rings so far -/
abbrev Sh := Nat × Nat × (Nat → V2) × (Nat → Nat)
def shP (s : Sh) : Nat := s.1
def shR (s : Sh) : Nat := s.2.1
def shV (s : Sh) : Nat → V2 := s.2.2.1
def shE (s : Sh) : Nat → Nat := s.2.2.2
def adP (s : Sh) (v : V2) : Sh := (shP s + 1, shR s, fun i => if i = shP s then v else shV s i, shE s)
def clR (s : Sh) : Sh := (shP s, shR s + 1, shV s, fun r => if r = shR s then min (shP s) 40 else shE s r)
def sh0 : Sh := (0, 0, fun _ => (0, 0), fun _ => 0)
def ShS (n : Nat) (σ : xσ) (a kn : Nat) (s : Sh) : Prop := okS n a ∧ (sI σ a 0 = nI kn ∧ sI σ a 1 = nI (min (shP s) 40) ∧ sI σ a 2 = nI (min (shR s) 8) ∧ sI σ a 3 = tf (40 < shP s ∨ 8 < shR s)) ∧ (∀ i, i < min (shP s) 40 → sI σ (a + 1) i = iI (shV s i).1 ∧ sI σ (a + 2) i = iI (shV s i).2 ∧ sI σ (a + 4) i = tf (∃ r, r < min (shR s) 8 ∧ shE s r = i + 1)) ∧ (∀ r, r < min (shR s) 8 → sI σ (a + 3) r = nI (shE s r) ∧ shE s r ≤ min (shP s) 40)
def PSh (a b k : Nat) : Prop := (a < b ∧ b < a + 5) ∨ (b = a ∧ k < 8)
set_option maxHeartbeats 200000 in
theorem ShS.fr {n : Nat} {σ σ' : xσ} {a kn : Nat} {s : Sh} {P : Nat → Nat → Prop} (h : ShS n σ a kn s) (f : Fk P σ σ') (hP : ∀ j k, j < 5 → P (a + j) k → j = 0 ∧ 4 ≤ k) : ShS n σ' a kn s := by
  obtain ⟨h1, ⟨h2, h3, h4, h5⟩, h6, h7⟩ := h
  have z : ∀ k, k < 4 → sI σ' a k = sI σ a k := fun k hk => (f a k (fun y => by have := hP 0 k (by omega) y; omega)).1
  have w : ∀ j k, 1 ≤ j → j < 5 → sI σ' (a + j) k = sI σ (a + j) k := fun j k h1 h2 => (f (a + j) k (fun y => by have := hP j k h2 y; omega)).1
  refine ⟨h1, ⟨?_, ?_, ?_, ?_⟩, fun i hi => ?_, fun r hr => ?_⟩
  · rw [z 0 (by omega)]; exact h2
  · rw [z 1 (by omega)]; exact h3
  · rw [z 2 (by omega)]; exact h4
  · rw [z 3 (by omega)]; exact h5
  · rw [w 1 i (by omega) (by omega), w 2 i (by omega) (by omega), w 4 i (by omega) (by omega)]; exact h6 i hi
  · rw [w 3 r (by omega) (by omega)]; exact h7 r hr
set_option maxHeartbeats 200000 in
theorem e_start {n : Nat} {σ : xσ} {a : Nat} (oa : okS n a) (kn : Nat) (V : Nat → V2) (E : Nat → Nat) : ∃ σ', f_X7_start n a (nI kn) σ = some ((), σ') ∧ Fk (PSh a) σ σ' ∧ ShS n σ' a kn (0, 0, V, E) := by
  rw [f_X7_start, gd_pos oa, st, st, st, st]
  have fr : ∀ {s : xσ} {k : Nat} {v : Int32}, k < 8 → Fk (PSh a) s (wI s a k v) := fun hk => Fk.wI (Or.inr ⟨rfl, hk⟩)
  refine ⟨_, rfl, (((fr (by omega)).trans (fr (by omega))).trans (fr (by omega))).trans (fr (by omega)), oa, ⟨?_, ?_, ?_, ?_⟩, fun i hi => ?_, fun r hr => ?_⟩
  · rw [sI_wI, if_neg (by omega), sI_wI, if_neg (by omega), sI_wI, if_neg (by omega), sI_wI, if_pos ⟨rfl, rfl⟩]
  · rw [sI_wI, if_neg (by omega), sI_wI, if_neg (by omega), sI_wI, if_pos ⟨rfl, rfl⟩]; rfl
  · rw [sI_wI, if_neg (by omega), sI_wI, if_pos ⟨rfl, rfl⟩]; rfl
  · rw [sI_wI, if_pos ⟨rfl, rfl⟩, tf_f]; show ¬ (40 < 0 ∨ 8 < 0); omega
  · have : i < min 0 40 := hi
    omega
  · have : r < min 0 8 := hr
    omega
set_option maxHeartbeats 200000 in
theorem nar0 : vp_nar .boolean 0 = 0 := rfl
set_option maxHeartbeats 200000 in
theorem nar1 : vp_nar .boolean 1 = 1 := rfl
set_option maxHeartbeats 200000 in
theorem e_addPlace {n : Nat} {σ : xσ} {a kn : Nat} {s : Sh} (h : ShS n σ a kn s) (v : V2) : ∃ σ', f_X7_addPlace n a (iI v.1) (iI v.2) σ = some ((), σ') ∧ Fk (PSh a) σ σ' ∧ ShS n σ' a kn (adP s v) := by
  obtain ⟨oa, ⟨h0, h1, h2, h3⟩, h4, h5⟩ := id h
  have fr : ∀ {s : xσ} {k : Nat} {v : Int32}, k < 8 → Fk (PSh a) s (wI s a k v) := fun hk => Fk.wI (Or.inr ⟨rfl, hk⟩)
  have fj : ∀ {s : xσ} {j k : Nat} {v : Int32}, 1 ≤ j → j < 5 → Fk (PSh a) s (wI s (a + j) k v) := fun h1 h2 => Fk.wI (Or.inl ⟨by omega, by omega⟩)
  rw [f_X7_addPlace, gd_pos oa, h1]
  simp only [nIl40 (show min (shP s) 40 < 2147483648 by omega)]
  by_cases q : shP s < 40
  · have m : min (shP s) 40 = shP s := by omega
    rw [m] at h1 h4 h5 ⊢
    have e1 : ∀ v, sI (wI σ (a + 1) (shP s) v) a 1 = nI (shP s) := fun v => by rw [sI_wI, if_neg (by omega), h1]
    have e2 : ∀ v w, sI (wI (wI σ (a + 1) (shP s) v) (a + 2) (shP s) w) a 1 = nI (shP s) := fun v w => by rw [sI_wI, if_neg (by omega), e1]
    have e3 : ∀ v w u, sI (wI (wI (wI σ (a + 1) (shP s) v) (a + 2) (shP s) w) (a + 4) (shP s) u) a 1 = nI (shP s) := fun v w u => by rw [sI_wI, if_neg (by omega), e2]
    have i1 : ∀ {α : Type} (y : Option α), gd (inb (nI (shP s)) 40) y = y := fun y => gd_in q (by omega)
    rw [if_pos q, i1, nI_k (by omega), st, e1, i1, nI_k (by omega), st, e2, i1, nI_k (by omega), st, e3, st, nar0, nI_s]
    have mp : min (shP (adP s v)) 40 = shP s + 1 := by show min (shP s + 1) 40 = _; omega
    refine ⟨_, rfl, (((fj (by omega) (by omega)).trans (fj (by omega) (by omega))).trans (fj (by omega) (by omega))).trans (fr (by omega)), oa, ⟨?_, ?_, ?_, ?_⟩, fun i hi => ?_, fun r hr => ?_⟩
    · rw [sI_wI, if_neg (by omega), sI_wI, if_neg (by omega), sI_wI, if_neg (by omega), sI_wI, if_neg (by omega), h0]
    · rw [sI_wI, if_pos ⟨rfl, rfl⟩, mp]
    · rw [sI_wI, if_neg (by omega), sI_wI, if_neg (by omega), sI_wI, if_neg (by omega), sI_wI, if_neg (by omega), h2]; rfl
    · rw [sI_wI, if_neg (by omega), sI_wI, if_neg (by omega), sI_wI, if_neg (by omega), sI_wI, if_neg (by omega), h3]
      refine tf_c ?_
      show (40 < shP s ∨ 8 < shR s) ↔ (40 < shP s + 1 ∨ 8 < shR s)
      omega
    · rw [mp] at hi
      show _ = iI (if i = shP s then v else shV s i).1 ∧ _ = iI (if i = shP s then v else shV s i).2 ∧ _ = tf (∃ r, r < min (shR s) 8 ∧ shE s r = i + 1)
      by_cases z : i = shP s
      · subst z
        rw [if_pos rfl]
        refine ⟨?_, ?_, ?_⟩
        · rw [sI_wI, if_neg (by omega), sI_wI, if_neg (by omega), sI_wI, if_neg (by omega), sI_wI, if_pos ⟨rfl, rfl⟩]
        · rw [sI_wI, if_neg (by omega), sI_wI, if_neg (by omega), sI_wI, if_pos ⟨rfl, rfl⟩]
        · rw [sI_wI, if_neg (by omega), sI_wI, if_pos ⟨rfl, rfl⟩, tf_f]
          rintro ⟨r, hr, e⟩
          have := (h5 r hr).2
          omega
      · have := h4 i (by omega)
        rw [if_neg z]
        refine ⟨?_, ?_, ?_⟩
        · rw [sI_wI, if_neg (by omega), sI_wI, if_neg (by omega), sI_wI, if_neg (by omega), sI_wI, if_neg (by omega)]; exact this.1
        · rw [sI_wI, if_neg (by omega), sI_wI, if_neg (by omega), sI_wI, if_neg (by omega), sI_wI, if_neg (by omega)]; exact this.2.1
        · rw [sI_wI, if_neg (by omega), sI_wI, if_neg (by omega), sI_wI, if_neg (by omega), sI_wI, if_neg (by omega)]; exact this.2.2
    · have := h5 r hr
      rw [mp]
      refine ⟨?_, ?_⟩
      · rw [sI_wI, if_neg (by omega), sI_wI, if_neg (by omega), sI_wI, if_neg (by omega), sI_wI, if_neg (by omega)]; exact this.1
      · show shE s r ≤ _; omega
  · have m : min (shP s) 40 = 40 := by omega
    rw [if_neg (by omega), st]
    have mp : min (shP (adP s v)) 40 = 40 := by show min (shP s + 1) 40 = _; omega
    rw [m] at h1 h4 h5
    refine ⟨_, rfl, fr (by omega), oa, ⟨?_, ?_, ?_, ?_⟩, fun i hi => ?_, fun r hr => ?_⟩
    · rw [sI_wI, if_neg (by omega), h0]
    · rw [sI_wI, if_neg (by omega), h1, mp]
    · rw [sI_wI, if_neg (by omega), h2]; rfl
    · rw [sI_wI, if_pos ⟨rfl, rfl⟩, tf_t]; show 40 < shP s + 1 ∨ _; omega
    · rw [mp] at hi
      have := h4 i hi
      show _ = iI (if i = shP s then v else shV s i).1 ∧ _ = iI (if i = shP s then v else shV s i).2 ∧ _ = tf (∃ r, r < min (shR s) 8 ∧ shE s r = i + 1)
      rw [if_neg (by omega)]
      refine ⟨?_, ?_, ?_⟩
      · rw [sI_wI, if_neg (by omega)]; exact this.1
      · rw [sI_wI, if_neg (by omega)]; exact this.2.1
      · rw [sI_wI, if_neg (by omega)]; exact this.2.2
    · have := h5 r hr
      rw [mp]
      exact ⟨by rw [sI_wI, if_neg (by omega)]; exact this.1, this.2⟩
set_option maxHeartbeats 200000 in
theorem e_closeRing {n : Nat} {σ : xσ} {a kn : Nat} {s : Sh} (h : ShS n σ a kn s) (hp : 1 ≤ shP s) : ∃ σ', f_X7_closeRing n a σ = some ((), σ') ∧ Fk (PSh a) σ σ' ∧ ShS n σ' a kn (clR s) := by
  obtain ⟨oa, ⟨h0, h1, h2, h3⟩, h4, h5⟩ := id h
  have fr : ∀ {s : xσ} {k : Nat} {v : Int32}, k < 8 → Fk (PSh a) s (wI s a k v) := fun hk => Fk.wI (Or.inr ⟨rfl, hk⟩)
  have fj : ∀ {s : xσ} {j k : Nat} {v : Int32}, 1 ≤ j → j < 5 → Fk (PSh a) s (wI s (a + j) k v) := fun h1 h2 => Fk.wI (Or.inl ⟨by omega, by omega⟩)
  rw [f_X7_closeRing, gd_pos oa, h2, h1]
  simp only [nIg8 (show min (shR s) 8 < 2147483648 by omega), nIg1 (show min (shP s) 40 < 2147483648 by omega)]
  have pc : shP (clR s) = shP s := rfl
  have rc : shR (clR s) = shR s + 1 := rfl
  by_cases q : shR s < 8
  · have m : min (shR s) 8 = shR s := by omega
    rw [m] at h2 h5 h4 ⊢
    have e1 : ∀ v, sI (wI σ (a + 3) (shR s) v) a 2 = nI (shR s) := fun v => by rw [sI_wI, if_neg (by omega), h2]
    have e2 : ∀ v w, sI (wI (wI σ (a + 3) (shR s) v) a 2 w) a 1 = nI (min (shP s) 40) := fun v w => by rw [sI_wI, if_neg (by omega), sI_wI, if_neg (by omega), h1]
    rw [if_neg (by omega), if_pos (by omega), gd_in (by omega) (by omega), nI_k (by omega), st, e1, nI_s, st, e2, nIm1 (by omega), gd_in (by omega) (by omega), nI_k (by omega), st, nar1]
    have mr : min (shR (clR s)) 8 = shR s + 1 := by rw [rc]; omega
    refine ⟨_, rfl, ((fj (by omega) (by omega)).trans (fr (by omega))).trans (fj (by omega) (by omega)), oa, ⟨?_, ?_, ?_, ?_⟩, fun i hi => ?_, fun r hr => ?_⟩
    · rw [sI_wI, if_neg (by omega), sI_wI, if_neg (by omega), sI_wI, if_neg (by omega), h0]
    · rw [sI_wI, if_neg (by omega), sI_wI, if_neg (by omega), sI_wI, if_neg (by omega), h1]; rfl
    · rw [sI_wI, if_neg (by omega), sI_wI, if_pos ⟨rfl, rfl⟩, mr]
    · rw [sI_wI, if_neg (by omega), sI_wI, if_neg (by omega), sI_wI, if_neg (by omega), h3]
      refine tf_c ?_
      show (40 < shP s ∨ 8 < shR s) ↔ (40 < shP s ∨ 8 < shR s + 1)
      omega
    · rw [pc] at hi
      have t := h4 i hi
      rw [mr]
      show _ = iI (shV s i).1 ∧ _ = iI (shV s i).2 ∧ _ = tf (∃ r, r < shR s + 1 ∧ (if r = shR s then min (shP s) 40 else shE s r) = i + 1)
      refine ⟨?_, ?_, ?_⟩
      · rw [sI_wI, if_neg (by omega), sI_wI, if_neg (by omega), sI_wI, if_neg (by omega)]; exact t.1
      · rw [sI_wI, if_neg (by omega), sI_wI, if_neg (by omega), sI_wI, if_neg (by omega)]; exact t.2.1
      · by_cases z : i = min (shP s) 40 - 1
        · rw [sI_wI, if_pos ⟨rfl, z⟩, tf_t]
          exact ⟨shR s, by omega, by rw [if_pos rfl]; omega⟩
        · rw [sI_wI, if_neg (fun y => z y.2), sI_wI, if_neg (by omega), sI_wI, if_neg (by omega), t.2.2]
          refine tf_c ⟨fun ⟨r, a, b⟩ => ⟨r, by omega, by rw [if_neg (by omega)]; exact b⟩, fun ⟨r, a, b⟩ => ?_⟩
          by_cases y : r = shR s
          · rw [if_pos y] at b; omega
          · rw [if_neg y] at b; exact ⟨r, by omega, b⟩
    · rw [mr] at hr
      show _ = nI (if r = shR s then min (shP s) 40 else shE s r) ∧ (if r = shR s then min (shP s) 40 else shE s r) ≤ _
      by_cases y : r = shR s
      · rw [if_pos y]
        refine ⟨?_, Nat.le_refl _⟩
        rw [sI_wI, if_neg (by omega), sI_wI, if_neg (by omega), sI_wI, if_pos ⟨rfl, y⟩]
      · rw [if_neg y]
        have := h5 r (by omega)
        refine ⟨?_, this.2⟩
        rw [sI_wI, if_neg (by omega), sI_wI, if_neg (by omega), sI_wI, if_neg (fun z => y z.2)]; exact this.1
  · have m : min (shR s) 8 = 8 := by omega
    have mr : min (shR (clR s)) 8 = 8 := by rw [rc]; omega
    rw [m] at h2 h4 h5
    rw [if_pos (by omega), st]
    refine ⟨_, rfl, fr (by omega), oa, ⟨?_, ?_, ?_, ?_⟩, fun i hi => ?_, fun r hr => ?_⟩
    · rw [sI_wI, if_neg (by omega), h0]
    · rw [sI_wI, if_neg (by omega), h1]; rfl
    · rw [sI_wI, if_neg (by omega), h2, mr]
    · rw [sI_wI, if_pos ⟨rfl, rfl⟩, tf_t]; show _ ∨ 8 < shR s + 1; omega
    · rw [pc] at hi
      have t := h4 i hi
      rw [mr]
      show _ = iI (shV s i).1 ∧ _ = iI (shV s i).2 ∧ _ = tf (∃ r, r < 8 ∧ (if r = shR s then min (shP s) 40 else shE s r) = i + 1)
      refine ⟨?_, ?_, ?_⟩
      · rw [sI_wI, if_neg (by omega)]; exact t.1
      · rw [sI_wI, if_neg (by omega)]; exact t.2.1
      · rw [sI_wI, if_neg (by omega), t.2.2]
        exact tf_c ⟨fun ⟨r, a, b⟩ => ⟨r, a, by rw [if_neg (by omega)]; exact b⟩, fun ⟨r, a, b⟩ => ⟨r, a, by rw [if_neg (by omega)] at b; exact b⟩⟩
    · rw [mr] at hr
      have := h5 r hr
      show _ = nI (if r = shR s then min (shP s) 40 else shE s r) ∧ (if r = shR s then min (shP s) 40 else shE s r) ≤ _
      rw [if_neg (by omega)]
      exact ⟨by rw [sI_wI, if_neg (by omega)]; exact this.1, this.2⟩
/-! the box -/
set_option maxHeartbeats 200000 in
theorem xFU_s : ∃ g, xFU = g + 1 := ⟨xFU - 1, by unfold xFU; omega⟩
def PBx (a b k : Nat) : Prop := b = a ∧ 4 ≤ k ∧ k ≤ 7
set_option maxHeartbeats 200000 in
theorem l_finish {n a : Nat} (oa : okS n a) {m : Nat} (hm : m ≤ 40) {V : Nat → V2} (hV : ∀ i, i < m → R32 (V i).1 ∧ R32 (V i).2) : ∀ f i σ, 40 - i < f → 1 ≤ i → i ≤ 40 → i ≤ m → sI σ a 1 = nI m → (∀ j, j < m → sI σ (a + 1) j = iI (V j).1 ∧ sI σ (a + 2) j = iI (V j).2) → (sI σ a 4 = iI (mn (fun j => (V j).1) (i - 1)) ∧ sI σ a 6 = iI (mx (fun j => (V j).1) (i - 1)) ∧ sI σ a 5 = iI (mn (fun j => (V j).2) (i - 1)) ∧ sI σ a 7 = iI (mx (fun j => (V j).2) (i - 1))) → ∃ σ', l_X7_finish_42 n f a (nI i) σ = some ((), σ') ∧ Fk (PBx a) σ σ' ∧ (sI σ' a 4 = iI (mn (fun j => (V j).1) (m - 1)) ∧ sI σ' a 6 = iI (mx (fun j => (V j).1) (m - 1)) ∧ sI σ' a 5 = iI (mn (fun j => (V j).2) (m - 1)) ∧ sI σ' a 7 = iI (mx (fun j => (V j).2) (m - 1))) := by
  intro f
  induction f with
  | zero => intro i σ h; omega
  | succ f ih =>
    intro i σ h h1 h40 him hN hX hB
    rw [l_X7_finish_42, hN]
    by_cases q : m ≤ i
    · rw [if_pos ((nI_e' (by omega) (by omega)).mpr q)]
      rw [show i - 1 = m - 1 by omega] at hB
      exact ⟨σ, rfl, Fk.refl, hB⟩
    · have i1 : ∀ {α : Type} (y : Option α), gd (inb (nI i) 40) y = y := fun y => gd_in (by omega) (by omega)
      obtain ⟨b1, b2, b3, b4⟩ := hB
      have X := hX i (by omega)
      have r := hV i (by omega)
      have rng : ∀ g : Nat → Int, (∀ j, j < m → R32 (g j)) → R32 (mn g (i - 1)) ∧ R32 (mx g (i - 1)) := by
        intro g hg
        obtain ⟨j, j1, j2⟩ := mn_ex g (i - 1)
        obtain ⟨k, k1, k2⟩ := mx_ex g (i - 1)
        rw [j2, k2]
        exact ⟨hg j (by omega), hg k (by omega)⟩
      have g1 := rng (fun j => (V j).1) (fun j hj => (hV j hj).1)
      have g2 := rng (fun j => (V j).2) (fun j hj => (hV j hj).2)
      have fr : ∀ {s : xσ} {k : Nat} {v : Int32}, 4 ≤ k ∧ k ≤ 7 → Fk (PBx a) s (wI s a k v) := fun hk => Fk.wI ⟨rfl, hk⟩
      have s1 : ∀ v : Int32, sI (wI σ a 4 v) a 6 = sI σ a 6 := fun v => by rw [sI_wI, if_neg (by omega)]
      have s2 : ∀ v : Int32, sI (wI σ a 4 v) (a + 1) i = sI σ (a + 1) i := fun v => by rw [sI_wI, if_neg (by omega)]
      have s3 : ∀ v w : Int32, sI (wI (wI σ a 4 v) a 6 w) a 5 = sI σ a 5 := fun v w => by rw [sI_wI, if_neg (by omega), sI_wI, if_neg (by omega)]
      have s4 : ∀ v w : Int32, sI (wI (wI σ a 4 v) a 6 w) (a + 2) i = sI σ (a + 2) i := fun v w => by rw [sI_wI, if_neg (by omega), sI_wI, if_neg (by omega)]
      have s5 : ∀ v w u : Int32, sI (wI (wI (wI σ a 4 v) a 6 w) a 5 u) a 7 = sI σ a 7 := fun v w u => by rw [sI_wI, if_neg (by omega), sI_wI, if_neg (by omega), sI_wI, if_neg (by omega)]
      have s6 : ∀ v w u : Int32, sI (wI (wI (wI σ a 4 v) a 6 w) a 5 u) (a + 2) i = sI σ (a + 2) i := fun v w u => by rw [sI_wI, if_neg (by omega), sI_wI, if_neg (by omega), sI_wI, if_neg (by omega)]
      rw [if_neg (fun y => q ((nI_e' (by omega) (by omega)).mp y))]
      simp only [i1, nI_k (show i < 2147483648 by omega), st]
      rw [b1, X.1, imin_i g1.1 r.1, s1, s2, b2, X.1, imax_i g1.2 r.1, s3, s4, b3, X.2, imin_i g2.1 r.2, s5, s6, b4, X.2, imax_i g2.2 r.2, nI_s]
      have mnS : ∀ g : Nat → Int, mn g i = min (mn g (i - 1)) (g i) := fun g => by rw [show i = (i - 1) + 1 by omega]; exact rfl
      have mxS : ∀ g : Nat → Int, mx g i = max (mx g (i - 1)) (g i) := fun g => by rw [show i = (i - 1) + 1 by omega]; exact rfl
      have F := (((fr (s := σ) (k := 4) (v := iI (min (mn (fun j => (V j).1) (i - 1)) (V i).1)) (by omega)).trans (fr (k := 6) (v := iI (max (mx (fun j => (V j).1) (i - 1)) (V i).1)) (by omega))).trans (fr (k := 5) (v := iI (min (mn (fun j => (V j).2) (i - 1)) (V i).2)) (by omega))).trans (fr (k := 7) (v := iI (max (mx (fun j => (V j).2) (i - 1)) (V i).2)) (by omega))
      obtain ⟨σ', t1, t2, t3⟩ := ih (i + 1) _ (by omega) (by omega) (by omega) (by omega) (by rw [(F a 1 (fun y => by have := y.2; omega)).1]; exact hN) (fun j hj => by rw [(F (a + 1) j (fun y => by have := y.1; omega)).1, (F (a + 2) j (fun y => by have := y.1; omega)).1]; exact hX j hj) ⟨by
        rw [sI_wI, if_neg (by omega), sI_wI, if_neg (by omega), sI_wI, if_neg (by omega), sI_wI, if_pos ⟨rfl, rfl⟩, Nat.add_sub_cancel, mnS], by
        rw [sI_wI, if_neg (by omega), sI_wI, if_neg (by omega), sI_wI, if_pos ⟨rfl, rfl⟩, Nat.add_sub_cancel, mxS], by
        rw [sI_wI, if_neg (by omega), sI_wI, if_pos ⟨rfl, rfl⟩, Nat.add_sub_cancel, mnS], by
        rw [sI_wI, if_pos ⟨rfl, rfl⟩, Nat.add_sub_cancel, mxS]⟩
      exact ⟨σ', t1, F.trans t2, t3⟩
/-! any shape may be finished; one that has places gets its box -/
set_option maxHeartbeats 200000 in
theorem e_finish {n : Nat} {σ : xσ} {a kn : Nat} {s : Sh} (h : ShS n σ a kn s) (hV : ∀ i, i < min (shP s) 40 → bV (shV s i)) : ∃ σ', f_X7_finish n a σ = some ((), σ') ∧ Fk (PBx a) σ σ' ∧ ShS n σ' a kn s ∧ (1 ≤ shP s → sI σ' a 4 = iI (mn (fun j => (shV s j).1) (min (shP s) 40 - 1)) ∧ sI σ' a 6 = iI (mx (fun j => (shV s j).1) (min (shP s) 40 - 1)) ∧ sI σ' a 5 = iI (mn (fun j => (shV s j).2) (min (shP s) 40 - 1)) ∧ sI σ' a 7 = iI (mx (fun j => (shV s j).2) (min (shP s) 40 - 1))) := by
  obtain ⟨oa, ⟨h0, h1, h2, h3⟩, h4, h5⟩ := id h
  have g0 : ∀ {α : Type} (x : Option α), gd (inb 0 40) x = x := fun x => gd_pos (by decide) x
  have fr : ∀ {s : xσ} {k : Nat} {v : Int32}, 4 ≤ k ∧ k ≤ 7 → Fk (PBx a) s (wI s a k v) := fun hk => Fk.wI ⟨rfl, hk⟩
  have z0 : (0 : Int32).toNatClampNeg = 0 := rfl
  rw [f_X7_finish, gd_pos oa, g0, st, g0, st, g0, st, g0, st, z0]
  have s2 : ∀ v : Int32, sI (wI σ a 4 v) (a + 1) 0 = sI σ (a + 1) 0 := fun v => by rw [sI_wI, if_neg (by omega)]
  have s4 : ∀ v w : Int32, sI (wI (wI σ a 4 v) a 6 w) (a + 2) 0 = sI σ (a + 2) 0 := fun v w => by rw [sI_wI, if_neg (by omega), sI_wI, if_neg (by omega)]
  have s6 : ∀ v w u : Int32, sI (wI (wI (wI σ a 4 v) a 6 w) a 5 u) (a + 2) 0 = sI σ (a + 2) 0 := fun v w u => by rw [sI_wI, if_neg (by omega), sI_wI, if_neg (by omega), sI_wI, if_neg (by omega)]
  rw [s2, s4, s6]
  have F := (((fr (s := σ) (k := 4) (v := sI σ (a + 1) 0) (by omega)).trans (fr (k := 6) (v := sI σ (a + 1) 0) (by omega))).trans (fr (k := 5) (v := sI σ (a + 2) 0) (by omega))).trans (fr (k := 7) (v := sI σ (a + 2) 0) (by omega))
  have S' := h.fr F (fun j k hj y => by have := y.1; have := y.2; omega)
  have keep : ∀ σ', Fk (PBx a) (wI (wI (wI (wI σ a 4 (sI σ (a + 1) 0)) a 6 (sI σ (a + 1) 0)) a 5 (sI σ (a + 2) 0)) a 7 (sI σ (a + 2) 0)) σ' → ShS n σ' a kn s := fun σ' f => S'.fr f (fun j k hj y => by have := y.1; have := y.2; omega)
  by_cases p : 1 ≤ shP s
  · obtain ⟨σ', t1, t2, t3⟩ := l_finish (n := n) oa (m := min (shP s) 40) (by omega) (V := shV s) (fun i hi => ⟨(hV i hi).1.r, (hV i hi).2.r⟩) xFU 1 _ (xFU_lt (by omega)) (by omega) (by omega) (by omega) S'.2.1.2.1 (fun j hj => ⟨(S'.2.2.1 j hj).1, (S'.2.2.1 j hj).2.1⟩) ⟨by
      rw [sI_wI, if_neg (by omega), sI_wI, if_neg (by omega), sI_wI, if_neg (by omega), sI_wI, if_pos ⟨rfl, rfl⟩]; exact (h4 0 (by omega)).1, by
      rw [sI_wI, if_neg (by omega), sI_wI, if_neg (by omega), sI_wI, if_pos ⟨rfl, rfl⟩]; exact (h4 0 (by omega)).1, by
      rw [sI_wI, if_neg (by omega), sI_wI, if_pos ⟨rfl, rfl⟩]; exact (h4 0 (by omega)).2.1, by
      rw [sI_wI, if_pos ⟨rfl, rfl⟩]; exact (h4 0 (by omega)).2.1⟩
    rw [show nI 1 = 1 from rfl] at t1
    exact ⟨σ', t1, F.trans t2, keep σ' t2, fun _ => t3⟩
  · have e : l_X7_finish_42 n xFU a 1 (wI (wI (wI (wI σ a 4 (sI σ (a + 1) 0)) a 6 (sI σ (a + 1) 0)) a 5 (sI σ (a + 2) 0)) a 7 (sI σ (a + 2) 0)) = some ((), wI (wI (wI (wI σ a 4 (sI σ (a + 1) 0)) a 6 (sI σ (a + 1) 0)) a 5 (sI σ (a + 2) 0)) a 7 (sI σ (a + 2) 0)) := by
      obtain ⟨g, hg⟩ := xFU_s
      rw [hg, l_X7_finish_42, S'.2.1.2.1, show min (shP s) 40 = 0 by omega, if_pos (by decide)]
    exact ⟨_, e, F, S', fun y => (p y).elim⟩
/-! a finished shape that is not too large stands there -/
set_option maxHeartbeats 200000 in
theorem SH_of {n : Nat} {σ : xσ} {a kn : Nat} {s : Sh} (h : ShS n σ a kn s) (h1 : 1 ≤ shP s) (h40 : shP s ≤ 40) (h8 : shR s ≤ 8) (hB : sI σ a 4 = iI (mn (fun j => (shV s j).1) (min (shP s) 40 - 1)) ∧ sI σ a 6 = iI (mx (fun j => (shV s j).1) (min (shP s) 40 - 1)) ∧ sI σ a 5 = iI (mn (fun j => (shV s j).2) (min (shP s) 40 - 1)) ∧ sI σ a 7 = iI (mx (fun j => (shV s j).2) (min (shP s) 40 - 1))) : SH n σ a ((kn, s) : Ct) := by
  obtain ⟨oa, ⟨h0, k1, k2, k3⟩, k4, k5⟩ := h
  rw [show min (shP s) 40 = shP s by omega] at k1 k4 hB
  rw [show min (shR s) 8 = shR s by omega] at k2 k4 k5
  exact ⟨oa, ⟨h0, k1, k2⟩, ⟨hB.1, hB.2.2.1, hB.2.1, hB.2.2.2⟩, k4, fun r hr => (k5 r hr).1⟩

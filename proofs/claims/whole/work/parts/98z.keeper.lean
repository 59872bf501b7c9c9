/-! what is kept: live, committed, the log and the power -/
abbrev Kp := Tb × Tb × (Bool × Bool) × (Nat × Nat) × Int32 × (Int × Nat)
def kL (k : Kp) : Tb := k.1
def kC (k : Kp) : Tb := k.2.1
def kO (k : Kp) : Bool := k.2.2.1.1
def kD (k : Kp) : Bool := k.2.2.1.2
def kB (k : Kp) : Nat := k.2.2.2.1.1
def kU (k : Kp) : Nat := k.2.2.2.1.2
def kS (k : Kp) : Int32 := k.2.2.2.2.1
def kK (k : Kp) : Int := k.2.2.2.2.2.1
def kX (k : Kp) : Nat := k.2.2.2.2.2.2
def eqTb (t u : Tb) : Prop := tC t = tC u ∧ ∀ i, i < tC t → tI t i = tI u i ∧ tS t i = tS u i
set_option maxHeartbeats 200000 in
theorem eqTb_r (t : Tb) : eqTb t t := ⟨rfl, fun _ _ => ⟨rfl, rfl⟩⟩
def okK (k : Kp) : Prop := (okTb (kL k) ∧ okTb (kC k)) ∧ (kB k ≤ 14112 ∧ kU k ≤ 64) ∧ (kK k = -1 ∨ kK k = 0 ∨ kK k = 1) ∧ (kK k = 0 → 1 ≤ kX k ∧ kX k ≤ 1000) ∧ (kD k = true → kO k = false) ∧ (kO k = false → kD k = false → eqTb (kL k) (kC k))
def KS (n : Nat) (σ : xσ) (k : Kp) : Prop := (∃ K lg pl pc, KP n σ (kL k) (kC k) K lg pl pc) ∧ sI σ 10 5 = bI (kO k) ∧ sI σ 10 6 = bI (kD k) ∧ (∃ b, sI σ 10 7 = nI b ∧ b ≤ 14112 ∧ (kO k = true → b = kB k)) ∧ sI σ 10 8 = nI (kU k) ∧ sI σ 10 9 = kS k ∧ (kD k = false → sI σ 10 10 = iI (kK k) ∧ (kK k = 0 → sI σ 10 11 = nI (kX k)))
def kfall (k : Kp) : Kp := (kL k, kC k, (false, true), (kB k, kU k), kS k, (kK k, kX k))
def svK (k : Kp) : Int × Kp := if kK k = 1 then (-1, kfall k) else (0, (kL k, kL k, (kO k, kD k), (kB k, 0), kS k + 1, (kK k, kX k)))
def blk (c : Nat) : Nat := (c + 223) / 224 + 1
def cmtK (k : Kp) (u x : Nat) : Kp := (kL k, kL k, (kO k, kD k), (kB k, u), kS k, (kK k, x))
def wlK (k : Kp) (c : Nat) : Int × Kp := if kU k + blk c ≤ 64 then (if kK k = 0 then (if blk c < kX k then (0, cmtK k (kU k + blk c) (kX k - blk c)) else (-1, kfall k)) else (0, cmtK k (kU k + blk c) (kX k))) else svK k
def stK (k : Kp) (m : Nat) : Int × Kp := if kO k = true then (0, (kL k, kC k, (kO k, kD k), (kB k + m, kU k), kS k, (kK k, kX k))) else wlK k m
set_option maxHeartbeats 200000 in
theorem nI_div {a b : Nat} (ha : a < 2147483648) (h0 : 0 < b) (hb : b < 2147483648) : nI a / nI b = nI (a / b) := by
  rw [← Int32.toInt_inj, Int32.toInt_div, nI_i, nI_i, nI_i, iI_to ⟨by omega, by omega⟩, iI_to ⟨by omega, by omega⟩]
  have h := Nat.div_le_self a b
  rw [← Int.ofNat_tdiv]
  generalize a / b = d at h ⊢
  rw [iI_to ⟨by omega, by omega⟩, Int.bmod_eq_of_le (by omega) (by omega)]
set_option maxHeartbeats 200000 in
theorem e_blk {c : Nat} (hc : c ≤ 20000) : ((nI c + 224) - 1) / 224 + 1 = nI (blk c) := by
  have e1 : nI c + 224 = nI (c + 224) := nI_ad c 224
  have e2 : nI (c + 224) - 1 = nI (c + 223) := by rw [nIm1 (by omega)]; rfl
  have e3 : nI (c + 223) / 224 = nI ((c + 223) / 224) := nI_div (b := 224) (by omega) (by omega) (by omega)
  rw [e1, e2, e3, nI_s]; rfl
set_option maxHeartbeats 200000 in
theorem blk_b {c : Nat} (hc : c ≤ 14112) : blk c ≤ 64 ∧ 1 ≤ blk c := by unfold blk; omega
/-! the system's keeper -/
def PKk (b k : Nat) : Prop := (11 ≤ b ∧ b ≤ 17) ∨ 2476 ≤ b ∨ (b = 10 ∧ 3 ≤ k ∧ k ≤ 11)
set_option maxHeartbeats 200000 in
theorem PHd_k {b k : Nat} (h : PHd b k) : PKk b k := Or.inr (Or.inl h.2.1)
set_option maxHeartbeats 200000 in
theorem PCq_k {a b k : Nat} (ha : a = 11 ∨ a = 14) (h : PCq a b k) : PKk b k := by
  rcases h with h | h
  · exact PHd_k h
  · exact Or.inl (by omega)
set_option maxHeartbeats 200000 in
theorem KP.w {n : Nat} {σ : xσ} {L C : Tb} {K lg : Nat} {pl pc : Nat → Nat} (h : KP n σ L C K lg pl pc) {j : Nat} (hj : 5 ≤ j) {v : Int32} : KP n (wI σ 10 j v) L C K lg pl pc := by
  obtain ⟨a, ⟨b1, b2, b3⟩, c, d, e⟩ := h
  have F : Fk (fun b k => b = 10 ∧ k = j) σ (wI σ 10 j v) := Fk.wI ⟨rfl, rfl⟩
  refine ⟨a, ⟨by rw [(F 10 3 (by omega)).1]; exact b1, by rw [(F 10 4 (by omega)).1]; exact b2, fun k hk => by rw [(F 17 k (by omega)).2.2]; exact b3 k hk⟩, c.fk F (by omega) (fun k => by omega) (fun k => by omega) (fun i j k _ _ y => by unfold ad at y; omega), d.fk F (by omega) (fun k => by omega) (fun k => by omega) (fun i j k _ _ y => by unfold ad at y; omega), fun k hk => by rw [(F (ad k) 8 (by unfold ad; omega)).1]; exact e k hk⟩
/-! the committed ones become as the live ones -/
set_option maxHeartbeats 200000 in
theorem e_commitT {n : Nat} {σ : xσ} {L C : Tb} (okL : okTb L) (okC : okTb C) (h : ∃ K lg pl pc, KP n σ L C K lg pl pc) : ∃ σ', f_X8_copyFrom n 14 11 σ = some ((), σ') ∧ Fk PKk σ σ' ∧ (∃ K lg pl pc, KP n σ' L L K lg pl pc) ∧ ∀ k, sI σ' 10 k = sI σ 10 k := by
  obtain ⟨K, lg, pl, pc, a, ⟨b1, b2, b3⟩, c, d, e⟩ := h
  obtain ⟨σ', t1, t2, t3, t4, t5⟩ := e_copyFrom (a0 := 14) (a1 := 11) a.1 (Or.inr ⟨rfl, rfl⟩) okC okL d c (fun k hk => by rw [e k hk, Nat.add_comm])
  have z : ∀ k, sI σ' 10 k = sI σ 10 k := fun k => (t2 10 k (fun y => by unfold PCq PHd at y; omega)).1
  exact ⟨σ', t1, t2.mono (fun _ _ => PCq_k (Or.inr rfl)), ⟨K, lg, pl, pl, a, ⟨by rw [z]; exact b1, by rw [z]; exact b2, fun k hk => by rw [(t2 17 k (fun y => by unfold PCq PHd at y; omega)).2.2]; exact b3 k hk⟩, t4, t3, t5⟩, z⟩
set_option maxHeartbeats 200000 in
theorem e_abortT {n : Nat} {σ : xσ} {L C : Tb} (okL : okTb L) (okC : okTb C) (h : ∃ K lg pl pc, KP n σ L C K lg pl pc) : ∃ σ', f_X8_copyFrom n 11 14 σ = some ((), σ') ∧ Fk PKk σ σ' ∧ (∃ K lg pl pc, KP n σ' C C K lg pl pc) ∧ ∀ k, sI σ' 10 k = sI σ 10 k := by
  obtain ⟨K, lg, pl, pc, a, ⟨b1, b2, b3⟩, c, d, e⟩ := h
  obtain ⟨σ', t1, t2, t3, t4, t5⟩ := e_copyFrom (a0 := 11) (a1 := 14) a.1 (Or.inl ⟨rfl, rfl⟩) okL okC c d e
  have z : ∀ k, sI σ' 10 k = sI σ 10 k := fun k => (t2 10 k (fun y => by unfold PCq PHd at y; omega)).1
  exact ⟨σ', t1, t2.mono (fun _ _ => PCq_k (Or.inl rfl)), ⟨K, lg, pc, pc, a, ⟨by rw [z]; exact b1, by rw [z]; exact b2, fun k hk => by rw [(t2 17 k (fun y => by unfold PCq PHd at y; omega)).2.2]; exact b3 k hk⟩, t3, t4, t5⟩, z⟩
set_option maxHeartbeats 200000 in
theorem F10 {σ : xσ} {j : Nat} {v : Int32} (h : 3 ≤ j ∧ j ≤ 11) : Fk PKk σ (wI σ 10 j v) := Fk.wI (Or.inr (Or.inr ⟨rfl, h⟩))
set_option maxHeartbeats 200000 in
theorem e_hasRoom {n : Nat} {σ : xσ} {k : Kp} (h : KS n σ k) (o : okK k) {m : Nat} (hm : m ≤ 1000) : f_X3_hasRoom n (nI m) σ = some (tf (kO k = false ∨ kB k + m ≤ 14112), σ) := by
  obtain ⟨_, h5, h6, ⟨b, h7, h8, h9⟩, _⟩ := h
  rw [f_X3_hasRoom, h5, h7]
  cases e : kO k with
  | false => rw [if_pos (show bI false = 0 from rfl), tf_t (Or.inl rfl)]
  | true =>
    have eb := h9 e
    subst eb
    rw [if_neg (show ¬ bI true = 0 by decide), nI_ad]
    simp only [nIh14112 (show kB k + m < 2147483648 by omega)]
    by_cases q : 14112 < kB k + m
    · rw [if_pos q, tf_f (fun y => by rcases y with y | y; cases y; omega)]
    · rw [if_neg q, tf_t (Or.inr (by omega))]
set_option maxHeartbeats 200000 in
theorem e_save {n : Nat} {σ : xσ} {k : Kp} (h : KS n σ k) (o : okTb (kL k) ∧ okTb (kC k)) (hO : kO k = false) (hD : kD k = false) (hk3 : kK k = -1 ∨ kK k = 0 ∨ kK k = 1) : ∃ σ', f_X3_save n σ = some (iI (svK k).1, σ') ∧ Fk PKk σ σ' ∧ KS n σ' (svK k).2 := by
  obtain ⟨hP, h5, h6, ⟨b, h7, h8, h9⟩, h10, h11, h12⟩ := id h
  obtain ⟨c1, c2⟩ := h12 hD
  have rk : R32 (kK k) := ⟨by omega, by omega⟩
  rw [f_X3_save, c1]
  unfold svK
  by_cases e : kK k = 1
  · rw [if_pos ((iIq1 rk).mpr e), if_pos e, st]
    refine ⟨_, rfl, F10 (by omega), ?_, ?_, ?_, ⟨b, ?_, h8, fun y => by cases y⟩, ?_, ?_, fun y => by cases y⟩
    · obtain ⟨K, lg, pl, pc, P⟩ := hP
      exact ⟨K, lg, pl, pc, P.w (by omega)⟩
    · rw [sI_wI, if_neg (by omega), h5, hO]; rfl
    · rw [sI_own]; rfl
    · rw [sI_wI, if_neg (by omega), h7]
    · rw [sI_wI, if_neg (by omega), h10]; rfl
    · rw [sI_wI, if_neg (by omega), h11]; rfl
  · rw [if_neg (fun y => e ((iIq1 rk).mp y)), if_neg e, st]
    have e9 : sI (wI σ 10 8 0) 10 9 = kS k := by rw [sI_wI, if_neg (by omega), h11]
    rw [e9, st]
    obtain ⟨K, lg, pl, pc, P⟩ := hP
    obtain ⟨σ', t1, t2, t3, t4⟩ := e_commitT (n := n) (σ := wI (wI σ 10 8 0) 10 9 (kS k + 1)) o.1 o.2 ⟨K, lg, pl, pc, (P.w (by omega)).w (by omega)⟩
    rw [t1, bd]
    refine ⟨σ', rfl, ((F10 (by omega)).trans (F10 (by omega))).trans t2, t3, ?_, ?_, ⟨b, ?_, h8, h9⟩, ?_, ?_, fun y => ⟨?_, fun z => ?_⟩⟩
    · rw [t4, sI_wI, if_neg (by omega), sI_wI, if_neg (by omega), h5]; rfl
    · rw [t4, sI_wI, if_neg (by omega), sI_wI, if_neg (by omega), h6]; rfl
    · rw [t4, sI_wI, if_neg (by omega), sI_wI, if_neg (by omega), h7]
    · rw [t4, sI_wI, if_neg (by omega), sI_own]; rfl
    · rw [t4, sI_own]; rfl
    · rw [t4, sI_wI, if_neg (by omega), sI_wI, if_neg (by omega), c1]; rfl
    · rw [t4, sI_wI, if_neg (by omega), sI_wI, if_neg (by omega)]; exact c2 z
set_option maxHeartbeats 200000 in
theorem e_writeLog {n : Nat} {σ : xσ} {k : Kp} (h : KS n σ k) (o : okTb (kL k) ∧ okTb (kC k)) (hO : kO k = false) (hD : kD k = false) (hk3 : kK k = -1 ∨ kK k = 0 ∨ kK k = 1) (hU : kU k ≤ 64) (hX : kK k = 0 → kX k ≤ 1000) {c : Nat} (hc : c ≤ 14112) : ∃ σ', f_X3_writeLog n (nI c) σ = some (iI (wlK k c).1, σ') ∧ Fk PKk σ σ' ∧ KS n σ' (wlK k c).2 := by
  obtain ⟨hP, h5, h6, ⟨b, h7, h8, h9⟩, h10, h11, h12⟩ := id h
  obtain ⟨c1, c2⟩ := h12 hD
  have rk : R32 (kK k) := ⟨by omega, by omega⟩
  have bb := blk_b hc
  rw [f_X3_writeLog, e_blk (by omega), st, h10, nI_ad, c1]
  unfold wlK
  simp only [nIe64 (show kU k + blk c < 2147483648 by omega)]
  by_cases q : kU k + blk c ≤ 64
  · rw [if_pos q, if_pos q]
    obtain ⟨K, lg, pl, pc, P⟩ := hP
    -- the blocks are written
    have go : ∀ σ1 x, (∃ K lg pl pc, KP n σ1 (kL k) (kC k) K lg pl pc) → (∀ j, j ≠ 11 → sI σ1 10 j = sI σ 10 j) → (kK k = 0 → sI σ1 10 11 = nI x) → ∃ σ', bd (f_X8_copyFrom n 14 11 (wI σ1 10 8 (nI (kU k + blk c)))) (fun v104 σ105 => some (0, σ105)) = some (iI 0, σ') ∧ Fk PKk σ1 σ' ∧ KS n σ' (cmtK k (kU k + blk c) x) := by
      intro σ1 x hP1 hz hx
      obtain ⟨K, lg, pl, pc, P⟩ := hP1
      obtain ⟨σ', t1, t2, t3, t4⟩ := e_commitT (n := n) (σ := wI σ1 10 8 (nI (kU k + blk c))) o.1 o.2 ⟨K, lg, pl, pc, P.w (by omega)⟩
      rw [t1, bd]
      have z : ∀ j, j ≠ 11 → j ≠ 8 → sI σ' 10 j = sI σ 10 j := fun j a b => by rw [t4, sI_wI, if_neg (by omega), hz j a]
      refine ⟨σ', rfl, (F10 (by omega)).trans t2, t3, ?_, ?_, ⟨b, ?_, h8, h9⟩, ?_, ?_, fun y => ⟨?_, fun w => ?_⟩⟩
      · rw [z 5 (by omega) (by omega), h5]; rfl
      · rw [z 6 (by omega) (by omega), h6]; rfl
      · rw [z 7 (by omega) (by omega), h7]
      · rw [t4, sI_own]; rfl
      · rw [z 9 (by omega) (by omega), h11]; rfl
      · rw [z 10 (by omega) (by omega), c1]; rfl
      · rw [t4, sI_wI, if_neg (by omega)]; exact hx w
    by_cases e : kK k = 0
    · have x1 := hX e
      rw [if_pos ((iIq0 rk).mpr e), if_pos e, c2 e]
      simp only [nI_l' (show blk c < 2147483648 by omega) (show kX k < 2147483648 by omega)]
      by_cases l : blk c < kX k
      · rw [if_pos l, if_pos l, nI_m (by omega), st, b_X3_writeLog_62]
        have e8 : sI (wI σ 10 11 (nI (kX k - blk c))) 10 8 = nI (kU k) := by rw [sI_wI, if_neg (by omega), h10]
        rw [e8, nI_ad, st]
        obtain ⟨σ', t1, t2, t3⟩ := go (wI σ 10 11 (nI (kX k - blk c))) (kX k - blk c) ⟨K, lg, pl, pc, P.w (by omega)⟩ (fun j hj => by rw [sI_wI, if_neg (by omega)]) (fun _ => by rw [sI_own])
        exact ⟨σ', t1, (F10 (by omega)).trans t2, t3⟩
      · rw [if_neg l, if_neg l, st]
        refine ⟨_, rfl, F10 (by omega), ⟨K, lg, pl, pc, P.w (by omega)⟩, ?_, ?_, ⟨b, ?_, h8, fun y => by cases y⟩, ?_, ?_, fun y => by cases y⟩
        · rw [sI_wI, if_neg (by omega), h5, hO]; rfl
        · rw [sI_own]; rfl
        · rw [sI_wI, if_neg (by omega), h7]
        · rw [sI_wI, if_neg (by omega), h10]; rfl
        · rw [sI_wI, if_neg (by omega), h11]; rfl
    · rw [if_neg (fun y => e ((iIq0 rk).mp y)), if_neg e, st]
      obtain ⟨σ', t1, t2, t3⟩ := go σ (kX k) ⟨K, lg, pl, pc, P⟩ (fun j hj => rfl) (fun y => (e y).elim)
      exact ⟨σ', t1, t2, t3⟩
  · rw [if_neg q, if_neg q]
    obtain ⟨σ', t1, t2, t3⟩ := e_save (n := n) h o hO hD hk3
    rw [t1, bd]
    exact ⟨σ', rfl, t2, t3⟩
set_option maxHeartbeats 200000 in
theorem e_settle {n : Nat} {σ : xσ} {k : Kp} (h : KS n σ k) (o : okTb (kL k) ∧ okTb (kC k)) (hD : kD k = false) (hk3 : kK k = -1 ∨ kK k = 0 ∨ kK k = 1) (hU : kU k ≤ 64) (hX : kK k = 0 → kX k ≤ 1000) {m : Nat} (hm : m ≤ 1000) (hr : kO k = true → kB k + m ≤ 14112) : ∃ σ', f_X3_settle n (nI m) σ = some (iI (stK k m).1, σ') ∧ Fk PKk σ σ' ∧ KS n σ' (stK k m).2 := by
  obtain ⟨hP, h5, h6, ⟨b, h7, h8, h9⟩, h10, h11, h12⟩ := id h
  rw [f_X3_settle, h5]
  unfold stK
  cases e : kO k with
  | true =>
    have eb := h9 e
    subst eb
    have := hr e
    rw [if_neg (show ¬ bI true = 0 by decide), if_pos rfl, h7, nI_ad, st]
    obtain ⟨K, lg, pl, pc, P⟩ := hP
    refine ⟨_, rfl, F10 (by omega), ⟨K, lg, pl, pc, P.w (by omega)⟩, ?_, ?_, ⟨kB k + m, ?_, by omega, fun _ => rfl⟩, ?_, ?_, fun y => ⟨?_, fun w => ?_⟩⟩
    · rw [sI_wI, if_neg (by omega), h5, e]; rfl
    · rw [sI_wI, if_neg (by omega), h6]; rfl
    · rw [sI_own]
    · rw [sI_wI, if_neg (by omega), h10]; rfl
    · rw [sI_wI, if_neg (by omega), h11]; rfl
    · rw [sI_wI, if_neg (by omega), (h12 hD).1]; rfl
    · rw [sI_wI, if_neg (by omega)]; exact (h12 hD).2 w
  | false =>
    rw [if_pos (show bI false = 0 from rfl), if_neg (by decide)]
    obtain ⟨σ', t1, t2, t3⟩ := e_writeLog (n := n) h o e hD hk3 hU hX (c := m) (by omega)
    rw [t1, bd]
    exact ⟨σ', rfl, t2, t3⟩

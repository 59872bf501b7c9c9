/-! the system: plain statements, and the changes of single shapes -/
def withL (k : Kp) (L : Tb) : Kp := (L, kC k, (kO k, kD k), (kB k, kU k), kS k, (kK k, kX k))
def closeK (k : Kp) : Kp := (kL k, kC k, (false, kD k), (kB k, kU k), kS k, (kK k, kX k))
def trK (k : Kp) (v : Nat) : Int × Kp :=
  if v = 4 then (if kO k = true then (6, k) else (0, (kL k, kC k, (true, kD k), (0, kU k), kS k, (kK k, kX k))))
  else if v = 5 then (if kO k = true then wlK (closeK k) (kB k) else (6, k))
  else if v = 6 then (if kO k = true then (0, (kC k, kC k, (false, kD k), (kB k, kU k), kS k, (kK k, kX k))) else (6, k))
  else if v = 7 then (0, k)
  else (if kO k = true then (6, k) else svK k)
def rcK (k : Kp) : Kp := (kC k, kC k, (false, false), (kB k, kU k), kS k, (-1, kX k))
set_option maxHeartbeats 200000 in
theorem KS.close {n : Nat} {σ : xσ} {k : Kp} (h : KS n σ k) : KS n (wI σ 10 5 0) (closeK k) := by
  obtain ⟨⟨K, lg, pl, pc, P⟩, h5, h6, ⟨b, h7, h8, h9⟩, h10, h11, h12⟩ := h
  refine ⟨⟨K, lg, pl, pc, P.w (by omega)⟩, ?_, ?_, ⟨b, ?_, h8, fun y => by cases y⟩, ?_, ?_, fun y => ⟨?_, fun w => ?_⟩⟩
  · rw [sI_own]; rfl
  · rw [sI_wI, if_neg (by omega), h6]; rfl
  · rw [sI_wI, if_neg (by omega), h7]
  · rw [sI_wI, if_neg (by omega), h10]; rfl
  · rw [sI_wI, if_neg (by omega), h11]; rfl
  · rw [sI_wI, if_neg (by omega), (h12 y).1]; rfl
  · rw [sI_wI, if_neg (by omega)]; exact (h12 y).2 w
set_option maxHeartbeats 200000 in
theorem e_turn {n : Nat} {σ : xσ} {k : Kp} (h : KS n σ k) (o : okK k) (hD : kD k = false) {v : Nat} (hv : 4 ≤ v ∧ v ≤ 8) : ∃ σ', f_X3_turn n (nI v) σ = some (iI (trK k v).1, σ') ∧ Fk PKk σ σ' ∧ KS n σ' (trK k v).2 := by
  obtain ⟨⟨K, lg, pl, pc, P⟩, h5, h6, ⟨b, h7, h8, h9⟩, h10, h11, h12⟩ := id h
  obtain ⟨o1, ⟨o2, o3⟩, o4, o5, o6, o7⟩ := o
  have same : ∃ σ', some ((6 : Int32), σ) = some (iI 6, σ') ∧ Fk PKk σ σ' ∧ KS n σ' k := ⟨σ, rfl, Fk.refl, h⟩
  rw [f_X3_turn]
  unfold trK
  rcases (show v = 4 ∨ v = 5 ∨ v = 6 ∨ v = 7 ∨ v = 8 by omega) with rfl | rfl | rfl | rfl | rfl
  · rw [if_pos (by decide), if_pos rfl, f_X3_begin, h5]
    cases e : kO k with
    | true => rw [if_neg (show ¬ bI true = 0 by decide), bd, if_pos rfl]; exact same
    | false =>
      rw [if_pos (show bI false = 0 from rfl), st, st, bd, if_neg (by decide)]
      refine ⟨_, rfl, (F10 (by omega)).trans (F10 (by omega)), ⟨K, lg, pl, pc, (P.w (by omega)).w (by omega)⟩, ?_, ?_, ⟨0, ?_, by omega, fun _ => rfl⟩, ?_, ?_, fun y => ⟨?_, fun w => ?_⟩⟩
      · rw [sI_wI, if_neg (by omega), sI_own]; rfl
      · rw [sI_wI, if_neg (by omega), sI_wI, if_neg (by omega), h6]; rfl
      · rw [sI_own]; rfl
      · rw [sI_wI, if_neg (by omega), sI_wI, if_neg (by omega), h10]; rfl
      · rw [sI_wI, if_neg (by omega), sI_wI, if_neg (by omega), h11]; rfl
      · rw [sI_wI, if_neg (by omega), sI_wI, if_neg (by omega), (h12 hD).1]; rfl
      · rw [sI_wI, if_neg (by omega), sI_wI, if_neg (by omega)]; exact (h12 hD).2 w
  · rw [if_neg (by decide), if_pos (by decide), if_neg (by decide), if_pos rfl, f_X3_commit, h5]
    cases e : kO k with
    | false => rw [if_pos (show bI false = 0 from rfl), bd, if_neg (by decide)]; exact same
    | true =>
      have eb := h9 e
      subst eb
      have e7 : sI (wI σ 10 5 0) 10 7 = nI (kB k) := by rw [sI_wI, if_neg (by omega), h7]
      rw [if_neg (show ¬ bI true = 0 by decide), st, e7, if_pos rfl]
      obtain ⟨σ', t1, t2, t3⟩ := e_writeLog (n := n) h.close o1 rfl hD o4 o3 (fun y => (o5 y).2) (c := kB k) o2
      rw [t1, bd, bd]
      exact ⟨σ', rfl, (F10 (by omega)).trans t2, t3⟩
  · rw [if_neg (by decide), if_neg (by decide), if_pos (by decide), if_neg (by decide), if_neg (by decide), if_pos rfl, f_X3_abort, h5]
    cases e : kO k with
    | false => rw [if_pos (show bI false = 0 from rfl), bd, if_neg (by decide)]; exact same
    | true =>
      obtain ⟨σ', t1, t2, t3, t4⟩ := e_abortT (n := n) (σ := wI σ 10 5 0) o1.1 o1.2 ⟨K, lg, pl, pc, P.w (by omega)⟩
      rw [if_neg (show ¬ bI true = 0 by decide), st, t1, bd, bd, if_pos rfl]
      refine ⟨σ', rfl, (F10 (by omega)).trans t2, t3, ?_, ?_, ⟨b, ?_, h8, fun y => by cases y⟩, ?_, ?_, fun y => ⟨?_, fun w => ?_⟩⟩
      · rw [t4, sI_own]; rfl
      · rw [t4, sI_wI, if_neg (by omega), h6]; rfl
      · rw [t4, sI_wI, if_neg (by omega), h7]
      · rw [t4, sI_wI, if_neg (by omega), h10]; rfl
      · rw [t4, sI_wI, if_neg (by omega), h11]; rfl
      · rw [t4, sI_wI, if_neg (by omega), (h12 hD).1]; rfl
      · rw [t4, sI_wI, if_neg (by omega)]; exact (h12 hD).2 w
  · rw [if_neg (by decide), if_neg (by decide), if_neg (by decide), if_pos (by decide), if_neg (by decide), if_neg (by decide), if_neg (by decide), if_pos rfl]
    exact ⟨σ, rfl, Fk.refl, h⟩
  · rw [if_neg (by decide), if_neg (by decide), if_neg (by decide), if_neg (by decide), if_pos (by decide), h5, if_neg (show ¬ (8 : Nat) = 4 by decide), if_neg (show ¬ (8 : Nat) = 5 by decide), if_neg (show ¬ (8 : Nat) = 6 by decide), if_neg (show ¬ (8 : Nat) = 7 by decide)]
    cases e : kO k with
    | true => rw [if_neg (show ¬ bI true = 0 by decide), if_pos rfl]; exact same
    | false =>
      obtain ⟨σ', t1, t2, t3⟩ := e_save (n := n) h o1 e hD o4
      rw [if_pos (show bI false = 0 from rfl), t1, bd, if_neg (by decide)]
      exact ⟨σ', rfl, t2, t3⟩
set_option maxHeartbeats 200000 in
theorem e_restore {n : Nat} {σ : xσ} {k : Kp} (h : KS n σ k) (o : okK k) : ∃ σ', f_X3_restore n σ = some ((), σ') ∧ Fk PKk σ σ' ∧ KS n σ' (rcK k) := by
  obtain ⟨hP, h5, h6, ⟨b, h7, h8, h9⟩, h10, h11, h12⟩ := id h
  obtain ⟨σ1, t1, t2, ⟨K, lg, pl, pc, P⟩, t4⟩ := e_abortT (n := n) o.1.1 o.1.2 hP
  rw [f_X3_restore, t1, bd, st, st, st]
  refine ⟨_, rfl, ((t2.trans (F10 (by omega))).trans (F10 (by omega))).trans (F10 (by omega)), ⟨K, lg, pl, pc, ((P.w (by omega)).w (by omega)).w (by omega)⟩, ?_, ?_, ⟨b, ?_, h8, fun y => by cases y⟩, ?_, ?_, fun y => ⟨?_, fun w => ?_⟩⟩
  · rw [sI_wI, if_neg (by omega), sI_wI, if_neg (by omega), sI_own]; rfl
  · rw [sI_wI, if_neg (by omega), sI_own]; rfl
  · rw [sI_wI, if_neg (by omega), sI_wI, if_neg (by omega), sI_wI, if_neg (by omega), t4, h7]
  · rw [sI_wI, if_neg (by omega), sI_wI, if_neg (by omega), sI_wI, if_neg (by omega), t4, h10]; rfl
  · rw [sI_wI, if_neg (by omega), sI_wI, if_neg (by omega), sI_wI, if_neg (by omega), t4, h11]; rfl
  · rw [sI_own]; rfl
  · have : (-1 : Int) = 0 := w
    omega
/-! what leaves the keeper alone -/
def outK (b : Nat) : Prop := b < 10 ∨ (18 ≤ b ∧ b < 2476)
set_option maxHeartbeats 200000 in
theorem KP.fk {n : Nat} {σ σ' : xσ} {L C : Tb} {K lg : Nat} {pl pc : Nat → Nat} {P : Nat → Nat → Prop} (h : KP n σ L C K lg pl pc) (f : Fk P σ σ') (hP : ∀ b k, P b k → outK b) : KP n σ' L C K lg pl pc := by
  obtain ⟨a, ⟨b1, b2, b3⟩, c, d, e⟩ := h
  have no : ∀ b k, ¬ outK b → ¬ P b k := fun b k h y => h (hP b k y)
  refine ⟨a, ⟨by rw [(f 10 3 (no _ _ (by unfold outK; omega))).1]; exact b1, by rw [(f 10 4 (no _ _ (by unfold outK; omega))).1]; exact b2, fun k hk => by rw [(f 17 k (no _ _ (by unfold outK; omega))).2.2]; exact b3 k hk⟩, c.fk f (no _ _ (by unfold outK; omega)) (fun k => no _ _ (by unfold outK; omega)) (fun k => no _ _ (by unfold outK; omega)) (fun i j k _ _ y => ?_), d.fk f (no _ _ (by unfold outK; omega)) (fun k => no _ _ (by unfold outK; omega)) (fun k => no _ _ (by unfold outK; omega)) (fun i j k _ _ y => ?_), fun k hk => by rw [(f (ad k) 8 (no _ _ (by unfold outK ad; omega))).1]; exact e k hk⟩
  · have := hP _ _ y; unfold outK ad at this; omega
  · have := hP _ _ y; unfold outK ad at this; omega
set_option maxHeartbeats 200000 in
theorem KS.fk {n : Nat} {σ σ' : xσ} {k : Kp} {P : Nat → Nat → Prop} (h : KS n σ k) (f : Fk P σ σ') (hP : ∀ b k, P b k → outK b) : KS n σ' k := by
  obtain ⟨⟨K, lg, pl, pc, Q⟩, h5, h6, ⟨b, h7, h8, h9⟩, h10, h11, h12⟩ := h
  have z : ∀ j, sI σ' 10 j = sI σ 10 j := fun j => (f 10 j (fun y => by have := hP _ _ y; unfold outK at this; omega)).1
  exact ⟨⟨K, lg, pl, pc, Q.fk f hP⟩, by rw [z]; exact h5, by rw [z]; exact h6, ⟨b, by rw [z]; exact h7, h8, h9⟩, by rw [z]; exact h10, by rw [z]; exact h11, fun y => ⟨by rw [z]; exact (h12 y).1, fun w => by rw [z]; exact (h12 y).2 w⟩⟩
/-! writing into a fresh shape -/
set_option maxHeartbeats 200000 in
theorem KP.sh {n : Nat} {σ σ' : xσ} {L C : Tb} {K lg : Nat} {pl pc : Nat → Nat} (h : KP n σ L C K lg pl pc) {k : Nat} (hk : Fre L C K pl pc k) (f : Fk (PSh (ad k)) σ σ') : KP n σ' L C K lg pl pc := by
  obtain ⟨a, ⟨b1, b2, b3⟩, c, d, e⟩ := h
  have g := ad_ge k
  refine ⟨a, ⟨by rw [(f 10 3 (by unfold PSh; omega)).1]; exact b1, by rw [(f 10 4 (by unfold PSh; omega)).1]; exact b2, fun k hk => by rw [(f 17 k (by unfold PSh; omega)).2.2]; exact b3 k hk⟩, c.fk f (by unfold PSh; omega) (fun k => by unfold PSh; omega) (fun k => by unfold PSh; omega) (fun i j q hi hj y => ?_), d.fk f (by unfold PSh; omega) (fun k => by unfold PSh; omega) (fun k => by unfold PSh; omega) (fun i j q hi hj y => ?_), fun x hx => ?_⟩
  · have := hk.2.1 i hi; unfold PSh ad at y; omega
  · have := hk.2.2 i hi; unfold PSh ad at y; omega
  · rw [(f (ad x) 8 (fun y => by unfold PSh ad at y; omega)).1]; exact e x hx
set_option maxHeartbeats 200000 in
theorem KS.L {n : Nat} {σ σ' : xσ} {k : Kp} {L : Tb} (h : KS n σ k) {m : Nat} (hP : ∃ K lg pl pc, KP m σ' L (kC k) K lg pl pc) (hz : ∀ j, 5 ≤ j → sI σ' 10 j = sI σ 10 j) : KS m σ' (withL k L) := by
  obtain ⟨_, h5, h6, ⟨b, h7, h8, h9⟩, h10, h11, h12⟩ := h
  exact ⟨hP, by rw [hz 5 (by omega)]; exact h5, by rw [hz 6 (by omega)]; exact h6, ⟨b, by rw [hz 7 (by omega)]; exact h7, h8, h9⟩, by rw [hz 8 (by omega)]; exact h10, by rw [hz 9 (by omega)]; exact h11, fun y => ⟨by rw [hz 10 (by omega)]; exact (h12 y).1, fun w => by rw [hz 11 (by omega)]; exact (h12 y).2 w⟩⟩

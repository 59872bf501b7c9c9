/-! the invariant, and the calls -/
set_option maxHeartbeats 200000 in
theorem xI (x : Int32) : ∃ a, R32 a ∧ x = iI a := ⟨x.toInt, iI_r x, (iI_ti x).symm⟩
abbrev Ab := Tp × Kp × Ou × Int32
def SI (n : Nat) (σ : xσ) (s : Ab) : Prop := TpS σ s.1 ∧ KS n σ s.2.1 ∧ OS σ s.2.2.1 ∧ sI σ 0 10 = s.2.2.2 ∧ Rw30 σ
def RI (σ : xσ) (s : Ab) : Prop := TpM σ s.1 ∧ KM σ s.2.1 ∧ OM σ s.2.2.1 ∧ sI σ 233 42 = s.2.2.2 ∧ Rw74 σ
def okA (s : Ab) : Prop := okTp s.1 ∧ okK s.2.1 ∧ s.2.2.1.1 ≤ 20000
def In (n : Nat) (σ : xσ) : Prop := ∃ s, okA s ∧ SI n σ s ∧ RI σ s
set_option maxHeartbeats 200000 in
theorem In_n (n : Nat) (σ : xσ) (h : In n σ) : n ≤ 4481 := by
  obtain ⟨s, _, h, _⟩ := h
  exact h.2.1.n.2
set_option maxHeartbeats 200000 in
theorem SI.r {n : Nat} {σ σ' : xσ} {s : Ab} (h : SI n σ s) (f : Fk refP σ σ') : SI n σ' s := by
  obtain ⟨h1, h2, h3, h4, h5⟩ := h
  have z : ∀ b k, b < 233 → ¬ refP b k := fun b k l y => by unfold refP at y; omega
  exact ⟨h1.fk f (fun k => z 1 k (by omega)) (fun k => z 2 k (by omega)), h2.fk f (fun b k y => by unfold refP at y; unfold outK; omega), h3.fk f (z 0 8 (by omega)) (fun k => z 232 k (by omega)), by rw [(f 0 10 (z 0 10 (by omega))).1]; exact h4, h5.fk f (fun k => z 30 k (by omega))⟩
set_option maxHeartbeats 200000 in
theorem TpM.fk {σ σ' : xσ} {T : Tp} {P : Nat → Nat → Prop} (h : TpM σ T) (f : Fk P σ σ') (h1 : ¬ P 233 40) (h2 : ∀ k, ¬ P 1863 k) : TpM σ' T := ⟨by rw [(f 233 40 h1).1]; exact h.1, fun i hi => by rw [(f 1863 i (h2 i)).1]; exact h.2 i hi⟩
set_option maxHeartbeats 200000 in
theorem RI.s {σ σ' : xσ} {s : Ab} (h : RI σ s) (f : Fk sysP σ σ') : RI σ' s := by
  obtain ⟨h1, h2, h3, h4, h5⟩ := h
  have z : ∀ b k, 233 ≤ b → b < 2476 → ¬ sysP b k := fun b k l l2 y => by unfold sysP at y; omega
  exact ⟨h1.fk f (z _ _ (by omega) (by omega)) (fun k => z _ _ (by omega) (by omega)), h2.fk f (fun j _ => z _ _ (by omega) (by omega)) (fun b j l1 l2 => z _ _ (by omega) (by omega)), h3.fk f (z _ _ (by omega) (by omega)) (fun k => z _ _ (by omega) (by omega)), by rw [(f 233 42 (z _ _ (by omega) (by omega))).1]; exact h4, h5.fk f (fun k => z _ _ (by omega) (by omega))⟩
/-- one call, of both sides -/
def C1 (n : Nat) (σ : xσ) (f g : xσ → Option (Int32 × xσ)) : Prop := ∃ v σ1 σ2, f σ = some (v, σ1) ∧ g σ1 = some (v, σ2) ∧ In n σ2
set_option maxHeartbeats 200000 in
theorem C1_of {n : Nat} {σ : xσ} {f g : xσ → Option (Int32 × xσ)} {s s' : Ab} {v : Int32} (hR : RI σ s) (ok' : okA s') (hf : ∃ σ1, f σ = some (v, σ1) ∧ Fk sysP σ σ1 ∧ SI n σ1 s') (hg : ∀ σ1, RI σ1 s → ∃ σ2, g σ1 = some (v, σ2) ∧ Fk refP σ1 σ2 ∧ RI σ2 s') : C1 n σ f g := by
  obtain ⟨σ1, f1, f2, f3⟩ := hf
  obtain ⟨σ2, g1, g2, g3⟩ := hg σ1 (hR.s f2)
  exact ⟨v, σ1, σ2, f1, g1, s', ok', f3.r g2, g3⟩
/-! a call that changes nothing -/
set_option maxHeartbeats 200000 in
theorem C1_id {n : Nat} {σ : xσ} {f g : xσ → Option (Int32 × xσ)} (h : In n σ) (v : Ab → Int32) (hf : ∀ s, okA s → SI n σ s → f σ = some (v s, σ)) (hg : ∀ s, okA s → RI σ s → g σ = some (v s, σ)) : C1 n σ f g := by
  obtain ⟨s, o, a, b⟩ := h
  exact ⟨v s, σ, σ, hf s o a, hg s o b, s, o, a, b⟩
set_option maxHeartbeats 200000 in
theorem b01 (b : Bool) : bI b = 0 ∨ bI b = 1 := by cases b; exact Or.inl rfl; exact Or.inr rfl
set_option maxHeartbeats 200000 in
theorem c_wrong {n : Nat} {σ : xσ} (h : In n σ) : C1 n σ (f_X10_wrong n) (f_X14_wrong n) := C1_id h (fun s => s.2.2.2) (fun s _ a => by rw [f_X10_wrong, a.2.2.2.1]) (fun s _ a => by rw [f_X14_wrong, a.2.2.2.1])
set_option maxHeartbeats 200000 in
theorem c_outputs {n : Nat} {σ : xσ} (h : In n σ) : C1 n σ (f_X10_outputs n) (f_X14_outputs n) := C1_id h (fun s => nI s.2.2.1.1) (fun s _ a => by rw [f_X10_outputs, a.2.2.1.1]) (fun s _ a => by rw [f_X14_outputs, a.2.2.1.1])
set_option maxHeartbeats 200000 in
theorem c_saves {n : Nat} {σ : xσ} (h : In n σ) : C1 n σ (f_X10_saves n) (f_X14_saves n) := C1_id h (fun s => kS s.2.1) (fun s _ a => by rw [f_X10_saves, a.2.1.2.2.2.2.2.1]) (fun s _ a => by rw [f_X14_saves, a.2.1.2.2.2.2.1])
set_option maxHeartbeats 200000 in
theorem KS.O {n : Nat} {σ : xσ} {k : Kp} (h : KS n σ k) : sI σ 10 5 = bI (kO k) := h.2.1
set_option maxHeartbeats 200000 in
theorem KS.D {n : Nat} {σ : xσ} {k : Kp} (h : KS n σ k) : sI σ 10 6 = bI (kD k) := h.2.2.1
set_option maxHeartbeats 200000 in
theorem KM.O {σ : xσ} {k : Kp} (h : KM σ k) : sI σ 233 32 = bI (kO k) := h.2.1.1
set_option maxHeartbeats 200000 in
theorem KM.D {σ : xσ} {k : Kp} (h : KM σ k) : sI σ 233 33 = bI (kD k) := h.2.1.2
set_option maxHeartbeats 200000 in
theorem c_isDown {n : Nat} {σ : xσ} (h : In n σ) : C1 n σ (f_X10_isDown n) (f_X14_isDown n) := C1_id h (fun s => bI (kD s.2.1)) (fun s _ a => by rw [f_X10_isDown, a.2.1.D, gd_pos (b01 _)]) (fun s _ a => by rw [f_X14_isDown, a.2.1.D, gd_pos (b01 _)])
set_option maxHeartbeats 200000 in
theorem c_isOpen {n : Nat} {σ : xσ} (h : In n σ) : C1 n σ (f_X10_isOpen n) (f_X14_isOpen n) := C1_id h (fun s => bI (kO s.2.1)) (fun s o a => by
  have hh := o.2.1.2.2.2.2.1
  rw [f_X10_isOpen, a.2.1.O, a.2.1.D]
  cases e : kO s.2.1 with
  | false => rw [if_pos (show bI false = 0 from rfl)]; rfl
  | true =>
    cases e2 : kD s.2.1 with
    | true => rw [hh e2] at e; cases e
    | false => rw [if_neg (show ¬ bI true = 0 by decide), if_pos (show bI false = 0 from rfl)]; rfl) (fun s _ a => by rw [f_X14_isOpen, a.2.1.O, gd_pos (b01 _)])
set_option maxHeartbeats 200000 in
theorem c_live {n : Nat} {σ : xσ} (h : In n σ) : C1 n σ (f_X10_live n) (f_X14_live n) := C1_id h (fun s => if kD s.2.1 = true then -1 else nI (tC (kL s.2.1))) (fun s _ a => by
  rw [f_X10_live, a.2.1.D, a.2.1.cnt]
  cases kD s.2.1 with
  | true => rw [if_neg (show ¬ bI true = 0 by decide), if_pos rfl]
  | false => rw [if_pos (show bI false = 0 from rfl), if_neg (by decide)]) (fun s _ a => by
  obtain ⟨u, T⟩ := a.2.1.1.1
  rw [f_X14_live, a.2.1.D, T.1.2.1]
  cases kD s.2.1 with
  | true => rw [if_neg (show ¬ bI true = 0 by decide), if_pos rfl]
  | false => rw [if_pos (show bI false = 0 from rfl), if_neg (by decide)])
set_option maxHeartbeats 200000 in
theorem c_used {n : Nat} {σ : xσ} (h : In n σ) : C1 n σ (f_X10_used n) (f_X14_used n) := C1_id h (fun s => if kD s.2.1 = true then -1 else nI (kU s.2.1)) (fun s _ a => by
  rw [f_X10_used, a.2.1.D, a.2.1.2.2.2.2.1]
  cases kD s.2.1 with
  | true => rw [if_neg (show ¬ bI true = 0 by decide), if_pos rfl]
  | false => rw [if_pos (show bI false = 0 from rfl), if_neg (by decide)]) (fun s _ a => by
  rw [f_X14_used, a.2.1.D, a.2.1.2.2.2.1]
  cases kD s.2.1 with
  | true => rw [if_neg (show ¬ bI true = 0 by decide), if_pos rfl]
  | false => rw [if_pos (show bI false = 0 from rfl), if_neg (by decide)])
set_option maxHeartbeats 200000 in
theorem ix_e {x : Int32} {m N : Nat} (h1 : ¬ x < 0) (h2 : ¬ nI m ≤ x) (hm : m ≤ N) (hN : N < 2147483648) : ∃ i, i < m ∧ x = nI i := by
  obtain ⟨a, ha, rfl⟩ := xI x
  rw [iIl0 ha] at h1
  have e : iI a = nI a.toNat := by rw [nI_i, Int.toNat_of_nonneg (by omega)]
  have := ha.2
  rw [e, nI_e' (by omega) (by omega)] at h2
  exact ⟨a.toNat, by omega, e⟩
set_option maxHeartbeats 200000 in
theorem ix_f {x : Int32} {m N : Nat} (h1 : ¬ x < 0) (h2 : x < nI m) (hm : m ≤ N) (hN : N < 2147483648) : ∃ i, i < m ∧ x = nI i := ix_e h1 (fun y => Int32.lt_irrefl (Int32.lt_of_lt_of_le h2 y)) hm hN
set_option maxHeartbeats 200000 in
theorem c_out {n : Nat} {σ : xσ} (h : In n σ) (x : Int32) : C1 n σ (f_X10_out n x) (f_X14_out n x) := C1_id h (fun s => if x < 0 then 0 else if nI s.2.2.1.1 ≤ x then 0 else s.2.2.1.2 x.toNatClampNeg) (fun s o a => by
  rw [f_X10_out, a.2.2.1.1]
  by_cases q1 : x < 0
  · rw [if_pos q1, if_pos q1]
  rw [if_neg q1, if_neg q1]
  by_cases q2 : nI s.2.2.1.1 ≤ x
  · rw [if_pos q2, if_pos q2]
  rw [if_neg q2, if_neg q2]
  obtain ⟨i, hi, rfl⟩ := ix_e q1 q2 o.2.2 (by decide)
  have := o.2.2
  rw [gd_in (by omega) (by omega), nI_k (by omega), a.2.2.1.2 i hi]) (fun s o a => by
  rw [f_X14_out, a.2.2.1.1]
  by_cases q1 : x < 0
  · rw [if_pos q1, if_pos q1]
  rw [if_neg q1, if_neg q1]
  by_cases q2 : nI s.2.2.1.1 ≤ x
  · rw [if_pos q2, if_pos q2]
  rw [if_neg q2, if_neg q2]
  obtain ⟨i, hi, rfl⟩ := ix_e q1 q2 o.2.2 (by decide)
  have := o.2.2
  rw [gd_in (by omega) (by omega), nI_k (by omega), a.2.2.1.2 i hi])
set_option maxHeartbeats 200000 in
theorem c_idAt {n : Nat} {σ : xσ} (h : In n σ) (x : Int32) : C1 n σ (f_X10_idAt n x) (f_X14_idAt n x) := C1_id h (fun s => if kD s.2.1 = true then -1 else if x < 0 then -1 else if x < nI (tC (kL s.2.1)) then iI (tI (kL s.2.1) x.toNatClampNeg) else -1) (fun s o a => by
  have l2 := o.2.1.1.1.1
  rw [f_X10_idAt, a.2.1.D, a.2.1.cnt]
  cases kD s.2.1 with
  | true => rw [if_neg (show ¬ bI true = 0 by decide), if_pos rfl]
  | false =>
    rw [if_pos (show bI false = 0 from rfl), if_neg (show ¬ false = true by decide)]
    by_cases q1 : x < 0
    · rw [if_pos q1, if_pos q1]
    rw [if_neg q1, if_neg q1]
    by_cases q2 : x < nI (tC (kL s.2.1))
    · rw [if_pos q2, if_pos q2]
      obtain ⟨i, hi, rfl⟩ := ix_f q1 q2 l2 (by decide)
      rw [gd_in (by omega) (by omega), nI_k (by omega), show sI σ 12 i = iI (tI (kL s.2.1) i) from a.2.1.ids.2 i hi]
    · rw [if_neg q2, if_neg q2]) (fun s o a => by
  have l2 := o.2.1.1.1.1
  obtain ⟨u, T⟩ := a.2.1.1.1
  rw [f_X14_idAt, a.2.1.D, T.1.2.1]
  cases kD s.2.1 with
  | true => rw [if_neg (show ¬ bI true = 0 by decide), if_pos rfl]
  | false =>
    rw [if_pos (show bI false = 0 from rfl), if_neg (show ¬ false = true by decide)]
    by_cases q1 : x < 0
    · rw [if_pos q1, if_pos q1]
    rw [if_neg q1, if_neg q1]
    by_cases q2 : x < nI (tC (kL s.2.1))
    · rw [if_pos q2, if_pos q2]
      obtain ⟨i, hi, rfl⟩ := ix_f q1 q2 l2 (by decide)
      obtain ⟨r0, r1, _, _, _, r5⟩ := KM.row T o.2.1 hi
      rw [gd_in (by omega) (by omega), nI_k (by omega), r1, nn, gd_pos r0, r5]
    · rw [if_neg q2, if_neg q2])

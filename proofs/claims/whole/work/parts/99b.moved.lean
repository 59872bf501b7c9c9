/-! a moved shape is valid as before -/
def tvV (d v : V2) : V2 := (v.1 + d.1, v.2 + d.2)
def shX (d : V2) (D : Int) (X : V2) : V2 := (X.1 - D * d.1, X.2 - D * d.2)
set_option maxHeartbeats 200000 in
theorem mvV (c : Ct) (d : V2) (i : Nat) : cV (mvC c d.1 d.2) i = tvV d (cV c i) := rfl
set_option maxHeartbeats 200000 in
theorem tv_inj {d a b : V2} : tvV d a = tvV d b ↔ a = b := by
  constructor
  · intro h
    have h1 := congrArg (fun z : V2 => z.1) h
    have h2 := congrArg (fun z : V2 => z.2) h
    simp only [tvV] at h1 h2
    exact Prod.ext (by omega) (by omega)
  · intro h; rw [h]
set_option maxHeartbeats 200000 in
theorem tv_sub (d a b : V2) : sub2 (tvV d a) (tvV d b) = sub2 a b := by unfold sub2 tvV; refine Prod.ext ?_ ?_ <;> simp only <;> omega
set_option maxHeartbeats 200000 in
theorem tv_dv (d : V2) (V : Nat → V2) (k : Nat) : dv (fun i => tvV d (V i)) k = dv V k := by unfold dv tvV; refine Prod.ext ?_ ?_ <;> simp only <;> omega
set_option maxHeartbeats 200000 in
theorem tv_rel (d : V2) (V : Nat → V2) (D : Int) (X : V2) (i : Nat) : rel (fun i => tvV d (V i)) D X i = rel V D (shX d D X) i := by
  unfold rel tvV shX
  refine Prod.ext ?_ ?_ <;> simp only <;> rw [Int.mul_add] <;> omega
set_option maxHeartbeats 200000 in
theorem tv_Smp {d : V2} {V : Nat → V2} {lo m : Nat} (h : Smp V lo m) : Smp (fun i => tvV d (V i)) lo m := by
  obtain ⟨h1, h2, h3, h4⟩ := h
  refine ⟨h1, congrArg (tvV d) h2, fun i a b => by rw [tv_dv]; exact h3 i a b, fun D X i j hD a b e o1 o2 => ?_⟩
  simp only [tv_rel] at o1 o2 ⊢
  exact h4 D (shX d D X) i j hD a b e o1 o2
set_option maxHeartbeats 200000 in
theorem tv_SmR {c : Ct} {d : V2} {r : Nat} (h : SmR c r) : SmR (mvC c d.1 d.2) r := tv_Smp (d := d) h
set_option maxHeartbeats 200000 in
theorem tv_rl (c : Ct) (d : V2) (q : Nat) (D : Int) (X : V2) (e : Nat) : rl (TG (mvC c d.1 d.2) q) D X e = rl (TG c q) D (shX d D X) e := tv_rel d (cV c) D X e
set_option maxHeartbeats 200000 in
theorem tv_pa (c : Ct) (d : V2) (q : Nat) (D : Int) (X s : V2) : pa (TG (mvC c d.1 d.2) q) D X s = pa (TG c q) D (shX d D X) s := by
  unfold pa
  have e : (fun e => cc s (rl (TG (mvC c d.1 d.2) q) D X e) (rl (TG (mvC c d.1 d.2) q) D X (e + 1))) = (fun e => cc s (rl (TG c q) D (shX d D X) e) (rl (TG c q) D (shX d D X) (e + 1))) := by
    funext e; rw [tv_rl, tv_rl]
  rw [e]; rfl
set_option maxHeartbeats 200000 in
theorem tv_HW (c : Ct) (d : V2) (q : Nat) (D : Int) (X g : V2) : HW (TG (mvC c d.1 d.2) q) D X g ↔ HW (TG c q) D (shX d D X) g := by
  unfold HW
  refine and_congr_right (fun _ => ⟨fun ⟨e, h1, h2, h3⟩ => ⟨e, h1, ?_, ?_⟩, fun ⟨e, h1, h2, h3⟩ => ⟨e, h1, ?_, ?_⟩⟩)
  · rw [tv_rl, tv_rl] at h2; exact h2
  · rw [tv_rl, tv_rl] at h3; exact h3
  · rw [tv_rl, tv_rl]; exact h2
  · rw [tv_rl, tv_rl]; exact h3
set_option maxHeartbeats 200000 in
theorem tv_pX (d P Q : V2) (p D : Int) : shX d (D * 1) (pX (tvV d P) (tvV d Q) p D) = pX P Q p D := by
  unfold pX at2
  rw [tv_sub]
  unfold shX tvV
  refine Prod.ext ?_ ?_ <;> simp only <;> rw [Int.mul_add, Int.mul_one] <;> omega
set_option maxHeartbeats 200000 in
theorem tv_cvT (c : Ct) (d : V2) (q : Nat) (P Q : V2) (p D : Int) : cvT (TG (mvC c d.1 d.2) q) (tvV d P) (tvV d Q) p D ↔ cvT (TG c q) P Q p D := by
  unfold cvT cov
  rw [tv_sub]
  constructor
  · rintro ⟨g, h1, h2⟩
    rw [tv_HW, tv_pX] at h1
    exact ⟨g, h1, h2⟩
  · rintro ⟨g, h1, h2⟩
    refine ⟨g, ?_, h2⟩
    rw [tv_HW, tv_pX]; exact h1
set_option maxHeartbeats 200000 in
theorem tv_paT (c : Ct) (d : V2) (q : Nat) (P Q : V2) (p D : Int) : paT (TG (mvC c d.1 d.2) q) (tvV d P) (tvV d Q) p D = paT (TG c q) P Q p D := by
  unfold paT
  rw [tv_sub, tv_pa, tv_pX]
set_option maxHeartbeats 200000 in
theorem tv_InP (c : Ct) (d : V2) (q : Nat) (P Q : V2) : InP (TG (mvC c d.1 d.2) q) (tvV d P) (tvV d Q) ↔ InP (TG c q) P Q := by
  unfold InP
  simp only [tv_cvT, tv_paT]
set_option maxHeartbeats 200000 in
theorem tv_OuP (c : Ct) (d : V2) (q : Nat) (P Q : V2) : OuP (TG (mvC c d.1 d.2) q) (tvV d P) (tvV d Q) ↔ OuP (TG c q) P Q := by
  unfold OuP
  simp only [tv_cvT, tv_paT]
set_option maxHeartbeats 200000 in
theorem tv_AlP (c : Ct) (d : V2) (q : Nat) (P Q : V2) : AlP (TG (mvC c d.1 d.2) q) (tvV d P) (tvV d Q) ↔ AlP (TG c q) P Q := by
  unfold AlP
  simp only [tv_cvT]
set_option maxHeartbeats 200000 in
theorem tv_FitP {c : Ct} {d : V2} {r q : Nat} (h : FitP c r q) : FitP (mvC c d.1 d.2) r q := by
  unfold FitP OuW InW AlW at *
  simp only [mvV, tv_OuP, tv_InP, tv_AlP]
  exact h
set_option maxHeartbeats 200000 in
theorem tv_onS (d a b p : V2) : onS (tvV d a) (tvV d b) (tvV d p) ↔ onS a b p := by
  unfold onS inBx
  have e : sid (tvV d a) (tvV d b) (tvV d p) = sid a b p := by
    unfold sid tvV
    simp only
    rw [show b.1 + d.1 - (a.1 + d.1) = b.1 - a.1 by omega, show p.2 + d.2 - (a.2 + d.2) = p.2 - a.2 by omega, show b.2 + d.2 - (a.2 + d.2) = b.2 - a.2 by omega, show p.1 + d.1 - (a.1 + d.1) = p.1 - a.1 by omega]
  rw [e]
  unfold tvV
  simp only
  refine and_congr_left (fun _ => ?_)
  omega
set_option maxHeartbeats 200000 in
theorem tv_onR (c : Ct) (d : V2) (r : Nat) (p : V2) : onR (mvC c d.1 d.2) r (tvV d p) ↔ onR c r p := by
  unfold onR
  constructor
  · rintro ⟨i, h1, h2, h3⟩
    rw [mvV, mvV, tv_onS] at h3
    exact ⟨i, h1, h2, h3⟩
  · rintro ⟨i, h1, h2, h3⟩
    refine ⟨i, h1, h2, ?_⟩
    rw [mvV, mvV, tv_onS]; exact h3
set_option maxHeartbeats 200000 in
theorem tv_cir (c : Ct) (d p : V2) : ∀ k r g j, cir (mvC c d.1 d.2) (tvV d p) k r g j = cir c p k r g j := by
  intro k
  induction k with
  | zero => intro r g j; rfl
  | succ k ih =>
    intro r g j
    cases j with
    | none =>
      rw [cir_n, cir_n, ih, ih]
      exact ifP_c (tv_onR c d r p)
    | some l =>
      rw [cir_s, cir_s, ih, ih]
      exact ifP_c (tv_onR c d r p)
set_option maxHeartbeats 200000 in
theorem tv_one (c : Ct) (d : V2) : ∀ k i g, onePc (mvC c d.1 d.2) k i g = onePc c k i g := by
  intro k
  induction k with
  | zero => intro i g; rfl
  | succ k ih =>
    intro i g
    rw [onePc, onePc, ih]
    have e1 : cir (mvC c d.1 d.2) (cV (mvC c d.1 d.2) i) (cR (mvC c d.1 d.2)) 0 g none = cir c (cV c i) (cR c) 0 g none := by
      rw [mvV, tv_cir]; rfl
    rw [e1]
    have e2 : (∃ j, j < i ∧ cV (mvC c d.1 d.2) i = cV (mvC c d.1 d.2) j) ↔ (∃ j, j < i ∧ cV c i = cV c j) := by
      simp only [mvV, tv_inj]
    rw [ifP_c e2]
    cases cir c (cV c i) (cR c) 0 g none with
    | none => rfl
    | some g' => simp only [ih]
set_option maxHeartbeats 200000 in
theorem Val_mv {c : Ct} (h : Val c) (dx dy : Int) : Val (mvC c dx dy) := by
  show Val (mvC c ((dx, dy) : V2).1 ((dx, dy) : V2).2)
  rcases h with h | ⟨h1, h2, h3⟩ | ⟨h1, h2, h3, h4⟩
  · exact Or.inl h
  · refine Or.inr (Or.inl ⟨h1, h2, fun i hi => ?_⟩)
    rw [mvV, mvV]
    exact fun y => h3 i hi (tv_inj.mp y)
  · refine Or.inr (Or.inr ⟨h1, fun r hr => tv_SmR (h2 r hr), fun r a b q hq hne => tv_FitP (h3 r a b q hq hne), ?_⟩)
    unfold One
    rw [tv_one]
    exact h4
set_option maxHeartbeats 200000 in
theorem WF_mv {c : Ct} (F : WF c) {dx dy : Int} (hb : ∀ i, i < cN c → bV (cV (mvC c dx dy) i)) : WF (mvC c dx dy) := ⟨F.1, F.2.1, F.2.2.1, F.2.2.2.1, hb, F.2.2.2.2.2⟩
/-! tables stay well formed -/
set_option maxHeartbeats 200000 in
theorem ids_lt {t : Tb} (h : okTb t) : ∀ i j, i < j → j < tC t → tI t i < tI t j := by
  intro i j hij
  induction j with
  | zero => omega
  | succ j ih =>
    intro hj
    have s := h.2.2.1 j hj
    by_cases e : i = j
    · rw [e]; exact s
    · have := ih (by omega) (by omega); omega
set_option maxHeartbeats 200000 in
theorem okTb_ins {t : Tb} (h : okTb t) {z : Int} (hz : 1 ≤ z ∧ z ≤ 9999) (hn : ∀ j, j < tC t → tI t j ≠ z) (h2 : tC t < 200) {c : Ct} (hc : WF c ∧ Val c) : okTb (insT t z c) := by
  have iv := insP_v (tI t) z (tC t)
  have eC : tC (insT t z c) = tC t + 1 := rfl
  have eI : ∀ j, tI (insT t z c) j = insF (tI t) z (insP (tI t) z (tC t)) j := fun j => rfl
  have eS : ∀ j, tS (insT t z c) j = insF (tS t) c (insP (tI t) z (tC t)) j := fun j => rfl
  refine ⟨by omega, fun i hi => ?_, fun i hi => ?_, fun i hi => ?_⟩
  · rw [eC] at hi
    rw [eI]; unfold insF
    by_cases l : i < insP (tI t) z (tC t)
    · rw [if_pos l]; exact h.2.1 i (by omega)
    · rw [if_neg l]
      by_cases e : i = insP (tI t) z (tC t)
      · rw [if_pos e]; exact hz
      · rw [if_neg e]; exact h.2.1 (i - 1) (by omega)
  · rw [eC] at hi
    rw [eI, eI]; unfold insF
    have lo : ∀ j, j < insP (tI t) z (tC t) → tI t j < z := fun j hj => by
      have a := iv.2.1 (by omega)
      have b := hn j (by omega)
      by_cases e : j = insP (tI t) z (tC t) - 1
      · rw [e] at b ⊢; omega
      · have := ids_lt h j (insP (tI t) z (tC t) - 1) (by omega) (by omega); omega
    by_cases l : i + 1 < insP (tI t) z (tC t)
    · rw [if_pos (by omega), if_pos l]; exact h.2.2.1 i (by omega)
    · rw [if_neg l]
      by_cases e : i + 1 = insP (tI t) z (tC t)
      · rw [if_pos (by omega), if_pos e]; exact lo i (by omega)
      · rw [if_neg e]
        by_cases e2 : i = insP (tI t) z (tC t)
        · rw [if_neg (by omega), if_pos e2]; exact iv.2.2 (i + 1 - 1) (by omega) (by omega)
        · rw [if_neg (by omega), if_neg e2]
          have := h.2.2.1 (i - 1) (by omega)
          rw [show i - 1 + 1 = i by omega] at this
          rw [Nat.add_sub_cancel]; exact this
  · rw [eC] at hi
    rw [eS]; unfold insF
    by_cases l : i < insP (tI t) z (tC t)
    · rw [if_pos l]; exact h.2.2.2 i (by omega)
    · rw [if_neg l]
      by_cases e : i = insP (tI t) z (tC t)
      · rw [if_pos e]; exact hc
      · rw [if_neg e]; exact h.2.2.2 (i - 1) (by omega)
set_option maxHeartbeats 200000 in
theorem okTb_rem {t : Tb} (h : okTb t) {p : Nat} (hp : p < tC t) : okTb (remT t p) := by
  have eC : tC (remT t p) = tC t - 1 := rfl
  have eI : ∀ j, tI (remT t p) j = remF (tI t) p j := fun j => rfl
  have eS : ∀ j, tS (remT t p) j = remF (tS t) p j := fun j => rfl
  have l := h.1
  refine ⟨by omega, fun i hi => ?_, fun i hi => ?_, fun i hi => ?_⟩
  · rw [eC] at hi
    rw [eI]; unfold remF
    by_cases l : i < p
    · rw [if_pos l]; exact h.2.1 i (by omega)
    · rw [if_neg l]; exact h.2.1 (i + 1) (by omega)
  · rw [eC] at hi
    rw [eI, eI]; unfold remF
    by_cases l : i + 1 < p
    · rw [if_pos (by omega), if_pos l]; exact h.2.2.1 i (by omega)
    · rw [if_neg l]
      by_cases e : i < p
      · rw [if_pos e]; exact ids_lt h i (i + 1 + 1) (by omega) (by omega)
      · rw [if_neg e]; exact h.2.2.1 (i + 1) (by omega)
  · rw [eC] at hi
    rw [eS]; unfold remF
    by_cases l : i < p
    · rw [if_pos l]; exact h.2.2.2 i (by omega)
    · rw [if_neg l]; exact h.2.2.2 (i + 1) (by omega)
set_option maxHeartbeats 200000 in
theorem okTb_rep {t : Tb} (h : okTb t) {p : Nat} {c : Ct} (hc : WF c ∧ Val c) : okTb (repT t p c) := by
  refine ⟨h.1, h.2.1, h.2.2.1, fun i hi => ?_⟩
  show WF (repF (tS t) c p i) ∧ Val (repF (tS t) c p i)
  unfold repF
  by_cases l : i = p
  · rw [if_pos l]; exact hc
  · rw [if_neg l]; exact h.2.2.2 i hi

/-! a statement of the system, from its verb to what is put out -/
noncomputable def chK (T : Tp) (q : Nat) (k : Kp) : Int × Kp :=
  if vb T q = 0 then addK k (agu T q 0) (40 < shP (shq T (spq T q)).2.2 ∨ 8 < shR (shq T (spq T q)).2.2) (knd T (spq T q), (shq T (spq T q)).2.2)
  else if vb T q = 1 then dropK k (agu T q 0)
  else if vb T q = 2 then moveK k (agu T q 0) (agu T q 1) (agu T q 2)
  else if vb T q = 3 then fillK k (agu T q 0) (agu T q 1) (fkq T q) (agu T q 2) (agu T q 3) (agu T q 4) (iI (agu T q 5))
  else trK k (vb T q)
noncomputable def quK (T : Tp) (q : Nat) (k : Kp) : Int × An :=
  if vb T q = 9 then findA k (40 < shP (shq T (spq T q)).2.2 ∨ 8 < shR (shq T (spq T q)).2.2) (knd T (spq T q), (shq T (spq T q)).2.2) (rlq T q)
  else if vb T q = 10 then winA k (agu T q 0, agu T q 1) (agu T q 2, agu T q 3)
  else if vb T q = 11 then nearA k (agu T q 0) (agu T q 1, agu T q 2)
  else joinA k (rlq T q) (agu T q 0) (agu T q 1) (agu T q 2) (agu T q 3)
noncomputable def exK (T : Tp) (q : Nat) (k : Kp) (w : Ou) : Kp × Ou := if vb T q < 9 then ((chK T q k).2, outW w (chK T q k)) else (k, outQ w (if vb T q = 12 then 2 else 1) (quK T q k))
set_option maxHeartbeats 200000 in
theorem sh_W {T : Tp} {q : Nat} (h : StO T q) (hv : vb T q = 0 ∨ vb T q = 9) : ¬ (40 < shP (shq T (spq T q)).2.2 ∨ 8 < shR (shq T (spq T q)).2.2) → WF ((knd T (spq T q), (shq T (spq T q)).2.2) : Ct) := fun no => by
  obtain ⟨a, b⟩ := h.2.2.1 hv
  exact WF_shq a b (by omega) (by omega)
set_option maxHeartbeats 200000 in
theorem ag_b {T : Tp} {q : Nat} (h : StO T q) {v : Nat} (hv : vb T q = v) {i : Nat} (hi : i < na v) : b30 (agu T q i) := h.2.1 i (by rw [hv]; exact hi)
set_option maxHeartbeats 200000 in
theorem okR_ch {T : Tp} {q : Nat} {k : Kp} (h : StO T q) (o : okK k) (hD : kD k = false) : okR (chK T q k) := by
  unfold chK
  by_cases v0 : vb T q = 0
  · rw [if_pos v0]; exact okR_add o hD (sh_W h (Or.inl v0))
  rw [if_neg v0]
  by_cases v1 : vb T q = 1
  · rw [if_pos v1]; exact okR_drop o hD
  rw [if_neg v1]
  by_cases v2 : vb T q = 2
  · rw [if_pos v2]; exact okR_move o hD
  rw [if_neg v2]
  by_cases v3 : vb T q = 3
  · rw [if_pos v3]; exact okR_fill o hD (h.2.2.2.2 v3) (ag_b h v3 (by decide)) (ag_b h v3 (by decide))
  rw [if_neg v3]; exact okR_tr o hD _
set_option maxHeartbeats 200000 in
theorem joA_b (O : Nat → Prop) (P : Nat → Nat → Prop) (ids : Nat → Int) (m : Nat) : ∀ r i a, (joA O P ids m r i a).1 ≤ a.1 + 2 * m * r := by
  intro r
  induction r with
  | zero => intro i a; exact Nat.le_add_right _ _
  | succ r ih =>
    intro i a
    rw [joA]
    have t := ih (i + 1) (ifP (O i) (jiA (P i) ids i m 0 a) a)
    have e : 2 * m * (r + 1) = 2 * m * r + 2 * m := Nat.mul_succ _ _
    by_cases p : O i
    · rw [ifP_t p] at t ⊢
      have := jiA_b (P i) ids i m 0 a
      omega
    · rw [ifP_f p] at t ⊢; omega
def okQ (r : Int × An) : Prop := 0 ≤ r.1 ∧ r.1 ≤ 9 ∧ r.2.1 < 100000
set_option maxHeartbeats 200000 in
theorem okQ_c {c : Int} (h : 0 ≤ c ∧ c ≤ 9) : okQ (c, an0) := ⟨h.1, h.2, by show 0 < 100000; omega⟩
set_option maxHeartbeats 200000 in
theorem okQ_qu {T : Tp} {q : Nat} {k : Kp} (o : okK k) : okQ (quK T q k) := by
  have l2 := o.1.1.1
  unfold quK
  by_cases v0 : vb T q = 9
  · rw [if_pos v0]; unfold findA
    by_cases a : 40 < shP (shq T (spq T q)).2.2 ∨ 8 < shR (shq T (spq T q)).2.2
    · rw [ifP_t a]; exact okQ_c (by omega)
    rw [ifP_f a]
    by_cases b : ¬ Val ((knd T (spq T q), (shq T (spq T q)).2.2) : Ct)
    · rw [ifP_t b]; exact okQ_c (by omega)
    rw [ifP_f b]
    refine ⟨Int.le_refl 0, by show (0 : Int) ≤ 9; omega, ?_⟩
    refine Nat.lt_of_le_of_lt (fiA_b _ _ _ _ _) ?_
    show 0 + tC (kL k) < 100000; omega
  rw [if_neg v0]
  by_cases v1 : vb T q = 10
  · rw [if_pos v1]; unfold winA
    by_cases a : (agu T q 2, agu T q 3).1 < (agu T q 0, agu T q 1).1 ∨ (agu T q 2, agu T q 3).2 < (agu T q 0, agu T q 1).2
    · rw [ifP_t a]; exact okQ_c (by omega)
    rw [ifP_f a]
    refine ⟨Int.le_refl 0, by show (0 : Int) ≤ 9; omega, ?_⟩
    refine Nat.lt_of_le_of_lt (fiA_b _ _ _ _ _) ?_
    show 0 + tC (kL k) < 100000; omega
  rw [if_neg v1]
  by_cases v2 : vb T q = 11
  · rw [if_pos v2]; unfold nearA
    by_cases a : agu T q 0 < 1 ∨ 200 < agu T q 0
    · rw [ifP_t a]; exact okQ_c (by omega)
    rw [ifP_f a]
    refine ⟨Int.le_refl 0, by show (0 : Int) ≤ 9; omega, ?_⟩
    refine Nat.lt_of_le_of_lt (fiA_b _ _ _ _ _) ?_
    show 0 + min (agu T q 0).toNat (tC (kL k)) < 100000; omega
  rw [if_neg v2]; unfold joinA
  by_cases a : agu T q 1 < agu T q 0 ∨ agu T q 3 < agu T q 2 ∨ 63 < agu T q 1 - agu T q 0 ∨ 63 < agu T q 3 - agu T q 2
  · rw [ifP_t a]; exact okQ_c (by omega)
  rw [ifP_f a]
  refine ⟨Int.le_refl 0, by show (0 : Int) ≤ 9; omega, ?_⟩
  refine Nat.lt_of_le_of_lt (joA_b _ _ _ _ _ _ _) ?_
  show 0 + 2 * tC (kL k) * tC (kL k) < 100000
  have : 2 * tC (kL k) * tC (kL k) ≤ 2 * 200 * 200 := Nat.mul_le_mul (by omega) l2
  omega
/-! what a statement leaves -/
set_option maxHeartbeats 200000 in
theorem exK_ok {T : Tp} {q : Nat} {k : Kp} {w : Ou} (h : StO T q) (o : okK k) (hD : kD k = false) : okK (exK T q k w).1 ∧ ∀ d, w.1 ≤ 19000 + d → (exK T q k w).2.1 ≤ 19000 + (d + 1) := by
  unfold exK
  by_cases v : vb T q < 9
  · rw [if_pos v]
    refine ⟨(okR_ch h o hD).1, fun d hd => ?_⟩
    show (outW w (chK T q k)).1 ≤ _
    unfold outW
    by_cases e : (chK T q k).1 = -1
    · rw [if_pos e]; omega
    · rw [if_neg e]; show w.1 + 1 ≤ _; omega
  · rw [if_neg v]
    refine ⟨o, fun d hd => ?_⟩
    show (outQ w (if vb T q = 12 then 2 else 1) (quK T q k)).1 ≤ _
    unfold outQ
    by_cases e : (quK T q k).1 = 0
    · rw [if_pos e]; unfold quO
      by_cases e2 : w.1 + 2 + (quK T q k).2.1 ≤ 19000
      · rw [if_pos e2]; show w.1 + 2 + (quK T q k).2.1 ≤ _; omega
      · rw [if_neg e2]; show w.1 + 1 ≤ _; omega
    · rw [if_neg e]; show w.1 + 1 ≤ _; omega
def PSx (b k : Nat) : Prop := (b = 0 ∧ (k = 8 ∨ k = 9)) ∨ (10 ≤ b ∧ b ≤ 29) ∨ (31 ≤ b ∧ b ≤ 232) ∨ 2476 ≤ b
set_option maxHeartbeats 200000 in
theorem PEx_s {b k : Nat} (h : PEx b k) : PSx b k := by unfold PEx PKk at h; unfold PSx; omega
set_option maxHeartbeats 200000 in
theorem PNr_s {b k : Nat} (h : PNr b k) : PSx b k := by unfold PNr PAn at h; unfold PSx; omega
set_option maxHeartbeats 200000 in
theorem POu_s {b k : Nat} (h : POu b k) : PSx b k := by unfold POu at h; unfold PSx; omega
set_option maxHeartbeats 200000 in
theorem POu_o {b k : Nat} (h : POu b k) : outK b := by unfold POu at h; unfold outK; omega
set_option maxHeartbeats 200000 in
theorem e_fin {n : Nat} {σ : xσ} {r : Int × Kp} (hK : KS n σ r.2) {w : Ou} (hO : OS σ w) (hw : w.1 < 20000) {v : Nat} (hv : v < 9) (h33 : sI σ 3 3 = nI v) (ok : okR r) (K : Int32 → Nat → xσ → Option (Int32 × Nat × xσ)) (x1 : Int32) : ∃ σ', b_X10_run_235 K x1 (iI r.1) n σ = (if kD r.2 = true then b_X10_run_254 x1 n σ' else K (x1 + 1) n σ') ∧ Fk PSx σ σ' ∧ KS n σ' r.2 ∧ OS σ' (outW w r) := by
  obtain ⟨_, o1, o2, o3, o4⟩ := ok
  have Rr : R32 r.1 := ⟨by omega, by omega⟩
  rw [b_X10_run_235, show (-1 : Int32) = iI (-1) from rfl]
  simp only [iI_eq Rr (show R32 (-1) from ⟨by decide, by decide⟩)]
  unfold outW
  by_cases e : r.1 = -1
  · exact ⟨σ, by rw [if_pos e, if_pos (o1 e)], Fk.refl, hK, by rw [if_pos e]; exact hO⟩
  · obtain ⟨σ', t1, t2, t3⟩ := e_putCode (n := n) hO hw (show v < 13 by omega) h33 Rr (Or.inl hv)
    exact ⟨σ', by rw [if_neg e, if_neg (fun y => ndD (o2 e) y), t1, bd], t2.mono (fun _ _ => POu_s), hK.fk t2 (fun _ _ => POu_o), by rw [if_neg e]; exact t3⟩
set_option maxHeartbeats 200000 in
theorem e_finQ {n : Nat} {σ : xσ} {k : Kp} (hK : KS n σ k) {w : Ou} {r : Int × An} (hA : AnS σ w r.2) (hw : w.1 + 1 < 20000) {v : Nat} (hv : 9 ≤ v ∧ v < 13) (h33 : sI σ 3 3 = nI v) (ok : okQ r) (K : Int32 → Nat → xσ → Option (Int32 × Nat × xσ)) (x1 : Int32) : ∃ σ', b_X10_run_235 K x1 (iI r.1) n σ = K (x1 + 1) n σ' ∧ Fk PSx σ σ' ∧ KS n σ' k ∧ OS σ' (outQ w (if v = 12 then 2 else 1) r) := by
  obtain ⟨o1, o2, o3⟩ := ok
  have Rr : R32 r.1 := ⟨by omega, by omega⟩
  rw [b_X10_run_235, if_neg (show ¬ iI r.1 = -1 from fun y => by have := (iI_eq Rr (show R32 (-1) from ⟨by decide, by decide⟩)).mp y; omega)]
  unfold outQ
  by_cases e : r.1 = 0
  · obtain ⟨σ', t1, t2, t3⟩ := e_putAll (n := n) hA hw o3 hv h33
    rw [e, show iI 0 = 0 from rfl, t1, bd, if_pos rfl]
    exact ⟨σ', rfl, t2.mono (fun _ _ => POu_s), hK.fk t2 (fun _ _ => POu_o), t3⟩
  · obtain ⟨σ', t1, t2, t3⟩ := e_putCode (n := n) hA.1 (by omega) hv.2 h33 Rr (Or.inr e)
    rw [t1, bd, if_neg e]
    exact ⟨σ', rfl, t2.mono (fun _ _ => POu_s), hK.fk t2 (fun _ _ => POu_o), t3⟩
def chnS (K : Int32 → Nat → xσ → Option (Int32 × Nat × xσ)) (x1 : Int32) (n : Nat) (σ : xσ) : Option (Int32 × Nat × xσ) := if sI σ 3 3 = 0 then bn (f_X10_add n σ) (fun v123 n σ124 => b_X10_run_235 K x1 v123 n σ124) else if sI σ 3 3 = 1 then bd (f_X10_drop n σ) (fun v129 σ130 => b_X10_run_235 K x1 v129 n σ130) else if sI σ 3 3 = 2 then bn (f_X10_move n σ) (fun v135 n σ136 => b_X10_run_235 K x1 v135 n σ136) else if sI σ 3 3 = 3 then bn (f_X10_fill n σ) (fun v141 n σ142 => b_X10_run_235 K x1 v141 n σ142) else if sI σ 3 3 = 4 then bd (f_X3_turn n (sI σ 3 3) σ) (fun v147 σ148 => b_X10_run_235 K x1 v147 n σ148) else if sI σ 3 3 = 5 then bd (f_X3_turn n (sI σ 3 3) σ) (fun v153 σ154 => b_X10_run_235 K x1 v153 n σ154) else if sI σ 3 3 = 6 then bd (f_X3_turn n (sI σ 3 3) σ) (fun v159 σ160 => b_X10_run_235 K x1 v159 n σ160) else if sI σ 3 3 = 7 then bd (f_X3_turn n (sI σ 3 3) σ) (fun v165 σ166 => b_X10_run_235 K x1 v165 n σ166) else if sI σ 3 3 = 8 then bd (f_X3_turn n (sI σ 3 3) σ) (fun v171 σ172 => b_X10_run_235 K x1 v171 n σ172) else if sI σ 3 3 = 9 then bd (f_X10_find n σ) (fun v177 σ178 => b_X10_run_235 K x1 v177 n σ178) else if sI σ 3 3 = 10 then bd (f_X10_window n σ) (fun v183 σ184 => b_X10_run_235 K x1 v183 n σ184) else if sI σ 3 3 = 11 then bd (f_X10_near n σ) (fun v189 σ190 => b_X10_run_235 K x1 v189 n σ190) else if sI σ 3 3 = 12 then bd (f_X10_join n σ) (fun v195 σ196 => b_X10_run_235 K x1 v195 n σ196) else bd (f_X3_turn n (sI σ 3 3) σ) (fun v200 σ201 => b_X10_run_235 K x1 v200 n σ201)
set_option maxHeartbeats 200000 in
theorem OS.x {σ σ' : xσ} {w : Ou} (h : OS σ w) (f : Fk PEx σ σ') : OS σ' w := h.fk f (fun y => by unfold PEx PKk at y; omega) (fun k y => by unfold PEx PKk at y; omega)
def ChR (K : Int32 → Nat → xσ → Option (Int32 × Nat × xσ)) (x1 : Int32) (σ : xσ) (f : Option (Int32 × Nat × xσ)) (e : Kp × Ou) : Prop := ∃ n' σ', f = (if kD e.1 = true then b_X10_run_254 x1 n' σ' else K (x1 + 1) n' σ') ∧ Fk PSx σ σ' ∧ KS n' σ' e.1 ∧ OS σ' e.2
set_option maxHeartbeats 200000 in
theorem ChR_c {K : Int32 → Nat → xσ → Option (Int32 × Nat × xσ)} {x1 : Int32} {σ : xσ} {n' : Nat} {σ1 : xσ} {r : Int × Kp} {w : Ou} {v : Nat} (hv : v < 9) (h33 : sI σ 3 3 = nI v) (hO : OS σ w) (hw : w.1 < 20000) (ok : okR r) (F : Fk PEx σ σ1) (hK : KS n' σ1 r.2) : ChR K x1 σ (b_X10_run_235 K x1 (iI r.1) n' σ1) (r.2, outW w r) := by
  obtain ⟨σ2, t1, t2, t3, t4⟩ := e_fin hK (hO.x F) hw hv (by rw [(F 3 3 (fun y => by unfold PEx PKk at y; omega)).1]; exact h33) ok K x1
  exact ⟨n', σ2, t1, (F.mono (fun _ _ => PEx_s)).trans t2, t3, t4⟩
set_option maxHeartbeats 200000 in
theorem ChR_q {K : Int32 → Nat → xσ → Option (Int32 × Nat × xσ)} {x1 : Int32} {σ : xσ} {n : Nat} {σ1 : xσ} {r : Int × An} {w : Ou} {v : Nat} (hv : 9 ≤ v ∧ v < 13) (h33 : sI σ 3 3 = nI v) (hw : w.1 + 1 < 20000) (ok : okQ r) {k : Kp} (hK : KS n σ k) (hD : kD k = false) (F : Fk PNr σ σ1) (hA : AnS σ1 w r.2) : ChR K x1 σ (b_X10_run_235 K x1 (iI r.1) n σ1) (k, outQ w (if v = 12 then 2 else 1) r) := by
  obtain ⟨σ2, t1, t2, t3, t4⟩ := e_finQ (hK.fk F (fun _ _ => PNr_o)) hA hw hv (by rw [(F 3 3 (fun y => by unfold PNr PAn at y; omega)).1]; exact h33) ok K x1
  refine ⟨n, σ2, ?_, (F.mono (fun _ _ => PNr_s)).trans t2, t3, t4⟩
  rw [if_neg (show ¬ kD (k, outQ w (if v = 12 then 2 else 1) r).1 = true from fun y => ndD hD y)]
  exact t1

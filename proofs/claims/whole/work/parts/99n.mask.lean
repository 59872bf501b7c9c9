/-! questions of the reference -/
def PAm (b k : Nat) : Prop := (b = 233 ∧ (k = 57 ∨ k = 44)) ∨ b = 1864
set_option maxHeartbeats 200000 in
theorem PAm_x {b k : Nat} (h : PAm b k) : PXm b k := by unfold PAm at h; unfold PXm; omega
def AnM (σ : xσ) (w : Ou) (a : An) : Prop := OM σ w ∧ sI σ 233 57 = nI a.1 ∧ ∀ j, j < a.1 → sI σ 1864 (w.1 + 2 + j) = iI (a.2 j)
set_option maxHeartbeats 200000 in
theorem AnM.fk {σ σ' : xσ} {w : Ou} {a : An} {P : Nat → Nat → Prop} (h : AnM σ w a) (f : Fk P σ σ') (h1 : ∀ k, 23 ≤ k → ¬ P 233 k) (h2 : ∀ k, ¬ P 1864 k) : AnM σ' w a := ⟨h.1.fk f (h1 44 (by omega)) h2, by rw [(f 233 57 (h1 57 (by omega))).1]; exact h.2.1, fun j hj => by rw [(f 1864 _ (h2 _)).1]; exact h.2.2 j hj⟩
set_option maxHeartbeats 200000 in
theorem AnM.y {σ σ' : xσ} {w : Ou} {a : An} (h : AnM σ w a) (f : FrY σ σ') : AnM σ' w a := ⟨h.1.y f, by rw [f.2 57 (by omega)]; exact h.2.1, fun j hj => by rw [(f.1 1864 (by unfold AY AZ A47; omega) _).1]; exact h.2.2 j hj⟩
set_option maxHeartbeats 200000 in
theorem KM.am {σ σ' : xσ} {k : Kp} (h : KM σ k) (f : Fk PAm σ σ') : KM σ' k := h.fk f (fun j hj y => by unfold PAm at y; omega) (fun b j l1 l2 y => by unfold PAm at y; omega)
set_option maxHeartbeats 200000 in
theorem TbM.am {σ σ' : xσ} {t : Tb} {u : Nat → Nat} (h : TbM σ 259 t u) (f : Fk PAm σ σ') : TbM σ' 259 t u := h.fk f (fun b k l1 l2 y => by unfold PAm at y; omega)
set_option maxHeartbeats 200000 in
theorem m_beginAnswers {n : Nat} {σ : xσ} {w : Ou} (h : OM σ w) : ∃ σ', f_X14_beginAnswers n σ = some ((), σ') ∧ Fk PAm σ σ' ∧ AnM σ' w an0 := by
  have F : Fk PAm σ (wI σ 233 57 0) := Fk.wI (Or.inl ⟨rfl, Or.inl rfl⟩)
  rw [f_X14_beginAnswers, st]
  refine ⟨_, rfl, F, ⟨?_, fun i hi => ?_⟩, ?_, fun j hj => absurd hj (by show ¬ j < 0; omega)⟩
  · rw [sI_wI, if_neg (by omega)]; exact h.1
  · rw [sI_wI, if_neg (by omega)]; exact h.2 i hi
  · rw [sI_own]; rfl
set_option maxHeartbeats 200000 in
theorem m_answer {n : Nat} {σ : xσ} {w : Ou} {a : An} (h : AnM σ w a) (hb : w.1 + 2 + a.1 < 30000) (v : Int) : ∃ σ', f_X14_answer n (iI v) σ = some ((), σ') ∧ Fk PAm σ σ' ∧ AnM σ' w (snc a v) := by
  obtain ⟨⟨h1, h2⟩, h3, h4⟩ := h
  rw [f_X14_answer, h1, h3, nIp2, nI_ad, gd_in (by omega) (by omega), nI_k (by omega), st]
  have e9 : sI (wI σ 1864 (w.1 + 2 + a.1) (iI v)) 233 57 = nI a.1 := by rw [sI_wI, if_neg (by omega)]; exact h3
  rw [e9, nI_s, st]
  refine ⟨_, rfl, (Fk.wI (Or.inr rfl)).trans (Fk.wI (Or.inl ⟨rfl, Or.inl rfl⟩)), ⟨?_, fun i hi => ?_⟩, ?_, fun j hj => ?_⟩
  · rw [sI_wI, if_neg (by omega), sI_wI, if_neg (by omega)]; exact h1
  · rw [sI_wI, if_neg (by omega), sI_wI, if_neg (by omega)]; exact h2 i hi
  · rw [sI_own]; rfl
  · have hj' : j < a.1 + 1 := hj
    show _ = iI (if j = a.1 then v else a.2 j)
    rw [sI_wI, if_neg (by omega)]
    by_cases e : j = a.1
    · rw [if_pos e, e, sI_own]
    · rw [if_neg e, sI_wI, if_neg (by omega)]; exact h4 j (by omega)
def outQ (w : Ou) (each : Nat) (r : Int × An) : Ou := if r.1 = 0 then quO w each r.2 else puO w (iI r.1)
def StQ (σ : xσ) (f : Option (Unit × xσ)) (k : Kp) (w : Ou) (each : Nat) (r : Int × An) : Prop := ∃ σ', f = some ((), σ') ∧ Fm PXm σ σ' ∧ KM σ' k ∧ OM σ' (outQ w each r)
set_option maxHeartbeats 200000 in
theorem StQ.of {σ σ1 : xσ} {f : Option (Unit × xσ)} {k : Kp} {w : Ou} {each : Nat} {r : Int × An} (F : Fm PXm σ σ1) (h : StQ σ1 f k w each r) : StQ σ f k w each r := by
  obtain ⟨σ', t1, t2, t3, t4⟩ := h
  exact ⟨σ', t1, F.trans t2, t3, t4⟩
set_option maxHeartbeats 200000 in
theorem m_endAnswers {n : Nat} {σ : xσ} {k : Kp} (hk : KM σ k) {w : Ou} {a : An} (h : AnM σ w a) (hw : w.1 < 20000) (ha : a.1 < 30000) {each : Nat} (he : each = 1 ∨ each = 2) : StQ σ (bd (f_X14_endAnswers n (nI each) σ) (fun v102 σ103 => some ((), σ103))) k w each (0, a) := by
  obtain ⟨h1, h3, h4⟩ := h
  have e44 := h1.1
  unfold StQ outQ quO
  rw [bd_id, if_pos rfl, f_X14_endAnswers, e44, h3, nIp2, nI_ad]
  simp only [nIe19000 (show w.1 + 2 + a.1 < 2147483648 by omega)]
  by_cases q : w.1 + 2 + a.1 ≤ 19000
  · have a1 : ∀ v, sI (wI σ 1864 w.1 v) 233 44 = nI w.1 := fun v => by rw [sI_wI, if_neg (by omega)]; exact e44
    have a2 : ∀ v, sI (wI σ 1864 w.1 v) 233 57 = nI a.1 := fun v => by rw [sI_wI, if_neg (by omega)]; exact h3
    have a3 : ∀ v v', sI (wI (wI σ 1864 w.1 v) 1864 (w.1 + 1) v') 233 44 = nI w.1 := fun v v' => by rw [sI_wI, if_neg (by omega)]; exact a1 v
    have a4 : ∀ v v', sI (wI (wI σ 1864 w.1 v) 1864 (w.1 + 1) v') 233 57 = nI a.1 := fun v v' => by rw [sI_wI, if_neg (by omega)]; exact a2 v
    have ne : ¬ nI each = 0 := fun y => by have := (nIq0 (show each < 2147483648 by omega)).mp y; omega
    have ed : nI a.1 / nI each = nI (a.1 / each) := nI_div (by omega) (by omega) (by omega)
    have e2 : (2 : Int32) + nI a.1 = nI (2 + a.1) := by rw [show (2 : Int32) = nI 2 from rfl, nI_ad]
    rw [if_pos q, if_pos q, gd_in (by omega) (by omega), nI_k (by omega), st, gd_pos ne, a1, nI_s, gd_in (by omega) (by omega), nI_k (by omega), a2, ed, st, a3, a4, e2, nI_ad, st]
    have F : Fk PAm σ (wI (wI (wI σ 1864 w.1 0) 1864 (w.1 + 1) (nI (a.1 / each))) 233 44 (nI (w.1 + (2 + a.1)))) := ((Fk.wI (Or.inr rfl)).trans (Fk.wI (Or.inr rfl))).trans (Fk.wI (Or.inl ⟨rfl, Or.inr rfl⟩))
    refine ⟨_, rfl, (F.mono (fun _ _ => PAm_x)).m, hk.am F, ?_, fun i hi => ?_⟩
    · rw [sI_own]; show nI (w.1 + (2 + a.1)) = nI (w.1 + 2 + a.1); rw [Nat.add_assoc]
    · have hi' : i < w.1 + 2 + a.1 := hi
      show _ = if i < w.1 then w.2 i else if i = w.1 then 0 else if i = w.1 + 1 then nI (a.1 / each) else iI (a.2 (i - w.1 - 2))
      rw [sI_wI, if_neg (by omega)]
      by_cases c1 : i = w.1 + 1
      · rw [if_neg (by omega), if_neg (by omega), if_pos c1, c1, sI_own]
      · rw [sI_wI, if_neg (by omega)]
        by_cases c2 : i = w.1
        · rw [if_neg (by omega), if_pos c2, c2, sI_own]
        · rw [sI_wI, if_neg (by omega)]
          by_cases c3 : i < w.1
          · rw [if_pos c3]; exact h1.2 i c3
          · rw [if_neg c3, if_neg c2, if_neg c1]
            have := h4 (i - w.1 - 2) (by omega)
            rw [show w.1 + 2 + (i - w.1 - 2) = i by omega] at this
            exact this
  · obtain ⟨σ', t1, t2, t3⟩ := m_put (n := n) h1 (by omega) 7
    rw [if_neg q, if_neg q, bd_id]
    exact ⟨σ', t1, (t2.mono (fun _ _ => PPt_x)).m, hk.p t2, t3⟩
set_option maxHeartbeats 200000 in
theorem m_sayQ {n : Nat} {σ : xσ} {k : Kp} (h : KM σ k) {w : Ou} (hO : OM σ w) (hw : w.1 < 30000) {v : Int} (hv : v ≠ 0) {x : Int32} (e : x = iI v) {each : Nat} : StQ σ (bd (f_X14_put n x σ) (fun _ s => some ((), s))) k w each (v, an0) := by
  obtain ⟨σ', t1, t2, t3⟩ := m_put (n := n) hO hw (iI v)
  rw [bd_id, e]
  refine ⟨σ', t1, (t2.mono (fun _ _ => PPt_x)).m, h.p t2, ?_⟩
  unfold outQ
  rw [if_neg hv]
  exact t3
/-! a row of the live table of the reference -/
set_option maxHeartbeats 200000 in
theorem KM.row {σ : xσ} {k : Kp} {u : Nat → Nat} (T : TbM σ 259 (kL k) u) (o : okK k) {i : Nat} (hi : i < tC (kL k)) : okM (mq 259 (u i)) ∧ sR σ 260 i = some (mq 259 (u i)) ∧ MH σ (mq 259 (u i)) (tS (kL k) i) ∧ WF (tS (kL k) i) ∧ Val (tS (kL k) i) ∧ sI σ (mq 259 (u i)) 0 = iI (tI (kL k) i) := by
  have l2 := o.1.1.1
  obtain ⟨v1, v2⟩ := T.2.1 i (by omega)
  obtain ⟨x1, x2⟩ := T.2.2.2 i hi
  obtain ⟨W, V⟩ := o.1.1.2.2.2 i hi
  exact ⟨okM_mq (a := 259) (Or.inl rfl) v1, v2, x2, W, V, x1⟩
set_option maxHeartbeats 200000 in
theorem lm_find {n : Nat} {k : Kp} (o : okK k) {c : Ct} (W : WF c) (V : Val c) {rel : Nat} (hr : rel < 5) {w : Ou} (hw : w.1 < 20000) : ∀ r f i σ a, r < f → i + r = tC (kL k) → KM σ k → MH σ 1865 c → AnM σ w a → a.1 + r < 1000 → StQ σ (l_X14_find_40 n f (nI rel) (nI i) σ) k w 1 (0, fiA (fun j => Rel rel (tS (kL k) j) c) (tI (kL k)) r i a) := by
  have l2 := o.1.1.1
  intro r
  induction r with
  | zero =>
    intro f i σ a hf hi h S hA ha
    obtain ⟨g, rfl⟩ : ∃ g, f = g + 1 := ⟨f - 1, by omega⟩
    obtain ⟨u, T⟩ := h.1.1
    rw [l_X14_find_40, T.1.2.1, if_pos ((nI_e' (by omega) (by omega)).mpr (by omega))]
    exact m_endAnswers h hA hw (by omega) (Or.inl rfl)
  | succ r ih =>
    intro f i σ a hf hi h S hA ha
    obtain ⟨g, rfl⟩ : ∃ g, f = g + 1 := ⟨f - 1, by omega⟩
    obtain ⟨u, T⟩ := h.1.1
    obtain ⟨r0, r1, r2, r3, r4, r5⟩ := KM.row T o (show i < tC (kL k) by omega)
    have i1 : ∀ {α : Type} (y : Option α), gd (inb (nI i) 200) y = y := fun y => gd_in (by omega) (by omega)
    have nIk : (nI i).toNatClampNeg = i := nI_k (by omega)
    obtain ⟨σ1, f1, t1⟩ := m_relates (n := n) r2 r3 r4 S W V hr
    have f1' := FrZ_y f1
    have T1 := T.y f1'
    obtain ⟨_, s1, s2, _, _, s5⟩ := KM.row T1 o (show i < tC (kL k) by omega)
    have h1 := h.y f1'
    have S1 := S.z f1
    have A1 := hA.y f1'
    refine StQ.of (FrY_m f1') ?_
    rw [l_X14_find_40, T.1.2.1, if_neg (fun y => by have := (nI_e' (by omega) (by omega)).mp y; omega)]
    simp only [i1, nIk, r1, nn]
    rw [gd_pos r0, t1, bd, fiA]
    by_cases q : Rel rel (tS (kL k) i) c
    · obtain ⟨σ2, u1, u2, u3⟩ := m_answer (n := n) A1 (by omega) (tI (kL k) i)
      rw [if_neg (tn q), ifP_t q]
      simp only [s1]
      rw [gd_pos r0, s5, u1, bd, b_X14_find_88, nI_s]
      exact (ih g (i + 1) σ2 _ (by omega) (by omega) (h1.am u2) (S1.fk u2 (fun j k hj y => by unfold PAm at y; omega)) u3 (by show a.1 + 1 + r < 1000; omega)).of (u2.mono (fun _ _ => PAm_x)).m
    · rw [if_pos (tf_f q), nI_s, ifP_f q]
      exact ih g (i + 1) σ1 _ (by omega) (by omega) h1 S1 A1 (by omega)
set_option maxHeartbeats 200000 in
theorem m_tooGreat {n : Nat} {σ : xσ} {kn : Nat} {s : Sh} (hs : ShN σ kn s) : f_X14_isTooGreat n σ = some (tf (40 < shP s ∨ 8 < shR s), σ) := by
  obtain ⟨H, h50, h51, hp, hr⟩ := hs
  rw [f_X14_isTooGreat, h50, h51]
  simp only [nIh40 (show shP s < 2147483648 by omega), nIe8 (show shR s < 2147483648 by omega)]
  by_cases a : 40 < shP s
  · rw [if_pos a, tf_t (Or.inl a)]
  · rw [if_neg a]
    by_cases b : shR s ≤ 8
    · rw [if_pos b, tf_f (by omega)]
    · rw [if_neg b, tf_t (by omega)]
set_option maxHeartbeats 200000 in
theorem m_findQ {n : Nat} {σ : xσ} {k : Kp} (h : KM σ k) (o : okK k) {kn : Nat} {s : Sh} (hs : ShN σ kn s) (hW : ¬ (40 < shP s ∨ 8 < shR s) → WF ((kn, s) : Ct)) {rel : Nat} (hr : rel < 5) {w : Ou} (hO : OM σ w) (hw : w.1 < 20000) : StQ σ (f_X14_find n (nI rel) σ) k w 1 (findA k (40 < shP s ∨ 8 < shR s) (kn, s) rel) := by
  have l2 := o.1.1.1
  rw [f_X14_find, m_tooGreat hs, bd]
  unfold findA
  by_cases q4 : 40 < shP s ∨ 8 < shR s
  · rw [if_neg (tn q4), ifP_t q4]; exact m_sayQ h hO (by omega) (v := 4) (by decide) rfl
  have W := hW q4
  have S : MH σ 1865 ((kn, s) : Ct) := MH_of hs.1 (by omega) (by omega)
  obtain ⟨σ1, f1, t1⟩ := m_isValid (n := n) S W (by omega)
  have S1 : MH σ1 1865 ((kn, s) : Ct) := S.y f1 (by omega)
  have h1 := h.y f1
  have O1 := hO.y f1
  refine StQ.of (FrY_m f1) ?_
  rw [if_pos (tf_f q4), ifP_f q4, t1, bd]
  by_cases q5 : Val ((kn, s) : Ct)
  · obtain ⟨σ2, u1, u2, u3⟩ := m_beginAnswers (n := n) O1
    rw [if_neg (tn q5), ifP_f (fun y => y q5), u1, bd]
    have t := lm_find (n := n) o W q5 hr hw (tC (kL k)) xFU 0 σ2 an0 (xFU_lt (by omega)) (by omega) (h1.am u2) (S1.fk u2 (fun j k hj y => by unfold PAm at y; omega)) u3 (by show 0 + tC (kL k) < 1000; omega)
    rw [show nI 0 = 0 from rfl] at t
    exact t.of (u2.mono (fun _ _ => PAm_x)).m
  · rw [if_pos (tf_f q5), ifP_t q5]; exact m_sayQ h1 O1 (by omega) (v := 3) (by decide) rfl

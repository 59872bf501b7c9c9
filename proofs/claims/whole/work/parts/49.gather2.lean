/-! the cutter goes round the region -/
def xgP (P Q a b : V2) : Bool := xg (sub2 Q P) (sub2 a P) (sub2 b P)
def nuP (P Q a b : V2) : Int := nu (sub2 Q P) (sub2 a P) (sub2 b P)
def deP (P Q a b : V2) : Int := de (sub2 Q P) (sub2 a P) (sub2 b P)
set_option maxHeartbeats 200000 in
theorem xgP_eq (P Q a b : V2) : xgP P Q a b = (decide (0 < sid P Q a) != decide (0 < sid P Q b)) := by unfold xgP xg; rw [crs_s2, crs_s2]
def eL (P Q a b : V2) : List Cut := if xgP P Q a b then crL (nuP P Q a b) (deP P Q a b) else if sid P Q a = 0 ∧ sid P Q b = 0 then alL P Q a b else []
def eO (P Q a b : V2) : Bool := xgP P Q a b && decide (0 < nuP P Q a b)
def eK (P Q a b : V2) : Int := if xgP P Q a b then 0 else if sid P Q a = 0 ∧ sid P Q b = 0 then alK P Q a b else 0
def eT (P Q a b : V2) : Prop := xgP P Q a b = true ∧ 0 ≤ nuP P Q a b ∧ nuP P Q a b ≤ deP P Q a b
set_option maxHeartbeats 200000 in
theorem eL_le (P Q a b : V2) : (eL P Q a b).length ≤ 2 := by
  unfold eL crL alL
  repeat' split
  all_goals simp
noncomputable def gaL (P Q : V2) (d : Ct) (lo : Nat) : Nat → List Cut
  | 0 => []
  | m + 1 => gaL P Q d lo m ++ ifP (isE d (lo + m)) [] (eL P Q (cV d (lo + m)) (cV d (lo + m + 1)))
noncomputable def gaO (P Q : V2) (d : Ct) (lo m : Nat) : Bool := xs (fun e => dB (¬ isE d e) && eO P Q (cV d e) (cV d (e + 1))) lo m
noncomputable def gaK (P Q : V2) (d : Ct) (lo : Nat) : Nat → Int
  | 0 => 0
  | m + 1 => gaK P Q d lo m + ifP (isE d (lo + m)) 0 (eK P Q (cV d (lo + m)) (cV d (lo + m + 1)))
def gaT (P Q : V2) (d : Ct) (lo q : Nat) : Prop := (∃ j, lo ≤ j ∧ j < lo + q ∧ sid P Q (cV d j) = 0 ∧ inBx P Q (cV d j)) ∨ ∃ e, lo ≤ e ∧ e + 1 < lo + q ∧ ¬ isE d e ∧ eT P Q (cV d e) (cV d (e + 1))
set_option maxHeartbeats 200000 in
theorem gaL_le (P Q : V2) (d : Ct) (lo m : Nat) : (gaL P Q d lo m).length ≤ 2 * m := by
  induction m with
  | zero => simp [gaL]
  | succ m ih =>
    rw [gaL, List.length_append]
    have : (ifP (isE d (lo + m)) [] (eL P Q (cV d (lo + m)) (cV d (lo + m + 1)))).length ≤ 2 := by
      by_cases h : isE d (lo + m)
      · rw [ifP_t h]; simp
      · rw [ifP_f h]; exact eL_le _ _ _ _
    omega
/-- the cutter is aimed at the rings of d, from the place lo to ahead of hi -/
def RG (σ : xσ) (b : Nat) (d : Ct) (lo hi : Nat) : Prop := sR σ 18 0 = some b ∧ sI σ 18 1 = nI lo ∧ sI σ 18 2 = nI hi ∧ lo < hi ∧ hi ≤ cN d
set_option maxHeartbeats 200000 in
theorem RG.c {σ σ' : xσ} {b : Nat} {d : Ct} {lo hi : Nat} (h : RG σ b d lo hi) (f : FrC σ σ') : RG σ' b d lo hi := ⟨f.2.2.trans h.1, (f.2.1 1 (by omega)).trans h.2.1, (f.2.1 2 (by omega)).trans h.2.2.1, h.2.2.2⟩
set_option maxHeartbeats 200000 in
theorem e_edge {n : Nat} {σ : xσ} {a b : Nat} {c d : Ct} (S : SH n σ a c) (F : WF c) (T : SH n σ b d) (G : WF d) {lo hi : Nat} (A : RG σ b d lo hi) {i j : Nat} (h1 : i + 1 < cN c) (h2 : lo ≤ j) (h3 : j + 1 < hi) {L : List Cut} {o : Bool} {k : Int} {t : Prop} (C : CU σ L o k t) (hL : L.length + 1 < 80) (K : Nat → Int32 → Int64 → Int32 → xσ → Option (Unit × xσ)) :
    ∃ σ', b_X1_gather_106 n K a (nI i) (jJ (sid (cV c i) (cV c (i + 1)) (cV d j))) (nI (j + 1)) (jJ (sid (cV c i) (cV c (i + 1)) (cV d (j + 1)))) σ = K a (nI i) (jJ (sid (cV c i) (cV c (i + 1)) (cV d (j + 1)))) (nI (j + 2)) σ' ∧ FrC σ σ' ∧
      CU σ' (L ++ ifP (isE d j) [] (eL (cV c i) (cV c (i + 1)) (cV d j) (cV d (j + 1)))) (o ^^ (dB (¬ isE d j) && eO (cV c i) (cV c (i + 1)) (cV d j) (cV d (j + 1)))) (k + ifP (isE d j) 0 (eK (cV c i) (cV c (i + 1)) (cV d j) (cV d (j + 1)))) (t ∨ (¬ isE d j ∧ eT (cV c i) (cV c (i + 1)) (cV d j) (cV d (j + 1)))) := by
  have hN := F.n
  have hM := G.n
  obtain ⟨A1, A2, A3, A4', A5⟩ := A
  have r1 := sid_r (F.b (show i < cN c by omega)) (F.b h1) (G.b (show j < cN d by omega))
  have r2 := sid_r (F.b (show i < cN c by omega)) (F.b h1) (G.b (show j + 1 < cN d by omega))
  have g1 : nI (j + 1) - 1 = nI j := by rw [nIm1 (by omega)]; rfl
  rw [b_X1_gather_106, A2]
  simp (disch := omega) only [nI_e', A1, nn, gd_pos T.1, g1, gd_in, nI_k, T.L, nI_s]
  rw [if_neg (by omega)]
  by_cases w : isE d j
  · rw [if_neg (tn w), ifP_t w, ifP_t w, dB_f (fun z => z w), List.append_nil, Bool.false_and, Bool.xor_false, Int.add_zero]
    exact ⟨σ, rfl, FrC.refl, C.tc ⟨Or.inl, fun h => h.elim id (fun z => (z.1 w).elim)⟩⟩
  · rw [if_pos (tf_f w), ifP_f w, ifP_f w, dB_t w, Bool.true_and]
    have hxe := xgP_eq (cV c i) (cV c (i + 1)) (cV d j) (cV d (j + 1))
    have cross : xgP (cV c i) (cV c (i + 1)) (cV d j) (cV d (j + 1)) = true → ∃ σ', bd (f_X1_cross n a (nI i) (nI (j + 1)) (jJ (sid (cV c i) (cV c (i + 1)) (cV d (j + 1))) - jJ (sid (cV c i) (cV c (i + 1)) (cV d j))) σ) (fun _ σ110 => K a (nI i) (jJ (sid (cV c i) (cV c (i + 1)) (cV d (j + 1)))) (nI (j + 1 + 1)) σ110) = K a (nI i) (jJ (sid (cV c i) (cV c (i + 1)) (cV d (j + 1)))) (nI (j + 2)) σ' ∧ FrC σ σ' ∧
      CU σ' (L ++ eL (cV c i) (cV c (i + 1)) (cV d j) (cV d (j + 1))) (o ^^ eO (cV c i) (cV c (i + 1)) (cV d j) (cV d (j + 1))) (k + eK (cV c i) (cV c (i + 1)) (cV d j) (cV d (j + 1))) (t ∨ (¬ isE d j ∧ eT (cV c i) (cV c (i + 1)) (cV d j) (cV d (j + 1)))) := by
      intro hx
      obtain ⟨σ', a1, a2, a3⟩ := e_cross (n := n) S F T G A1 h1 (show j + 1 < cN d by omega) C (by omega) hx
      rw [jJ_sub, a1, bd]
      refine ⟨σ', rfl, a2, ?_⟩
      unfold eL eO eK
      rw [if_pos hx, if_pos hx, hx, Int.add_zero, Bool.true_and]
      exact a3.tc ⟨fun h => h.imp id (fun z => ⟨w, hx, z⟩), fun h => h.imp id (fun z => z.2.2)⟩
    have along : xgP (cV c i) (cV c (i + 1)) (cV d j) (cV d (j + 1)) = false → ∃ σ', (if sid (cV c i) (cV c (i + 1)) (cV d j) = 0 then (if sid (cV c i) (cV c (i + 1)) (cV d (j + 1)) = 0 then bd (f_X1_goAlong n a (nI i) (nI (j + 1)) σ) (fun _ σ105 => K a (nI i) (jJ (sid (cV c i) (cV c (i + 1)) (cV d (j + 1)))) (nI (j + 1 + 1)) σ105) else K a (nI i) (jJ (sid (cV c i) (cV c (i + 1)) (cV d (j + 1)))) (nI (j + 1 + 1)) σ) else K a (nI i) (jJ (sid (cV c i) (cV c (i + 1)) (cV d (j + 1)))) (nI (j + 1 + 1)) σ) = K a (nI i) (jJ (sid (cV c i) (cV c (i + 1)) (cV d (j + 1)))) (nI (j + 2)) σ' ∧ FrC σ σ' ∧
      CU σ' (L ++ eL (cV c i) (cV c (i + 1)) (cV d j) (cV d (j + 1))) (o ^^ eO (cV c i) (cV c (i + 1)) (cV d j) (cV d (j + 1))) (k + eK (cV c i) (cV c (i + 1)) (cV d j) (cV d (j + 1))) (t ∨ (¬ isE d j ∧ eT (cV c i) (cV c (i + 1)) (cV d j) (cV d (j + 1)))) := by
      intro hx
      have ht : t ↔ (t ∨ (¬ isE d j ∧ eT (cV c i) (cV c (i + 1)) (cV d j) (cV d (j + 1)))) := ⟨Or.inl, fun h => h.elim id (fun z => by have := z.2.1; rw [hx] at this; cases this)⟩
      unfold eL eO eK
      rw [hx, if_neg (show ¬ (false = true) by decide), if_neg (show ¬ (false = true) by decide), Bool.false_and, Bool.xor_false]
      by_cases z1 : sid (cV c i) (cV c (i + 1)) (cV d j) = 0
      · by_cases z2 : sid (cV c i) (cV c (i + 1)) (cV d (j + 1)) = 0
        · obtain ⟨σ', a1, a2, a3⟩ := e_goAlong (n := n) S F T G A1 h1 (show j + 1 < cN d by omega) C hL
          rw [if_pos z1, if_pos z2, a1, bd, if_pos ⟨z1, z2⟩, if_pos ⟨z1, z2⟩]
          exact ⟨σ', rfl, a2, a3.tc ht⟩
        · rw [if_pos z1, if_neg z2, if_neg (fun h => z2 h.2), if_neg (fun h => z2 h.2), List.append_nil, Int.add_zero]
          exact ⟨σ, rfl, FrC.refl, C.tc ht⟩
      · rw [if_neg z1, if_neg (fun h => z1 h.1), if_neg (fun h => z1 h.1), List.append_nil, Int.add_zero]
        exact ⟨σ, rfl, FrC.refl, C.tc ht⟩
    simp (disch := omega) only [lz_le, lz_eq, b_X1_gather_141, b_X1_gather_153, b_X1_gather_192, nI_s]
    by_cases q1 : sid (cV c i) (cV c (i + 1)) (cV d j) ≤ 0 <;> by_cases q2 : sid (cV c i) (cV c (i + 1)) (cV d (j + 1)) ≤ 0
    · rw [if_pos q1, if_pos q2, if_pos trivial]
      exact along (by rw [hxe, decide_eq_false (by omega), decide_eq_false (by omega)]; rfl)
    · rw [if_pos q1, if_neg q2, if_neg (by decide)]
      exact cross (by rw [hxe, decide_eq_false (by omega), decide_eq_true (show 0 < sid (cV c i) (cV c (i + 1)) (cV d (j + 1)) by omega)]; rfl)
    · rw [if_neg q1, if_pos q2, if_neg (by decide)]
      exact cross (by rw [hxe, decide_eq_true (show 0 < sid (cV c i) (cV c (i + 1)) (cV d j) by omega), decide_eq_false (by omega)]; rfl)
    · rw [if_neg q1, if_neg q2, if_pos trivial]
      exact along (by rw [hxe, decide_eq_true (show 0 < sid (cV c i) (cV c (i + 1)) (cV d j) by omega), decide_eq_true (show 0 < sid (cV c i) (cV c (i + 1)) (cV d (j + 1)) by omega)]; rfl)
set_option maxHeartbeats 200000 in
theorem l_gather {n : Nat} {a b : Nat} {c d : Ct} (F : WF c) (G : WF d) {lo hi i : Nat} (h1 : i + 1 < cN c) : ∀ (f q : Nat) (σ : xσ) (l3 : Int64), hi - (lo + q) < f → lo + q ≤ hi → SH n σ a c → SH n σ b d → RG σ b d lo hi → (1 ≤ q → l3 = jJ (sid (cV c i) (cV c (i + 1)) (cV d (lo + q - 1)))) →
    CU σ (gaL (cV c i) (cV c (i + 1)) d lo (q - 1)) (gaO (cV c i) (cV c (i + 1)) d lo (q - 1)) (gaK (cV c i) (cV c (i + 1)) d lo (q - 1)) (gaT (cV c i) (cV c (i + 1)) d lo q) →
    ∃ σ', l_X1_gather_28 n f a (nI i) l3 (nI (lo + q)) σ = some ((), σ') ∧ FrC σ σ' ∧ CU σ' (gaL (cV c i) (cV c (i + 1)) d lo (hi - lo - 1)) (gaO (cV c i) (cV c (i + 1)) d lo (hi - lo - 1)) (gaK (cV c i) (cV c (i + 1)) d lo (hi - lo - 1)) (gaT (cV c i) (cV c (i + 1)) d lo (hi - lo)) := by
  have hN := F.n
  have hM := G.n
  intro f
  induction f with
  | zero => intro q σ l3 h; omega
  | succ f ih =>
    intro q σ l3 hf hq S T A hl C
    have A' := A
    obtain ⟨A1, A2, A3, A4', A5⟩ := A
    rw [l_X1_gather_28, A3]
    simp (disch := omega) only [nI_e']
    by_cases z : lo + q < hi
    · rw [if_neg (by omega)]
      simp (disch := omega) only [A1, nn, gd_pos T.1, gd_in, nI_k, T.X, T.Y]
      have bw := G.b (show lo + q < cN d by omega)
      have rw' := sid_r (F.b (show i < cN c by omega)) (F.b h1) bw
      rw [iI_64 bw.1.r, iI_64 bw.2.r, e_sideOf S F h1, bd]
      -- one place further
      have step : ∀ (σ1 : xσ) (t1 : Prop), FrC σ σ1 → CU σ1 (gaL (cV c i) (cV c (i + 1)) d lo (q - 1)) (gaO (cV c i) (cV c (i + 1)) d lo (q - 1)) (gaK (cV c i) (cV c (i + 1)) d lo (q - 1)) t1 →
          (t1 ↔ (gaT (cV c i) (cV c (i + 1)) d lo q ∨ (sid (cV c i) (cV c (i + 1)) (cV d (lo + q)) = 0 ∧ inBx (cV c i) (cV c (i + 1)) (cV d (lo + q))))) →
          ∃ σ', b_X1_gather_106 n (l_X1_gather_28 n f) a (nI i) l3 (nI (lo + q)) (jJ (sid (cV c i) (cV c (i + 1)) (cV d (lo + q)))) σ1 = some ((), σ') ∧ FrC σ σ' ∧ CU σ' (gaL (cV c i) (cV c (i + 1)) d lo (hi - lo - 1)) (gaO (cV c i) (cV c (i + 1)) d lo (hi - lo - 1)) (gaK (cV c i) (cV c (i + 1)) d lo (hi - lo - 1)) (gaT (cV c i) (cV c (i + 1)) d lo (hi - lo)) := by
        intro σ1 t1 f1 C1 ht
        have A'' := A'.c f1
        have place : gaT (cV c i) (cV c (i + 1)) d lo (q + 1) ↔ ((gaT (cV c i) (cV c (i + 1)) d lo q ∨ (sid (cV c i) (cV c (i + 1)) (cV d (lo + q)) = 0 ∧ inBx (cV c i) (cV c (i + 1)) (cV d (lo + q)))) ∨ (1 ≤ q ∧ ¬ isE d (lo + q - 1) ∧ eT (cV c i) (cV c (i + 1)) (cV d (lo + q - 1)) (cV d (lo + q)))) := by
          unfold gaT
          constructor
          · rintro (⟨j, a1, a2, a3⟩ | ⟨e, a1, a2, a3⟩)
            · by_cases y : j = lo + q
              · subst y; exact Or.inl (Or.inr a3)
              · exact Or.inl (Or.inl (Or.inl ⟨j, a1, by omega, a3⟩))
            · by_cases y : e + 1 = lo + q
              · refine Or.inr ⟨by omega, ?_⟩
                rw [← y]; exact a3
              · exact Or.inl (Or.inl (Or.inr ⟨e, a1, by omega, a3⟩))
          · rintro (((⟨j, a1, a2, a3⟩ | ⟨e, a1, a2, a3⟩) | a3) | ⟨a1, a3⟩)
            · exact Or.inl ⟨j, a1, by omega, a3⟩
            · exact Or.inr ⟨e, a1, by omega, a3⟩
            · exact Or.inl ⟨lo + q, by omega, by omega, a3⟩
            · refine Or.inr ⟨lo + q - 1, by omega, by omega, ?_⟩
              rw [show lo + q - 1 + 1 = lo + q by omega]; exact a3
        by_cases q0 : q = 0
        · subst q0
          obtain ⟨σ', e1, e2, e3⟩ := ih 1 σ1 (jJ (sid (cV c i) (cV c (i + 1)) (cV d (lo + 0)))) (by omega) (by omega) (S.c f1) (T.c f1) A'' (fun _ => rfl) (C1.tc (ht.trans (by
            rw [place]
            exact ⟨Or.inl, fun h => h.elim id (fun y => by omega)⟩)))
          refine ⟨σ', ?_, f1.trans e2, e3⟩
          rw [b_X1_gather_106, A''.2.1]
          simp (disch := omega) only [nI_e', nI_s]
          rw [if_pos (by omega)]
          exact e1
        · have eq1 : lo + q - 1 + 1 = lo + q := by omega
          obtain ⟨σ2, d1, d2, d3⟩ := e_edge (n := n) (S.c f1) F (T.c f1) G A'' h1 (j := lo + q - 1) (by omega) (by omega) C1 (by have := gaL_le (cV c i) (cV c (i + 1)) d lo (q - 1); omega) (l_X1_gather_28 n f)
          rw [eq1, show lo + q - 1 + 2 = lo + (q + 1) by omega] at d1
          rw [eq1] at d3
          rw [hl (by omega), d1]
          have eq2 : q - 1 + 1 = q := by omega
          have eL' : gaL (cV c i) (cV c (i + 1)) d lo (q + 1 - 1) = gaL (cV c i) (cV c (i + 1)) d lo (q - 1) ++ ifP (isE d (lo + q - 1)) [] (eL (cV c i) (cV c (i + 1)) (cV d (lo + q - 1)) (cV d (lo + q))) := by
            rw [Nat.add_sub_cancel]
            have : gaL (cV c i) (cV c (i + 1)) d lo q = gaL (cV c i) (cV c (i + 1)) d lo (q - 1 + 1) := by rw [eq2]
            rw [this, gaL, show lo + (q - 1) = lo + q - 1 by omega, eq1]
          have eO' : gaO (cV c i) (cV c (i + 1)) d lo (q + 1 - 1) = (gaO (cV c i) (cV c (i + 1)) d lo (q - 1) ^^ (dB (¬ isE d (lo + q - 1)) && eO (cV c i) (cV c (i + 1)) (cV d (lo + q - 1)) (cV d (lo + q)))) := by
            rw [Nat.add_sub_cancel]
            have : gaO (cV c i) (cV c (i + 1)) d lo q = gaO (cV c i) (cV c (i + 1)) d lo (q - 1 + 1) := by rw [eq2]
            rw [this]; unfold gaO; rw [xs, show lo + (q - 1) = lo + q - 1 by omega, eq1]
          have eK' : gaK (cV c i) (cV c (i + 1)) d lo (q + 1 - 1) = gaK (cV c i) (cV c (i + 1)) d lo (q - 1) + ifP (isE d (lo + q - 1)) 0 (eK (cV c i) (cV c (i + 1)) (cV d (lo + q - 1)) (cV d (lo + q))) := by
            rw [Nat.add_sub_cancel]
            have : gaK (cV c i) (cV c (i + 1)) d lo q = gaK (cV c i) (cV c (i + 1)) d lo (q - 1 + 1) := by rw [eq2]
            rw [this, gaK, show lo + (q - 1) = lo + q - 1 by omega, eq1]
          rw [← eL', ← eO', ← eK'] at d3
          have f2 := f1.trans d2
          obtain ⟨σ', e1, e2, e3⟩ := ih (q + 1) σ2 (jJ (sid (cV c i) (cV c (i + 1)) (cV d (lo + q)))) (by omega) (by omega) (S.c f2) (T.c f2) (A'.c f2) (fun _ => by rw [show lo + (q + 1) - 1 = lo + q by omega]) (d3.tc (by
            rw [place, ht]
            exact ⟨fun h => h.imp id (fun y => ⟨by omega, y⟩), fun h => h.imp id (fun y => y.2)⟩))
          exact ⟨σ', e1, f2.trans e2, e3⟩
      have e0 : ∀ {σ0 : xσ}, sR σ0 18 0 = some b → True := fun _ => trivial
      by_cases y1 : sid (cV c i) (cV c (i + 1)) (cV d (lo + q)) = 0
      · rw [if_pos ((lz_eq rw').mpr y1)]
        simp (disch := omega) only [A1, nn, gd_pos T.1, gd_in, nI_k, T.X, T.Y]
        rw [e_isInBoxOf S F h1 bw.1.r bw.2.r, bd]
        by_cases y2 : inBx (cV c i) (cV c (i + 1)) (cV d (lo + q))
        · rw [if_neg (tn y2), st]
          exact step (wI σ 18 13 1) _ (FrC.w18 (by omega)) (C.tch (Or.inr ⟨y1, y2⟩)) Iff.rfl
        · rw [if_pos (tf_f y2)]
          have := step σ _ FrC.refl C ⟨Or.inl, fun h => h.elim id (fun w => (y2 w.2).elim)⟩
          rw [b_X1_gather_106] at this
          simp (disch := omega) only [A1, nn, gd_pos T.1] at this ⊢
          exact this
      · rw [if_neg (fun w => y1 ((lz_eq rw').mp w))]
        have := step σ _ FrC.refl C ⟨Or.inl, fun h => h.elim id (fun w => (y1 w.1).elim)⟩
        rw [b_X1_gather_106] at this
        simp (disch := omega) only [A1, nn, gd_pos T.1] at this ⊢
        exact this
    · rw [if_pos (by omega)]
      have : lo + q = hi := by omega
      refine ⟨σ, rfl, FrC.refl, ?_⟩
      rw [show hi - lo - 1 = q - 1 by omega, show hi - lo = q by omega]
      exact C
set_option maxHeartbeats 200000 in
theorem e_gather {n : Nat} {σ : xσ} {a b : Nat} {c d : Ct} (S : SH n σ a c) (F : WF c) (T : SH n σ b d) (G : WF d) {lo hi i : Nat} (A : RG σ b d lo hi) (h1 : i + 1 < cN c) (hc : True) :
    ∃ σ', f_X1_gather n a (nI i) σ = some ((), σ') ∧ FrC σ σ' ∧ CU σ' (gaL (cV c i) (cV c (i + 1)) d lo (hi - lo - 1)) (gaO (cV c i) (cV c (i + 1)) d lo (hi - lo - 1)) (gaK (cV c i) (cV c (i + 1)) d lo (hi - lo - 1)) (gaT (cV c i) (cV c (i + 1)) d lo (hi - lo)) := by
  have hM := G.n
  have f1 : FrC σ (wI (wI (wI (wI σ 18 10 0) 18 11 0) 18 12 0) 18 13 0) := (((FrC.w18 (by omega)).trans (FrC.w18 (by omega))).trans (FrC.w18 (by omega))).trans (FrC.w18 (by omega))
  have A' := A.c f1
  have := A.2.2.2
  rw [f_X1_gather, gd_pos S.1]
  simp only [st]
  rw [A'.2.1]
  obtain ⟨σ', e1, e2, e3⟩ := l_gather (n := n) (a := a) (b := b) F G h1 xFU 0 _ 0 (xFU_lt (by omega)) (by omega) (S.c f1) (T.c f1) A' (fun h => by omega) (by
    refine ⟨?_, fun i hi => by simp [gaL] at hi, ?_, ?_, ?_⟩
    · rw [sI_wI, if_neg (by omega), sI_wI, if_neg (by omega), sI_wI, if_neg (by omega), sI_wI, if_pos ⟨rfl, rfl⟩]; rfl
    · rw [sI_wI, if_neg (by omega), sI_wI, if_neg (by omega), sI_wI, if_pos ⟨rfl, rfl⟩]; rfl
    · rw [sI_wI, if_neg (by omega), sI_wI, if_pos ⟨rfl, rfl⟩]; rfl
    · rw [sI_wI, if_pos ⟨rfl, rfl⟩, tf_f]
      rintro (⟨j, a1, a2, a3⟩ | ⟨e, a1, a2, a3⟩) <;> omega)
  exact ⟨σ', e1, f1.trans e2, e3⟩

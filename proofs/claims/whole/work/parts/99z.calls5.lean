/-! crash, recover, end -/
def crK (k : Kp) (a : Int) (b : Nat) : Kp := (kL k, kC k, (kO k, kD k), (kB k, kU k), kS k, (a, b))
set_option maxHeartbeats 200000 in
theorem c_crash {n : Nat} {σ : xσ} (h : In n σ) (x1 x2 x3 : Int32) : C1 n σ (f_X10_crash n x1 x2 x3) (f_X14_crash n x1 x2 x3) := by
  obtain ⟨a1, h1, rfl⟩ := xI x1
  obtain ⟨a2, h2, rfl⟩ := xI x2
  obtain ⟨a3, h3, rfl⟩ := xI x3
  obtain ⟨⟨T, k, w, wr⟩, ⟨o1, o2, o3⟩, a, b⟩ := h
  have aK : KS n σ k := a.2.1
  have bK : KM σ k := b.2.1
  have o2' : okK k := o2
  have no : ∀ {f g : xσ → Option (Int32 × xσ)}, f σ = some (0, σ) → g σ = some (0, σ) → C1 n σ f g := fun hf hg => ⟨0, σ, σ, hf, hg, (T, k, w, wr), ⟨o1, o2, o3⟩, a, b⟩
  by_cases q : kD k = false ∧ 0 ≤ a1 ∧ a1 ≤ 1 ∧ 1 ≤ a2 ∧ a2 ≤ 1000 ∧ 0 ≤ a3 ∧ a3 ≤ 200
  · obtain ⟨qD, q1, q2, q3, q4, q5, q6⟩ := q
    have e2 : iI a2 = nI a2.toNat := by rw [nI_i, Int.toNat_of_nonneg (by omega)]
    have ok' : okK (crK k a1 a2.toNat) := by
      obtain ⟨p1, p2, p3, p4, p5, p6⟩ := o2'
      exact ⟨p1, p2, by show a1 = -1 ∨ a1 = 0 ∨ a1 = 1; omega, fun _ => by show 1 ≤ a2.toNat ∧ a2.toNat ≤ 1000; omega, p5, p6⟩
    refine C1_of (s := (T, k, w, wr)) (s' := (T, crK k a1 a2.toNat, w, wr)) (v := 1) b ⟨o1, ok', o3⟩ ⟨wI (wI σ 10 10 (iI a1)) 10 11 (iI a2), ?_, ?_⟩ (fun τ c => ⟨wI (wI τ 233 37 (iI a1)) 233 38 (iI a2), ?_, ?_⟩)
    · rw [f_X10_crash, aK.D, qD, if_pos (show bI false = 0 from rfl)]
      simp only [iIl0 h1, iIh1 h1, iIl1 h2, iIh1000 h2, iIl0 h3, iIe200 h3]
      rw [if_neg (by omega), if_neg (by omega), if_neg (by omega), if_neg (by omega), if_neg (by omega), if_pos (by omega), st, st]
    · have F : Fk (fun b k => b = 10 ∧ (k = 10 ∨ k = 11)) σ (wI (wI σ 10 10 (iI a1)) 10 11 (iI a2)) := (Fk.wI ⟨rfl, Or.inl rfl⟩).trans (Fk.wI ⟨rfl, Or.inr rfl⟩)
      obtain ⟨s1, _, s3, s4, s5⟩ := a
      refine ⟨F.mono (fun b k y => by unfold sysP; omega), s1.fk F (fun k => by omega) (fun k => by omega), ?_, s3.fk F (by omega) (fun k => by omega), by rw [(F 0 10 (by omega)).1]; exact s4, s5.fk F (fun k => by omega)⟩
      obtain ⟨⟨K, lg, pl, pc, P⟩, g5, g6, g7, g8, g9, g10⟩ := aK
      have z : ∀ j, j ≠ 10 → j ≠ 11 → sI (wI (wI σ 10 10 (iI a1)) 10 11 (iI a2)) 10 j = sI σ 10 j := fun j l1 l2 => (F 10 j (by omega)).1
      refine ⟨⟨K, lg, pl, pc, ?_⟩, by rw [z 5 (by omega) (by omega)]; exact g5, by rw [z 6 (by omega) (by omega)]; exact g6, by rw [z 7 (by omega) (by omega)]; exact g7, by rw [z 8 (by omega) (by omega)]; exact g8, by rw [z 9 (by omega) (by omega)]; exact g9, fun _ => ⟨?_, fun _ => ?_⟩⟩
      · have hh : KP n (wI (wI σ 10 10 (iI a1)) 10 11 (iI a2)) (kL k) (kC k) K lg pl pc := by
          exact (P.w (by omega)).w (by omega)
        exact hh
      · rw [sI_wI, if_neg (by omega), sI_own]; rfl
      · rw [sI_own]; exact e2
    · have cK : KM τ k := c.2.1
      rw [f_X14_crash, cK.D, qD]
      simp only [iIl0 h1, iIh1 h1, iIl1 h2, iIh1000 h2, iIl0 h3, iIh200 h3]
      rw [if_neg (by omega), if_neg (by omega), if_neg (by omega), if_neg (by omega), if_neg (by omega), if_neg (by omega), if_pos (show bI false = 0 from rfl), st, st]
    · have F : Fk (fun b k => b = 233 ∧ (k = 37 ∨ k = 38)) τ (wI (wI τ 233 37 (iI a1)) 233 38 (iI a2)) := (Fk.wI ⟨rfl, Or.inl rfl⟩).trans (Fk.wI ⟨rfl, Or.inr rfl⟩)
      obtain ⟨s1, s2, s3, s4, s5⟩ := c
      refine ⟨F.mono (fun b k y => by unfold refP; omega), s1.fk F (by omega) (fun k => by omega), ?_, s3.fk F (by omega) (fun k => by omega), by rw [(F 233 42 (by omega)).1]; exact s4, s5.fk F (fun k => by omega)⟩
      obtain ⟨⟨⟨u1, T1⟩, u2, T2⟩, ⟨d1, d2⟩, d3, d4, d5, d6⟩ := s2
      have z : ∀ j, j ≠ 37 → j ≠ 38 → sI (wI (wI τ 233 37 (iI a1)) 233 38 (iI a2)) 233 j = sI τ 233 j := fun j l1 l2 => (F 233 j (by omega)).1
      refine ⟨⟨⟨u1, T1.fk F (fun b k l1 l2 y => by omega)⟩, u2, T2.fk F (fun b k l1 l2 y => by omega)⟩, ⟨by rw [z 32 (by omega) (by omega)]; exact d1, by rw [z 33 (by omega) (by omega)]; exact d2⟩, fun y => by rw [z 34 (by omega) (by omega)]; exact d3 y, by rw [z 35 (by omega) (by omega)]; exact d4, by rw [z 36 (by omega) (by omega)]; exact d5, fun _ => ⟨?_, fun _ => ?_⟩⟩
      · rw [sI_wI, if_neg (by omega), sI_own]; rfl
      · rw [sI_own]; exact e2
  · refine no ?_ ?_
    · rw [f_X10_crash, aK.D]
      simp only [iIl0 h1, iIh1 h1, iIl1 h2, iIh1000 h2, iIl0 h3, iIe200 h3]
      cases e : kD k with
      | true => rw [if_neg (show ¬ bI true = 0 by decide)]
      | false =>
        rw [if_pos (show bI false = 0 from rfl)]
        by_cases q1 : a1 < 0
        · rw [if_pos q1]
        rw [if_neg q1]
        by_cases q2 : 1 < a1
        · rw [if_pos q2]
        rw [if_neg q2]
        by_cases q3 : a2 < 1
        · rw [if_pos q3]
        rw [if_neg q3]
        by_cases q4 : 1000 < a2
        · rw [if_pos q4]
        rw [if_neg q4]
        by_cases q5 : a3 < 0
        · rw [if_pos q5]
        rw [if_neg q5]
        by_cases q6 : a3 ≤ 200
        · exact (q ⟨e, by omega, by omega, by omega, by omega, by omega, q6⟩).elim
        · rw [if_neg q6]
    · rw [f_X14_crash, bK.D]
      simp only [iIl0 h1, iIh1 h1, iIl1 h2, iIh1000 h2, iIl0 h3, iIh200 h3]
      by_cases q1 : a1 < 0
      · rw [if_pos q1]
      rw [if_neg q1]
      by_cases q2 : 1 < a1
      · rw [if_pos q2]
      rw [if_neg q2]
      by_cases q3 : a2 < 1
      · rw [if_pos q3]
      rw [if_neg q3]
      by_cases q4 : 1000 < a2
      · rw [if_pos q4]
      rw [if_neg q4]
      by_cases q5 : a3 < 0
      · rw [if_pos q5]
      rw [if_neg q5]
      by_cases q6 : 200 < a3
      · rw [if_pos q6]
      rw [if_neg q6]
      cases e : kD k with
      | true => rw [if_neg (show ¬ bI true = 0 by decide)]
      | false => exact (q ⟨e, by omega, by omega, by omega, by omega, by omega, by omega⟩).elim
set_option maxHeartbeats 200000 in
theorem c_recover {n : Nat} {σ : xσ} (h : In n σ) : C1 n σ (f_X10_recover n) (f_X14_recover n) := by
  obtain ⟨⟨T, k, w, wr⟩, ⟨o1, o2, o3⟩, a, b⟩ := h
  have aK : KS n σ k := a.2.1
  have o2' : okK k := o2
  have ok' : okK (rcK k) := by
    obtain ⟨⟨_, p1⟩, p2, p3, p4, p5, p6⟩ := o2'
    exact ⟨⟨p1, p1⟩, p2, Or.inl rfl, fun y => absurd y (by show ¬ (-1 : Int) = 0; omega), fun _ => rfl, fun _ _ => eqTb_r _⟩
  refine C1_of (s := (T, k, w, wr)) (s' := (T, rcK k, w, wr)) (v := nI (tC (kC k))) b ⟨o1, ok', o3⟩ ?_ (fun τ c => ?_)
  · obtain ⟨σ1, t1, t2, t3⟩ := e_restore (n := n) aK o2'
    obtain ⟨s1, _, s3, s4, s5⟩ := a
    have nP : ∀ b k, ¬ ((11 ≤ b ∧ b ≤ 17) ∨ 2476 ≤ b ∨ (b = 10 ∧ 3 ≤ k ∧ k ≤ 11)) → ¬ PKk b k := fun b k y => y
    refine ⟨σ1, ?_, t2.mono (fun b k y => by unfold PKk at y; unfold sysP; omega), s1.fk t2 (fun k => nP _ _ (by omega)) (fun k => nP _ _ (by omega)), t3, s3.fk t2 (nP _ _ (by omega)) (fun k => nP _ _ (by omega)), by rw [(t2 0 10 (nP _ _ (by omega))).1]; exact s4, s5.fk t2 (fun k => nP _ _ (by omega))⟩
    rw [f_X10_recover, t1, bd, t3.cnt]; rfl
  · obtain ⟨s1, s2, s3, s4, s5⟩ := c
    obtain ⟨⟨⟨u1, T1⟩, u2, T2⟩, ⟨d1, d2⟩, d3, d4, d5, d6⟩ := s2
    obtain ⟨τ1, t1, t2, t3, t4⟩ := m_takeT (n := n) (a0 := 259) (a1 := 1061) (Or.inl ⟨rfl, rfl⟩) o2'.1.2 T1 T2
    let τ2 := wI (wI (wI (wI τ1 233 32 0) 233 33 0) 233 34 0) 233 37 (-1)
    have F : Fk (fun b k => b = 233 ∧ (k = 32 ∨ k = 33 ∨ k = 34 ∨ k = 37)) τ1 τ2 := (((Fk.wI ⟨rfl, Or.inl rfl⟩).trans (Fk.wI ⟨rfl, Or.inr (Or.inl rfl)⟩)).trans (Fk.wI ⟨rfl, Or.inr (Or.inr (Or.inl rfl))⟩)).trans (Fk.wI ⟨rfl, Or.inr (Or.inr (Or.inr rfl))⟩)
    have F2 : Fk (fun b k => (259 ≤ b ∧ b < 259 + 802) ∨ (b = 233 ∧ (k = 32 ∨ k = 33 ∨ k = 34 ∨ k = 37))) τ τ2 := (t2.mono (fun b k y => Or.inl y)).trans (F.mono (fun b k y => Or.inr y))
    have e1 : sI τ2 259 1 = nI (tC (kC k)) := by rw [(F 259 1 (by omega)).1]; exact t3.1.2.1
    refine ⟨τ2, ?_, F2.mono (fun b k y => by unfold refP; omega), s1.fk F2 (by omega) (fun k => by omega), ?_, s3.fk F2 (by omega) (fun k => by omega), by rw [(F2 233 42 (by omega)).1]; exact s4, s5.fk F2 (fun k => by omega)⟩
    · rw [f_X14_recover, t1, bd, st, st, st, st]
      show some (sI τ2 259 1, τ2) = _
      rw [e1]
    · refine ⟨⟨⟨u1, t3.fk F (fun b k l1 l2 y => by omega)⟩, u2, t4.fk F (fun b k l1 l2 y => by omega)⟩, ⟨?_, ?_⟩, fun _ => ?_, ?_, ?_, fun _ => ⟨?_, fun y => absurd y (by show ¬ (-1 : Int) = 0; omega)⟩⟩
      · show sI τ2 233 32 = bI false
        rw [show τ2 = wI (wI (wI (wI τ1 233 32 0) 233 33 0) 233 34 0) 233 37 (-1) from rfl, sI_wI, if_neg (by omega), sI_wI, if_neg (by omega), sI_wI, if_neg (by omega), sI_own]; rfl
      · show sI τ2 233 33 = bI false
        rw [show τ2 = wI (wI (wI (wI τ1 233 32 0) 233 33 0) 233 34 0) 233 37 (-1) from rfl, sI_wI, if_neg (by omega), sI_wI, if_neg (by omega), sI_own]; rfl
      · show sI τ2 233 34 = nI 0
        rw [show τ2 = wI (wI (wI (wI τ1 233 32 0) 233 33 0) 233 34 0) 233 37 (-1) from rfl, sI_wI, if_neg (by omega), sI_own]; rfl
      · rw [(F2 233 35 (by omega)).1]; exact d4
      · rw [(F2 233 36 (by omega)).1]; exact d5
      · show sI τ2 233 37 = iI (-1)
        rw [show τ2 = wI (wI (wI (wI τ1 233 32 0) 233 33 0) 233 34 0) 233 37 (-1) from rfl, sI_own]; rfl
set_option maxHeartbeats 200000 in
theorem c_end {n : Nat} {σ : xσ} (h : In n σ) (x : Int32) : C1 n σ (f_X10_end n x) (f_X14_end n x) := by
  obtain ⟨a1, h1, rfl⟩ := xI x
  obtain ⟨⟨T, k, w, wr⟩, ⟨o1, o2, o3⟩, a, b⟩ := h
  have aT : TpS σ T := a.1
  have bT : TpM σ T := b.1
  have o1' : okTp T := o1
  have t4 := o1'.1
  have no : ∀ {f g : xσ → Option (Int32 × xσ)}, f σ = some (-1, σ) → g σ = some (-1, σ) → C1 n σ f g := fun hf hg => ⟨-1, σ, σ, hf, hg, (T, k, w, wr), ⟨o1, o2, o3⟩, a, b⟩
  by_cases q1 : a1 < 0
  · refine no ?_ ?_
    · rw [f_X10_end, if_pos ((iIl0 h1).mpr q1)]
    · rw [f_X14_end, if_pos ((iIl0 h1).mpr q1)]
  have n1 : ¬ iI a1 < 0 := fun y => q1 ((iIl0 h1).mp y)
  by_cases q2 : 40 < a1
  · refine no ?_ ?_
    · rw [f_X10_end, if_neg n1, if_pos ((iIh40 h1).mpr q2)]
    · rw [f_X14_end, if_neg n1, if_pos ((iIh40 h1).mpr q2)]
  have n2 : ¬ (40 : Int32) < iI a1 := fun y => q2 ((iIh40 h1).mp y)
  have e40 : (40 : Int32) - iI a1 = nI (40 - a1.toNat) := by
    rw [show (40 : Int32) = iI 40 from rfl, iI_sub, nI_i]
    congr 1; omega
  by_cases q3 : 40 - a1.toNat ≤ T.1
  · have ok' : okTp (T.1 - (40 - a1.toNat), T.2) := ⟨by show T.1 - _ ≤ 4000; omega, fun i hi => o1'.2 i (by have hi' : i < T.1 - (40 - a1.toNat) := hi; omega)⟩
    have y : nI (40 - a1.toNat) ≤ nI T.1 := (nI_e' (by omega) (by omega)).mpr q3
    refine C1_of (s := (T, k, w, wr)) (s' := ((T.1 - (40 - a1.toNat), T.2), k, w, wr)) (v := nI (T.1 - (40 - a1.toNat))) b ⟨ok', o2, o3⟩ ⟨wI σ 1 1 (nI (T.1 - (40 - a1.toNat))), ?_, ?_⟩ (fun τ c => ⟨wI τ 233 40 (nI (T.1 - (40 - a1.toNat))), ?_, ?_⟩)
    · rw [f_X10_end, if_neg n1, if_neg n2, e40, aT.1, if_pos y, nI_m q3, st, sI_own]
    · have F : Fk (fun b k => b = 1 ∧ k = 1) σ (wI σ 1 1 (nI (T.1 - (40 - a1.toNat)))) := Fk.wI ⟨rfl, rfl⟩
      obtain ⟨s1, s2, s3, s4, s5⟩ := a
      exact ⟨F.mono (fun b k y => by unfold sysP; omega), ⟨by rw [sI_own], fun i hi => by rw [(F 2 i (by omega)).1]; exact aT.2 i (by have hi' : i < T.1 - (40 - a1.toNat) := hi; omega)⟩, s2.fk F (fun b k y => by unfold outK; omega), s3.fk F (by omega) (fun k => by omega), by rw [(F 0 10 (by omega)).1]; exact s4, s5.fk F (fun k => by omega)⟩
    · have cT : TpM τ T := c.1
      rw [f_X14_end, if_neg n1, if_neg n2, e40, cT.1, if_pos y, nI_m q3, st, sI_own]
    · have F : Fk (fun b k => b = 233 ∧ k = 40) τ (wI τ 233 40 (nI (T.1 - (40 - a1.toNat)))) := Fk.wI ⟨rfl, rfl⟩
      obtain ⟨s1, s2, s3, s4, s5⟩ := c
      have s1' : TpM τ T := s1
      exact ⟨F.mono (fun b k y => by unfold refP; omega), ⟨by rw [sI_own], fun i hi => by rw [(F 1863 i (by omega)).1]; exact s1'.2 i (by have hi' : i < T.1 - (40 - a1.toNat) := hi; omega)⟩, s2.fk F (fun j hj => by omega) (fun b j l1 l2 => by omega), s3.fk F (by omega) (fun k => by omega), by rw [(F 233 42 (by omega)).1]; exact s4, s5.fk F (fun k => by omega)⟩
  · have y : ¬ nI (40 - a1.toNat) ≤ nI T.1 := fun y => q3 ((nI_e' (by omega) (by omega)).mp y)
    refine no ?_ ?_
    · rw [f_X10_end, if_neg n1, if_neg n2, e40, aT.1, if_neg y]
    · rw [f_X14_end, if_neg n1, if_neg n2, e40, bT.1, if_neg y]

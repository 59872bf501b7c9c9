/-! flaws, run, crash, recover, end -/
set_option maxHeartbeats 200000 in
theorem l_bad {n : Nat} {σ : xσ} {a : Nat} {t : Tb} (ok : okTb t) (h : IdS σ a t) (hr : ∀ i, i < tC t → ∃ b m, sR σ (a + 2) i = some b ∧ SH n σ b (tS t i) ∧ sI σ b 8 = nI m ∧ 1 ≤ m ∧ m ≤ 1000) : ∀ r f i, r < f → i + r = tC t → l_X8_countBadRows_4 n f a 0 (nI i) σ = some (0, σ) := by
  have l2 := ok.1
  intro r
  induction r with
  | zero =>
    intro f i hf hi
    obtain ⟨q, rfl⟩ : ∃ q, f = q + 1 := ⟨f - 1, by omega⟩
    rw [l_X8_countBadRows_4, h.1, if_pos ((nI_e' (by omega) (by omega)).mpr (by omega))]
  | succ r ih =>
    intro f i hf hi
    obtain ⟨q, rfl⟩ : ∃ q, f = q + 1 := ⟨f - 1, by omega⟩
    obtain ⟨b, m, r1, r2, r3, r4, r5⟩ := hr i (by omega)
    have W := (ok.2.2.2 i (by omega)).1
    have hN := W.n
    have Ri := ok.R (show i < tC t by omega)
    have Bi := ok.2.1 i (by omega)
    have i1 : ∀ {α : Type} (y : Option α), gd (inb (nI i) 200) y = y := fun y => gd_in (by omega) (by omega)
    have k1 : (nI i).toNatClampNeg = i := nI_k (by omega)
    have go : b_X8_countBadRows_38 n (l_X8_countBadRows_4 n q) a 0 (nI i) 1 σ = some (0, σ) := by
      rw [b_X8_countBadRows_38]
      simp only [i1, k1, h.2 i (show i < tC t by omega), iIl1 Ri, iIh9999 Ri]
      rw [if_neg (by omega), if_neg (by omega), b_X8_countBadRows_66]
      simp only [i1, k1, r1, nn]
      rw [gd_pos r2.1, gd_pos r2.1, r2.2.1.2.1, r3]
      simp only [nIl1 (show cN (tS t i) < 2147483648 by omega), nIl1 (show m < 2147483648 by omega)]
      rw [if_neg (by omega), gd_pos r2.1, if_neg (by omega), b_X8_countBadRows_108, if_neg (by decide), if_neg (by decide), if_neg (by decide), nI_s]
      exact ih q (i + 1) (by omega) (by omega)
    rw [l_X8_countBadRows_4, h.1, if_neg (fun y => by have := (nI_e' (by omega) (by omega)).mp y; omega)]
    simp only [nIq0 (show i < 2147483648 by omega)]
    by_cases e : i = 0
    · rw [if_pos e]; exact go
    · have m1 : nI i - 1 = nI (i - 1) := nIm1 (by omega)
      have i2 : ∀ {α : Type} (y : Option α), gd (inb (nI (i - 1)) 200) y = y := fun y => gd_in (by omega) (by omega)
      have k2 : (nI (i - 1)).toNatClampNeg = i - 1 := nI_k (by omega)
      have Rp := ok.R (show i - 1 < tC t by omega)
      have lt := ids_lt ok (i - 1) i (by omega) (by omega)
      rw [if_neg e, m1]
      simp only [i1, k1, i2, k2, h.2 i (show i < tC t by omega), h.2 (i - 1) (show i - 1 < tC t by omega), iI_le Ri Rp]
      rw [if_neg (by omega)]; exact go
set_option maxHeartbeats 200000 in
theorem cnX_1 {p : Nat → Nat} {r i : Nat} (h : i < r) : 1 ≤ cnX p r 0 (p i) := by
  rcases Nat.eq_zero_or_pos (cnX p r 0 (p i)) with e | e
  · exact ((cnX_0 r 0 (p i)).mp e i (by omega) (by omega) rfl).elim
  · exact e
set_option maxHeartbeats 200000 in
theorem e_flaws {n : Nat} {σ : xσ} {k : Kp} (h : KS n σ k) (o : okK k) : f_X3_countFlaws n σ = some (0, σ) := by
  obtain ⟨⟨oL, oC⟩, ⟨o2, o3⟩, o4, o5, o6, o7⟩ := o
  obtain ⟨⟨K, lg, pl, pc, P⟩, h5, h6, ⟨b, h7, h8, h9⟩, h10, h11, h12⟩ := h
  have l1 := oL.1
  have l2 := oC.1
  have c1 : f_X8_countBadRows n 11 σ = some (0, σ) := by
    rw [f_X8_countBadRows, gd_pos (by decide)]
    exact l_bad (a := 11) oL P.2.2.1.1 (fun i hi => by
      obtain ⟨p1, p2, p3⟩ := P.2.2.1.2 i hi
      have e1 := cnX_1 (p := pl) hi
      have e2 := cnX_le pl (tC (kL k)) 0 (pl i)
      have e3 := cnX_le pc (tC (kC k)) 0 (pl i)
      exact ⟨ad (pl i), _, p2, p3, P.2.2.2.2 _ p1, by omega, by omega⟩) (tC (kL k)) xFU 0 (xFU_lt (by omega)) (by omega)
  have c2 : f_X8_countBadRows n 14 σ = some (0, σ) := by
    rw [f_X8_countBadRows, gd_pos (by decide)]
    exact l_bad (a := 14) oC P.2.2.2.1.1 (fun i hi => by
      obtain ⟨p1, p2, p3⟩ := P.2.2.2.1.2 i hi
      have e1 := cnX_1 (p := pc) hi
      have e2 := cnX_le pl (tC (kL k)) 0 (pc i)
      have e3 := cnX_le pc (tC (kC k)) 0 (pc i)
      exact ⟨ad (pc i), _, p2, p3, P.2.2.2.2 _ p1, by omega, by omega⟩) (tC (kC k)) xFU 0 (xFU_lt (by omega)) (by omega)
  have cl : sI σ 11 2 = nI (tC (kL k)) := P.2.2.1.1.1
  have cc : sI σ 14 2 = nI (tC (kC k)) := P.2.2.2.1.1.1
  rw [f_X3_countFlaws, c1, bd, c2, bd, st, h10, h7, h5, h6, cl, cc]
  have y1 : ¬ nI (kU k) < 0 := fun y => by have := (nIl0 (show kU k < 2147483648 by omega)).mp y; omega
  have y2 : ¬ (64 : Int32) < nI (kU k) := fun y => by have := (nIh64 (show kU k < 2147483648 by omega)).mp y; omega
  have y3 : ¬ nI b < 0 := fun y => by have := (nIl0 (show b < 2147483648 by omega)).mp y; omega
  have y4 : nI b ≤ 14112 := (nIe14112 (show b < 2147483648 by omega)).mpr h8
  rw [if_neg y1, if_neg y2, if_neg y3, if_pos y4]
  cases e1 : kO k with
  | true => rw [if_neg (show ¬ bI true = 0 by decide)]; rfl
  | false =>
    rw [if_pos (show bI false = 0 from rfl)]
    cases e2 : kD k with
    | true => rw [if_neg (show ¬ bI true = 0 by decide)]; rfl
    | false => rw [if_pos (show bI false = 0 from rfl), if_pos (by rw [(o7 e1 e2).1])]; rfl
set_option maxHeartbeats 200000 in
theorem c_flaws {n : Nat} {σ : xσ} (h : In n σ) : C1 n σ (f_X10_flaws n) (f_X14_flaws n) := C1_id h (fun _ => 0) (fun s o a => by rw [f_X10_flaws, e_flaws a.2.1 o.2.1, bd]) (fun s _ _ => by rw [f_X14_flaws])
/-! run -/
set_option maxHeartbeats 200000 in
theorem c_run {n : Nat} {σ : xσ} (h : In n σ) : ∃ v n1 σ1 σ2, f_X10_run n σ = some (v, n1, σ1) ∧ f_X14_run n1 σ1 = some (v, σ2) ∧ In n1 σ2 := by
  obtain ⟨⟨T, k, w, wr⟩, ⟨o1, o2, o3⟩, a, b⟩ := h
  have o1' : okTp T := o1
  have t4 := o1'.1
  have aK : KS n σ k := a.2.1
  have bK : KM σ k := b.2.1
  cases e : kD k with
  | true =>
    refine ⟨-1, n, σ, σ, ?_, ?_, (T, k, w, wr), ⟨o1, o2, o3⟩, a, b⟩
    · rw [f_X10_run, aK.D, e, if_neg (show ¬ bI true = 0 by decide)]
    · rw [f_X14_run, bK.D, e, if_neg (show ¬ bI true = 0 by decide)]
  | false =>
    have o2' : okK k := o2
    obtain ⟨a1, _, a3, a4, a5⟩ := a
    have a1' : TpS σ T := a1
    -- the system
    let P1 : Nat → Nat → Prop := fun b k => (b = 0 ∧ (k = 8 ∨ k = 10)) ∨ (b = 1 ∧ k = 4)
    have F1 : Fk P1 σ (wI (wI (wI σ 0 8 0) 0 10 (-1)) 1 4 0) := ((Fk.wI (Or.inl ⟨rfl, Or.inl rfl⟩)).trans (Fk.wI (Or.inl ⟨rfl, Or.inr rfl⟩))).trans (Fk.wI (Or.inr ⟨rfl, rfl⟩))
    have hP1 : ∀ b k, P1 b k → (b = 0 ∧ (k = 8 ∨ k = 10)) ∨ (b = 1 ∧ k = 4) := fun _ _ y => y
    have T1 : TpS (wI (wI (wI σ 0 8 0) 0 10 (-1)) 1 4 0) T := ⟨by rw [(F1 1 1 (fun y => by have := hP1 _ _ y; omega)).1]; exact a1'.1, fun i hi => by rw [(F1 2 i (fun y => by have := hP1 _ _ y; omega)).1]; exact a1'.2 i hi⟩
    obtain ⟨σ1, t1, t2, t3⟩ := e_advance (n := n) T1 o1' (q := 0) (by omega) (by rw [sI_own]; rfl)
    have nPT : ∀ b k, ¬ (b = 1 ∧ 2 ≤ k ∧ k ≤ 5) → ¬ PT b k := fun b k y => y
    have O1 : OS σ1 (0, fun _ => 0) := ⟨by rw [(t2 0 8 (nPT _ _ (by omega))).1, sI_wI, if_neg (by omega), sI_wI, if_neg (by omega), sI_own]; rfl, fun i hi => absurd hi (by show ¬ i < 0; omega)⟩
    have e10 : sI σ1 0 10 = -1 := by rw [(t2 0 10 (nPT _ _ (by omega))).1, sI_wI, if_neg (by omega), sI_own]
    have K1 : KS n σ1 k := (aK.fk F1 (fun b k y => by have := hP1 _ _ y; unfold outK; omega)).fk t2 (fun b k y => by have : b = 1 ∧ 2 ≤ k ∧ k ≤ 5 := y; unfold outK; omega)
    have R1 : Rw30 σ1 := (a5.fk F1 (fun k y => by have := hP1 _ _ y; omega)).fk t2 (fun k => nPT _ _ (by omega))
    have T2 : TpS σ1 T := ⟨by rw [(t2 1 1 (nPT _ _ (by omega))).1]; exact T1.1, fun i hi => by rw [(t2 2 i (nPT _ _ (by omega))).1]; exact T1.2 i hi⟩
    obtain ⟨n', σ2, u1, u2, u3, u4, u5, u6, u7⟩ := l_run o1' (T.1 + 1) 0 0 n σ1 k (0, fun _ => 0) (by omega) (by omega) (by omega) K1 o2' e T2 t3 O1 (by show 0 ≤ 19000 + 0; omega) e10 R1 xFU (xFU_lt (by omega))
    have FS : Fk sysP σ σ2 := ((F1.mono (fun b k y => by have := hP1 _ _ y; unfold sysP; omega)).trans (t2.mono (fun b k y => by have : b = 1 ∧ 2 ≤ k ∧ k ≤ 5 := y; unfold sysP; omega))).trans u2
    obtain ⟨k1, k2⟩ := rnK_ok (T := T) (T.1 + 1) 0 0 k (0, fun _ => 0) (by omega) (by omega) (by omega) o2' e (by show 0 ≤ 19000 + 0; omega)
    -- the reference
    obtain ⟨b1, b2, b3, b4, b5⟩ := (RI.s (s := (T, k, w, wr)) b FS)
    have b1' : TpM σ2 T := b1
    have b2' : KM σ2 k := b2
    let P2 : Nat → Nat → Prop := fun b k => b = 233 ∧ (k = 44 ∨ k = 42 ∨ k = 48 ∨ k = 41)
    have hP2 : ∀ b k, P2 b k → b = 233 ∧ (k = 44 ∨ k = 42 ∨ k = 48 ∨ k = 41) := fun _ _ y => y
    have F2 : Fk P2 σ2 (wI (wI (wI (wI σ2 233 44 0) 233 42 (-1)) 233 48 0) 233 41 0) := (((Fk.wI ⟨rfl, Or.inl rfl⟩).trans (Fk.wI ⟨rfl, Or.inr (Or.inl rfl)⟩)).trans (Fk.wI ⟨rfl, Or.inr (Or.inr (Or.inl rfl))⟩)).trans (Fk.wI ⟨rfl, Or.inr (Or.inr (Or.inr rfl))⟩)
    have M1 : TpM (wI (wI (wI (wI σ2 233 44 0) 233 42 (-1)) 233 48 0) 233 41 0) T := b1'.fk F2 (fun y => by have := hP2 _ _ y; omega) (fun k y => by have := hP2 _ _ y; omega)
    obtain ⟨σ3, v1, v2, v3⟩ := m_next (n := n') M1 o1' (q := 0) (by omega) (by rw [sI_own]; rfl)
    have nPU : ∀ b k, ¬ (b = 233 ∧ (k = 41 ∨ k = 45 ∨ k = 46 ∨ k = 47)) → ¬ PU b k := fun b k y => y
    have M3 : RSt σ3 T (true, 0) := ⟨M1.fk v2 (nPU _ _ (by omega)) (fun k => nPU _ _ (by omega)), v3, fun _ => ⟨by rw [(v2 233 48 (nPU _ _ (by omega))).1, sI_wI, if_neg (by omega), sI_own], by rw [(v2 233 42 (nPU _ _ (by omega))).1, sI_wI, if_neg (by omega), sI_wI, if_neg (by omega), sI_own]⟩, fun y => nomatch y⟩
    have O3 : OM σ3 (0, fun _ => 0) := ⟨by rw [(v2 233 44 (nPU _ _ (by omega))).1, sI_wI, if_neg (by omega), sI_wI, if_neg (by omega), sI_wI, if_neg (by omega), sI_own]; rfl, fun i hi => absurd hi (by show ¬ i < 0; omega)⟩
    have K3 : KM σ3 k := (b2'.fk F2 (fun j hj y => by have := hP2 _ _ y; omega) (fun b j l1 l2 y => by have := hP2 _ _ y; omega)).fk v2 (fun j hj => nPU _ _ (by omega)) (fun b j l1 l2 => nPU _ _ (by omega))
    have R3 : Rw74 σ3 := (b5.fk F2 (fun k y => by have := hP2 _ _ y; omega)).fk v2 (fun k => nPU _ _ (by omega))
    obtain ⟨σ4, w1, w2, w3, w4, w5, w6, w7⟩ := lm_run (n := n') o1' (T.1 + 1) 0 0 σ3 k (0, fun _ => 0) (by omega) (by omega) (by omega) K3 o2' e M3 O3 (by show 0 ≤ 19000 + 0; omega) R3 xFU (xFU_lt (by omega))
    have FR : Fk refP σ2 σ4 := ((F2.mono (fun b k y => by have := hP2 _ _ y; unfold refP; omega)).trans (v2.mono (fun b k y => by have : b = 233 ∧ (k = 41 ∨ k = 45 ∨ k = 46 ∨ k = 47) := y; unfold refP; omega))).trans w2
    have S2 : SI n' σ2 ((0, fun _ => 0), (rnK T (T.1 + 1) 0 0 k (0, fun _ => 0)).2) := ⟨⟨u7, fun i hi => absurd hi (by show ¬ i < 0; omega)⟩, u3, u4, u5, u6⟩
    have R4 : RI σ4 ((0, fun _ => 0), (rnK T (T.1 + 1) 0 0 k (0, fun _ => 0)).2) := ⟨⟨w7, fun i hi => absurd hi (by show ¬ i < 0; omega)⟩, w3, w4, w5, w6⟩
    refine ⟨nI (rnK T (T.1 + 1) 0 0 k (0, fun _ => 0)).1, n', σ2, σ4, ?_, ?_, _, ⟨⟨by show 0 ≤ 4000; omega, fun i hi => absurd hi (by show ¬ i < 0; omega)⟩, k1, ?_⟩, S2.r FR, R4⟩
    · rw [show nI 0 = 0 from rfl] at u1
      rw [f_X10_run, aK.D, e, if_pos (show bI false = 0 from rfl), st, st, f_X9_rewind, st, t1, bd, bd, u1]
    · rw [show nI 0 = 0 from rfl] at w1
      rw [f_X14_run, b2'.D, e, if_pos (show bI false = 0 from rfl), st, st, st, st, v1, bd, w1]
    · show (rnK T (T.1 + 1) 0 0 k (0, fun _ => 0)).2.2.1.1 ≤ 20000
      omega

/-! what the scan of a whole shape against a whole polygon tells -/
def MKS (c d : Ct) (k : Nat) : Prop := (k = 0 ∧ InW (wy c) (cV c) (TC d)) ∨ (k = 1 ∧ OuW (wy c) (cV c) (TC d)) ∨ (k = 2 ∧ AlW (wy c) (cV c) (TC d)) ∨ (k = 3 ∧ ∃ i, wy c i ∧ gaT (cV c i) (cV c (i + 1)) d 0 (cN d))
set_option maxHeartbeats 200000 in
theorem wmk_3 {d : Ct} {lo hi : Nat} {P Q : V2} : wmk d lo hi P Q 3 ↔ gaT P Q d lo (hi - lo) := by
  unfold wmk
  constructor
  · rintro (⟨p, D, _, _, h⟩ | h)
    · exfalso
      unfold lieR ifP at h
      split at h
      · omega
      · split at h <;> omega
    · exact h.2
  · intro h; exact Or.inr ⟨rfl, h⟩
set_option maxHeartbeats 200000 in
theorem wmk_4 {d : Ct} {lo hi : Nat} {P Q : V2} {k : Nat} (hk : 4 ≤ k) : ¬ wmk d lo hi P Q k := by
  rintro (⟨p, D, _, _, h⟩ | h)
  · have : 2 ^ 4 ≤ 2 ^ k := Nat.pow_le_pow_right (by omega) hk
    rw [← h] at this
    unfold lieR ifP at this
    split at this
    · omega
    · split at this <;> omega
  · omega
set_option maxHeartbeats 200000 in
theorem wyR_w {c : Ct} (hk : cK c ≠ 0) {j : Nat} : wyR c 0 (cN c) j ↔ wy c j := ⟨fun h => ⟨hk, h.2.1, h.2.2⟩, fun h => ⟨by omega, h.2.1, h.2.2⟩⟩
set_option maxHeartbeats 200000 in
theorem mks_w {c d : Ct} (F : WF c) (vc : Val c) (hk : cK c ≠ 0) (hl : cK d ≠ 0) (k : Nat) : (∃ j, wyR c 0 (cN c) j ∧ wmk d 0 (cN d) (cV c j) (cV c (j + 1)) k) ↔ MKS c d k := by
  have eq' := TR_all hl
  unfold MKS InW OuW AlW
  rcases (show k = 0 ∨ k = 1 ∨ k = 2 ∨ k = 3 ∨ 4 ≤ k by omega) with rfl | rfl | rfl | rfl | h4
  · constructor
    · rintro ⟨j, j1, j2⟩
      have w := (wyR_w hk).mp j1
      exact Or.inl ⟨rfl, j, w, (eq'.eIn _ _).mp ((wmk_0 (way_ne F vc w)).mp j2)⟩
    · rintro (⟨_, j, w, h⟩ | ⟨h, _⟩ | ⟨h, _⟩ | ⟨h, _⟩)
      · exact ⟨j, (wyR_w hk).mpr w, (wmk_0 (way_ne F vc w)).mpr ((eq'.eIn _ _).mpr h)⟩
      all_goals omega
  · constructor
    · rintro ⟨j, j1, j2⟩
      have w := (wyR_w hk).mp j1
      exact Or.inr (Or.inl ⟨rfl, j, w, (eq'.eOu _ _).mp ((wmk_1 (way_ne F vc w)).mp j2)⟩)
    · rintro (⟨h, _⟩ | ⟨_, j, w, h⟩ | ⟨h, _⟩ | ⟨h, _⟩)
      · omega
      · exact ⟨j, (wyR_w hk).mpr w, (wmk_1 (way_ne F vc w)).mpr ((eq'.eOu _ _).mpr h)⟩
      all_goals omega
  · constructor
    · rintro ⟨j, j1, j2⟩
      have w := (wyR_w hk).mp j1
      exact Or.inr (Or.inr (Or.inl ⟨rfl, j, w, (eq'.eAl _ _).mp ((wmk_2 (way_ne F vc w)).mp j2)⟩))
    · rintro (⟨h, _⟩ | ⟨h, _⟩ | ⟨_, j, w, h⟩ | ⟨h, _⟩)
      · omega
      · omega
      · exact ⟨j, (wyR_w hk).mpr w, (wmk_2 (way_ne F vc w)).mpr ((eq'.eAl _ _).mpr h)⟩
      · omega
  · constructor
    · rintro ⟨j, j1, j2⟩
      exact Or.inr (Or.inr (Or.inr ⟨rfl, j, (wyR_w hk).mp j1, wmk_3.mp j2⟩))
    · rintro (⟨h, _⟩ | ⟨h, _⟩ | ⟨h, _⟩ | ⟨_, j, w, h⟩)
      · omega
      · omega
      · omega
      · exact ⟨j, (wyR_w hk).mpr w, wmk_3.mpr h⟩
  · constructor
    · rintro ⟨j, j1, j2⟩; exact (wmk_4 h4 j2).elim
    · rintro (⟨h, _⟩ | ⟨h, _⟩ | ⟨h, _⟩ | ⟨h, _⟩) <;> omega
set_option maxHeartbeats 200000 in
theorem e_see {n : Nat} {σ : xσ} {a b : Nat} {c d : Ct} (S : SH n σ a c) (F : WF c) (vc : Val c) (hk : cK c ≠ 0) (T : SH n σ b d) (hd : Good d) {en : Nat} (he : en < 16) : ∃ σ1 σ2 m, f_X1_aim n b 0 (nI (cN d)) σ = some ((), σ1) ∧ f_X1_scan n a 0 (nI (cN c)) (nI en) σ1 = some (nI m, σ2) ∧ Fr A4 σ σ1 ∧ Fr A4 σ σ2 ∧ m < 16 ∧ (¬ m &&& en = 0 ↔ ∃ k, en.testBit k = true ∧ MKS c d k) ∧ (m &&& en = 0 → ∀ k, m.testBit k = true ↔ MKS c d k) := by
  have hM := hd.1.n
  obtain ⟨σ1, a1, a2, a3, a4⟩ := e_aim (n := n) T hd.1 (show 0 < cN d by omega) (Nat.le_refl _)
  have eq' := TR_all hd.k
  obtain ⟨σ2, m, b1, b2, b3, b4, b5⟩ := e_scan (n := n) (en := en) (S.a18 a2) F (T.a18 a2) hd.1 a3 a4 (eq'.eGD hd.gd) (Nat.zero_le _) (Nat.le_refl _) he (fun i hi => way_ne F vc ((wyR_w hk).mp hi))
  refine ⟨σ1, σ2, m, a1, b1, Fr18 a2, (Fr18 a2).trans b2.1, b3, ?_, fun z k => ?_⟩
  · rw [b4]
    exact ⟨fun ⟨k, x, y⟩ => ⟨k, x, (mks_w F vc hk hd.k k).mp y⟩, fun ⟨k, x, y⟩ => ⟨k, x, (mks_w F vc hk hd.k k).mpr y⟩⟩
  · rw [b5 z k]; exact mks_w F vc hk hd.k k

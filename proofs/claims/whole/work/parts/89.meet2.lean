/-! doMeet of the system -/
set_option maxHeartbeats 200000 in
theorem Good.cl {c : Ct} (h : Good c) : Cl c := by
  intro r hr
  have s := h.2.2.1 r hr
  have := sr_lt h.1 hr
  have hm := s.1
  have e : sr c r + ml c r = cE c r - 1 := by unfold ml at *; omega
  rw [← e]
  exact s.2.1
set_option maxHeartbeats 200000 in
theorem Val.cl {c : Ct} (F : WF c) (h : Val c) : cK c = 2 → Cl c := fun k => (Good_of F h k).1.cl
set_option maxHeartbeats 200000 in
theorem Mt_sym (c d : Ct) : Mt c d ↔ Mt d c := by
  have a : apB c d ↔ apB d c := by unfold apB; omega
  unfold Mt
  rw [a]
  exact ⟨fun h => ⟨h.1, mtR_sym h.2⟩, fun h => ⟨h.1, mtR_sym h.2⟩⟩
set_option maxHeartbeats 200000 in
theorem R32_loc (c : Ct) (p : V2) : R32 (loc c p) := by have := loc_v c p; exact ⟨by omega, by omega⟩
set_option maxHeartbeats 200000 in
theorem loc_neg (c : Ct) (p : V2) : iI (loc c p) < (0 : Int32) ↔ loc c p < 0 := by rw [show (0 : Int32) = iI 0 from rfl]; exact iI_lt (R32_loc c p) ⟨by decide, by decide⟩
set_option maxHeartbeats 200000 in
theorem loc_one (c : Ct) (p : V2) : iI (loc c p) = (1 : Int32) ↔ loc c p = 1 := by rw [show (1 : Int32) = iI 1 from rfl]; exact iI_eq (R32_loc c p) ⟨by decide, by decide⟩
set_option maxHeartbeats 200000 in
theorem bit13 (k : Nat) : Nat.testBit 13 k = true ↔ (k = 0 ∨ k = 2 ∨ k = 3) := by
  by_cases h : k < 4
  · rcases (show k = 0 ∨ k = 1 ∨ k = 2 ∨ k = 3 by omega) with rfl | rfl | rfl | rfl <;> decide
  · have : Nat.testBit 13 k = false := Nat.testBit_lt_two_pow (by have : 2 ^ 4 ≤ 2 ^ k := Nat.pow_le_pow_right (by omega) (by omega); omega)
    rw [this]
    exact ⟨fun y => (by cases y), fun y => by omega⟩
set_option maxHeartbeats 200000 in
theorem bit1 (k : Nat) : Nat.testBit 1 k = true ↔ k = 0 := by
  by_cases h : k < 4
  · rcases (show k = 0 ∨ k = 1 ∨ k = 2 ∨ k = 3 by omega) with rfl | rfl | rfl | rfl <;> decide
  · have : Nat.testBit 1 k = false := Nat.testBit_lt_two_pow (by have : 2 ^ 4 ≤ 2 ^ k := Nat.pow_le_pow_right (by omega) (by omega); omega)
    rw [this]
    exact ⟨fun y => (by cases y), fun y => by omega⟩
set_option maxHeartbeats 200000 in
theorem bit2 (k : Nat) : Nat.testBit 2 k = true ↔ k = 1 := by
  by_cases h : k < 4
  · rcases (show k = 0 ∨ k = 1 ∨ k = 2 ∨ k = 3 by omega) with rfl | rfl | rfl | rfl <;> decide
  · have : Nat.testBit 2 k = false := Nat.testBit_lt_two_pow (by have : 2 ^ 4 ≤ 2 ^ k := Nat.pow_le_pow_right (by omega) (by omega); omega)
    rw [this]
    exact ⟨fun y => (by cases y), fun y => by omega⟩
set_option maxHeartbeats 200000 in
theorem cm_mks {c d : Ct} (F : WF c) (vc : Val c) (hd : Good d) : (MKS c d 2 ∨ MKS c d 3) ↔ cmW c d := by
  unfold MKS AlW cmW
  constructor
  · rintro ((⟨h, _⟩ | ⟨h, _⟩ | ⟨_, i, w, h⟩ | ⟨h, _⟩) | (⟨h, _⟩ | ⟨h, _⟩ | ⟨h, _⟩ | ⟨_, i, w, h⟩))
    · omega
    · omega
    · obtain ⟨j, j1, j2⟩ := (tch_i hd.1 hd.k hd.2.2.1 (way_ne F vc w)).mp (Or.inr h)
      exact ⟨i, j, w, j1, j2⟩
    · omega
    · omega
    · omega
    · omega
    · obtain ⟨j, j1, j2⟩ := (tch_i hd.1 hd.k hd.2.2.1 (way_ne F vc w)).mp (Or.inl h)
      exact ⟨i, j, w, j1, j2⟩
  · rintro ⟨i, j, w, j1, j2⟩
    rcases (tch_i hd.1 hd.k hd.2.2.1 (way_ne F vc w)).mpr ⟨j, j1, j2⟩ with h | h
    · exact Or.inr (Or.inr (Or.inr (Or.inr ⟨rfl, i, w, h⟩)))
    · exact Or.inl (Or.inr (Or.inr (Or.inl ⟨rfl, i, w, h⟩)))
set_option maxHeartbeats 200000 in
theorem MKS_0 {c d : Ct} : MKS c d 0 ↔ InW (wy c) (cV c) (TC d) := by
  unfold MKS
  exact ⟨fun h => by rcases h with h | h | h | h; exact h.2; all_goals omega, fun h => Or.inl ⟨rfl, h⟩⟩
set_option maxHeartbeats 200000 in
theorem MKS_1 {c d : Ct} : MKS c d 1 ↔ OuW (wy c) (cV c) (TC d) := by
  unfold MKS
  exact ⟨fun h => by rcases h with h | h | h | h; omega; exact h.2; all_goals omega, fun h => Or.inr (Or.inl ⟨rfl, h⟩)⟩
set_option maxHeartbeats 200000 in
theorem MKS_2 {c d : Ct} : MKS c d 2 ↔ AlW (wy c) (cV c) (TC d) := by
  unfold MKS
  exact ⟨fun h => by rcases h with h | h | h | h; omega; omega; exact h.2; omega, fun h => Or.inr (Or.inr (Or.inl ⟨rfl, h⟩))⟩
set_option maxHeartbeats 200000 in
theorem e_meet43 {n : Nat} {σ : xσ} {a b : Nat} {c d : Ct} (S : SH n σ a c) (F : WF c) (vc : Val c) (T : SH n σ b d) (G : WF d) (vd : Val d) (hkk : cK c ≤ cK d) : ∃ σ', Fr A4 σ σ' ∧ b_X6_doMeet_43 n a b σ = some (tf (mtR c d), σ') := by
  have hN := F.n
  have hM := G.n
  have hK := F.k
  have hL := G.k
  have g0 : ∀ {α : Type} (x : Option α), gd (inb 0 40) x = x := fun x => gd_pos (by decide) x
  have sx : sI σ (a + 1) (0 : Int32).toNatClampNeg = iI (cV c 0).1 := S.X (i := 0) (by omega)
  have sy : sI σ (a + 2) (0 : Int32).toNatClampNeg = iI (cV c 0).2 := S.Y (i := 0) (by omega)
  rw [b_X6_doMeet_43, S.K, T.K, T.N]
  by_cases k0 : cK c = 0
  · rw [if_pos (show nI (cK c) = 0 by rw [k0]; rfl), g0, g0, sx, sy, e_locate T G (F.b (by omega)) (Val.cl G vd), bd]
    refine ⟨σ, Fr.refl, ?_⟩
    by_cases q : loc d (cV c 0) < 0
    · rw [if_pos ((loc_neg d _).mpr q), tf_f (fun y => by have := (mt_pt G vd k0).mp y; omega)]
    · rw [if_neg (fun y => q ((loc_neg d _).mp y)), tf_t ((mt_pt G vd k0).mpr (by omega))]
  · rw [if_neg (fun z => k0 ((nIq0 (by omega)).mp z))]
    by_cases l1 : cK d = 1
    · have k1 : cK c = 1 := by omega
      rw [if_pos (show nI (cK d) = 1 by rw [l1]; rfl), e_doLinesMeet S F T G vc vd k1 l1, bd, gd_pos (tf_01 _)]
      refine ⟨σ, Fr.refl, ?_⟩
      congr 2
      exact tf_c (mt_ln F vc G vd k1 l1).symm
    · have l2 : cK d = 2 := by omega
      have hd := (Good_of G vd l2).1
      rw [if_neg (fun z => l1 ((nIq1 (by omega)).mp z))]
      obtain ⟨σ1, σ2, m, a1, a2, a3, a4, a5, a6, a7⟩ := e_see (n := n) (en := 13) S F vc k0 T hd (by omega)
      have S1 := S.a4 a3
      have S2 := S.a4 a4
      have T2 := T.a4 a4
      rw [a1, bd, S1.N, ← show nI 13 = 13 from rfl, a2, bd, nI_and a5 (by omega)]
      have t : (¬ m &&& 13 = 0) ↔ (InW (wy c) (cV c) (TC d) ∨ cmW c d) := by
        rw [a6]
        constructor
        · rintro ⟨k, k1, k2⟩
          rcases (bit13 k).mp k1 with rfl | rfl | rfl
          · exact Or.inl (MKS_0.mp k2)
          · exact Or.inr ((cm_mks F vc hd).mp (Or.inl k2))
          · exact Or.inr ((cm_mks F vc hd).mp (Or.inr k2))
        · rintro (h | h)
          · exact ⟨0, (bit13 0).mpr (Or.inl rfl), MKS_0.mpr h⟩
          · rcases (cm_mks F vc hd).mpr h with u | u
            · exact ⟨2, (bit13 2).mpr (Or.inr (Or.inl rfl)), u⟩
            · exact ⟨3, (bit13 3).mpr (Or.inr (Or.inr rfl)), u⟩
      have hlt : m &&& 13 ≤ 13 := Nat.and_le_right
      refine ⟨σ2, a4, ?_⟩
      by_cases q : m &&& 13 = 0
      · rw [if_pos (show nI (m &&& 13) = 0 by rw [q]; rfl), S2.K]
        have no : ¬ (InW (wy c) (cV c) (TC d) ∨ cmW c d) := fun y => t.mpr y q
        by_cases k2 : cK c = 2
        · have tx : sI σ2 (b + 1) (0 : Int32).toNatClampNeg = iI (cV d 0).1 := T2.X (i := 0) (by omega)
          have ty : sI σ2 (b + 2) (0 : Int32).toNatClampNeg = iI (cV d 0).2 := T2.Y (i := 0) (by omega)
          rw [if_pos (show nI (cK c) = 2 by rw [k2]; rfl), g0, g0, tx, ty, e_locate S2 F (G.b (by omega)) (Val.cl F vc), bd]
          have pp := mt_pp (Good_of F vc k2).1 vc hd vd
          by_cases z : loc c (cV d 0) < 0
          · rw [if_pos ((loc_neg c _).mpr z), tf_f]
            intro y
            rcases pp.mp y with u | u | u
            · exact no (Or.inl u)
            · exact no (Or.inr u)
            · omega
          · rw [if_neg (fun y => z ((loc_neg c _).mp y)), tf_t (pp.mpr (Or.inr (Or.inr (by omega))))]
        · rw [if_neg (fun z => k2 ((nIq2 (by omega)).mp z)), tf_f (fun y => no ((mt_lp F vc hd (by omega)).mp y))]
      · rw [if_neg (fun z => q ((nIq0 (by omega)).mp z)), tf_t]
        have y := t.mp q
        by_cases k2 : cK c = 2
        · refine (mt_pp (Good_of F vc k2).1 vc hd vd).mpr ?_
          rcases y with u | u
          · exact Or.inl u
          · exact Or.inr (Or.inl u)
        · exact (mt_lp F vc hd (by omega)).mpr y
set_option maxHeartbeats 200000 in
theorem e_doMeet {n : Nat} {σ : xσ} {a b : Nat} {c d : Ct} (S : SH n σ a c) (F : WF c) (vc : Val c) (T : SH n σ b d) (G : WF d) (vd : Val d) : ∃ σ', Fr A4 σ σ' ∧ f_X6_doMeet n a b σ = some (tf (Mt c d), σ') := by
  have hK := F.k
  have hL := G.k
  rw [f_X6_doMeet, gd_pos S.1, gd_pos T.1, e_isBoxApart S F T G, bd]
  by_cases q : apB c d
  · rw [if_neg (fun z => (tf_0.mp z) q), tf_f (fun y => y.1 q)]
    exact ⟨σ, Fr.refl, rfl⟩
  · rw [if_pos (tf_f q), S.K, T.K]
    by_cases l : cK d < cK c
    · obtain ⟨σ', h1, h2⟩ := e_meet43 (n := n) T G vd S F vc (by omega)
      refine ⟨σ', h1, ?_⟩
      rw [if_pos ((nI_l' (by omega) (by omega)).mpr l), b_X6_doMeet_26, S.K, T.K, if_pos ((nI_l' (by omega) (by omega)).mpr l), h2]
      congr 2
      exact tf_c ⟨fun h => ⟨q, mtR_sym h⟩, fun h => mtR_sym h.2⟩
    · obtain ⟨σ', h1, h2⟩ := e_meet43 (n := n) S F vc T G vd (by omega)
      refine ⟨σ', h1, ?_⟩
      rw [if_neg (fun z => l ((nI_l' (by omega) (by omega)).mp z)), b_X6_doMeet_26, S.K, T.K, if_neg (fun z => l ((nI_l' (by omega) (by omega)).mp z)), h2]
      congr 2
      exact tf_c ⟨fun h => ⟨q, h⟩, fun h => h.2⟩

/-! doInteriorsMeet of the system -/
set_option maxHeartbeats 200000 in
theorem only16 : ∀ m : Fin 16, (nI m.val &&& (-9) = 4) = (m.val.testBit 0 = false ∧ m.val.testBit 1 = false ∧ m.val.testBit 2 = true) := by decide +kernel
set_option maxHeartbeats 200000 in
theorem only_a {m : Nat} (h : m < 16) : nI m &&& (-9) = 4 ↔ (m.testBit 0 = false ∧ m.testBit 1 = false ∧ m.testBit 2 = true) := by rw [only16 ⟨m, h⟩]
set_option maxHeartbeats 200000 in
theorem e_areOnlyAlong {n : Nat} {σ : xσ} {m k : Nat} (hm : m < 16) (hk : k < 16) : f_X6_areOnlyAlong n (nI m) (nI k) σ = some (tf ((m.testBit 0 = false ∧ m.testBit 1 = false ∧ m.testBit 2 = true) ∧ (k.testBit 0 = false ∧ k.testBit 1 = false ∧ k.testBit 2 = true)), σ) := by
  rw [f_X6_areOnlyAlong]
  by_cases u : nI m &&& (-9) = 4
  · rw [if_pos u]
    by_cases v : nI k &&& (-9) = 4
    · rw [if_pos v, tf_t ⟨(only_a hm).mp u, (only_a hk).mp v⟩]
    · rw [if_neg v, tf_f (fun h => v ((only_a hk).mpr h.2))]
  · rw [if_neg u, tf_f (fun h => u ((only_a hm).mpr h.1))]
set_option maxHeartbeats 200000 in
theorem bfalse {b : Bool} {p : Prop} (h : b = true ↔ p) : b = false ↔ ¬ p := by cases b <;> simp_all
set_option maxHeartbeats 200000 in
theorem only_iff {c d : Ct} (hc : Good c) (hd : Good d) (oc : One c) (od : One d) {m k : Nat} (hm : ∀ b, m.testBit b = true ↔ MKS c d b) (hk : ∀ b, k.testBit b = true ↔ MKS d c b) (h1 : ¬ InW (wy c) (cV c) (TC d)) (h3 : ¬ InW (wy d) (cV d) (TC c)) : ((m.testBit 0 = false ∧ m.testBit 1 = false ∧ m.testBit 2 = true) ∧ (k.testBit 0 = false ∧ k.testBit 1 = false ∧ k.testBit 2 = true)) ↔ SaW c (TC d) := by
  rw [bfalse (hm 0), bfalse (hm 1), hm 2, bfalse (hk 0), bfalse (hk 1), hk 2, MKS_0, MKS_1, MKS_2, MKS_0, MKS_1, MKS_2, same_iff hc hd oc od h1 h3]
  exact ⟨fun h => ⟨h.1.2.1, h.2.2.1⟩, fun h => ⟨⟨h1, h.1, AlW_of hc h1 h.1⟩, ⟨h3, h.2, AlW_of hd h3 h.2⟩⟩⟩
def OvS (c d : Ct) : Prop := if cK c = 0 then loc d (cV c 0) = 1 else if cK d = 1 then LI c d else OvP c d
set_option maxHeartbeats 200000 in
theorem e_inner33 {n : Nat} {σ : xσ} {a b : Nat} {c d : Ct} (S : SH n σ a c) (F : WF c) (vc : Val c) (T : SH n σ b d) (G : WF d) (vd : Val d) (hkk : cK c ≤ cK d) : ∃ σ', Fr A4 σ σ' ∧ b_X6_doInteriorsMeet_33 n a b σ = some (tf (OvS c d), σ') := by
  have hN := F.n
  have hM := G.n
  have hK := F.k
  have hL := G.k
  have g0 : ∀ {α : Type} (x : Option α), gd (inb 0 40) x = x := fun x => gd_pos (by decide) x
  have sx : sI σ (a + 1) (0 : Int32).toNatClampNeg = iI (cV c 0).1 := S.X (i := 0) (by omega)
  have sy : sI σ (a + 2) (0 : Int32).toNatClampNeg = iI (cV c 0).2 := S.Y (i := 0) (by omega)
  rw [b_X6_doInteriorsMeet_33, S.K, T.K, T.N]
  unfold OvS
  by_cases k0 : cK c = 0
  · rw [if_pos (show nI (cK c) = 0 by rw [k0]; rfl), if_pos k0, g0, g0, sx, sy, e_locate T G (F.b (by omega)) (Val.cl G vd), bd]
    refine ⟨σ, Fr.refl, ?_⟩
    by_cases u : loc d (cV c 0) = 1
    · rw [if_pos ((loc_one d _).mpr u), tf_t u]
    · rw [if_neg (fun y => u ((loc_one d _).mp y)), tf_f u]
  · rw [if_neg (fun z => k0 ((nIq0 (by omega)).mp z)), if_neg k0]
    by_cases l1 : cK d = 1
    · rw [if_pos (show nI (cK d) = 1 by rw [l1]; rfl), if_pos l1, e_doLineInteriorsMeet S F vc T G vd (by omega) l1, bd, gd_pos (tf_01 _)]
      exact ⟨σ, Fr.refl, rfl⟩
    · have l2 : cK d = 2 := by omega
      obtain ⟨hd, od⟩ := Good_of G vd l2
      rw [if_neg (fun z => l1 ((nIq1 (by omega)).mp z)), if_neg l1]
      obtain ⟨σ1, σ2, m, a1, a2, a3, a4, a5, a6, a7⟩ := e_see (n := n) (en := 1) S F vc k0 T hd (by omega)
      have S1 := S.a4 a3
      have S2 := S.a4 a4
      have T2 := T.a4 a4
      rw [a1, bd, S1.N, ← show nI 1 = 1 from rfl, a2, bd, nI_and a5 (by omega)]
      have t : (¬ m &&& 1 = 0) ↔ InW (wy c) (cV c) (TC d) := by
        rw [a6]
        exact ⟨fun ⟨k, k1, k2⟩ => by rw [(bit1 k).mp k1] at k2; exact MKS_0.mp k2, fun h => ⟨0, (bit1 0).mpr rfl, MKS_0.mpr h⟩⟩
      have hlt : m &&& 1 ≤ 1 := Nat.and_le_right
      unfold OvP
      by_cases q : m &&& 1 = 0
      · have ni : ¬ InW (wy c) (cV c) (TC d) := fun y => t.mpr y q
        rw [if_pos (show nI (m &&& 1) = 0 by rw [q]; rfl), S2.K]
        by_cases k1 : cK c = 1
        · rw [if_pos (show nI (cK c) = nI 1 by rw [k1]), tf_f (fun h => by rcases h with h | h; exact ni h; omega)]
          exact ⟨σ2, a4, rfl⟩
        · have k2 : cK c = 2 := by omega
          obtain ⟨hc, oc⟩ := Good_of F vc k2
          obtain ⟨σ3, σ4, m', b1, b2, b3, b4, b5, b6, b7⟩ := e_see (n := n) (en := 1) T2 G vd (by omega) S2 hc (by omega)
          have T3 := T2.a4 b3
          rw [if_neg (fun z => k1 ((nI_q' (by omega) (by omega)).mp z)), S2.N, b1, bd, T3.N, b2, bd, nI_and b5 (by omega)]
          have t' : (¬ m' &&& 1 = 0) ↔ InW (wy d) (cV d) (TC c) := by
            rw [b6]
            exact ⟨fun ⟨k, k1, k2⟩ => by rw [(bit1 k).mp k1] at k2; exact MKS_0.mp k2, fun h => ⟨0, (bit1 0).mpr rfl, MKS_0.mpr h⟩⟩
          have hlt' : m' &&& 1 ≤ 1 := Nat.and_le_right
          refine ⟨σ4, a4.trans b4, ?_⟩
          by_cases q' : m' &&& 1 = 0
          · have ni' : ¬ InW (wy d) (cV d) (TC c) := fun y => t'.mpr y q'
            have oi := only_iff hc hd oc od (a7 q) (b7 q') ni ni'
            rw [if_pos (show nI (m' &&& 1) = 0 by rw [q']; rfl), e_areOnlyAlong a5 b5, bd]
            by_cases s : SaW c (TC d)
            · rw [if_neg (fun z => (tf_0.mp z) (oi.mpr s)), tf_t (Or.inr ⟨k2, Or.inl s⟩)]; rfl
            · rw [if_pos (tf_f (fun y => s (oi.mp y))), tf_f (fun h => by rcases h with h | ⟨_, h | h⟩; exact ni h; exact s h; exact ni' h)]
          · rw [if_neg (fun z => q' ((nIq0 (by omega)).mp z)), tf_t (Or.inr ⟨k2, Or.inr (t'.mp q')⟩)]; rfl
      · rw [if_neg (fun z => q ((nIq0 (by omega)).mp z)), tf_t (Or.inl (t.mp q))]
        exact ⟨σ2, a4, rfl⟩
set_option maxHeartbeats 200000 in
theorem e_doInteriorsMeet {n : Nat} {σ : xσ} {a b : Nat} {c d : Ct} (S : SH n σ a c) (F : WF c) (vc : Val c) (T : SH n σ b d) (G : WF d) (vd : Val d) : ∃ σ', Fr A4 σ σ' ∧ f_X6_doInteriorsMeet n a b σ = some (tf (OvI c d), σ') := by
  have hK := F.k
  have hL := G.k
  rw [f_X6_doInteriorsMeet, gd_pos S.1, gd_pos T.1, S.K, T.K]
  by_cases l : cK d < cK c
  · obtain ⟨σ', h1, h2⟩ := e_inner33 (n := n) T G vd S F vc (by omega)
    refine ⟨σ', h1, ?_⟩
    rw [if_pos ((nI_l' (by omega) (by omega)).mpr l), b_X6_doInteriorsMeet_16, S.K, T.K, if_pos ((nI_l' (by omega) (by omega)).mpr l), h2]
    congr 2
    refine tf_c ?_
    unfold OvS OvI OvP
    rw [if_neg (show ¬ cK c = 0 by omega)]
    by_cases l0 : cK d = 0
    · rw [if_pos l0, if_pos l0]
    · rw [if_neg l0, if_neg l0, if_neg (show ¬ cK c = 1 by omega), if_pos (show cK d = 1 by omega), if_pos (show cK c = 2 by omega)]
      exact ⟨fun h => by rcases h with h | h; exact h; omega, fun h => Or.inl h⟩
  · obtain ⟨σ', h1, h2⟩ := e_inner33 (n := n) S F vc T G vd (by omega)
    refine ⟨σ', h1, ?_⟩
    rw [if_neg (fun z => l ((nI_l' (by omega) (by omega)).mp z)), b_X6_doInteriorsMeet_16, S.K, T.K, if_neg (fun z => l ((nI_l' (by omega) (by omega)).mp z)), h2]
    congr 2
    refine tf_c ?_
    unfold OvS OvI
    by_cases k0 : cK c = 0
    · rw [if_pos k0, if_pos k0]
    · rw [if_neg k0, if_neg k0, if_neg (show ¬ cK d = 0 by omega)]
      by_cases l1 : cK d = 1
      · rw [if_pos l1, if_pos l1, if_neg (show ¬ cK c = 2 by omega)]
      · rw [if_neg l1, if_neg l1]

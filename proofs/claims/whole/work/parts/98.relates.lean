/-! WITHIN of the system; both sides' answer for a relation -/
set_option maxHeartbeats 200000 in
theorem e_isWithin {n : Nat} {σ : xσ} {a b : Nat} {c d : Ct} (S : SH n σ a c) (F : WF c) (vc : Val c) (T : SH n σ b d) (G : WF d) (vd : Val d) : ∃ σ', Fr A4 σ σ' ∧ f_X6_isWithin n a b σ = some (tf (Wi c d), σ') := by
  have hN := F.n
  have hM := G.n
  have hK := F.k
  have hL := G.k
  have g0 : ∀ {α : Type} (x : Option α), gd (inb 0 40) x = x := fun x => gd_pos (by decide) x
  have sx : sI σ (a + 1) (0 : Int32).toNatClampNeg = iI (cV c 0).1 := S.X (i := 0) (by omega)
  have sy : sI σ (a + 2) (0 : Int32).toNatClampNeg = iI (cV c 0).2 := S.Y (i := 0) (by omega)
  rw [f_X6_isWithin, gd_pos S.1, gd_pos T.1, S.K, T.K]
  unfold Wi
  by_cases l : cK d < cK c
  · rw [if_pos ((nI_l' (by omega) (by omega)).mpr l), if_neg (show ¬ cK c = 0 by omega), tf_f (fun h => by omega)]
    exact ⟨σ, Fr.refl, rfl⟩
  · rw [if_neg (fun z => l ((nI_l' (by omega) (by omega)).mp z)), e_isBoxWithin S F T G, bd]
    by_cases k0 : cK c = 0
    · rw [if_pos k0]
      refine ⟨σ, Fr.refl, ?_⟩
      by_cases ib : inB c d
      · rw [if_neg (fun z => (tf_0.mp z) ib), S.K, if_pos (show nI (cK c) = 0 by rw [k0]; rfl), g0, g0, sx, sy, e_locate T G (F.b (by omega)) (Val.cl G vd), bd]
        by_cases u : loc d (cV c 0) = 1
        · rw [if_pos ((loc_one d _).mpr u), tf_t u]
        · rw [if_neg (fun y => u ((loc_one d _).mp y)), tf_f u]
      · rw [if_pos (tf_f ib), tf_f (fun h => ib (inB_pt F G vd k0 h))]
    · rw [if_neg k0]
      by_cases l1 : cK d = 1
      · have k1 : cK c = 1 := by omega
        rw [if_pos l1]
        refine ⟨σ, Fr.refl, ?_⟩
        by_cases ib : inB c d
        · rw [if_neg (fun z => (tf_0.mp z) ib), S.K, T.K, if_neg (fun z => k0 ((nIq0 (by omega)).mp z)), if_pos (show nI (cK d) = 1 by rw [l1]; rfl), e_isLineWithin S F vc T G k1 l1, bd, gd_pos (tf_01 _)]
          congr 2
          exact tf_c ⟨fun h => ⟨by omega, h⟩, fun h => h.2⟩
        · rw [if_pos (tf_f ib), tf_f (fun h => ib (inB_Un F vc k0 h.2))]
      · have l2 : cK d = 2 := by omega
        obtain ⟨hd, od⟩ := Good_of G vd l2
        rw [if_neg l1]
        by_cases ib : inB c d
        · rw [if_neg (fun z => (tf_0.mp z) ib), S.K, T.K, T.N, if_neg (fun z => k0 ((nIq0 (by omega)).mp z)), if_neg (fun z => l1 ((nIq1 (by omega)).mp z))]
          obtain ⟨σ1, σ2, m, a1, a2, a3, a4, a5, a6, a7⟩ := e_see (n := n) (en := 2) S F vc k0 T hd (by omega)
          have S1 := S.a4 a3
          have S2 := S.a4 a4
          have T2 := T.a4 a4
          have t : (¬ m &&& 2 = 0) ↔ OuW (wy c) (cV c) (TC d) := by
            rw [a6]
            exact ⟨fun ⟨k, k1, k2⟩ => by rw [(bit2 k).mp k1] at k2; exact MKS_1.mp k2, fun h => ⟨1, (bit2 1).mpr rfl, MKS_1.mpr h⟩⟩
          have hlt : m &&& 2 ≤ 2 := Nat.and_le_right
          have e2 : nI m &&& 2 = nI (m &&& 2) := nI_and (b := 2) a5 (by omega)
          have e1 : nI m &&& 1 = nI (m &&& 1) := nI_and (b := 1) a5 (by omega)
          have hl1 : m &&& 1 ≤ 1 := Nat.and_le_right
          rw [a1, bd, S1.N]
          rw [show nI 2 = 2 from rfl] at a2
          rw [a2, bd, e2]
          by_cases q : m &&& 2 = 0
          · have no : ¬ OuW (wy c) (cV c) (TC d) := fun y => t.mpr y q
            have bits := a7 q
            have i0 : (¬ m &&& 1 = 0) ↔ InW (wy c) (cV c) (TC d) := by
              rw [← MKS_0, ← bits 0]
              have : m &&& 1 = m % 2 := Nat.and_one_is_mod m
              rw [this, Nat.testBit_zero]
              constructor
              · intro h; exact decide_eq_true (by omega)
              · intro h; have := of_decide_eq_true h; omega
            rw [if_pos (show nI (m &&& 2) = 0 by rw [q]; rfl), e1]
            -- with what is known of the inside
            have core : ∀ z : Nat, (z = 0 ∨ z = 1) → (z = 1 ↔ InW (wy c) (cV c) (TC d)) → ∃ σ', Fr A4 σ σ' ∧ b_X6_isWithin_115 n a b (nI m) (nI z) σ2 = some (tf (cK c ≤ cK d ∧ ¬ OuW (wy c) (cV c) (TC d) ∧ (if cK c = 1 then InW (wy c) (cV c) (TC d) else ¬ InW (wy d) (cV d) (TC c) ∧ (InW (wy c) (cV c) (TC d) ∨ SaW c (TC d)))), σ') := by
              intro z hz hi
              rw [b_X6_isWithin_115, S2.K]
              by_cases k1 : cK c = 1
              · rw [if_pos (show nI (cK c) = 1 by rw [k1]; rfl), gd_pos (by rcases hz with rfl | rfl; exact Or.inl rfl; exact Or.inr rfl)]
                refine ⟨σ2, a4, ?_⟩
                congr 2
                by_cases v : InW (wy c) (cV c) (TC d)
                · rw [hi.mpr v, tf_t]; rfl
                  exact ⟨by omega, no, by rw [if_pos k1]; exact v⟩
                · have : z = 0 := by rcases hz with y | y; exact y; exact (v (hi.mp y)).elim
                  rw [this, tf_f]; rfl
                  intro h
                  rw [if_pos k1] at h
                  exact v h.2.2
              · have k2 : cK c = 2 := by omega
                obtain ⟨hc, oc⟩ := Good_of F vc k2
                obtain ⟨σ3, σ4, m', b1, b2, b3, b4, b5, b6, b7⟩ := e_see (n := n) (en := 1) T2 G vd (by omega) S2 hc (by omega)
                have T3 := T2.a4 b3
                have t' : (¬ m' &&& 1 = 0) ↔ InW (wy d) (cV d) (TC c) := by
                  rw [b6]
                  exact ⟨fun ⟨k, k1, k2⟩ => by rw [(bit1 k).mp k1] at k2; exact MKS_0.mp k2, fun h => ⟨0, (bit1 0).mpr rfl, MKS_0.mpr h⟩⟩
                have hlt' : m' &&& 1 ≤ 1 := Nat.and_le_right
                have e3 : nI m' &&& 1 = nI (m' &&& 1) := nI_and (b := 1) b5 (by omega)
                rw [show nI 1 = 1 from rfl] at b2
                rw [if_neg (fun z => k1 ((nIq1 (by omega)).mp z)), S2.N, b1, bd, T3.N, b2, bd, e3]
                refine ⟨σ4, a4.trans b4, ?_⟩
                by_cases q' : m' &&& 1 = 0
                · have ni' : ¬ InW (wy d) (cV d) (TC c) := fun y => t'.mpr y q'
                  rw [if_pos (show nI (m' &&& 1) = 0 by rw [q']; rfl)]
                  by_cases v : InW (wy c) (cV c) (TC d)
                  · rw [hi.mpr v, if_neg (by decide), tf_t]
                    exact ⟨by omega, no, by rw [if_neg k1]; exact ⟨ni', Or.inl v⟩⟩
                  · have z0 : z = 0 := by rcases hz with y | y; exact y; exact (v (hi.mp y)).elim
                    have oi := only_iff hc hd oc od bits (b7 q') v ni'
                    rw [z0, if_pos (show nI 0 = 0 from rfl), e_areOnlyAlong a5 b5, bd]
                    by_cases s : SaW c (TC d)
                    · rw [if_neg (fun z => (tf_0.mp z) (oi.mpr s)), tf_t]
                      exact ⟨by omega, no, by rw [if_neg k1]; exact ⟨ni', Or.inr s⟩⟩
                    · rw [if_pos (tf_f (fun y => s (oi.mp y))), tf_f]
                      intro h
                      rw [if_neg k1] at h
                      rcases h.2.2.2 with y | y
                      · exact v y
                      · exact s y
                · rw [if_neg (fun z => q' ((nIq0 (by omega)).mp z)), tf_f]
                  intro h
                  rw [if_neg k1] at h
                  exact h.2.2.1 (t'.mp q')
            by_cases q1 : m &&& 1 = 0
            · rw [if_pos (show nI (m &&& 1) = 0 by rw [q1]; rfl)]
              exact core 0 (Or.inl rfl) ⟨fun y => by omega, fun y => (i0.mpr y q1).elim⟩
            · rw [if_neg (fun z => q1 ((nIq0 (by omega)).mp z))]
              exact core 1 (Or.inr rfl) ⟨fun _ => i0.mp q1, fun _ => rfl⟩
          · rw [if_neg (fun z => q ((nIq0 (by omega)).mp z)), tf_f (fun h => h.2.1 (t.mp q))]
            exact ⟨σ2, a4, rfl⟩
        · rw [if_pos (tf_f ib), tf_f (fun h => ib (inB_Ou F vc k0 hd h.2.1))]
          exact ⟨σ, Fr.refl, rfl⟩
/-- the answer for a relation -/
def Rel (k : Nat) (c d : Ct) : Prop := if k = 0 then Mt c d else if k = 1 then ¬ Mt c d else if k = 2 then Mt c d ∧ ¬ OvI c d else if k = 3 then Wi c d else Wi d c
set_option maxHeartbeats 200000 in
theorem e_holds {n : Nat} {σ : xσ} {a b : Nat} {c d : Ct} (S : SH n σ a c) (F : WF c) (vc : Val c) (T : SH n σ b d) (G : WF d) (vd : Val d) {k : Nat} (hk : k < 5) : ∃ σ', Fr A4 σ σ' ∧ f_X6_holds n (nI k) a b σ = some (tf (Rel k c d), σ') := by
  obtain ⟨σ1, a1, a2⟩ := e_doMeet (n := n) S F vc T G vd
  rw [f_X6_holds, gd_pos S.1, gd_pos T.1]
  unfold Rel
  rcases (show k = 0 ∨ k = 1 ∨ k = 2 ∨ k = 3 ∨ k = 4 by omega) with rfl | rfl | rfl | rfl | rfl
  · rw [if_pos (show nI 0 = 0 from rfl), if_pos rfl, a2, bd, gd_pos (tf_01 _)]
    exact ⟨σ1, a1, rfl⟩
  · rw [if_neg (by decide), if_pos (show nI 1 = 1 from rfl), if_neg (by decide), if_pos rfl, a2, bd]
    refine ⟨σ1, a1, ?_⟩
    by_cases u : Mt c d
    · rw [if_neg (fun z => (tf_0.mp z) u), tf_f (fun h => h u)]
    · rw [if_pos (tf_f u), tf_t u]
  · rw [if_neg (by decide), if_neg (by decide), if_pos (show nI 2 = 2 from rfl), if_neg (by decide), if_neg (by decide), if_pos rfl, a2, bd]
    by_cases u : Mt c d
    · obtain ⟨σ2, b1, b2⟩ := e_doInteriorsMeet (n := n) (S.a4 a1) F vc (T.a4 a1) G vd
      rw [if_neg (fun z => (tf_0.mp z) u), b2, bd]
      refine ⟨σ2, a1.trans b1, ?_⟩
      by_cases v : OvI c d
      · rw [if_neg (fun z => (tf_0.mp z) v), tf_f (fun h => h.2 v)]
      · rw [if_pos (tf_f v), tf_t ⟨u, v⟩]
    · rw [if_pos (tf_f u), tf_f (fun h => u h.1)]
      exact ⟨σ1, a1, rfl⟩
  · obtain ⟨σ2, b1, b2⟩ := e_isWithin (n := n) S F vc T G vd
    rw [if_neg (by decide), if_neg (by decide), if_neg (by decide), if_pos (show nI 3 = 3 from rfl), if_neg (by decide), if_neg (by decide), if_neg (by decide), if_pos rfl, b2, bd, gd_pos (tf_01 _)]
    exact ⟨σ2, b1, rfl⟩
  · obtain ⟨σ2, b1, b2⟩ := e_isWithin (n := n) T G vd S F vc
    rw [if_neg (by decide), if_neg (by decide), if_neg (by decide), if_neg (by decide), if_pos (show nI 4 = 4 from rfl), if_neg (by decide), if_neg (by decide), if_neg (by decide), if_neg (by decide), b2, bd, gd_pos (tf_01 _)]
    exact ⟨σ2, b1, rfl⟩
set_option maxHeartbeats 200000 in
theorem m_relates {n : Nat} {σ : xσ} {a b : Nat} {c d : Ct} (S : MH σ a c) (F : WF c) (vc : Val c) (T : MH σ b d) (G : WF d) (vd : Val d) {k : Nat} (hk : k < 5) : ∃ σ', FrZ σ σ' ∧ f_X14_relates n (nI k) a b σ = some (tf (Rel k c d), σ') := by
  have a2 := m_intersect (n := n) S F T G
  rw [f_X14_relates, gd_pos S.1, gd_pos T.1]
  unfold Rel
  rcases (show k = 0 ∨ k = 1 ∨ k = 2 ∨ k = 3 ∨ k = 4 by omega) with rfl | rfl | rfl | rfl | rfl
  · rw [if_pos (show nI 0 = 0 from rfl), if_pos rfl, a2, bd, gd_pos (tf_01 _)]
    exact ⟨σ, FrZ.refl, rfl⟩
  · rw [if_neg (by decide), if_pos (show nI 1 = 1 from rfl), if_neg (by decide), if_pos rfl, a2, bd]
    refine ⟨σ, FrZ.refl, ?_⟩
    by_cases u : Mt c d
    · rw [if_neg (fun z => (tf_0.mp z) u), tf_f (fun h => h u)]
    · rw [if_pos (tf_f u), tf_t u]
  · rw [if_neg (by decide), if_neg (by decide), if_pos (show nI 2 = 2 from rfl), if_neg (by decide), if_neg (by decide), if_pos rfl, a2, bd]
    by_cases u : Mt c d
    · obtain ⟨σ2, b1, b2⟩ := m_overlap (n := n) S F vc T G vd
      rw [if_neg (fun z => (tf_0.mp z) u), b2, bd]
      refine ⟨σ2, b1, ?_⟩
      by_cases v : OvI c d
      · rw [if_neg (fun z => (tf_0.mp z) ⟨u, v⟩), tf_f (fun h => h.2 v)]
      · rw [if_pos (tf_f (fun y => v y.2)), tf_t ⟨u, v⟩]
    · rw [if_pos (tf_f u), tf_f (fun h => u h.1)]
      exact ⟨σ, FrZ.refl, rfl⟩
  · obtain ⟨σ2, b1, b2⟩ := m_isWithin (n := n) S F vc T G vd
    rw [if_neg (by decide), if_neg (by decide), if_neg (by decide), if_pos (show nI 3 = 3 from rfl), if_neg (by decide), if_neg (by decide), if_neg (by decide), if_pos rfl, b2, bd, gd_pos (tf_01 _)]
    exact ⟨σ2, b1, rfl⟩
  · obtain ⟨σ2, b1, b2⟩ := m_isWithin (n := n) T G vd S F vc
    rw [if_neg (by decide), if_neg (by decide), if_neg (by decide), if_neg (by decide), if_neg (by decide), if_neg (by decide), if_neg (by decide), if_neg (by decide), b2, bd, gd_pos (tf_01 _)]
    exact ⟨σ2, b1, rfl⟩

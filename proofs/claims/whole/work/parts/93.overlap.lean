/-! overlap of the reference -/
set_option maxHeartbeats 200000 in
theorem m_goP {n : Nat} {σ : xσ} {a b : Nat} {c d : Ct} (S : MH σ a c) (F : WF c) (vc : Val c) (T : MH σ b d) (hd : Good d) : ∃ σ', f_X14_goAlong n a b σ = some ((), σ') ∧ FrZ σ σ' ∧ SAW σ' (InW (wy c) (cV c) (TC d)) (OuW (wy c) (cV c) (TC d)) (AlW (wy c) (cV c) (TC d)) (cK c = 2 ∧ SaW c (TC d)) :=
  m_go2 S F T hd.1 (fun e w => way_ne F vc w) (fun k => (Good_of F vc k).1.2.2.1) hd.2.1 hd.2.2.1 hd.LP
set_option maxHeartbeats 200000 in
theorem m_goL {n : Nat} {σ : xσ} {a b : Nat} {c d : Ct} (S : MH σ a c) (F : WF c) (vc : Val c) (T : MH σ b d) (G : WF d) (vd : Val d) (hl : cK d = 1) : ∃ σ', f_X14_goAlong n a b σ = some ((), σ') ∧ FrZ σ σ' ∧ SAW σ' (AlW (wy c) (cV c) (TC d)) (UnW (wy c) (cV c) (TC d)) (AlW (wy c) (cV c) (TC d)) False :=
  m_go1 S F T G (fun e w => way_ne F vc w) (fun e w => way_ne G vd w) (fun k => (Good_of F vc k).1.2.2.1) hl
def OvP (c d : Ct) : Prop := InW (wy c) (cV c) (TC d) ∨ (cK c = 2 ∧ (SaW c (TC d) ∨ InW (wy d) (cV d) (TC c)))
def OvI (c d : Ct) : Prop := if cK c = 0 then loc d (cV c 0) = 1 else if cK d = 0 then loc c (cV d 0) = 1 else if cK d = 1 then (if cK c = 2 then InW (wy d) (cV d) (TC c) else LI c d) else OvP c d
set_option maxHeartbeats 200000 in
theorem m_ovL {n : Nat} {σ : xσ} {a b : Nat} {c d : Ct} (S : MH σ a c) (F : WF c) (vc : Val c) (T : MH σ b d) (G : WF d) (vd : Val d) (hk : cK c = 1) (hl : cK d = 1) : ∃ σ', FrZ σ σ' ∧ bd (f_X14_goAlong n a b σ) (fun v133 σ134 => if (sI σ134 233 4) = 0 then bd (f_X14_crossInside n a b σ134) (fun v139 σ140 => if v139 = 0 then some (0, σ140) else some (1, σ140)) else some (1, σ134)) = some (tf (LI c d), σ') := by
  obtain ⟨σ1, a1, a2, a3⟩ := m_goL (n := n) S F vc T G vd hl
  have e := lines_in F vc G vd hk hl
  rw [a1, bd, a3.1]
  by_cases q : AlW (wy c) (cV c) (TC d)
  · rw [if_neg (fun z => (tf_0.mp z) q), tf_t (e.mpr (Or.inl q))]
    exact ⟨σ1, a2, rfl⟩
  · obtain ⟨σ2, b1, b2⟩ := m_crossInside (n := n) (S.z a2) F (T.z a2) G
    rw [if_pos (tf_f q), b2, bd]
    refine ⟨σ2, a2.trans b1.Z, ?_⟩
    by_cases x : XI c d
    · rw [if_neg (fun z => (tf_0.mp z) x), tf_t (e.mpr (Or.inr x))]
    · rw [if_pos (tf_f x), tf_f (fun y => by rcases e.mp y with u | u; exact q u; exact x u)]
set_option maxHeartbeats 200000 in
theorem m_ovP {n : Nat} {σ : xσ} {a b : Nat} {c d : Ct} (S : MH σ a c) (F : WF c) (vc : Val c) (T : MH σ b d) (hd : Good d) (vd : Val d) (hk : cK c ≠ 0) : ∃ σ', FrZ σ σ' ∧ bd (f_X14_goAlong n a b σ) (fun v110 σ111 => if (sI σ111 233 4) = 0 then if (sI σ111 a 1) = 2 then if (sI σ111 233 7) = 0 then if (sI σ111 a 1) = 1 then some (0, σ111) else bd (f_X14_goAlong n b a σ111) (fun v126 σ127 => gd (sI σ127 233 4 = 0 ∨ sI σ127 233 4 = 1) (some (sI σ127 233 4, σ127))) else some (1, σ111) else if (sI σ111 a 1) = 1 then some (0, σ111) else bd (f_X14_goAlong n b a σ111) (fun v118 σ119 => gd (sI σ119 233 4 = 0 ∨ sI σ119 233 4 = 1) (some (sI σ119 233 4, σ119))) else some (1, σ111)) = some (tf (OvP c d), σ') := by
  have hK := F.k
  obtain ⟨σ1, a1, a2, a3⟩ := m_goP (n := n) S F vc T hd
  have S1 := S.z a2
  have T1 := T.z a2
  rw [a1, bd, a3.1, S1.K, a3.2.2.2]
  unfold OvP
  by_cases q : InW (wy c) (cV c) (TC d)
  · rw [if_neg (fun z => (tf_0.mp z) q), tf_t (Or.inl q)]
    exact ⟨σ1, a2, rfl⟩
  · rw [if_pos (tf_f q)]
    by_cases k2 : cK c = 2
    · rw [if_pos (show nI (cK c) = 2 by rw [k2]; rfl)]
      by_cases s : SaW c (TC d)
      · rw [if_neg (fun z => (tf_0.mp z) ⟨k2, s⟩), tf_t (Or.inr ⟨k2, Or.inl s⟩)]
        exact ⟨σ1, a2, rfl⟩
      · obtain ⟨σ2, b1, b2, b3⟩ := m_goP (n := n) T1 hd.1 vd S1 (Good_of F vc k2).1
        rw [if_pos (tf_f (fun y => s y.2)), if_neg (fun z => by have := (nIq1 (by omega)).mp z; omega), b1, bd, b3.1, gd_pos (tf_01 _)]
        refine ⟨σ2, a2.trans b2, ?_⟩
        congr 2
        exact tf_c ⟨fun h => Or.inr ⟨k2, Or.inr h⟩, fun h => by rcases h with h | ⟨_, h | h⟩; exact (q h).elim; exact (s h).elim; exact h⟩
    · have k1 : cK c = 1 := by omega
      rw [if_neg (fun z => k2 ((nIq2 (by omega)).mp z)), if_pos (show nI (cK c) = 1 by rw [k1]; rfl), tf_f (fun h => by rcases h with h | h; exact q h; exact k2 h.1)]
      exact ⟨σ1, a2, rfl⟩
set_option maxHeartbeats 200000 in
theorem m_overlap0 {n : Nat} {σ : xσ} {a b : Nat} {c d : Ct} (S : MH σ a c) (F : WF c) (vc : Val c) (T : MH σ b d) (G : WF d) (vd : Val d) (hkl : ¬ (cK c = 2 ∧ cK d = 1)) : ∃ σ', FrZ σ σ' ∧ f_X14_overlap0 n a b σ = some (tf (Mt c d ∧ OvI c d), σ') := by
  have hN := F.n
  have hM := G.n
  have hK := F.k
  have hL := G.k
  have g0 : ∀ {α : Type} (x : Option α), gd (inb 0 40) x = x := fun x => gd_pos (by decide) x
  have sx : sI σ (a + 2) (0 : Int32).toNatClampNeg = iI (cV c 0).1 := S.X (i := 0) (by omega)
  have sy : sI σ (a + 3) (0 : Int32).toNatClampNeg = iI (cV c 0).2 := S.Y (i := 0) (by omega)
  have tx : sI σ (b + 2) (0 : Int32).toNatClampNeg = iI (cV d 0).1 := T.X (i := 0) (by omega)
  have ty : sI σ (b + 3) (0 : Int32).toNatClampNeg = iI (cV d 0).2 := T.Y (i := 0) (by omega)
  rw [f_X14_overlap0, gd_pos S.1, gd_pos T.1, m_intersect S F T G, bd]
  by_cases M : Mt c d
  · rw [if_neg (fun z => (tf_0.mp z) M), S.K, T.K]
    unfold OvI
    by_cases k0 : cK c = 0
    · rw [if_pos (show nI (cK c) = 0 by rw [k0]; rfl), if_pos k0, g0, g0, sx, sy, m_locate T G (F.b (by omega)), bd]
      refine ⟨σ, FrZ.refl, ?_⟩
      by_cases u : loc d (cV c 0) = 1
      · rw [if_pos ((loc_one d _).mpr u), tf_t ⟨M, u⟩]
      · rw [if_neg (fun y => u ((loc_one d _).mp y)), tf_f (fun h => u h.2)]
    · rw [if_neg (fun z => k0 ((nIq0 (by omega)).mp z)), if_neg k0]
      by_cases l0 : cK d = 0
      · rw [if_pos (show nI (cK d) = 0 by rw [l0]; rfl), if_pos l0, g0, g0, tx, ty, m_locate S F (G.b (by omega)), bd]
        refine ⟨σ, FrZ.refl, ?_⟩
        by_cases u : loc c (cV d 0) = 1
        · rw [if_pos ((loc_one c _).mpr u), tf_t ⟨M, u⟩]
        · rw [if_neg (fun y => u ((loc_one c _).mp y)), tf_f (fun h => u h.2)]
      · rw [if_neg (fun z => l0 ((nIq0 (by omega)).mp z)), if_neg l0]
        by_cases l1 : cK d = 1
        · have k2 : ¬ cK c = 2 := fun y => hkl ⟨y, l1⟩
          rw [if_pos (show nI (cK d) = 1 by rw [l1]; rfl), if_pos l1, if_neg (fun z => k2 ((nIq2 (by omega)).mp z)), if_neg k2]
          obtain ⟨σ', h1, h2⟩ := m_ovL (n := n) S F vc T G vd (by omega) l1
          refine ⟨σ', h1, h2.trans ?_⟩
          congr 2
          exact tf_c ⟨fun h => ⟨M, h⟩, fun h => h.2⟩
        · rw [if_neg (fun z => l1 ((nIq1 (by omega)).mp z)), if_neg l1]
          obtain ⟨σ', h1, h2⟩ := m_ovP (n := n) S F vc T (Good_of G vd (by omega)).1 vd k0
          refine ⟨σ', h1, h2.trans ?_⟩
          congr 2
          exact tf_c ⟨fun h => ⟨M, h⟩, fun h => h.2⟩
  · rw [if_pos (tf_f M), tf_f (fun y => M y.1)]
    exact ⟨σ, FrZ.refl, rfl⟩
set_option maxHeartbeats 200000 in
theorem m_overlap {n : Nat} {σ : xσ} {a b : Nat} {c d : Ct} (S : MH σ a c) (F : WF c) (vc : Val c) (T : MH σ b d) (G : WF d) (vd : Val d) : ∃ σ', FrZ σ σ' ∧ f_X14_overlap n a b σ = some (tf (Mt c d ∧ OvI c d), σ') := by
  have hN := F.n
  have hM := G.n
  have hK := F.k
  have hL := G.k
  have g0 : ∀ {α : Type} (x : Option α), gd (inb 0 40) x = x := fun x => gd_pos (by decide) x
  have sx : sI σ (a + 2) (0 : Int32).toNatClampNeg = iI (cV c 0).1 := S.X (i := 0) (by omega)
  have sy : sI σ (a + 3) (0 : Int32).toNatClampNeg = iI (cV c 0).2 := S.Y (i := 0) (by omega)
  have tx : sI σ (b + 2) (0 : Int32).toNatClampNeg = iI (cV d 0).1 := T.X (i := 0) (by omega)
  have ty : sI σ (b + 3) (0 : Int32).toNatClampNeg = iI (cV d 0).2 := T.Y (i := 0) (by omega)
  rw [f_X14_overlap, gd_pos S.1, gd_pos T.1, m_intersect S F T G, bd]
  by_cases M : Mt c d
  · rw [if_neg (fun z => (tf_0.mp z) M), S.K, T.K]
    unfold OvI
    by_cases k0 : cK c = 0
    · rw [if_pos (show nI (cK c) = 0 by rw [k0]; rfl), if_pos k0, g0, g0, sx, sy, m_locate T G (F.b (by omega)), bd]
      refine ⟨σ, FrZ.refl, ?_⟩
      by_cases u : loc d (cV c 0) = 1
      · rw [if_pos ((loc_one d _).mpr u), tf_t ⟨M, u⟩]
      · rw [if_neg (fun y => u ((loc_one d _).mp y)), tf_f (fun h => u h.2)]
    · rw [if_neg (fun z => k0 ((nIq0 (by omega)).mp z)), if_neg k0]
      by_cases l0 : cK d = 0
      · rw [if_pos (show nI (cK d) = 0 by rw [l0]; rfl), if_pos l0, g0, g0, tx, ty, m_locate S F (G.b (by omega)), bd]
        refine ⟨σ, FrZ.refl, ?_⟩
        by_cases u : loc c (cV d 0) = 1
        · rw [if_pos ((loc_one c _).mpr u), tf_t ⟨M, u⟩]
        · rw [if_neg (fun y => u ((loc_one c _).mp y)), tf_f (fun h => u h.2)]
      · rw [if_neg (fun z => l0 ((nIq0 (by omega)).mp z)), if_neg l0]
        by_cases l1 : cK d = 1
        · rw [if_pos (show nI (cK d) = 1 by rw [l1]; rfl), if_pos l1]
          by_cases k2 : cK c = 2
          · rw [if_pos (show nI (cK c) = 2 by rw [k2]; rfl), if_pos k2]
            obtain ⟨σ', h1, h2⟩ := m_overlap0 (n := n) T G vd S F vc (by omega)
            rw [h2, bd, gd_pos (tf_01 _)]
            refine ⟨σ', h1, ?_⟩
            congr 2
            have eo : OvI d c ↔ InW (wy d) (cV d) (TC c) := by
              unfold OvI OvP
              rw [if_neg l0, if_neg k0, if_neg (by omega)]
              exact ⟨fun h => by rcases h with h | h; exact h; omega, fun h => Or.inl h⟩
            exact tf_c ⟨fun h => ⟨M, eo.mp h.2⟩, fun h => ⟨(Mt_sym c d).mp M, eo.mpr h.2⟩⟩
          · rw [if_neg (fun z => k2 ((nIq2 (by omega)).mp z)), if_neg k2]
            obtain ⟨σ', h1, h2⟩ := m_ovL (n := n) S F vc T G vd (by omega) l1
            refine ⟨σ', h1, h2.trans ?_⟩
            congr 2
            exact tf_c ⟨fun h => ⟨M, h⟩, fun h => h.2⟩
        · rw [if_neg (fun z => l1 ((nIq1 (by omega)).mp z)), if_neg l1]
          obtain ⟨σ', h1, h2⟩ := m_ovP (n := n) S F vc T (Good_of G vd (by omega)).1 vd k0
          refine ⟨σ', h1, h2.trans ?_⟩
          congr 2
          exact tf_c ⟨fun h => ⟨M, h⟩, fun h => h.2⟩
  · rw [if_pos (tf_f M), tf_f (fun y => M y.1)]
    exact ⟨σ, FrZ.refl, rfl⟩

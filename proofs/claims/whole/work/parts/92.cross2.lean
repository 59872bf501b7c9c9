/-! crossInside of the reference -/
set_option maxHeartbeats 200000 in
theorem MH.w {σ σ' : xσ} {a : Nat} {c : Ct} (S : MH σ a c) (f : FrW σ σ') : MH σ' a c := S.z f.Z
set_option maxHeartbeats 200000 in
theorem m_inn4 {n : Nat} {σ : xσ} {a b : Nat} {c d : Ct} (S : MH σ a c) (F : WF c) (T : MH σ b d) (G : WF d) {i j : Nat} (hi : i + 1 < cN c) (hj : j + 1 < cN d) (K : xσ → Option (Int32 × xσ)) : bd (f_X14_isInner n a b a (nI i) σ) (fun v115 σ116 => if v115 = 0 then bd (f_X14_isInner n a b a (nI (i + 1)) σ116) (fun v121 σ122 => if v121 = 0 then bd (f_X14_isInner n a b b (nI j) σ122) (fun v127 σ128 => if v127 = 0 then bd (f_X14_isInner n a b b (nI (j + 1)) σ128) (fun v133 σ134 => if v133 = 0 then K σ134 else some (1, σ134)) else some (1, σ128)) else some (1, σ122)) else some (1, σ116)) = ifP (inn c d (cV c i) ∨ inn c d (cV c (i + 1)) ∨ inn c d (cV d j) ∨ inn c d (cV d (j + 1))) (some (1, σ)) (K σ) := by
  rw [m_isInner S F T G S F (by omega), bd]
  by_cases u1 : inn c d (cV c i)
  · rw [if_neg (fun z => (tf_0.mp z) u1), ifP_t (Or.inl u1)]
  · rw [if_pos (tf_f u1), m_isInner S F T G S F hi, bd]
    by_cases u2 : inn c d (cV c (i + 1))
    · rw [if_neg (fun z => (tf_0.mp z) u2), ifP_t (Or.inr (Or.inl u2))]
    · rw [if_pos (tf_f u2), m_isInner S F T G T G (by omega), bd]
      by_cases u3 : inn c d (cV d j)
      · rw [if_neg (fun z => (tf_0.mp z) u3), ifP_t (Or.inr (Or.inr (Or.inl u3)))]
      · rw [if_pos (tf_f u3), m_isInner S F T G T G hj, bd]
        by_cases u4 : inn c d (cV d (j + 1))
        · rw [if_neg (fun z => (tf_0.mp z) u4), ifP_t (Or.inr (Or.inr (Or.inr u4)))]
        · rw [if_pos (tf_f u4), ifP_f]
          rintro (h | h | h | h)
          · exact u1 h
          · exact u2 h
          · exact u3 h
          · exact u4 h
set_option maxHeartbeats 200000 in
theorem l_cr15 {n : Nat} {a b : Nat} {c d : Ct} (F : WF c) (G : WF d) {i : Nat} (hi : i + 1 < cN c) (K : Nat → Nat → Int32 → xσ → Option (Int32 × xσ)) (R : Prop) : ∀ f j (σ : xσ), 40 - j < f → j ≤ 40 → MH σ a c → MH σ b d → (∀ σ1, FrW σ σ1 → ∃ σ', FrW σ1 σ' ∧ K a b (nI (i + 1)) σ1 = some (tf R, σ')) → ∃ σ', FrW σ σ' ∧ l_X14_crossInside_15 n K f a b (nI i) (nI j) σ = some (tf ((∃ k, j ≤ k ∧ k + 1 < cN d ∧ XIp c d i k) ∨ R), σ') := by
  have hN := F.n
  have hM := G.n
  intro f
  induction f with
  | zero => intro j σ h; omega
  | succ f ih =>
    intro j σ h hj S T hK
    rw [l_X14_crossInside_15, T.N, nI_s, nI_s]
    by_cases q : j + 1 < cN d
    · rw [if_neg (fun y => by have := (nI_e' (by omega) (by omega)).mp y; omega), m_meet S F T G hi q, bd]
      -- the next round
      have nx : ∀ σ1, FrW σ σ1 → ¬ XIp c d i j → ∃ σ', FrW σ σ' ∧ l_X14_crossInside_15 n K f a b (nI i) (nI (j + 1)) σ1 = some (tf ((∃ k, j ≤ k ∧ k + 1 < cN d ∧ XIp c d i k) ∨ R), σ') := by
        intro σ1 f1 no
        obtain ⟨σ', h1, h2⟩ := ih (j + 1) σ1 (by omega) (by omega) (S.w f1) (T.w f1) (fun σ2 f2 => hK σ2 (f1.trans f2))
        refine ⟨σ', f1.trans h1, h2.trans ?_⟩
        congr 2
        refine tf_c ⟨fun y => ?_, fun y => ?_⟩
        · rcases y with ⟨k, a, b, x⟩ | y
          · exact Or.inl ⟨k, by omega, b, x⟩
          · exact Or.inr y
        · rcases y with ⟨k, a, b, x⟩ | y
          · refine Or.inl ⟨k, ?_, b, x⟩
            have : k ≠ j := fun z => no (z ▸ x)
            omega
          · exact Or.inr y
      have yes : XIp c d i j → tf ((∃ k, j ≤ k ∧ k + 1 < cN d ∧ XIp c d i k) ∨ R) = 1 := fun x => tf_t (Or.inl ⟨j, Nat.le_refl j, q, x⟩)
      by_cases m : mt (cV c i) (cV c (i + 1)) (cV d j) (cV d (j + 1))
      · obtain ⟨σ1, a1, a2, a3⟩ := m_meetWays (n := n) S F T G hi q
        obtain ⟨_, _, _, w9, w8⟩ := a3
        have S1 := S.w a2
        have T1 := T.w a2
        rw [if_neg (fun z => (tf_0.mp z) m), a1, bd, w8, w9]
        -- the line part
        have lin : (¬ (mM (cV c i) (cV c (i + 1)) (cV d j) (cV d (j + 1)) ∧ ¬ atT c (cV c i) (cV c (i + 1)) (cV d j) (cV d (j + 1)) ∧ ¬ atT d (cV c i) (cV c (i + 1)) (cV d j) (cV d (j + 1)))) → ∃ σ', FrW σ σ' ∧ (if tf (inL (cV c i) (cV c (i + 1)) (cV d j) (cV d (j + 1))) = 0 then (l_X14_crossInside_15 n K f) a b (nI i) (nI (j + 1)) σ1 else bd (f_X14_isInner n a b a (nI i) σ1) (fun v115 σ116 => if v115 = 0 then bd (f_X14_isInner n a b a (nI (i + 1)) σ116) (fun v121 σ122 => if v121 = 0 then bd (f_X14_isInner n a b b (nI j) σ122) (fun v127 σ128 => if v127 = 0 then bd (f_X14_isInner n a b b (nI (j + 1)) σ128) (fun v133 σ134 => if v133 = 0 then (l_X14_crossInside_15 n K f) a b (nI i) (nI (j + 1)) σ134 else some (1, σ134)) else some (1, σ128)) else some (1, σ122)) else some (1, σ116))) = some (tf ((∃ k, j ≤ k ∧ k + 1 < cN d ∧ XIp c d i k) ∨ R), σ') := by
          intro no
          by_cases l : inL (cV c i) (cV c (i + 1)) (cV d j) (cV d (j + 1))
          · rw [if_neg (fun z => (tf_0.mp z) l), m_inn4 S1 F T1 G hi q (fun σ134 => (l_X14_crossInside_15 n K f) a b (nI i) (nI (j + 1)) σ134)]
            by_cases v : inn c d (cV c i) ∨ inn c d (cV c (i + 1)) ∨ inn c d (cV d j) ∨ inn c d (cV d (j + 1))
            · rw [ifP_t v, yes ⟨m, Or.inr ⟨l, v⟩⟩]
              exact ⟨σ1, a2, rfl⟩
            · rw [ifP_f v]
              exact nx σ1 a2 (fun x => by rcases x.2 with y | y; exact no y; exact v y.2)
          · rw [if_pos (tf_f l)]
            exact nx σ1 a2 (fun x => by rcases x.2 with y | y; exact no y; exact l y.1)
        by_cases M : mM (cV c i) (cV c (i + 1)) (cV d j) (cV d (j + 1))
        · rw [if_neg (fun z => (tf_0.mp z) M), m_isEndAt S1 F S1 F T1 G hi q, bd]
          by_cases u : atT c (cV c i) (cV c (i + 1)) (cV d j) (cV d (j + 1))
          · rw [if_neg (fun z => (tf_0.mp z) u), w9]
            exact lin (fun y => y.2.1 u)
          · rw [if_pos (tf_f u), m_isEndAt T1 G S1 F T1 G hi q, bd]
            by_cases v : atT d (cV c i) (cV c (i + 1)) (cV d j) (cV d (j + 1))
            · rw [if_neg (fun z => (tf_0.mp z) v), w9]
              exact lin (fun y => y.2.2 v)
            · rw [if_pos (tf_f v), yes ⟨m, Or.inl ⟨M, u, v⟩⟩]
              exact ⟨σ1, a2, rfl⟩
        · rw [if_pos (tf_f M)]
          exact lin (fun y => M y.1)
      · rw [if_pos (tf_f m), b_X14_crossInside_137, nI_s]
        exact nx σ FrW.refl (fun x => m x.1)
    · rw [if_pos ((nI_e' (by omega) (by omega)).mpr (by omega))]
      obtain ⟨σ', h1, h2⟩ := hK σ FrW.refl
      refine ⟨σ', h1, h2.trans ?_⟩
      congr 2
      exact tf_c ⟨fun y => Or.inr y, fun y => by rcases y with ⟨k, a, b, _⟩ | y; omega; exact y⟩
set_option maxHeartbeats 200000 in
theorem l_cr2 {n : Nat} {a b : Nat} {c d : Ct} (F : WF c) (G : WF d) : ∀ f i (σ : xσ), 40 - i < f → i ≤ 40 → MH σ a c → MH σ b d → ∃ σ', FrW σ σ' ∧ l_X14_crossInside_2 n f a b (nI i) σ = some (tf (∃ i' k, i ≤ i' ∧ i' + 1 < cN c ∧ k + 1 < cN d ∧ XIp c d i' k), σ') := by
  have hN := F.n
  have hM := G.n
  intro f
  induction f with
  | zero => intro i σ h; omega
  | succ f ih =>
    intro i σ h hi S T
    rw [l_X14_crossInside_2, S.N, nI_s]
    by_cases q : i + 1 < cN c
    · rw [if_neg (fun y => by have := (nI_e' (by omega) (by omega)).mp y; omega)]
      obtain ⟨σ', h1, h2⟩ := l_cr15 (n := n) F G q (l_X14_crossInside_2 n f) (∃ i' k, i + 1 ≤ i' ∧ i' + 1 < cN c ∧ k + 1 < cN d ∧ XIp c d i' k) xFU 0 σ (xFU_lt (by omega)) (by omega) S T (fun σ1 f1 => ih (i + 1) σ1 (by omega) (by omega) (S.w f1) (T.w f1))
      rw [show nI 0 = 0 from rfl] at h2
      refine ⟨σ', h1, h2.trans ?_⟩
      congr 2
      refine tf_c ⟨fun y => ?_, fun ⟨i', k, a, b, x, y⟩ => ?_⟩
      · rcases y with ⟨k, _, b, x⟩ | ⟨i', k, a, b⟩
        · exact ⟨i, k, Nat.le_refl i, q, b, x⟩
        · exact ⟨i', k, by omega, b⟩
      · by_cases z : i' = i
        · subst z; exact Or.inl ⟨k, by omega, x, y⟩
        · exact Or.inr ⟨i', k, by omega, b, x, y⟩
    · rw [if_pos ((nI_e' (by omega) (by omega)).mpr (by omega)), tf_f (fun ⟨i', k, a, b, _⟩ => by omega)]
      exact ⟨σ, FrW.refl, rfl⟩
set_option maxHeartbeats 200000 in
theorem m_crossInside {n : Nat} {σ : xσ} {a b : Nat} {c d : Ct} (S : MH σ a c) (F : WF c) (T : MH σ b d) (G : WF d) : ∃ σ', FrW σ σ' ∧ f_X14_crossInside n a b σ = some (tf (XI c d), σ') := by
  have hN := F.n
  obtain ⟨σ', h1, h2⟩ := l_cr2 (n := n) F G xFU 0 σ (xFU_lt (by omega)) (by omega) S T
  rw [show nI 0 = 0 from rfl] at h2
  refine ⟨σ', h1, ?_⟩
  rw [f_X14_crossInside, gd_pos S.1, gd_pos T.1, h2]
  congr 2
  exact tf_c ⟨fun ⟨i, k, _, x⟩ => ⟨i, k, x⟩, fun ⟨i, k, x⟩ => ⟨i, k, by omega, x⟩⟩

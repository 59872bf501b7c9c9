/-! THE REFERENCE: lookRound, all ways -/
set_option maxHeartbeats 200000 in
theorem look_par {P Q A B : V2} {p D : Int} (hD : 0 < D) (hAB : A ≠ B) (h : kM P Q A B = 0) (h2 : ¬ crs (sub2 Q P) (sub2 A P) = 0) : ¬ on0 (sn P Q A p D) (sn P Q B p D) := by
  intro ho
  have c1 : crs (sn P Q A p D) (sn P Q B p D) = D * (D * crs (sub2 A P) (sub2 B A) - p * kM P Q A B) := by
    unfold sn pq kM sub2 crs; grind
  have h1 := ho.1
  rw [c1, h, Int.mul_zero, Int.sub_zero] at h1
  have h3 : crs (sub2 A P) (sub2 B A) = 0 := by
    rcases Int.mul_eq_zero.mp h1 with z | z
    · omega
    · rcases Int.mul_eq_zero.mp z with y | y
      · omega
      · exact y
  have nf : nz (sub2 B A) := nz_sub hAB
  unfold kM at h
  generalize sub2 Q P = s at *
  generalize sub2 A P = w at *
  generalize sub2 B A = f at *
  have e : crs s w * dt f f = crs s f * dt w f + dt s f * crs f w := by unfold crs dt; grind
  have e2 : crs f w = 0 := by rw [crs_sw, h3]; rfl
  rw [h, e2] at e
  have e3 : crs s w * dt f f = 0 := by rw [e]; simp
  rcases Int.mul_eq_zero.mp e3 with z | z
  · exact h2 z
  · have := dt_pos nf; omega
def HHj (d : Ct) (lf : Nat → Bool) (P Q : V2) (p D : Int) (j : Nat) (g : V2) (l : Bool) : Prop := ∃ e, e < j ∧ wy d e ∧ oneH d lf e (foH P Q (cV d e) (cV d (e + 1)) p D) (baH P Q (cV d e) (cV d (e + 1)) p D) g l
def HH (d : Ct) (lf : Nat → Bool) (P Q : V2) (p D : Int) (g : V2) (l : Bool) : Prop := ∃ e, wy d e ∧ oneH d lf e (foH P Q (cV d e) (cV d (e + 1)) p D) (baH P Q (cV d e) (cV d (e + 1)) p D) g l
set_option maxHeartbeats 200000 in
theorem whl_b {P Q : V2} (hP : bV P) (hQ : bV Q) : whl P Q ≤ 2147483646 := by
  unfold whl
  have h1 := b31.s hQ.1 hP.1
  have h2 := b31.s hQ.2 hP.2
  unfold b31 at h1 h2
  by_cases q : P.1 = Q.1
  · rw [fX_v q, fX_v q]; split <;> omega
  · rw [fX_h q, fX_h q]; split <;> omega
set_option maxHeartbeats 200000 in
theorem pos_b {P Q X : V2} (hP : bV P) (hX : bV X) : -2147483646 ≤ pos P Q X ∧ pos P Q X ≤ 2147483646 := by
  unfold pos
  have h1 := b31.s hX.1 hP.1
  have h2 := b31.s hX.2 hP.2
  unfold b31 at h1 h2
  by_cases q : P.1 = Q.1
  · rw [fX_v q, fX_v q, fX_v q]; split <;> omega
  · rw [fX_h q, fX_h q, fX_h q]; split <;> omega
set_option maxHeartbeats 200000 in
theorem m_b {P Q A B : V2} (hP : bV P) (hQ : bV Q) (hA : bV A) (hB : bV B) (hPQ : P ≠ Q) : (0 < mW P Q A B ∧ mW P Q A B < 9223372036854775808) ∧ R64 (mP P Q A B) ∧ R64 (mO P Q A B) := by
  have h1 := whl_pos hPQ
  have h2 := whl_b hP hQ
  have h3 := pos_b (Q := Q) hP hA
  have h4 := pos_b (Q := Q) hP hB
  have r1 : R64 (kM P Q A B) := crs_r2 hQ hP hB hA rfl rfl
  have r2 : R64 (-kM P Q A B) := R64n hP hQ hA hB
  have r3 : R64 (crs (sub2 A P) (sub2 B A)) := crs_r2 hA hP hB hA rfl rfl
  have r4 : R64 (-crs (sub2 A P) (sub2 B A)) := R64n hP hA hA hB
  have r5 : R64 (crs (sub2 A P) (sub2 Q P)) := crs_r2 hA hP hQ hP rfl rfl
  have r6 : R64 (-crs (sub2 A P) (sub2 Q P)) := R64n hP hA hP hQ
  unfold mW mP mO
  refine ⟨?_, ?_, ?_⟩
  · split
    · omega
    · split <;> omega
  · split
    · constructor <;> omega
    · split
      · exact r4
      · exact r3
  · split
    · constructor <;> omega
    · split
      · exact r6
      · exact r5
set_option maxHeartbeats 200000 in
theorem l_look {n : Nat} {a b : Nat} {c d : Ct} (F : WF c) (G : WF d) {i : Nat} (hi : i + 1 < cN c) (hPQ : cV c i ≠ cV c (i + 1)) (hd : ∀ e, wy d e → cV d e ≠ cV d (e + 1)) {lf : Nat → Bool} {p D : Int} (hp : 0 ≤ p ∧ p < D) (hD : D < 9223372036854775808) : ∀ (fu j : Nat) (σ : xσ), cN d - j < fu → j ≤ 40 → MH σ a c → MH σ b d → LF σ d lf → LK σ (sub2 (cV c (i + 1)) (cV c i)) (HHj d lf (cV c i) (cV c (i + 1)) p D j) →
    ∃ σ', l_X14_lookRound_56 n fu a (nI i) b (jJ p) (jJ D) (jJ (sub2 (cV c (i + 1)) (cV c i)).1) (jJ (sub2 (cV c (i + 1)) (cV c i)).2) (nI j) σ = some ((), σ') ∧ FrL σ σ' ∧ LK σ' (sub2 (cV c (i + 1)) (cV c i)) (HH d lf (cV c i) (cV c (i + 1)) p D) := by
  have hN := F.n
  have hM := G.n
  have bP := F.b (show i < cN c by omega)
  have bQ := F.b hi
  have s1 : b31 (sub2 (cV c (i + 1)) (cV c i)).1 := b31.s bQ.1 bP.1
  have s2 : b31 (sub2 (cV c (i + 1)) (cV c i)).2 := b31.s bQ.2 bP.2
  have hs := nz_sub hPQ
  intro fu
  induction fu with
  | zero => intro j σ h; omega
  | succ fu ih =>
    intro j σ hf hj S T hl L
    rw [l_X14_lookRound_56, T.N, nI_s]
    by_cases q0 : cN d ≤ j + 1
    · rw [if_pos ((nI_e' (by omega) (by omega)).mpr q0)]
      refine ⟨σ, rfl, FrL.refl, L.cg (fun g l => ⟨fun ⟨e, e1, e2⟩ => ⟨e, e2⟩, fun ⟨e, e2⟩ => ⟨e, by have := e2.1.2.1; omega, e2⟩⟩)⟩
    · rw [if_neg (fun z => q0 ((nI_e' (by omega) (by omega)).mp z)), m_isWay T G (show j < 40 by omega), bd]
      by_cases q1 : wy d j
      · rw [if_neg (tn q1)]
        have hj' : j + 1 < cN d := by omega
        have bA := G.b (show j < cN d by omega)
        have bB := G.b hj'
        have hAB := hd j q1
        obtain ⟨σ1, a1, a2, a3⟩ := m_meetWays (n := n) S F T G hi hj'
        rw [a1, bd]
        obtain ⟨m1, m2, m3, m4, m5⟩ := a3
        rw [m4, m5]
        obtain ⟨kW, kP, kO⟩ := m_b bP bQ bA bB hPQ
        have L1 := L.fw a2
        have T1 := T.l a2.L
        have S1 := S.l a2.L
        have hl1 := hl.l a2.L
        -- the way done, with its two flags
        have fin : ∀ (σ2 : xσ) (fo ba : Prop), FrL σ σ2 → MH σ2 a c → MH σ2 b d → LF σ2 d lf → LK σ2 (sub2 (cV c (i + 1)) (cV c i)) (HHj d lf (cV c i) (cV c (i + 1)) p D j) → (fo ↔ foH (cV c i) (cV c (i + 1)) (cV d j) (cV d (j + 1)) p D) → (ba ↔ baH (cV c i) (cV c (i + 1)) (cV d j) (cV d (j + 1)) p D) →
            ∃ σ', b_X14_lookRound_444 n (l_X14_lookRound_56 n fu) a (nI i) b (jJ p) (jJ D) (jJ (sub2 (cV c (i + 1)) (cV c i)).1) (jJ (sub2 (cV c (i + 1)) (cV c i)).2) (nI j) (tf fo) (tf ba) σ2 = some ((), σ') ∧ FrL σ σ' ∧ LK σ' (sub2 (cV c (i + 1)) (cV c i)) (HH d lf (cV c i) (cV c (i + 1)) p D) := by
          intro σ2 fo ba f2 S2 T2 hl2 L2 ifo iba
          obtain ⟨σ3, c1, c2, c3⟩ := m_444 (n := n) (a1 := a) (x2 := nI i) (l4 := jJ p) (l6 := jJ D) T2 G hs s1 s2 hj' hl2 L2 fo ba (l_X14_lookRound_56 n fu)
          rw [c1]
          obtain ⟨σ4, d1, d2, d3⟩ := ih (j + 1) σ3 (by omega) (by omega) (S2.l c2) (T2.l c2) (hl2.l c2) (c3.cg (fun g l => by
            rw [propext ifo, propext iba]
            constructor
            · rintro (⟨e, e1, e2⟩ | h)
              · exact ⟨e, by omega, e2⟩
              · exact ⟨j, by omega, q1, h⟩
            · rintro ⟨e, e1, e2, e3⟩
              by_cases z : e = j
              · subst z; exact Or.inr e3
              · exact Or.inl ⟨e, by omega, e2, e3⟩))
          exact ⟨σ4, d1, (f2.trans c2).trans d2, d3⟩
        by_cases q2 : inL (cV c i) (cV c (i + 1)) (cV d j) (cV d (j + 1))
        · -- in line
          rw [if_neg (tn q2), m2, m3]
          obtain ⟨k1, k2, k3⟩ := look_in (p := p) (D := D) hPQ q2
          generalize mW (cV c i) (cV c (i + 1)) (cV d j) (cV d (j + 1)) = W at *
          generalize mP (cV c i) (cV c (i + 1)) (cV d j) (cV d (j + 1)) = x at *
          generalize mO (cV c i) (cV c (i + 1)) (cV d j) (cV d (j + 1)) = y at *
          simp only [lc_gt kP kO]
          have ifo : ((D * x - p * W) * (D * y - p * W) ≤ 0 ∧ D * y ≠ p * W) ↔ foH (cV c i) (cV c (i + 1)) (cV d j) (cV d (j + 1)) p D := by
            unfold foH
            rw [k1]
            exact and_congr Iff.rfl (not_congr k3.symm)
          have iba : ((D * x - p * W) * (D * y - p * W) ≤ 0 ∧ D * x ≠ p * W) ↔ baH (cV c i) (cV c (i + 1)) (cV d j) (cV d (j + 1)) p D := by
            unfold baH
            rw [k1]
            exact and_congr Iff.rfl (not_congr k2.symm)
          have go : ∀ z : Int, z = min x y → ∃ σ', bd (f_X14_compare_ n (lmax (jJ z) 0) (sJ σ1 233 10) (jJ p) (jJ D) σ1) (fun v155 σ156 => b_X14_lookRound_156 n (l_X14_lookRound_56 n fu) a (nI i) b (jJ p) (jJ D) (jJ (sub2 (cV c (i + 1)) (cV c i)).1) (jJ (sub2 (cV c (i + 1)) (cV c i)).2) (nI j) v155 σ156) = some ((), σ') ∧ FrL σ σ' ∧ LK σ' (sub2 (cV c (i + 1)) (cV c i)) (HH d lf (cV c i) (cV c (i + 1)) p D) := by
            intro z hz
            have rz : R64 z := by constructor <;> omega
            rw [lj0, lmax_j rz (by decide), m1]
            obtain ⟨v, σ2, w1, w2, w3, w4, w5⟩ := m_cmpJ (n := n) (σ := σ1) (a := max z 0) (b := W) (c := p) (d := D) ⟨by omega, by omega⟩ ⟨by omega, kW.2⟩ ⟨hp.1, by omega⟩ ⟨by omega, hD⟩
            rw [w1, bd]
            have k233 : ∀ k, sJ σ2 233 k = sJ σ1 233 k := fun k => (w2 233 (by unfold A47; omega) k).2.1
            obtain ⟨σ3, u1, u2⟩ := m_156 (n := n) (σ := σ2) (a1 := a) (b := b) (x2 := nI i) (x12 := nI j) (v := v) (l8 := jJ (sub2 (cV c (i + 1)) (cV c i)).1) (l10 := jJ (sub2 (cV c (i + 1)) (cV c i)).2) (l_X14_lookRound_56 n fu) ((k233 10).trans m1) ((k233 11).trans m2) ((k233 12).trans m3) kP kO kW hp hD (by rw [← hz]; exact w5) (by rw [← hz]; exact w4)
            rw [u1]
            have f47 := w2.trans u2
            exact fin σ3 _ _ (a2.L.trans (Fr47.L f47)) (S1.l (Fr47.L f47)) (T1.l (Fr47.L f47)) (hl1.l (Fr47.L f47)) (L1.f47 f47) ifo iba
          by_cases q3 : y < x
          · rw [if_pos q3]; exact go y (by omega)
          · rw [if_neg q3]; exact go x (by omega)
        · rw [if_pos (tf_f q2)]
          have none' : ¬ on0 (sn (cV c i) (cV c (i + 1)) (cV d j) p D) (sn (cV c i) (cV c (i + 1)) (cV d (j + 1)) p D) → (False ↔ foH (cV c i) (cV c (i + 1)) (cV d j) (cV d (j + 1)) p D) ∧ (False ↔ baH (cV c i) (cV c (i + 1)) (cV d j) (cV d (j + 1)) p D) := fun h => ⟨⟨fun z => z.elim, fun z => h z.1⟩, ⟨fun z => z.elim, fun z => h z.1⟩⟩
          by_cases q3 : mM (cV c i) (cV c (i + 1)) (cV d j) (cV d (j + 1))
          · rw [if_neg (tn q3), m1, m2]
            obtain ⟨k1, k2⟩ := look_met hp.1 hp.2 q3.1
            obtain ⟨v, σ2, w1, w2, w3, w4, w5⟩ := m_cmpJ (n := n) (σ := σ1) (a := mP (cV c i) (cV c (i + 1)) (cV d j) (cV d (j + 1))) (b := mW (cV c i) (cV c (i + 1)) (cV d j) (cV d (j + 1))) (c := p) (d := D) ⟨q3.2.1, by have := q3.2.2.1; omega⟩ ⟨by omega, kW.2⟩ ⟨hp.1, by omega⟩ ⟨by omega, hD⟩
            rw [w1, bd]
            have k233 : ∀ k, sJ σ2 233 k = sJ σ1 233 k := fun k => (w2 233 (by unfold A47; omega) k).2.1
            have f2 := a2.L.trans (Fr47.L w2)
            have fin2 := fun fo ba => fin σ2 fo ba f2 (S1.l (Fr47.L w2)) (T1.l (Fr47.L w2)) (hl1.l (Fr47.L w2)) (L1.f47 w2)
            rw [Int.mul_comm] at w4
            by_cases q4 : v = 0
            · rw [if_pos q4, k233 12, k233 10, m3, m1]
              have ho := k1.mpr ⟨q3, w4.mp q4⟩
              obtain ⟨z1, z2⟩ := k2 ho
              obtain ⟨q30, q31, q32, q33, q34⟩ := q3
              simp only [lc_ge kO (show R64 (mW (cV c i) (cV c (i + 1)) (cV d j) (cV d (j + 1))) by constructor <;> omega)]
              have ifo : (mO (cV c i) (cV c (i + 1)) (cV d j) (cV d (j + 1)) < mW (cV c i) (cV c (i + 1)) (cV d j) (cV d (j + 1))) ↔ foH (cV c i) (cV c (i + 1)) (cV d j) (cV d (j + 1)) p D := ⟨fun z => ⟨ho, fun y => by have := z2.mp y; omega⟩, fun z => by
                have : ¬ mO (cV c i) (cV c (i + 1)) (cV d j) (cV d (j + 1)) = mW (cV c i) (cV c (i + 1)) (cV d j) (cV d (j + 1)) := fun y => z.2 (z2.mpr y)
                omega⟩
              have iba : (0 < mO (cV c i) (cV c (i + 1)) (cV d j) (cV d (j + 1))) ↔ baH (cV c i) (cV c (i + 1)) (cV d j) (cV d (j + 1)) p D := ⟨fun z => ⟨ho, fun y => by have := z1.mp y; omega⟩, fun z => by
                have : ¬ mO (cV c i) (cV c (i + 1)) (cV d j) (cV d (j + 1)) = 0 := fun y => z.2 (z1.mpr y)
                omega⟩
              have e426 : ∀ fo : Prop, b_X14_lookRound_426 n (l_X14_lookRound_56 n fu) a (nI i) b (jJ p) (jJ D) (jJ (sub2 (cV c (i + 1)) (cV c i)).1) (jJ (sub2 (cV c (i + 1)) (cV c i)).2) (nI j) (tf fo) σ2 = b_X14_lookRound_444 n (l_X14_lookRound_56 n fu) a (nI i) b (jJ p) (jJ D) (jJ (sub2 (cV c (i + 1)) (cV c i)).1) (jJ (sub2 (cV c (i + 1)) (cV c i)).2) (nI j) (tf fo) (tf (0 < mO (cV c i) (cV c (i + 1)) (cV d j) (cV d (j + 1)))) σ2 := by
                intro fo
                rw [b_X14_lookRound_426, k233 12, m3]
                simp only [lz_le kO, b_X14_lookRound_442]
                by_cases y : mO (cV c i) (cV c (i + 1)) (cV d j) (cV d (j + 1)) ≤ 0
                · rw [if_pos y, tf_f (p := 0 < mO (cV c i) (cV c (i + 1)) (cV d j) (cV d (j + 1))) (by omega)]
                · rw [if_neg y, tf_t (p := 0 < mO (cV c i) (cV c (i + 1)) (cV d j) (cV d (j + 1))) (by omega)]
              by_cases q5 : mW (cV c i) (cV c (i + 1)) (cV d j) (cV d (j + 1)) ≤ mO (cV c i) (cV c (i + 1)) (cV d j) (cV d (j + 1))
              · rw [if_pos q5, show (0 : Int32) = tf (mO (cV c i) (cV c (i + 1)) (cV d j) (cV d (j + 1)) < mW (cV c i) (cV c (i + 1)) (cV d j) (cV d (j + 1))) from (tf_f (by omega)).symm, e426]
                exact fin2 _ _ ifo iba
              · rw [if_neg q5, show (1 : Int32) = tf (mO (cV c i) (cV c (i + 1)) (cV d j) (cV d (j + 1)) < mW (cV c i) (cV c (i + 1)) (cV d j) (cV d (j + 1))) from (tf_t (by omega)).symm, e426]
                exact fin2 _ _ ifo iba
            · rw [if_neg q4]
              obtain ⟨n1, n2⟩ := none' (fun z => q4 (w4.mpr (k1.mp z).2))
              have := fin2 False False n1 n2
              rw [tf_f id, b_X14_lookRound_444, nI_s] at this
              exact this
          · rw [if_pos (tf_f q3)]
            obtain ⟨n1, n2⟩ := none' (fun z => by
              by_cases y : kM (cV c i) (cV c (i + 1)) (cV d j) (cV d (j + 1)) = 0
              · exact look_par (by omega) hAB y (fun x => q2 ⟨y, x⟩) z
              · exact q3 ((look_met hp.1 hp.2 y).1.mp z).1)
            have := fin σ1 False False a2.L S1 T1 hl1 L1 n1 n2
            rw [tf_f id, b_X14_lookRound_444, nI_s] at this
            exact this
      · rw [if_pos (tf_f q1), b_X14_lookRound_563, nI_s]
        obtain ⟨σ4, d1, d2, d3⟩ := ih (j + 1) σ (by omega) (by omega) S T hl (L.cg (fun g l => ⟨fun ⟨e, e1, e2⟩ => ⟨e, by omega, e2⟩, fun ⟨e, e1, e2⟩ => ⟨e, by
          have : e ≠ j := fun z => q1 (z ▸ e2.1)
          omega, e2⟩⟩))
        exact ⟨σ4, d1, d2, d3⟩
set_option maxHeartbeats 200000 in
theorem m_lookRound {n : Nat} {σ : xσ} {a b : Nat} {c d : Ct} (S : MH σ a c) (F : WF c) (T : MH σ b d) (G : WF d) {i : Nat} (hi : i + 1 < cN c) (hPQ : cV c i ≠ cV c (i + 1)) (hd : ∀ e, wy d e → cV d e ≠ cV d (e + 1)) {lf : Nat → Bool} (hl : LF σ d lf) {p D : Int} (hp : 0 ≤ p ∧ p < D) (hD : D < 9223372036854775808) :
    ∃ σ', f_X14_lookRound n a (nI i) b (jJ p) (jJ D) σ = some ((), σ') ∧ FrL σ σ' ∧ LK σ' (sub2 (cV c (i + 1)) (cV c i)) (HH d lf (cV c i) (cV c (i + 1)) p D) := by
  have hN := F.n
  have bP := F.b (show i < cN c by omega)
  have bQ := F.b hi
  have x1 := bP.1.r
  have y1 := bP.2.r
  have x2 := bQ.1.r
  have y2 := bQ.2.r
  rw [f_X14_lookRound, gd_pos S.1, gd_pos T.1]
  simp only [st]
  have f1 : FrL σ (wI (wI (wI σ 233 16 0) 233 17 0) 233 19 3) := ((FrL.w (by omega)).trans (FrL.w (by omega))).trans (FrL.w (by omega))
  have k16 : sI (wI (wI (wI σ 233 16 0) 233 17 0) 233 19 3) 233 16 = 0 := by rw [sI_wI, if_neg (by omega), sI_wI, if_neg (by omega), sI_wI, if_pos ⟨rfl, rfl⟩]
  have k17 : sI (wI (wI (wI σ 233 16 0) 233 17 0) 233 19 3) 233 17 = 0 := by rw [sI_wI, if_neg (by omega), sI_wI, if_pos ⟨rfl, rfl⟩]
  have k19 : sI (wI (wI (wI σ 233 16 0) 233 17 0) 233 19 3) 233 19 = 3 := by rw [sI_wI, if_pos ⟨rfl, rfl⟩]
  generalize wI (wI (wI σ 233 16 0) 233 17 0) 233 19 3 = σ1 at *
  have S1 := S.l f1
  simp (disch := omega) only [gd_in, nI_k, nI_s, S1.X, S1.Y]
  simp (disch := assumption) only [iI_64]
  simp only [jJ_sub]
  have no : ∀ g l, ¬ HHj d lf (cV c i) (cV c (i + 1)) p D 0 g l := fun g l ⟨e, e1, _⟩ => by omega
  obtain ⟨σ', a1, a2, a3⟩ := l_look (n := n) (a := a) (b := b) F G hi hPQ hd hp hD xFU 0 σ1 (xFU_lt (by have := G.n; omega)) (by omega) S1 (T.l f1) (hl.l f1) ⟨by rw [k16, tf_f (fun ⟨g, l, h⟩ => no g l h)], by rw [k17, tf_f (fun ⟨g, l, h, _⟩ => no g l h)], fun ⟨g, l, h, _⟩ => (no g l h).elim, fun _ => k19, fun ⟨g, l, h, _⟩ => (no g l h).elim⟩
  exact ⟨σ', a1, f1.trans a2, a3⟩

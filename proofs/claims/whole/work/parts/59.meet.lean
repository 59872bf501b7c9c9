/-! THE REFERENCE: two ways -/
def kM (P Q A B : V2) : Int := crs (sub2 Q P) (sub2 B A)
def inL (P Q A B : V2) : Prop := kM P Q A B = 0 ∧ crs (sub2 Q P) (sub2 A P) = 0
def mW (P Q A B : V2) : Int := if kM P Q A B = 0 then whl P Q else if kM P Q A B < 0 then -kM P Q A B else kM P Q A B
def mP (P Q A B : V2) : Int := if kM P Q A B = 0 then pos P Q A else if kM P Q A B < 0 then -crs (sub2 A P) (sub2 B A) else crs (sub2 A P) (sub2 B A)
def mO (P Q A B : V2) : Int := if kM P Q A B = 0 then pos P Q B else if kM P Q A B < 0 then -crs (sub2 A P) (sub2 Q P) else crs (sub2 A P) (sub2 Q P)
def mM (P Q A B : V2) : Prop := kM P Q A B ≠ 0 ∧ 0 ≤ mP P Q A B ∧ mP P Q A B ≤ mW P Q A B ∧ 0 ≤ mO P Q A B ∧ mO P Q A B ≤ mW P Q A B
/-- what meetWays leaves as it was -/
def FrW (σ σ' : xσ) : Prop := Fr (· = 233) σ σ' ∧ (∀ k, k ≠ 8 → k ≠ 9 → sI σ' 233 k = sI σ 233 k) ∧ (∀ k, k ≠ 10 → k ≠ 11 → k ≠ 12 → sJ σ' 233 k = sJ σ 233 k)
set_option maxHeartbeats 200000 in
theorem FrW.refl {σ : xσ} : FrW σ σ := ⟨Fr.refl, fun _ _ _ => rfl, fun _ _ _ _ => rfl⟩
set_option maxHeartbeats 200000 in
theorem FrW.trans {σ1 σ2 σ3 : xσ} (h : FrW σ1 σ2) (k : FrW σ2 σ3) : FrW σ1 σ3 := ⟨h.1.trans k.1, fun j a b => (k.2.1 j a b).trans (h.2.1 j a b), fun j a b c => (k.2.2 j a b c).trans (h.2.2 j a b c)⟩
set_option maxHeartbeats 200000 in
theorem FrW.wI {σ : xσ} {k : Nat} {v : Int32} (h : k = 8 ∨ k = 9) : FrW σ (wI σ 233 k v) := ⟨Fr.wI rfl, fun j a b => by rw [sI_wI, if_neg (by omega)], fun _ _ _ _ => rfl⟩
set_option maxHeartbeats 200000 in
theorem FrW.wJ {σ : xσ} {k : Nat} {v : Int64} (h : k = 10 ∨ k = 11 ∨ k = 12) : FrW σ (wJ σ 233 k v) := ⟨Fr.wJ rfl, fun _ _ _ => rfl, fun j a b c => by rw [sJ_wJ, if_neg (by omega)]⟩
set_option maxHeartbeats 200000 in
theorem MH.a233 {σ σ' : xσ} {a : Nat} {c : Ct} (S : MH σ a c) (f : Fr (· = 233) σ σ') : MH σ' a c := S.fr f (by
  have := S.1
  unfold okM at this
  intro j hj h
  omega)
def MV (σ : xσ) (W p o : Int) (I M : Prop) : Prop := sJ σ 233 10 = jJ W ∧ sJ σ 233 11 = jJ p ∧ sJ σ 233 12 = jJ o ∧ sI σ 233 9 = tf I ∧ (I → sI σ 233 8 = tf M)
def MW (σ : xσ) (W p o : Int) (I M : Prop) : Prop := sJ σ 233 10 = jJ W ∧ sJ σ 233 11 = jJ p ∧ sJ σ 233 12 = jJ o ∧ sI σ 233 9 = tf I ∧ sI σ 233 8 = tf M
set_option maxHeartbeats 200000 in
theorem e_307 {n : Nat} {σ : xσ} {W p o s1 s2 f1 f2 : Int} {I M : Prop} (h : MV σ W p o I M) (rW : R64 W) (rp : R64 p) (ro : R64 o) (rk : R64 (s1 * f2 - s2 * f1)) : ∃ σ', b_X14_meetWays_307 n (jJ s1) (jJ s2) (jJ f1) (jJ f2) σ = some ((), σ') ∧ FrW σ σ' ∧ MW σ' W p o I ((I ∧ M) ∨ (¬ I ∧ s1 * f2 - s2 * f1 ≠ 0 ∧ 0 ≤ p ∧ p ≤ W ∧ 0 ≤ o ∧ o ≤ W)) := by
  obtain ⟨h1, h2, h3, h4, h5⟩ := h
  have g0 : ∀ {α : Type} (x : Option α), gd ((0 : Int32) = 0 ∨ (0 : Int32) = 1) x = x := fun x => gd_pos (Or.inl rfl) x
  have g1 : ∀ {α : Type} (x : Option α), gd ((1 : Int32) = 0 ∨ (1 : Int32) = 1) x = x := fun x => gd_pos (Or.inr rfl) x
  rw [b_X14_meetWays_307, h4]
  by_cases q : I
  · rw [if_neg (tn q)]
    exact ⟨σ, rfl, FrW.refl, h1, h2, h3, h4, by rw [h5 q]; exact tf_c ⟨fun m => Or.inl ⟨q, m⟩, fun m => m.elim (fun z => z.2) (fun z => (z.1 q).elim)⟩⟩
  · rw [if_pos (tf_f q), m_cross, bd, h1, h2, h3]
    simp only [lz_eq rk, lz_lt rp, lz_lt ro, lc_gt rp rW, lc_gt ro rW, b_X14_meetWays_378, g0, g1, st]
    have put : ∀ (v : Int32) (N : Prop), v = tf N → MW (wI σ 233 8 v) W p o I N := by
      intro v N hv
      refine ⟨h1, h2, h3, ?_, ?_⟩
      · rw [sI_wI, if_neg (by omega)]; exact h4
      · rw [sI_wI, if_pos ⟨rfl, rfl⟩, hv]
    have no : ¬ (s1 * f2 - s2 * f1 ≠ 0 ∧ 0 ≤ p ∧ p ≤ W ∧ 0 ≤ o ∧ o ≤ W) → ∃ σ', some ((), wI σ 233 8 0) = some ((), σ') ∧ FrW σ σ' ∧ MW σ' W p o I ((I ∧ M) ∨ (¬ I ∧ s1 * f2 - s2 * f1 ≠ 0 ∧ 0 ≤ p ∧ p ≤ W ∧ 0 ≤ o ∧ o ≤ W)) := by
      intro hn
      exact ⟨_, rfl, FrW.wI (Or.inl rfl), put 0 _ (tf_f (fun z => z.elim (fun y => q y.1) (fun y => hn y.2))).symm⟩
    by_cases q1 : s1 * f2 - s2 * f1 = 0
    · rw [if_pos q1]; exact no (fun z => z.1 q1)
    · rw [if_neg q1]
      by_cases q2 : p < 0
      · rw [if_pos q2]; exact no (fun z => by omega)
      · rw [if_neg q2]
        by_cases q3 : W < p
        · rw [if_pos q3]; exact no (fun z => by omega)
        · rw [if_neg q3]
          by_cases q4 : o < 0
          · rw [if_pos q4]; exact no (fun z => by omega)
          · rw [if_neg q4]
            by_cases q5 : W < o
            · rw [if_pos q5]; exact no (fun z => by omega)
            · rw [if_neg q5]
              exact ⟨_, rfl, FrW.wI (Or.inl rfl), put 1 _ (tf_t (Or.inr ⟨q, q1, by omega, by omega, by omega, by omega⟩)).symm⟩
def ngi (W x : Int) : Int := if W < 0 then -x else x
set_option maxHeartbeats 200000 in
theorem e_271 {n : Nat} {σ : xσ} {W p o s1 s2 f1 f2 : Int} {I M : Prop} (h : MV σ W p o I M) (rW : R64 W) (rp : R64 p) (ro : R64 o) (rW' : R64 (-W)) (rp' : R64 (-p)) (ro' : R64 (-o)) (rk : R64 (s1 * f2 - s2 * f1)) : ∃ σ', b_X14_meetWays_271 n (jJ s1) (jJ s2) (jJ f1) (jJ f2) σ = some ((), σ') ∧ FrW σ σ' ∧ MW σ' (ngi W W) (ngi W p) (ngi W o) I ((I ∧ M) ∨ (¬ I ∧ s1 * f2 - s2 * f1 ≠ 0 ∧ 0 ≤ ngi W p ∧ ngi W p ≤ ngi W W ∧ 0 ≤ ngi W o ∧ ngi W o ≤ ngi W W)) := by
  have hh := h
  obtain ⟨h1, h2, h3, h4, h5⟩ := h
  rw [b_X14_meetWays_271, h1]
  simp only [lz_ge rW]
  unfold ngi
  by_cases q : W < 0
  · rw [if_neg (by omega)]
    simp only [if_pos q, st]
    rw [jJ_neg]
    have e2 : sJ (wJ σ 233 10 (jJ (-W))) 233 11 = jJ p := by rw [sJ_wJ, if_neg (by omega)]; exact h2
    rw [e2, jJ_neg]
    have e3 : sJ (wJ (wJ σ 233 10 (jJ (-W))) 233 11 (jJ (-p))) 233 12 = jJ o := by rw [sJ_wJ, if_neg (by omega), sJ_wJ, if_neg (by omega)]; exact h3
    rw [e3, jJ_neg]
    obtain ⟨σ', a1, a2, a3⟩ := e_307 (n := n) (σ := wJ (wJ (wJ σ 233 10 (jJ (-W))) 233 11 (jJ (-p))) 233 12 (jJ (-o))) (W := -W) (p := -p) (o := -o) (s1 := s1) (s2 := s2) (f1 := f1) (f2 := f2) (I := I) (M := M) ⟨by rw [sJ_wJ, if_neg (by omega), sJ_wJ, if_neg (by omega), sJ_wJ, if_pos ⟨rfl, rfl⟩], by rw [sJ_wJ, if_neg (by omega), sJ_wJ, if_pos ⟨rfl, rfl⟩], by rw [sJ_wJ, if_pos ⟨rfl, rfl⟩], h4, h5⟩ rW' rp' ro' rk
    exact ⟨σ', a1, (((FrW.wJ (Or.inl rfl)).trans (FrW.wJ (Or.inr (Or.inl rfl)))).trans (FrW.wJ (Or.inr (Or.inr rfl)))).trans a2, a3⟩
  · rw [if_pos (by omega)]
    simp only [if_neg q]
    have := e_307 (n := n) hh rW rp ro rk
    rw [b_X14_meetWays_307] at this
    exact this
set_option maxHeartbeats 200000 in
theorem R64n {P Q A B : V2} (hP : bV P) (hQ : bV Q) (hA : bV A) (hB : bV B) : R64 (-crs (sub2 Q P) (sub2 B A)) := by
  have := crs_r2 hQ hP hA hB rfl rfl
  have e : crs (sub2 Q P) (sub2 A B) = -crs (sub2 Q P) (sub2 B A) := by unfold crs sub2; grind
  rw [e] at this; exact this
set_option maxHeartbeats 200000 in
theorem m_meetWays {n : Nat} {σ : xσ} {a b : Nat} {c d : Ct} (S : MH σ a c) (F : WF c) (T : MH σ b d) (G : WF d) {i j : Nat} (hi : i + 1 < cN c) (hj : j + 1 < cN d) : ∃ σ', f_X14_meetWays n a (nI i) b (nI j) σ = some ((), σ') ∧ FrW σ σ' ∧
    MW σ' (mW (cV c i) (cV c (i + 1)) (cV d j) (cV d (j + 1))) (mP (cV c i) (cV c (i + 1)) (cV d j) (cV d (j + 1))) (mO (cV c i) (cV c (i + 1)) (cV d j) (cV d (j + 1))) (inL (cV c i) (cV c (i + 1)) (cV d j) (cV d (j + 1))) (mM (cV c i) (cV c (i + 1)) (cV d j) (cV d (j + 1))) := by
  have hN := F.n
  have hM := G.n
  have b1 := F.b (show i < cN c by omega)
  have b2 := F.b hi
  have b3 := G.b (show j < cN d by omega)
  have b4 := G.b hj
  have x1 := b1.1.r
  have y1 := b1.2.r
  have x2 := b2.1.r
  have y2 := b2.2.r
  have x3 := b3.1.r
  have y3 := b3.2.r
  have x4 := b4.1.r
  have y4 := b4.2.r
  rw [f_X14_meetWays, gd_pos S.1, gd_pos T.1]
  simp (disch := omega) only [gd_in, nI_k, nI_s, st, S.X, S.Y, T.X, T.Y]
  simp (disch := assumption) only [iI_64]
  simp only [jJ_sub, m_cross, bd]
  generalize cV c i = P at *
  generalize cV c (i + 1) = Q at *
  generalize cV d j = A at *
  generalize cV d (j + 1) = B at *
  have eS : (Q.1 - P.1) * (B.2 - A.2) - (Q.2 - P.2) * (B.1 - A.1) = kM P Q A B := rfl
  have eW : (Q.1 - P.1) * (A.2 - P.2) - (Q.2 - P.2) * (A.1 - P.1) = crs (sub2 Q P) (sub2 A P) := rfl
  rw [eS, eW]
  have rk : R64 (kM P Q A B) := crs_r2 b2 b1 b4 b3 rfl rfl
  have rk' : R64 (-kM P Q A B) := R64n b1 b2 b3 b4
  have rw' : R64 (crs (sub2 Q P) (sub2 A P)) := crs_r2 b2 b1 b3 b1 rfl rfl
  have e10 : sJ (wJ σ 233 10 (jJ (kM P Q A B))) 233 10 = jJ (kM P Q A B) := by rw [sJ_wJ, if_pos ⟨rfl, rfl⟩]
  rw [e10]
  simp only [lz_eq rk, lz_eq rw']
  have fw := FrW.wJ (σ := σ) (k := 10) (v := jJ (kM P Q A B)) (Or.inl rfl)
  generalize hs1 : wJ σ 233 10 (jJ (kM P Q A B)) = σ1 at *
  -- the rest, once it is known whether they are in line
  have tail : ∀ (v : Int32), v = tf (inL P Q A B) → ∃ σ', b_X14_meetWays_162 n (jJ (Q.1 - P.1)) (jJ (Q.2 - P.2)) (jJ (B.1 - A.1)) (jJ (B.2 - A.2)) (jJ (A.1 - P.1)) (jJ (A.2 - P.2)) v σ1 = some ((), σ') ∧ FrW σ σ' ∧ MW σ' (mW P Q A B) (mP P Q A B) (mO P Q A B) (inL P Q A B) (mM P Q A B) := by
    intro v hv
    rw [b_X14_meetWays_162, gd_pos (by rw [hv]; exact tf_01 _), st]
    have f2 := fw.trans (FrW.wI (σ := σ1) (k := 9) (v := v) (Or.inr rfl))
    have e11 : sJ (wI σ1 233 9 v) 233 10 = jJ (kM P Q A B) := e10
    rw [e11]
    simp only [lz_eq rk]
    have e9 : sI (wI σ1 233 9 v) 233 9 = tf (inL P Q A B) := by rw [sI_wI, if_pos ⟨rfl, rfl⟩, hv]
    generalize hs2 : wI σ1 233 9 v = σ2 at *
    have sx : R64 (Q.1 - P.1) := by have := b31.s b2.1 b1.1; unfold b31 at this; constructor <;> omega
    by_cases q : kM P Q A B = 0
    · rw [if_pos q, st]
      have f3 := f2.trans (FrW.wI (σ := σ2) (k := 8) (v := 0) (Or.inl rfl))
      have e9' : sI (wI σ2 233 8 0) 233 9 = tf (inL P Q A B) := by rw [sI_wI, if_neg (by omega)]; exact e9
      have e8' : sI (wI σ2 233 8 0) 233 8 = tf False := by rw [sI_wI, if_pos ⟨rfl, rfl⟩, tf_f id]
      generalize hs3 : wI σ2 233 8 0 = σ3 at *
      simp only [lz_eq sx]
      have d1 := b31.s b2.1 b1.1
      have d2 := b31.s b2.2 b1.2
      have d3 := b31.s b3.1 b1.1
      have d4 := b31.s b3.2 b1.2
      have d5 := b31.s b4.1 b1.1
      have d6 := b31.s b4.2 b1.2
      unfold b31 at d1 d2 d3 d4 d5 d6
      have go : ∀ (W p o : Int), -2147483646 ≤ W ∧ W ≤ 2147483646 → -2147483646 ≤ p ∧ p ≤ 2147483646 → -2147483646 ≤ o ∧ o ≤ 2147483646 → ngi W W = mW P Q A B → ngi W p = mP P Q A B → ngi W o = mO P Q A B →
          ∃ σ', b_X14_meetWays_271 n (jJ (Q.1 - P.1)) (jJ (Q.2 - P.2)) (jJ (B.1 - A.1)) (jJ (B.2 - A.2)) (wJ (wJ (wJ σ3 233 10 (jJ W)) 233 11 (jJ p)) 233 12 (jJ o)) = some ((), σ') ∧ FrW σ σ' ∧ MW σ' (mW P Q A B) (mP P Q A B) (mO P Q A B) (inL P Q A B) (mM P Q A B) := by
        intro W p o hW hp ho g1 g2 g3
        obtain ⟨σ', a1, a2, a3⟩ := e_271 (n := n) (σ := wJ (wJ (wJ σ3 233 10 (jJ W)) 233 11 (jJ p)) 233 12 (jJ o)) (W := W) (p := p) (o := o) (s1 := Q.1 - P.1) (s2 := Q.2 - P.2) (f1 := B.1 - A.1) (f2 := B.2 - A.2) (I := inL P Q A B) (M := False) ⟨by rw [sJ_wJ, if_neg (by omega), sJ_wJ, if_neg (by omega), sJ_wJ, if_pos ⟨rfl, rfl⟩], by rw [sJ_wJ, if_neg (by omega), sJ_wJ, if_pos ⟨rfl, rfl⟩], by rw [sJ_wJ, if_pos ⟨rfl, rfl⟩], e9', fun _ => e8'⟩ ⟨by omega, by omega⟩ ⟨by omega, by omega⟩ ⟨by omega, by omega⟩ ⟨by omega, by omega⟩ ⟨by omega, by omega⟩ ⟨by omega, by omega⟩ rk
        refine ⟨σ', a1, f3.trans ((((FrW.wJ (Or.inl rfl)).trans (FrW.wJ (Or.inr (Or.inl rfl)))).trans (FrW.wJ (Or.inr (Or.inr rfl)))).trans a2), ?_⟩
        rw [g1, g2, g3] at a3
        obtain ⟨c1, c2, c3, c4, c5⟩ := a3
        refine ⟨c1, c2, c3, c4, c5.trans (tf_c ⟨fun z => z.elim (fun y => y.2.elim) (fun y => (y.2.1 q).elim), fun z => (z.1 q).elim⟩)⟩
      have gm : ∀ (X Y : Int), kM P Q A B = 0 → True := fun _ _ _ => trivial
      by_cases q2 : Q.1 - P.1 = 0
      · have qv : P.1 = Q.1 := by omega
        rw [if_pos q2, b_X14_meetWays_194, st]
        simp only [lz_eq sx]
        rw [if_pos q2, b_X14_meetWays_212, st]
        simp only [lz_eq sx]
        rw [if_pos q2, b_X14_meetWays_234, st]
        have e : sJ (wJ (wJ σ3 233 10 (jJ (Q.2 - P.2))) 233 11 (jJ (A.2 - P.2))) 233 11 = jJ (A.2 - P.2) := by rw [sJ_wJ, if_pos ⟨rfl, rfl⟩]
        rw [e, jJ_add, show A.2 - P.2 + (B.2 - A.2) = B.2 - P.2 by omega]
        refine go _ _ _ d2 d4 d6 ?_ ?_ ?_
        · unfold ngi mW whl; rw [if_pos q, fX_v qv, fX_v qv]; split <;> split <;> omega
        · unfold ngi mP pos; rw [if_pos q, fX_v qv, fX_v qv, fX_v qv]; split <;> split <;> omega
        · unfold ngi mO pos; rw [if_pos q, fX_v qv, fX_v qv, fX_v qv]; split <;> split <;> omega
      · have qv : ¬ P.1 = Q.1 := by omega
        rw [if_neg q2, b_X14_meetWays_194, st]
        simp only [lz_eq sx]
        rw [if_neg q2, b_X14_meetWays_212, st]
        simp only [lz_eq sx]
        rw [if_neg q2, b_X14_meetWays_234, st]
        have e : sJ (wJ (wJ σ3 233 10 (jJ (Q.1 - P.1))) 233 11 (jJ (A.1 - P.1))) 233 11 = jJ (A.1 - P.1) := by rw [sJ_wJ, if_pos ⟨rfl, rfl⟩]
        rw [e, jJ_add, show A.1 - P.1 + (B.1 - A.1) = B.1 - P.1 by omega]
        refine go _ _ _ d1 d3 d5 ?_ ?_ ?_
        · unfold ngi mW whl; rw [if_pos q, fX_h qv, fX_h qv]; split <;> split <;> omega
        · unfold ngi mP pos; rw [if_pos q, fX_h qv, fX_h qv, fX_h qv]; split <;> split <;> omega
        · unfold ngi mO pos; rw [if_pos q, fX_h qv, fX_h qv, fX_h qv]; split <;> split <;> omega
    · rw [if_neg q]
      simp only [m_cross, bd, st]
      have eA : (A.1 - P.1) * (B.2 - A.2) - (A.2 - P.2) * (B.1 - A.1) = crs (sub2 A P) (sub2 B A) := rfl
      have eB : (A.1 - P.1) * (Q.2 - P.2) - (A.2 - P.2) * (Q.1 - P.1) = crs (sub2 A P) (sub2 Q P) := rfl
      rw [eA, eB]
      have hnI : ¬ inL P Q A B := fun z => q z.1
      obtain ⟨σ', a1, a2, a3⟩ := e_271 (n := n) (σ := wJ (wJ σ2 233 11 (jJ (crs (sub2 A P) (sub2 B A)))) 233 12 (jJ (crs (sub2 A P) (sub2 Q P)))) (W := kM P Q A B) (p := crs (sub2 A P) (sub2 B A)) (o := crs (sub2 A P) (sub2 Q P)) (s1 := Q.1 - P.1) (s2 := Q.2 - P.2) (f1 := B.1 - A.1) (f2 := B.2 - A.2) (I := inL P Q A B) (M := False) ⟨by rw [sJ_wJ, if_neg (by omega), sJ_wJ, if_neg (by omega)]; exact e11, by rw [sJ_wJ, if_neg (by omega), sJ_wJ, if_pos ⟨rfl, rfl⟩], by rw [sJ_wJ, if_pos ⟨rfl, rfl⟩], e9, fun z => (hnI z).elim⟩ rk (crs_r2 b3 b1 b4 b3 rfl rfl) (crs_r2 b3 b1 b2 b1 rfl rfl) rk' (R64n b1 b3 b3 b4) (R64n b1 b3 b1 b2) rk
      refine ⟨σ', a1, f2.trans (((FrW.wJ (Or.inr (Or.inl rfl))).trans (FrW.wJ (Or.inr (Or.inr rfl)))).trans a2), ?_⟩
      have g1 : ngi (kM P Q A B) (kM P Q A B) = mW P Q A B := by unfold ngi mW; rw [if_neg q]
      have g2 : ngi (kM P Q A B) (crs (sub2 A P) (sub2 B A)) = mP P Q A B := by unfold ngi mP; rw [if_neg q]
      have g3 : ngi (kM P Q A B) (crs (sub2 A P) (sub2 Q P)) = mO P Q A B := by unfold ngi mO; rw [if_neg q]
      rw [g1, g2, g3] at a3
      obtain ⟨c1, c2, c3, c4, c5⟩ := a3
      exact ⟨c1, c2, c3, c4, c5.trans (tf_c ⟨fun z => z.elim (fun y => (hnI y.1).elim) (fun y => y.2), fun z => Or.inr ⟨hnI, z⟩⟩)⟩
  by_cases q : kM P Q A B = 0
  · rw [if_pos q]
    by_cases q2 : crs (sub2 Q P) (sub2 A P) = 0
    · rw [if_pos q2]; exact tail 1 (tf_t ⟨q, q2⟩).symm
    · rw [if_neg q2]; exact tail 0 (tf_f (fun z => q2 z.2)).symm
  · rw [if_neg q]; exact tail 0 (tf_f (fun z => q z.1)).symm

/-! THE CUTTER: aim, and all ways of a row -/
set_option maxHeartbeats 200000 in
theorem SH.a18 {n : Nat} {σ σ' : xσ} {a : Nat} {c : Ct} (S : SH n σ a c) (f : Fr (· = 18) σ σ') : SH n σ' a c := S.fr f (by
  have := S.1.2
  intro j hj h
  omega)
def BX (σ : xσ) (d : Ct) (lo i : Nat) : Prop := ∃ x0 y0 x1 y1 : Int, (b30 x0 ∧ b30 y0 ∧ b30 x1 ∧ b30 y1) ∧ (sI σ 18 3 = iI x0 ∧ sI σ 18 4 = iI y0 ∧ sI σ 18 5 = iI x1 ∧ sI σ 18 6 = iI y1) ∧ ∀ k, lo ≤ k → k < i → x0 ≤ (cV d k).1 ∧ (cV d k).1 ≤ x1 ∧ y0 ≤ (cV d k).2 ∧ (cV d k).2 ≤ y1
set_option maxHeartbeats 200000 in
theorem l_aim {n : Nat} {a : Nat} {d : Ct} (G : WF d) {lo hi : Nat} (hh : hi ≤ cN d) : ∀ (fu i : Nat) (σ : xσ), hi - i < fu → lo ≤ i → i ≤ hi → SH n σ a d → sI σ 18 2 = nI hi → BX σ d lo i →
    ∃ σ', l_X1_aim_86 n fu a (nI i) σ = some ((), σ') ∧ Fr (· = 18) σ σ' ∧ sI σ' 18 1 = sI σ 18 1 ∧ sI σ' 18 2 = nI hi ∧ sR σ' 18 0 = sR σ 18 0 ∧ BX σ' d lo hi := by
  have hN := G.n
  intro fu
  induction fu with
  | zero => intro i σ h; omega
  | succ fu ih =>
    intro i σ hf hl hi' S h2 hB
    rw [l_X1_aim_86, h2]
    simp (disch := omega) only [nI_e']
    by_cases q : hi ≤ i
    · rw [if_pos q]
      have : i = hi := by omega
      subst this
      exact ⟨σ, rfl, Fr.refl, rfl, h2, rfl, hB⟩
    · rw [if_neg q]
      obtain ⟨x0, y0, x1, y1, ⟨b1, b2, b3, b4⟩, ⟨c1, c2, c3, c4⟩, hb⟩ := hB
      have bi := G.b (show i < cN d by omega)
      simp (disch := omega) only [gd_in, nI_k, st, nI_s]
      have X1 : ∀ (σ1 : xσ), Fr (· = 18) σ σ1 → sI σ1 (a + 1) i = iI (cV d i).1 ∧ sI σ1 (a + 2) i = iI (cV d i).2 := fun σ1 f => ⟨(S.a18 f).X (by omega), (S.a18 f).Y (by omega)⟩
      have w : ∀ {σ1 : xσ} {k : Nat} {v : Int32}, Fr (· = 18) σ1 (wI σ1 18 k v) := Fr.wI rfl
      rw [(X1 σ Fr.refl).1, c1, imin_i b1.r bi.1.r]
      generalize hs1 : wI σ 18 3 (iI (min x0 (cV d i).1)) = σ1
      have f1 : Fr (· = 18) σ σ1 := by rw [← hs1]; exact w
      have e1 : sI σ1 18 5 = iI x1 := by rw [← hs1, sI_wI, if_neg (by omega)]; exact c3
      rw [(X1 σ1 f1).1, e1, imax_i b3.r bi.1.r]
      generalize hs2 : wI σ1 18 5 (iI (max x1 (cV d i).1)) = σ2
      have f2 : Fr (· = 18) σ σ2 := by rw [← hs2]; exact f1.trans w
      have e2 : sI σ2 18 4 = iI y0 := by rw [← hs2, sI_wI, if_neg (by omega), ← hs1, sI_wI, if_neg (by omega)]; exact c2
      rw [(X1 σ2 f2).2, e2, imin_i b2.r bi.2.r]
      generalize hs3 : wI σ2 18 4 (iI (min y0 (cV d i).2)) = σ3
      have f3 : Fr (· = 18) σ σ3 := by rw [← hs3]; exact f2.trans w
      have e3 : sI σ3 18 6 = iI y1 := by rw [← hs3, sI_wI, if_neg (by omega), ← hs2, sI_wI, if_neg (by omega), ← hs1, sI_wI, if_neg (by omega)]; exact c4
      rw [(X1 σ3 f3).2, e3, imax_i b4.r bi.2.r]
      generalize hs4 : wI σ3 18 6 (iI (max y1 (cV d i).2)) = σ4
      have f4 : Fr (· = 18) σ σ4 := by rw [← hs4]; exact f3.trans w
      have k12 : ∀ k, k ≠ 3 → k ≠ 4 → k ≠ 5 → k ≠ 6 → sI σ4 18 k = sI σ 18 k := by
        intro k h3 h4 h5 h6
        rw [← hs4, sI_wI, if_neg (by omega), ← hs3, sI_wI, if_neg (by omega), ← hs2, sI_wI, if_neg (by omega), ← hs1, sI_wI, if_neg (by omega)]
      have kR : sR σ4 18 0 = sR σ 18 0 := by rw [← hs4, sR_wI, ← hs3, sR_wI, ← hs2, sR_wI, ← hs1, sR_wI]
      obtain ⟨σ', a1, a2, a3, a4, a5, a6⟩ := ih (i + 1) σ4 (by omega) (by omega) (by omega) (S.a18 f4) ((k12 2 (by omega) (by omega) (by omega) (by omega)).trans h2) (by
        unfold b30 at *
        unfold bV b30 at bi
        refine ⟨min x0 (cV d i).1, min y0 (cV d i).2, max x1 (cV d i).1, max y1 (cV d i).2, ⟨by unfold b30; omega, by unfold b30; omega, by unfold b30; omega, by unfold b30; omega⟩, ⟨?_, ?_, ?_, ?_⟩, fun k h1 h2 => ?_⟩
        · rw [← hs4, sI_wI, if_neg (by omega), ← hs3, sI_wI, if_neg (by omega), ← hs2, sI_wI, if_neg (by omega), ← hs1, sI_wI, if_pos ⟨rfl, rfl⟩]
        · rw [← hs4, sI_wI, if_neg (by omega), ← hs3, sI_wI, if_pos ⟨rfl, rfl⟩]
        · rw [← hs4, sI_wI, if_neg (by omega), ← hs3, sI_wI, if_neg (by omega), ← hs2, sI_wI, if_pos ⟨rfl, rfl⟩]
        · rw [← hs4, sI_wI, if_pos ⟨rfl, rfl⟩]
        · by_cases z : k = i
          · subst z; omega
          · have := hb k h1 (by omega); omega)
      exact ⟨σ', a1, f4.trans a2, a3.trans (k12 1 (by omega) (by omega) (by omega) (by omega)), a4, a5.trans kR, a6⟩
set_option maxHeartbeats 200000 in
theorem e_aim {n : Nat} {σ : xσ} {a : Nat} {d : Ct} (S : SH n σ a d) (G : WF d) {lo hi : Nat} (h1 : lo < hi) (hh : hi ≤ cN d) : ∃ σ', f_X1_aim n a (nI lo) (nI hi) σ = some ((), σ') ∧ Fr (· = 18) σ σ' ∧ RG σ' a d lo hi ∧ BX σ' d lo hi := by
  have hN := G.n
  have w : ∀ {σ1 : xσ} {k : Nat} {v : Int32}, Fr (· = 18) σ1 (wI σ1 18 k v) := Fr.wI rfl
  rw [f_X1_aim, gd_pos S.1, st]
  have f0 : Fr (· = 18) σ (wR σ 18 0 (some a)) := Fr.wR rfl
  rw [(S.a18 f0).N]
  simp (disch := omega) only [nIl0, nI_l', if_false]
  rw [if_pos (by omega), b_X1_aim_23]
  simp only [st]
  have bl := G.b (show lo < cN d by omega)
  generalize hs0 : wR σ 18 0 (some a) = σ0 at *
  generalize hs1 : wI σ0 18 1 (nI lo) = σ1
  have f1 : Fr (· = 18) σ σ1 := by rw [← hs1]; exact f0.trans w
  rw [(S.a18 f1).N, nI_i hi, nI_i (cN d), imin_i (show R32 (hi : Int) by constructor <;> omega) (show R32 (cN d : Int) by constructor <;> omega), Int.min_eq_left (by omega), ← nI_i]
  generalize hs2 : wI σ1 18 2 (nI hi) = σ2
  have f2 : Fr (· = 18) σ σ2 := by rw [← hs2]; exact f1.trans w
  have e1 : sI σ2 18 1 = nI lo := by rw [← hs2, sI_wI, if_neg (by omega), ← hs1, sI_wI, if_pos ⟨rfl, rfl⟩]
  rw [e1]
  simp (disch := omega) only [gd_in, nI_k]
  rw [(S.a18 f2).X (by omega)]
  generalize hs3 : wI σ2 18 3 (iI (cV d lo).1) = σ3
  have f3 : Fr (· = 18) σ σ3 := by rw [← hs3]; exact f2.trans w
  have e3 : sI σ3 18 3 = iI (cV d lo).1 := by rw [← hs3, sI_wI, if_pos ⟨rfl, rfl⟩]
  rw [e3]
  generalize hs4 : wI σ3 18 5 (iI (cV d lo).1) = σ4
  have f4 : Fr (· = 18) σ σ4 := by rw [← hs4]; exact f3.trans w
  have e4 : sI σ4 18 1 = nI lo := by rw [← hs4, sI_wI, if_neg (by omega), ← hs3, sI_wI, if_neg (by omega)]; exact e1
  rw [e4]
  simp (disch := omega) only [gd_in, nI_k]
  rw [(S.a18 f4).Y (by omega)]
  generalize hs5 : wI σ4 18 4 (iI (cV d lo).2) = σ5
  have f5 : Fr (· = 18) σ σ5 := by rw [← hs5]; exact f4.trans w
  have e5 : sI σ5 18 4 = iI (cV d lo).2 := by rw [← hs5, sI_wI, if_pos ⟨rfl, rfl⟩]
  rw [e5]
  generalize hs6 : wI σ5 18 6 (iI (cV d lo).2) = σ6
  have f6 : Fr (· = 18) σ σ6 := by rw [← hs6]; exact f5.trans w
  have e6 : ∀ k, k ≠ 3 → k ≠ 4 → k ≠ 5 → k ≠ 6 → sI σ6 18 k = sI σ2 18 k := by
    intro k h3 h4 h5 h6
    rw [← hs6, sI_wI, if_neg (by omega), ← hs5, sI_wI, if_neg (by omega), ← hs4, sI_wI, if_neg (by omega), ← hs3, sI_wI, if_neg (by omega)]
  have kR : sR σ6 18 0 = some a := by rw [← hs6, sR_wI, ← hs5, sR_wI, ← hs4, sR_wI, ← hs3, sR_wI, ← hs2, sR_wI, ← hs1, sR_wI, ← hs0, sR_wR, if_pos ⟨rfl, rfl⟩]
  have k1 : sI σ6 18 1 = nI lo := (e6 1 (by omega) (by omega) (by omega) (by omega)).trans e1
  have k2 : sI σ6 18 2 = nI hi := (e6 2 (by omega) (by omega) (by omega) (by omega)).trans (by rw [← hs2, sI_wI, if_pos ⟨rfl, rfl⟩])
  rw [k1]
  obtain ⟨σ', a1, a2, a3, a4, a5, a6⟩ := l_aim (n := n) (a := a) G hh xFU lo σ6 (xFU_lt (by omega)) (Nat.le_refl lo) (by omega) (S.a18 f6) k2 (by
    refine ⟨(cV d lo).1, (cV d lo).2, (cV d lo).1, (cV d lo).2, ⟨bl.1, bl.2, bl.1, bl.2⟩, ⟨?_, ?_, ?_, ?_⟩, fun k h1 h2 => by omega⟩
    · rw [← hs6, sI_wI, if_neg (by omega), ← hs5, sI_wI, if_neg (by omega), ← hs4, sI_wI, if_neg (by omega)]; exact e3
    · rw [← hs6, sI_wI, if_neg (by omega)]; exact e5
    · rw [← hs6, sI_wI, if_neg (by omega), ← hs5, sI_wI, if_neg (by omega), ← hs4, sI_wI, if_pos ⟨rfl, rfl⟩]
    · rw [← hs6, sI_wI, if_pos ⟨rfl, rfl⟩])
  exact ⟨σ', a1, f6.trans a2, ⟨a5.trans kR, a3.trans k1, a4, h1, hh⟩, a6⟩
/-- the way is beside all places of the region -/
def apR (d : Ct) (lo hi : Nat) (P Q : V2) : Prop := (∀ k, lo ≤ k → k < hi → max P.1 Q.1 < (cV d k).1) ∨ (∀ k, lo ≤ k → k < hi → (cV d k).1 < min P.1 Q.1) ∨ (∀ k, lo ≤ k → k < hi → max P.2 Q.2 < (cV d k).2) ∨ (∀ k, lo ≤ k → k < hi → (cV d k).2 < min P.2 Q.2)
set_option maxHeartbeats 200000 in
theorem e_isWayApart {n : Nat} {σ : xσ} {a : Nat} {c d : Ct} (S : SH n σ a c) (F : WF c) {lo hi i : Nat} (hB : BX σ d lo hi) (h1 : i + 1 < cN c) : ∃ v, f_X1_isWayApart n a (nI i) σ = some (v, σ) ∧ (v = 0 ∨ (v = 1 ∧ apR d lo hi (cV c i) (cV c (i + 1)))) := by
  have hN := F.n
  have b1 := F.b (show i < cN c by omega)
  have b2 := F.b h1
  have x1 := b1.1.r
  have y1 := b1.2.r
  have x2 := b2.1.r
  have y2 := b2.2.r
  obtain ⟨u0, v0, u1, v1, ⟨d1, d2, d3, d4⟩, ⟨c1, c2, c3, c4⟩, hb⟩ := hB
  have r1 := d1.r
  have r2 := d2.r
  have r3 := d3.r
  have r4 := d4.r
  rw [f_X1_isWayApart, gd_pos S.1]
  simp (disch := omega) only [gd_in, nI_k, nI_s, S.X, S.Y, c1, c2, c3, c4, imax_i x1 x2, imin_i x1 x2, imax_i y1 y2, imin_i y1 y2]
  simp (disch := omega) only [iI_lt, iI_le]
  unfold apR
  by_cases q1 : max (cV c i).1 (cV c (i + 1)).1 < u0
  · rw [if_pos q1]; exact ⟨1, rfl, Or.inr ⟨rfl, Or.inl (fun k a b => by have := hb k a b; omega)⟩⟩
  · rw [if_neg q1]
    by_cases q2 : u1 < min (cV c i).1 (cV c (i + 1)).1
    · rw [if_pos q2]; exact ⟨1, rfl, Or.inr ⟨rfl, Or.inr (Or.inl (fun k a b => by have := hb k a b; omega))⟩⟩
    · rw [if_neg q2]
      by_cases q3 : max (cV c i).2 (cV c (i + 1)).2 < v0
      · rw [if_pos q3]; exact ⟨1, rfl, Or.inr ⟨rfl, Or.inr (Or.inr (Or.inl (fun k a b => by have := hb k a b; omega)))⟩⟩
      · rw [if_neg q3]
        by_cases q4 : min (cV c i).2 (cV c (i + 1)).2 ≤ v1
        · rw [if_pos q4]; exact ⟨0, rfl, Or.inl rfl⟩
        · rw [if_neg q4]; exact ⟨1, rfl, Or.inr ⟨rfl, Or.inr (Or.inr (Or.inr (fun k a b => by have := hb k a b; omega)))⟩⟩

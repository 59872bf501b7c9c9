/-! measure of the system -/
def CsI (c : Ct) (p : V2) (i : Nat) (y : Nat × Nat) : Prop := (∃ k, k < i ∧ y = (sqN p (cV c k), 1)) ∨ (∃ k, k < i ∧ k + 1 < cN c ∧ ¬ isE c k ∧ ftC p (cV c k) (cV c (k + 1)) y)
set_option maxHeartbeats 200000 in
theorem CsI_s (c : Ct) (p : V2) (i : Nat) (y : Nat × Nat) : CsI c p (i + 1) y ↔ ((CsI c p i y ∨ y = (sqN p (cV c i), 1)) ∨ (i + 1 < cN c ∧ ¬ isE c i ∧ ftC p (cV c i) (cV c (i + 1)) y)) := by
  unfold CsI
  constructor
  · rintro (⟨k, h1, h2⟩ | ⟨k, h1, h2, h3, h4⟩)
    · by_cases z : k = i
      · subst z; exact Or.inl (Or.inr h2)
      · exact Or.inl (Or.inl (Or.inl ⟨k, by omega, h2⟩))
    · by_cases z : k = i
      · subst z; exact Or.inr ⟨h2, h3, h4⟩
      · exact Or.inl (Or.inl (Or.inr ⟨k, by omega, h2, h3, h4⟩))
  · rintro (((⟨k, h1, h2⟩ | ⟨k, h1, h2, h3, h4⟩) | h) | ⟨h2, h3, h4⟩)
    · exact Or.inl ⟨k, by omega, h2⟩
    · exact Or.inr ⟨k, by omega, h2, h3, h4⟩
    · exact Or.inl ⟨i, by omega, h⟩
    · exact Or.inr ⟨i, by omega, h2, h3, h4⟩
set_option maxHeartbeats 200000 in
theorem l_meas28 {n : Nat} {a b : Nat} {c : Ct} (ok : okD a) (F : WF c) {p : V2} (hp : bV p) : ∀ f i (σ : xσ), 40 - i < f → i ≤ cN c → SH n σ b c → (0 < i → ∃ x, DV σ a x ∧ Mn (CsI c p i) x) → ∃ σ', l_X2_measure_28 n f a b (iI p.1) (iI p.2) (nI i) σ = some ((), σ') ∧ Fr (· = a) σ σ' ∧ (0 < cN c → ∃ x, DV σ' a x ∧ Mn (CsI c p (cN c)) x) := by
  have hN := F.n
  intro f
  induction f with
  | zero => intro i σ h; omega
  | succ f ih =>
    intro i σ h hi S hI
    rw [l_X2_measure_28, S.N]
    by_cases q : cN c ≤ i
    · rw [if_pos ((nI_e' (by omega) (by omega)).mpr q)]
      have : i = cN c := by omega
      subst this
      exact ⟨σ, rfl, Fr.refl, hI⟩
    · have bi := F.b (show i < cN c by omega)
      have i1 : ∀ {α : Type} (y : Option α), gd (inb (nI i) 40) y = y := fun y => gd_in (by omega) (by omega)
      have x1 : (sI σ (b + 1) (nI i).toNatClampNeg).toInt64 = jJ (cV c i).1 := by rw [nI_k (by omega), S.X (by omega), iI_64 bi.1.r]
      have y1 : (sI σ (b + 2) (nI i).toNatClampNeg).toInt64 = jJ (cV c i).2 := by rw [nI_k (by omega), S.Y (by omega), iI_64 bi.2.r]
      have dx : (iI p.1).toInt64 - jJ (cV c i).1 = jJ (sub2 p (cV c i)).1 := by rw [iI_64 hp.1.r, jJ_sub]; rfl
      have dy : (iI p.2).toInt64 - jJ (cV c i).2 = jJ (sub2 p (cV c i)).2 := by rw [iI_64 hp.2.r, jJ_sub]; rfl
      obtain ⟨d1, d2⟩ := sub_b hp bi
      have rr := dt_rg d1 d2 d1 d2
      have nn := dt_nn (sub2 p (cV c i))
      have sq : jJ (sub2 p (cV c i)).1 * jJ (sub2 p (cV c i)).1 + jJ (sub2 p (cV c i)).2 * jJ (sub2 p (cV c i)).2 = lN (sqN p (cV c i)) := by
        rw [jJ_mul, jJ_mul, jJ_add]
        exact lN_j nn
      have sb : sqN p (cV c i) < 18446744073709551616 := by unfold sqN; omega
      rw [if_neg (fun y => q ((nI_e' (by omega) (by omega)).mp y)), i1, st, i1, st, st, x1, y1, dx, dy, sq, show (0 : Int64) = lN 0 from rfl, show (1 : Int64) = lN 1 from rfl]
      -- the foot, and the rest
      have foot : ∀ (σ1 : xσ) x1, Fr (· = a) σ σ1 → DV σ1 a x1 → Mn (fun y => CsI c p i y ∨ y = (sqN p (cV c i), 1)) x1 → ∃ σ', b_X2_measure_100 n (l_X2_measure_28 n f) a b (iI p.1) (iI p.2) (nI i) (jJ (sub2 p (cV c i)).1) (jJ (sub2 p (cV c i)).2) σ1 = some ((), σ') ∧ Fr (· = a) σ σ' ∧ (0 < cN c → ∃ x, DV σ' a x ∧ Mn (CsI c p (cN c)) x) := by
        intro σ1 x1 f1 v1 m1
        have S1 := S.d ok f1
        have rest : ∀ (σ2 : xσ) x2, Fr (· = a) σ1 σ2 → DV σ2 a x2 → Mn (CsI c p (i + 1)) x2 → ∃ σ', l_X2_measure_28 n f a b (iI p.1) (iI p.2) (nI (i + 1)) σ2 = some ((), σ') ∧ Fr (· = a) σ σ' ∧ (0 < cN c → ∃ x, DV σ' a x ∧ Mn (CsI c p (cN c)) x) := by
          intro σ2 x2 f2 v2 m2
          obtain ⟨σ', r1, r2, r3⟩ := ih (i + 1) σ2 (by omega) (by omega) (S1.d ok f2) (fun _ => ⟨x2, v2, m2⟩)
          exact ⟨σ', r1, (f1.trans f2).trans r2, r3⟩
        have skip : ¬ (i + 1 < cN c ∧ ¬ isE c i) → Mn (CsI c p (i + 1)) x1 := by
          intro no
          refine Mn_c (fun y => ?_) m1
          rw [CsI_s]
          exact ⟨fun h => Or.inl h, fun h => by rcases h with h | h; exact h; exact (no ⟨h.1, h.2.1⟩).elim⟩
        rw [b_X2_measure_100, S1.N, nI_s]
        by_cases z : cN c ≤ i + 1
        · rw [if_pos ((nI_e' (by omega) (by omega)).mpr z)]
          exact rest σ1 x1 Fr.refl v1 (skip (fun y => by omega))
        · rw [if_neg (fun y => z ((nI_e' (by omega) (by omega)).mp y)), i1, nI_k (by omega), S1.L (by omega)]
          by_cases w : isE c i
          · rw [if_neg (fun y => (tf_0.mp y) w)]
            exact rest σ1 x1 Fr.refl v1 (skip (fun y => y.2 w))
          · obtain ⟨σ2, x2, g1, g2, g3, g4⟩ := e_measureFoot (n := n) ok v1 S1 F hp (show i + 1 < cN c by omega)
            rw [if_pos (tf_f w), g1, bd, b_X2_measure_132, nI_s]
            refine rest σ2 x2 g2 g3 (Mn_c (fun y => ?_) (Mn_stq v1.pos m1 g4))
            rw [CsI_s]
            exact ⟨fun h => by rcases h with h | h; exact Or.inl h; exact Or.inr ⟨by omega, w, h⟩, fun h => by rcases h with h | h; exact Or.inl h; exact Or.inr h.2.2⟩
      by_cases z : i = 0
      · subst z
        obtain ⟨σ1, k1, k2, k3⟩ := e_keep (n := n) (σ := σ) (U := 0) (V := 1) ok (by omega) sb (by omega) (by omega)
        rw [if_pos (show nI 0 = 0 from rfl), k1, bd]
        rw [Nat.zero_mul, Nat.zero_add] at k3
        refine foot σ1 _ k2 k3 ⟨Or.inr rfl, fun y hy => ?_⟩
        rcases hy with (⟨k, hk, _⟩ | ⟨k, hk, _⟩) | hy
        · omega
        · omega
        · rw [hy]; exact fle_rf _
      · obtain ⟨x, v0, m0⟩ := hI (by omega)
        rw [if_neg (fun y => z ((nIq0 (by omega)).mp y))]
        obtain ⟨σ1, x1', f1, f2, f3, f4⟩ := e_less (n := n) (U := 0) (W := sqN p (cV c i)) (V := 1) ok v0 (by omega) sb (by omega) (by omega) (fun s => b_X2_measure_100 n (l_X2_measure_28 n f) a b (iI p.1) (iI p.2) (nI i) (jJ (sub2 p (cV c i)).1) (jJ (sub2 p (cV c i)).2) s) (fun s => b_X2_measure_100 n (l_X2_measure_28 n f) a b (iI p.1) (iI p.2) (nI i) (jJ (sub2 p (cV c i)).1) (jJ (sub2 p (cV c i)).2) s)
        rw [Nat.zero_mul, Nat.zero_add] at f3
        obtain ⟨σ', r1, r2, r3⟩ := foot σ1 x1' f1 f2 (Mn_stq v0.pos m0 f3)
        refine ⟨σ', ?_, r2, r3⟩
        rw [← r1]
        rcases f4 with f4 | f4 <;> exact f4
/-- the answer of measure, and of distance -/
def DMn (c : Ct) (p : V2) (x : Nat × Nat) : Prop := if cK c = 2 ∧ 0 ≤ loc c p then x = (0, 1) else Mn (CsI c p (cN c)) x
set_option maxHeartbeats 200000 in
theorem e_measure {n : Nat} {σ : xσ} {a b : Nat} {c : Ct} (ok : okD a) (S : SH n σ b c) (F : WF c) (vc : Val c) {p : V2} (hp : bV p) : ∃ σ' x, f_X2_measure n a b (iI p.1) (iI p.2) σ = some ((), σ') ∧ Fr (· = a) σ σ' ∧ DV σ' a x ∧ DMn c p x := by
  have hN := F.n
  have hK := F.k
  obtain ⟨σ1, k1, k2, k3⟩ := e_keep (n := n) (σ := σ) (U := 0) (W := 0) (V := 1) ok (by omega) (by omega) (by omega) (by omega)
  have S1 := S.d ok k2
  rw [f_X2_measure, gd_pos ok, gd_pos S.1, show (0 : Int64) = lN 0 from rfl, show (1 : Int64) = lN 1 from rfl, k1, bd, S1.K]
  obtain ⟨σ2, l1, l2, l3⟩ := l_meas28 (n := n) ok F hp xFU 0 σ1 (xFU_lt (by omega)) (by omega) S1 (fun y => by omega)
  rw [show nI 0 = 0 from rfl] at l1
  obtain ⟨x, x1, x2⟩ := l3 (by omega)
  unfold DMn
  by_cases k : cK c = 2
  · rw [if_pos (show nI (cK c) = 2 by rw [k]; rfl), e_locate S1 F hp (Val.cl F vc), bd]
    by_cases z : loc c p < 0
    · rw [if_pos ((loc_neg c _).mpr z)]
      refine ⟨σ2, x, l1, k2.trans l2, x1, ?_⟩
      rw [if_neg (fun y => by omega)]; exact x2
    · rw [if_neg (fun y => z ((loc_neg c _).mp y))]
      refine ⟨σ1, (0, 1), rfl, k2, k3, ?_⟩
      rw [if_pos ⟨k, by omega⟩]
  · rw [if_neg (fun z => k ((nIq2 (by omega)).mp z))]
    refine ⟨σ2, x, l1, k2.trans l2, x1, ?_⟩
    rw [if_neg (fun y => k y.1)]; exact x2

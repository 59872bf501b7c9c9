/-! a new shape of the system -/
theorem xCell_wN {σ : xσ} {n b : Nat} (q : b < n) : xCell (wN σ n) b = xCell σ b := by
  have c : ¬ (n ≤ b ∧ b < n + 5) := by omega
  have e1 : sI (wN σ n) b = sI σ b := by funext j; simp [sI, wN, c]
  have e2 : sJ (wN σ n) b = sJ σ b := by funext j; simp [sJ, wN, c]
  have e3 : sR (wN σ n) b = sR σ b := by funext j; simp [sR, wN, c]
  have e4 : ∀ s, fldV (wN σ n) b s = fldV σ b s := fun s => by funext j; simp only [fldV, e1, e2, e3]
  simp only [xCell, xArr, e1, e2, e3, e4]
theorem sI_wN0 {σ : xσ} {n b : Nat} (h1 : n ≤ b) (h2 : b < n + 5) : sI (wN σ n) b = fun _ => 0 := by
  funext j; simp [sI, wN, h1, h2]
theorem Rl.new {n : Nat} {σ : xσ} {h h2 : xH} (R : Rl n σ h) (z : h2.1 = (n + 5, xSl n + 141)) (k : CSh0 h2 n) (f : ∀ b, b < n → h2.2 b = h.2 b) : Rl (n + 5) (wN σ n) h2 ∧ okS (n + 5) n := by
  have hr := R.1
  have g : okS (n + 5) n := ⟨by omega, Or.inr (Or.inr hr)⟩
  refine ⟨⟨⟨by omega, by omega⟩, ?_, fun a ha => ?_⟩, g⟩
  · rw [z]
    have : xSl n + 141 = xSl (n + 5) := by unfold xSl; omega
    rw [this]
  · by_cases q : a < n
    · rw [f a q, R.2.2 a q, xCell_wN q]
    · obtain ⟨k0, k1, k2, k3, k4⟩ := k
      rcases (show a = n ∨ a = n + 1 ∨ a = n + 2 ∨ a = n + 3 ∨ a = n + 4 by omega) with rfl | rfl | rfl | rfl | rfl
      · rw [k0, xCell, g.at.1]
        have e : mkF (fldV (wN σ a) a 6) (xNf 6) = [.int (sI (wN σ a) a 0), .int (sI (wN σ a) a 1), .int (sI (wN σ a) a 2), .int (sI (wN σ a) a 3), .int (sI (wN σ a) a 4), .int (sI (wN σ a) a 5), .int (sI (wN σ a) a 6), .int (sI (wN σ a) a 7), .int (sI (wN σ a) a 8), .ref (a + 1), .ref (a + 2), .ref (a + 3), .ref (a + 4)] := rfl
        show _ = some (Sum.inr (6, mkF (fldV (wN σ a) a 6) (xNf 6)))
        rw [e, sI_wN0 (Nat.le_refl a) (by omega)]
      · rw [k1, xCell, g.x.1]
        show _ = some (Sum.inl (0, 40, Sum.inl (sI (wN σ n) (n + 1))))
        rw [sI_wN0 (by omega) (by omega)]
      · rw [k2, xCell, g.y.1]
        show _ = some (Sum.inl (0, 40, Sum.inl (sI (wN σ n) (n + 2))))
        rw [sI_wN0 (by omega) (by omega)]
      · rw [k3, xCell, g.r.1]
        show _ = some (Sum.inl (0, 8, Sum.inl (sI (wN σ n) (n + 3))))
        rw [sI_wN0 (by omega) (by omega)]
      · rw [k4, xCell, g.l.1]
        show _ = some (Sum.inl (3, 40, Sum.inl (sI (wN σ n) (n + 4))))
        rw [sI_wN0 (by omega) (by omega)]
theorem go_newShape {G : xG} {M : xM} {pc pc' n m a : Nat} {L : xL} {S : List Value} {h : xH} {σ σ' : xσ} {P : Option Value → xH → Prop} {index ix : Nat} (d : decode (xBy M) pc = .ok (.new index, 3)) (e : pc + 7 = pc') (g : xNw (xOwn M) index 6 13 [.int 0, .int 0, .int 0, .int 0, .int 0, .int 0, .int 0, .int 0, .int 0, .null, .null, .null, .null]) (d2 : decode (xBy M) (pc + 3) = .ok (.dup, 1)) (d3 : decode (xBy M) (pc + 4) = .ok (.invokespecial ix, 3)) (q : xCi M ix mX7_init 0) (hW : ((Value.ref n :: S).map fun v => v.category).sum ≤ 8) (R : Rl n σ h) (hm : a = n ∧ m = n + 5 ∧ σ' = wN σ n) (k : ∀ h1 : xH, Rl m σ' h1 → okS m a → Go G M pc' L (.ref a :: S) h1 P) : Go G M pc L S h P := by
  obtain ⟨rfl, rfl, rfl⟩ := hm
  refine go_newK (pc' := pc + 3) d rfl g R.2.1 (fun h1 z1 c1 f1 => ?_)
  refine go_dup (pc' := pc + 4) d2 rfl rfl ?_
  refine go_invI (As := []) (pc' := pc') d3 e q rfl rfl hW (c_Shape_init z1 rfl c1) (fun v h2 q2 => ?_)
  obtain ⟨rfl, z2, k2, f2⟩ := q2
  obtain ⟨R2, g2⟩ := R.new z2 k2 (fun b hb => (f2 b hb).trans (f1 b (by omega)))
  exact k h2 R2 g2
theorem nf {v : Int32} (h : v = 0 ∨ v = 1) : fits .boolean (.int v) = true := by rcases h with rfl | rfl <;> rfl

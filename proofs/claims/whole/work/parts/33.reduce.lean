/-! what is left to be shown is pure: of an invariant over the state, the functions of both sides answer alike -/
theorem Pr_of {G : xG} {Mc Mr : xM} {As : List Value} {J : xH → Prop} {h : xH} {n : Nat} {x : Int32} {σ1 σ2 : xσ} (hc : Ca G Mc (.ref 0 :: As) h (fun v h' => v = some (.int x) ∧ Rl n σ1 h')) (hr : ∀ h1, Rl n σ1 h1 → Ca G Mr (.ref 233 :: As) h1 (fun v h' => v = some (.int x) ∧ Rl n σ2 h')) (hJ : ∀ h2, Rl n σ2 h2 → J h2) : Pr G Mc Mr As J h := by
  refine hc.mono (fun v h1 e => ?_)
  obtain ⟨rfl, R⟩ := e
  refine ⟨x, fldV σ1 233 13, rfl, R.ob (R.at rfl (by decide)), (hr h1 R).mono (fun v2 h2 e2 => ?_)⟩
  exact ⟨e2.1, hJ h2 e2.2⟩
/-- what an invariant owes -/
def Pure (I : Nat → xσ → Prop) : Prop :=
  (∀ n σ (a b c d e : Int64), I n σ → ∃ v σ1 σ2, f_X10_feed n a b c d e σ = some (v, σ1) ∧ f_X14_feed n a b c d e σ1 = some (v, σ2) ∧ I n σ2) ∧
  (∀ n σ (a : Int32), I n σ → ∃ v σ1 σ2, f_X10_end n a σ = some (v, σ1) ∧ f_X14_end n a σ1 = some (v, σ2) ∧ I n σ2) ∧
  (∀ n σ, I n σ → ∃ v n1 σ1 σ2, f_X10_run n σ = some (v, n1, σ1) ∧ f_X14_run n1 σ1 = some (v, σ2) ∧ I n1 σ2) ∧
  (∀ n σ, I n σ → ∃ v σ1 σ2, f_X10_wrong n σ = some (v, σ1) ∧ f_X14_wrong n σ1 = some (v, σ2) ∧ I n σ2) ∧
  (∀ n σ, I n σ → ∃ v σ1 σ2, f_X10_outputs n σ = some (v, σ1) ∧ f_X14_outputs n σ1 = some (v, σ2) ∧ I n σ2) ∧
  (∀ n σ (a : Int32), I n σ → ∃ v σ1 σ2, f_X10_out n a σ = some (v, σ1) ∧ f_X14_out n a σ1 = some (v, σ2) ∧ I n σ2) ∧
  (∀ n σ (a b c : Int32), I n σ → ∃ v σ1 σ2, f_X10_crash n a b c σ = some (v, σ1) ∧ f_X14_crash n a b c σ1 = some (v, σ2) ∧ I n σ2) ∧
  (∀ n σ, I n σ → ∃ v σ1 σ2, f_X10_recover n σ = some (v, σ1) ∧ f_X14_recover n σ1 = some (v, σ2) ∧ I n σ2) ∧
  (∀ n σ, I n σ → ∃ v σ1 σ2, f_X10_isDown n σ = some (v, σ1) ∧ f_X14_isDown n σ1 = some (v, σ2) ∧ I n σ2) ∧
  (∀ n σ, I n σ → ∃ v σ1 σ2, f_X10_isOpen n σ = some (v, σ1) ∧ f_X14_isOpen n σ1 = some (v, σ2) ∧ I n σ2) ∧
  (∀ n σ, I n σ → ∃ v σ1 σ2, f_X10_live n σ = some (v, σ1) ∧ f_X14_live n σ1 = some (v, σ2) ∧ I n σ2) ∧
  (∀ n σ (a : Int32), I n σ → ∃ v σ1 σ2, f_X10_idAt n a σ = some (v, σ1) ∧ f_X14_idAt n a σ1 = some (v, σ2) ∧ I n σ2) ∧
  (∀ n σ (a : Int32), I n σ → ∃ v σ1 σ2, f_X10_kindOf n a σ = some (v, σ1) ∧ f_X14_kindOf n a σ1 = some (v, σ2) ∧ I n σ2) ∧
  (∀ n σ (a : Int32), I n σ → ∃ v σ1 σ2, f_X10_places n a σ = some (v, σ1) ∧ f_X14_places n a σ1 = some (v, σ2) ∧ I n σ2) ∧
  (∀ n σ (a : Int32), I n σ → ∃ v σ1 σ2, f_X10_rings n a σ = some (v, σ1) ∧ f_X14_rings n a σ1 = some (v, σ2) ∧ I n σ2) ∧
  (∀ n σ (a b c : Int32), I n σ → ∃ v σ1 σ2, f_X10_at n a b c σ = some (v, σ1) ∧ f_X14_at n a b c σ1 = some (v, σ2) ∧ I n σ2) ∧
  (∀ n σ (a b c : Int32), I n σ → ∃ v σ1 σ2, f_X10_relate n a b c σ = some (v, σ1) ∧ f_X14_relate n a b c σ1 = some (v, σ2) ∧ I n σ2) ∧
  (∀ n σ (a b c d : Int32), I n σ → ∃ v σ1 σ2, f_X10_nearer n a b c d σ = some (v, σ1) ∧ f_X14_nearer n a b c d σ1 = some (v, σ2) ∧ I n σ2) ∧
  (∀ n σ, I n σ → ∃ v σ1 σ2, f_X10_used n σ = some (v, σ1) ∧ f_X14_used n σ1 = some (v, σ2) ∧ I n σ2) ∧
  (∀ n σ, I n σ → ∃ v σ1 σ2, f_X10_saves n σ = some (v, σ1) ∧ f_X14_saves n σ1 = some (v, σ2) ∧ I n σ2) ∧
  (∀ n σ, I n σ → ∃ v σ1 σ2, f_X10_flaws n σ = some (v, σ1) ∧ f_X14_flaws n σ1 = some (v, σ2) ∧ I n σ2)
def Iv (I : Nat → xσ → Prop) (h : xH) : Prop := ∃ n σ, Rl n σ h ∧ I n σ
theorem Ow_of {G : xG} {I : Nat → xσ → Prop} (hP : Pure I) : Ow G (Iv I) (Iv I) := by
  obtain ⟨p0, p1, p2, p3, p4, p5, p6, p7, p8, p9, p10, p11, p12, p13, p14, p15, p16, p17, p18, p19, p20⟩ := hP
  refine ⟨?_, ?_, ?_, ?_, ?_, ?_, ?_, ?_, ?_, ?_, ?_, ?_, ?_, ?_, ?_, ?_, ?_, ?_, ?_, ?_, ?_⟩
  · intro h hI a b c d e
    obtain ⟨n, σ, R, hI⟩ := hI
    obtain ⟨v, σ1, σ2, e1, e2, hJ⟩ := p0 n σ a b c d e hI
    exact Pr_of (c_X10_feed R e1) (fun h1 R1 => c_X14_feed R1 e2) (fun h2 R2 => ⟨_, _, R2, hJ⟩)
  · intro h hI a
    obtain ⟨n, σ, R, hI⟩ := hI
    obtain ⟨v, σ1, σ2, e1, e2, hJ⟩ := p1 n σ a hI
    exact Pr_of (c_X10_end R e1) (fun h1 R1 => c_X14_end R1 e2) (fun h2 R2 => ⟨_, _, R2, hJ⟩)
  · intro h hI
    obtain ⟨n, σ, R, hI⟩ := hI
    obtain ⟨v, n1, σ1, σ2, e1, e2, hJ⟩ := p2 n σ hI
    exact Pr_of (c_X10_run R e1) (fun h1 R1 => c_X14_run R1 e2) (fun h2 R2 => ⟨_, _, R2, hJ⟩)
  · intro h hI
    obtain ⟨n, σ, R, hI⟩ := hI
    obtain ⟨v, σ1, σ2, e1, e2, hJ⟩ := p3 n σ hI
    exact Pr_of (c_X10_wrong R e1) (fun h1 R1 => c_X14_wrong R1 e2) (fun h2 R2 => ⟨_, _, R2, hJ⟩)
  · intro h hI
    obtain ⟨n, σ, R, hI⟩ := hI
    obtain ⟨v, σ1, σ2, e1, e2, hJ⟩ := p4 n σ hI
    exact Pr_of (c_X10_outputs R e1) (fun h1 R1 => c_X14_outputs R1 e2) (fun h2 R2 => ⟨_, _, R2, hJ⟩)
  · intro h hI a
    obtain ⟨n, σ, R, hI⟩ := hI
    obtain ⟨v, σ1, σ2, e1, e2, hJ⟩ := p5 n σ a hI
    exact Pr_of (c_X10_out R e1) (fun h1 R1 => c_X14_out R1 e2) (fun h2 R2 => ⟨_, _, R2, hJ⟩)
  · intro h hI a b c
    obtain ⟨n, σ, R, hI⟩ := hI
    obtain ⟨v, σ1, σ2, e1, e2, hJ⟩ := p6 n σ a b c hI
    exact Pr_of (c_X10_crash R e1) (fun h1 R1 => c_X14_crash R1 e2) (fun h2 R2 => ⟨_, _, R2, hJ⟩)
  · intro h hI
    obtain ⟨n, σ, R, hI⟩ := hI
    obtain ⟨v, σ1, σ2, e1, e2, hJ⟩ := p7 n σ hI
    exact Pr_of (c_X10_recover R e1) (fun h1 R1 => c_X14_recover R1 e2) (fun h2 R2 => ⟨_, _, R2, hJ⟩)
  · intro h hI
    obtain ⟨n, σ, R, hI⟩ := hI
    obtain ⟨v, σ1, σ2, e1, e2, hJ⟩ := p8 n σ hI
    exact Pr_of (c_X10_isDown R e1) (fun h1 R1 => c_X14_isDown R1 e2) (fun h2 R2 => ⟨_, _, R2, hJ⟩)
  · intro h hI
    obtain ⟨n, σ, R, hI⟩ := hI
    obtain ⟨v, σ1, σ2, e1, e2, hJ⟩ := p9 n σ hI
    exact Pr_of (c_X10_isOpen R e1) (fun h1 R1 => c_X14_isOpen R1 e2) (fun h2 R2 => ⟨_, _, R2, hJ⟩)
  · intro h hI
    obtain ⟨n, σ, R, hI⟩ := hI
    obtain ⟨v, σ1, σ2, e1, e2, hJ⟩ := p10 n σ hI
    exact Pr_of (c_X10_live R e1) (fun h1 R1 => c_X14_live R1 e2) (fun h2 R2 => ⟨_, _, R2, hJ⟩)
  · intro h hI a
    obtain ⟨n, σ, R, hI⟩ := hI
    obtain ⟨v, σ1, σ2, e1, e2, hJ⟩ := p11 n σ a hI
    exact Pr_of (c_X10_idAt R e1) (fun h1 R1 => c_X14_idAt R1 e2) (fun h2 R2 => ⟨_, _, R2, hJ⟩)
  · intro h hI a
    obtain ⟨n, σ, R, hI⟩ := hI
    obtain ⟨v, σ1, σ2, e1, e2, hJ⟩ := p12 n σ a hI
    exact Pr_of (c_X10_kindOf R e1) (fun h1 R1 => c_X14_kindOf R1 e2) (fun h2 R2 => ⟨_, _, R2, hJ⟩)
  · intro h hI a
    obtain ⟨n, σ, R, hI⟩ := hI
    obtain ⟨v, σ1, σ2, e1, e2, hJ⟩ := p13 n σ a hI
    exact Pr_of (c_X10_places R e1) (fun h1 R1 => c_X14_places R1 e2) (fun h2 R2 => ⟨_, _, R2, hJ⟩)
  · intro h hI a
    obtain ⟨n, σ, R, hI⟩ := hI
    obtain ⟨v, σ1, σ2, e1, e2, hJ⟩ := p14 n σ a hI
    exact Pr_of (c_X10_rings R e1) (fun h1 R1 => c_X14_rings R1 e2) (fun h2 R2 => ⟨_, _, R2, hJ⟩)
  · intro h hI a b c
    obtain ⟨n, σ, R, hI⟩ := hI
    obtain ⟨v, σ1, σ2, e1, e2, hJ⟩ := p15 n σ a b c hI
    exact Pr_of (c_X10_at R e1) (fun h1 R1 => c_X14_at R1 e2) (fun h2 R2 => ⟨_, _, R2, hJ⟩)
  · intro h hI a b c
    obtain ⟨n, σ, R, hI⟩ := hI
    obtain ⟨v, σ1, σ2, e1, e2, hJ⟩ := p16 n σ a b c hI
    exact Pr_of (c_X10_relate R e1) (fun h1 R1 => c_X14_relate R1 e2) (fun h2 R2 => ⟨_, _, R2, hJ⟩)
  · intro h hI a b c d
    obtain ⟨n, σ, R, hI⟩ := hI
    obtain ⟨v, σ1, σ2, e1, e2, hJ⟩ := p17 n σ a b c d hI
    exact Pr_of (c_X10_nearer R e1) (fun h1 R1 => c_X14_nearer R1 e2) (fun h2 R2 => ⟨_, _, R2, hJ⟩)
  · intro h hI
    obtain ⟨n, σ, R, hI⟩ := hI
    obtain ⟨v, σ1, σ2, e1, e2, hJ⟩ := p18 n σ hI
    exact Pr_of (c_X10_used R e1) (fun h1 R1 => c_X14_used R1 e2) (fun h2 R2 => ⟨_, _, R2, hJ⟩)
  · intro h hI
    obtain ⟨n, σ, R, hI⟩ := hI
    obtain ⟨v, σ1, σ2, e1, e2, hJ⟩ := p19 n σ hI
    exact Pr_of (c_X10_saves R e1) (fun h1 R1 => c_X14_saves R1 e2) (fun h2 R2 => ⟨_, _, R2, hJ⟩)
  · intro h hI
    obtain ⟨n, σ, R, hI⟩ := hI
    obtain ⟨v, σ1, σ2, e1, e2, hJ⟩ := p20 n σ hI
    exact Pr_of (c_X10_flaws R e1) (fun h1 R1 => c_X14_flaws R1 e2) (fun h2 R2 => ⟨_, _, R2, hJ⟩)
theorem Iv_bd {I : Nat → xσ → Prop} (hb : ∀ n σ, I n σ → n ≤ 4481) {h : xH} (k : Iv I h) : Bd h ∧ ∃ fs, h.2 0 = some (.inr (9, fs)) := by
  obtain ⟨n, σ, R, hI⟩ := k
  have hn := hb n σ hI
  refine ⟨⟨?_, ?_⟩, _, R.ob (R.at rfl (by decide))⟩
  · rw [R.2.1]; show n ≤ 600000; omega
  · rw [R.2.1]; show xSl n ≤ 7302250; unfold xSl; omega
/-- the whole law, of an invariant that holds at the start -/
theorem whole_go {I : Nat → xσ → Prop} (h0 : ∀ h : xH, h.1 = (2476, 103911) → CIn h → MIn h → I 2476 (sgH h)) (hb : ∀ n σ, I n σ → n ≤ 4481) (hP : Pure I) (G : xG) (hN : gN G ≤ 5632) : Go G mL_law 0 [some (.retAddr 99), none, none, none] [] ((0, 0), fun _ => none) (fun v h' => v = some (.int 1) ∧ Bd h') :=
  law_all (I := fun _ => Iv I) hN (fun h a b c => ⟨2476, sgH h, init_Rl a b c, h0 h a b c⟩) (fun _ _ k => Iv_bd hb k) (fun _ _ k => k) (fun _ _ => Ow_of hP)

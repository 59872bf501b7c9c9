/-! THE FIRST CALL on fresh objects: both answer alike -/
def I1 : Nat → xH → Prop
  | 0, h => h.1 = (2476, 103911) ∧ CIn h ∧ MIn h
  | _ + 1, h => Bd h ∧ ∃ fs, h.2 0 = some (.inr (9, fs))
theorem Pr_get {G : xG} {Mc Mr : xM} {As : List Value} {h : xH} {J : xH → Prop} {x : Int32} {F : Nat → Value} (hc : Ca G Mc (.ref 0 :: As) h (fun v h' => v = some (.int x) ∧ h' = h)) (hM : h.2 233 = some (.inr (13, mkF F 58))) (hr : Ca G Mr (.ref 233 :: As) h (fun v h' => v = some (.int x) ∧ h' = h)) (hJ : J h) : Pr G Mc Mr As J h := by
  refine hc.mono (fun v h1 e => ?_)
  obtain ⟨rfl, rfl⟩ := e
  refine ⟨x, F, rfl, hM, hr.mono (fun v2 h2 e2 => ?_)⟩
  obtain ⟨rfl, rfl⟩ := e2
  exact ⟨rfl, hJ⟩
theorem I1_keep : ∀ n h, I1 n h → I1 (n + 1) h := by
  intro n h hI
  cases n with
  | succ n => exact hI
  | zero =>
    obtain ⟨hz, hC, hM⟩ := hI
    exact ⟨⟨by rw [hz]; decide, by rw [hz]; decide⟩, _, hC.1⟩
theorem I1_bd : ∀ n h, I1 n h → Bd h ∧ ∃ fs, h.2 0 = some (.inr (9, fs)) := fun n h hI => I1_keep n h hI
theorem bd_of {h : xH} (hz : h.1 = (2476, 103911)) : Bd h := ⟨by rw [hz]; decide, by rw [hz]; decide⟩
set_option maxRecDepth 100000 in
theorem ow_fresh {G : xG} : Ow G (I1 0) (I1 1) := by
  refine ⟨?_, ?_, ?_, ?_, ?_, ?_, ?_, ?_, ?_, ?_, ?_, ?_, ?_, ?_, ?_, ?_, ?_, ?_, ?_, ?_, ?_⟩
  · intro h hI a b c d e
    obtain ⟨hz, hC, hMI⟩ := hI
    obtain ⟨k0, ⟨k1, k2⟩, -, ⟨k10, k11, k12, k13, k14, k15, k16, k17⟩, -, -, -, k231, k232⟩ := hC
    obtain ⟨⟨F, hM, hMC, hMF⟩, -, ⟨-, -, -, -, -, -, ⟨g1, ⟨s1, s2⟩, -⟩, ⟨g2, ⟨s3, s4⟩, -⟩⟩, ⟨m63, m64, -⟩, -⟩ := hMI
    obtain ⟨-, -, -, -, -, -, -, -, -, -, -, -, -, F30, F31, F39, F43, -⟩ := hMC
    obtain ⟨F32, F33, F34, F35, F36, F37, F38, F40, F41, F42, F44, -⟩ := hMF
    have hJ : I1 1 h := ⟨bd_of hz, _, k0⟩
    have hSh : ∀ i, Ca G mX10_shapeOf [.ref 0, .int i] h (fun v h' => v = some .null ∧ h' = h) := fun i => (c_shapeOf (n := 0) (by omega) k0 k10 k11 k12 k13).mono (fun v h' e => by
      obtain ⟨rfl, rfl⟩ := e
      exact ⟨rfl, rfl⟩)
    have hSt : ∀ i, Ca G mX14_standing [.ref 233, .int i] h (fun v h' => v = some (.int (-1)) ∧ h' = h) := fun i => r_standing0 hM F33 F30 s1
    refine (c_feed (ts := 0) (by omega) k0 k1 k2).mono (fun v h1 e1 => ?_)
    rcases e1 with ⟨hl, -⟩ | ⟨-, rfl, z1, -, -, f1⟩
    · exact absurd hl (by omega)
    · have hM1 := (f1 233 (by omega)).trans hM
      have m63' := (f1 1863 (by omega)).trans m63
      have k0' := (f1 0 (by omega)).trans k0
      refine ⟨_, F, rfl, hM1, (r_feed (ts := 0) (by omega) hM1 F40 F39 m63').mono (fun v2 h2 e2 => ?_)⟩
      rcases e2 with ⟨hl, -⟩ | ⟨-, rfl, z2, -, -, f2⟩
      · exact absurd hl (by omega)
      · exact ⟨rfl, bd_of (z2.trans (z1.trans hz)), _, (f2 0 (by omega)).trans k0'⟩
  · intro h hI a
    obtain ⟨hz, hC, hMI⟩ := hI
    obtain ⟨k0, ⟨k1, k2⟩, -, ⟨k10, k11, k12, k13, k14, k15, k16, k17⟩, -, -, -, k231, k232⟩ := hC
    obtain ⟨⟨F, hM, hMC, hMF⟩, -, ⟨-, -, -, -, -, -, ⟨g1, ⟨s1, s2⟩, -⟩, ⟨g2, ⟨s3, s4⟩, -⟩⟩, ⟨m63, m64, -⟩, -⟩ := hMI
    obtain ⟨-, -, -, -, -, -, -, -, -, -, -, -, -, F30, F31, F39, F43, -⟩ := hMC
    obtain ⟨F32, F33, F34, F35, F36, F37, F38, F40, F41, F42, F44, -⟩ := hMF
    have hJ : I1 1 h := ⟨bd_of hz, _, k0⟩
    have hSh : ∀ i, Ca G mX10_shapeOf [.ref 0, .int i] h (fun v h' => v = some .null ∧ h' = h) := fun i => (c_shapeOf (n := 0) (by omega) k0 k10 k11 k12 k13).mono (fun v h' e => by
      obtain ⟨rfl, rfl⟩ := e
      exact ⟨rfl, rfl⟩)
    have hSt : ∀ i, Ca G mX14_standing [.ref 233, .int i] h (fun v h' => v = some (.int (-1)) ∧ h' = h) := fun i => r_standing0 hM F33 F30 s1
    refine (c_end (ts := 0) k0 k1).mono (fun v h1 e1 => ?_)
    rcases e1 with ⟨hl, rfl, rfl⟩ | ⟨hl, rfl, z1, -, f1⟩
    · refine ⟨_, F, rfl, hM, (r_end (ts := 0) hM F40).mono (fun v2 h2 e2 => ?_)⟩
      rcases e2 with ⟨-, rfl, rfl⟩ | ⟨q, -⟩
      · exact ⟨rfl, hJ⟩
      · exact absurd q hl
    · have hM1 := (f1 233 (by omega)).trans hM
      have k0' := (f1 0 (by omega)).trans k0
      refine ⟨_, F, rfl, hM1, (r_end (ts := 0) hM1 F40).mono (fun v2 h2 e2 => ?_)⟩
      rcases e2 with ⟨q, -⟩ | ⟨-, rfl, z2, -, f2⟩
      · exact absurd hl q
      · exact ⟨rfl, bd_of (z2.trans (z1.trans hz)), _, (f2 0 (by omega)).trans k0'⟩
  · intro h hI
    obtain ⟨hz, hC, hMI⟩ := hI
    obtain ⟨k0, ⟨k1, k2⟩, -, ⟨k10, k11, k12, k13, k14, k15, k16, k17⟩, -, -, -, k231, k232⟩ := hC
    obtain ⟨⟨F, hM, hMC, hMF⟩, -, ⟨-, -, -, -, -, -, ⟨g1, ⟨s1, s2⟩, -⟩, ⟨g2, ⟨s3, s4⟩, -⟩⟩, ⟨m63, m64, -⟩, -⟩ := hMI
    obtain ⟨-, -, -, -, -, -, -, -, -, -, -, -, -, F30, F31, F39, F43, -⟩ := hMC
    obtain ⟨F32, F33, F34, F35, F36, F37, F38, F40, F41, F42, F44, -⟩ := hMF
    have hJ : I1 1 h := ⟨bd_of hz, _, k0⟩
    have hSh : ∀ i, Ca G mX10_shapeOf [.ref 0, .int i] h (fun v h' => v = some .null ∧ h' = h) := fun i => (c_shapeOf (n := 0) (by omega) k0 k10 k11 k12 k13).mono (fun v h' e => by
      obtain ⟨rfl, rfl⟩ := e
      exact ⟨rfl, rfl⟩)
    have hSt : ∀ i, Ca G mX14_standing [.ref 233, .int i] h (fun v h' => v = some (.int (-1)) ∧ h' = h) := fun i => r_standing0 hM F33 F30 s1
    refine (c_run0 k0 k10 k1).mono (fun v h1 e1 => ?_)
    obtain ⟨rfl, z1, ⟨fs, k0'⟩, f1⟩ := e1
    have hM1 := (f1 233 (by omega)).trans hM
    refine ⟨_, F, rfl, hM1, (r_run0 hM1 F33 F40).mono (fun v2 h2 e2 => ?_)⟩
    obtain ⟨rfl, z2, f2⟩ := e2
    exact ⟨rfl, bd_of (z2.trans (z1.trans hz)), _, (f2 0 (by omega)).trans k0'⟩
  · intro h hI
    obtain ⟨hz, hC, hMI⟩ := hI
    obtain ⟨k0, ⟨k1, k2⟩, -, ⟨k10, k11, k12, k13, k14, k15, k16, k17⟩, -, -, -, k231, k232⟩ := hC
    obtain ⟨⟨F, hM, hMC, hMF⟩, -, ⟨-, -, -, -, -, -, ⟨g1, ⟨s1, s2⟩, -⟩, ⟨g2, ⟨s3, s4⟩, -⟩⟩, ⟨m63, m64, -⟩, -⟩ := hMI
    obtain ⟨-, -, -, -, -, -, -, -, -, -, -, -, -, F30, F31, F39, F43, -⟩ := hMC
    obtain ⟨F32, F33, F34, F35, F36, F37, F38, F40, F41, F42, F44, -⟩ := hMF
    have hJ : I1 1 h := ⟨bd_of hz, _, k0⟩
    have hSh : ∀ i, Ca G mX10_shapeOf [.ref 0, .int i] h (fun v h' => v = some .null ∧ h' = h) := fun i => (c_shapeOf (n := 0) (by omega) k0 k10 k11 k12 k13).mono (fun v h' e => by
      obtain ⟨rfl, rfl⟩ := e
      exact ⟨rfl, rfl⟩)
    have hSt : ∀ i, Ca G mX14_standing [.ref 233, .int i] h (fun v h' => v = some (.int (-1)) ∧ h' = h) := fun i => r_standing0 hM F33 F30 s1
    exact Pr_get (c_wrong k0) hM (r_wrong hM F42) hJ
  · intro h hI
    obtain ⟨hz, hC, hMI⟩ := hI
    obtain ⟨k0, ⟨k1, k2⟩, -, ⟨k10, k11, k12, k13, k14, k15, k16, k17⟩, -, -, -, k231, k232⟩ := hC
    obtain ⟨⟨F, hM, hMC, hMF⟩, -, ⟨-, -, -, -, -, -, ⟨g1, ⟨s1, s2⟩, -⟩, ⟨g2, ⟨s3, s4⟩, -⟩⟩, ⟨m63, m64, -⟩, -⟩ := hMI
    obtain ⟨-, -, -, -, -, -, -, -, -, -, -, -, -, F30, F31, F39, F43, -⟩ := hMC
    obtain ⟨F32, F33, F34, F35, F36, F37, F38, F40, F41, F42, F44, -⟩ := hMF
    have hJ : I1 1 h := ⟨bd_of hz, _, k0⟩
    have hSh : ∀ i, Ca G mX10_shapeOf [.ref 0, .int i] h (fun v h' => v = some .null ∧ h' = h) := fun i => (c_shapeOf (n := 0) (by omega) k0 k10 k11 k12 k13).mono (fun v h' e => by
      obtain ⟨rfl, rfl⟩ := e
      exact ⟨rfl, rfl⟩)
    have hSt : ∀ i, Ca G mX14_standing [.ref 233, .int i] h (fun v h' => v = some (.int (-1)) ∧ h' = h) := fun i => r_standing0 hM F33 F30 s1
    exact Pr_get (c_outputs k0) hM (r_outputs hM F44) hJ
  · intro h hI a
    obtain ⟨hz, hC, hMI⟩ := hI
    obtain ⟨k0, ⟨k1, k2⟩, -, ⟨k10, k11, k12, k13, k14, k15, k16, k17⟩, -, -, -, k231, k232⟩ := hC
    obtain ⟨⟨F, hM, hMC, hMF⟩, -, ⟨-, -, -, -, -, -, ⟨g1, ⟨s1, s2⟩, -⟩, ⟨g2, ⟨s3, s4⟩, -⟩⟩, ⟨m63, m64, -⟩, -⟩ := hMI
    obtain ⟨-, -, -, -, -, -, -, -, -, -, -, -, -, F30, F31, F39, F43, -⟩ := hMC
    obtain ⟨F32, F33, F34, F35, F36, F37, F38, F40, F41, F42, F44, -⟩ := hMF
    have hJ : I1 1 h := ⟨bd_of hz, _, k0⟩
    have hSh : ∀ i, Ca G mX10_shapeOf [.ref 0, .int i] h (fun v h' => v = some .null ∧ h' = h) := fun i => (c_shapeOf (n := 0) (by omega) k0 k10 k11 k12 k13).mono (fun v h' e => by
      obtain ⟨rfl, rfl⟩ := e
      exact ⟨rfl, rfl⟩)
    have hSt : ∀ i, Ca G mX14_standing [.ref 233, .int i] h (fun v h' => v = some (.int (-1)) ∧ h' = h) := fun i => r_standing0 hM F33 F30 s1
    exact Pr_get (c_out (n := 0) (by omega) k0 k232) hM (r_out (n := 0) (by omega) hM F44 F43 m64) hJ
  · intro h hI a b c
    obtain ⟨hz, hC, hMI⟩ := hI
    obtain ⟨k0, ⟨k1, k2⟩, -, ⟨k10, k11, k12, k13, k14, k15, k16, k17⟩, -, -, -, k231, k232⟩ := hC
    obtain ⟨⟨F, hM, hMC, hMF⟩, -, ⟨-, -, -, -, -, -, ⟨g1, ⟨s1, s2⟩, -⟩, ⟨g2, ⟨s3, s4⟩, -⟩⟩, ⟨m63, m64, -⟩, -⟩ := hMI
    obtain ⟨-, -, -, -, -, -, -, -, -, -, -, -, -, F30, F31, F39, F43, -⟩ := hMC
    obtain ⟨F32, F33, F34, F35, F36, F37, F38, F40, F41, F42, F44, -⟩ := hMF
    have hJ : I1 1 h := ⟨bd_of hz, _, k0⟩
    have hSh : ∀ i, Ca G mX10_shapeOf [.ref 0, .int i] h (fun v h' => v = some .null ∧ h' = h) := fun i => (c_shapeOf (n := 0) (by omega) k0 k10 k11 k12 k13).mono (fun v h' e => by
      obtain ⟨rfl, rfl⟩ := e
      exact ⟨rfl, rfl⟩)
    have hSt : ∀ i, Ca G mX14_standing [.ref 233, .int i] h (fun v h' => v = some (.int (-1)) ∧ h' = h) := fun i => r_standing0 hM F33 F30 s1
    refine (c_crash k0 k10).mono (fun v h1 e1 => ?_)
    rcases e1 with ⟨hl, rfl, rfl⟩ | ⟨hl, rfl, z1, -, f1⟩
    · refine ⟨_, F, rfl, hM, (r_crash hM F33).mono (fun v2 h2 e2 => ?_)⟩
      rcases e2 with ⟨-, rfl, rfl⟩ | ⟨q, -⟩
      · exact ⟨rfl, hJ⟩
      · exact absurd q hl
    · have hM1 := (f1 233 (by omega)).trans hM
      have k0' := (f1 0 (by omega)).trans k0
      refine ⟨_, F, rfl, hM1, (r_crash hM1 F33).mono (fun v2 h2 e2 => ?_)⟩
      rcases e2 with ⟨q, -⟩ | ⟨-, rfl, z2, -, f2⟩
      · exact absurd hl q
      · exact ⟨rfl, bd_of (z2.trans (z1.trans hz)), _, (f2 0 (by omega)).trans k0'⟩
  · intro h hI
    obtain ⟨hz, hC, hMI⟩ := hI
    obtain ⟨k0, ⟨k1, k2⟩, -, ⟨k10, k11, k12, k13, k14, k15, k16, k17⟩, -, -, -, k231, k232⟩ := hC
    obtain ⟨⟨F, hM, hMC, hMF⟩, -, ⟨-, -, -, -, -, -, ⟨g1, ⟨s1, s2⟩, -⟩, ⟨g2, ⟨s3, s4⟩, -⟩⟩, ⟨m63, m64, -⟩, -⟩ := hMI
    obtain ⟨-, -, -, -, -, -, -, -, -, -, -, -, -, F30, F31, F39, F43, -⟩ := hMC
    obtain ⟨F32, F33, F34, F35, F36, F37, F38, F40, F41, F42, F44, -⟩ := hMF
    have hJ : I1 1 h := ⟨bd_of hz, _, k0⟩
    have hSh : ∀ i, Ca G mX10_shapeOf [.ref 0, .int i] h (fun v h' => v = some .null ∧ h' = h) := fun i => (c_shapeOf (n := 0) (by omega) k0 k10 k11 k12 k13).mono (fun v h' e => by
      obtain ⟨rfl, rfl⟩ := e
      exact ⟨rfl, rfl⟩)
    have hSt : ∀ i, Ca G mX14_standing [.ref 233, .int i] h (fun v h' => v = some (.int (-1)) ∧ h' = h) := fun i => r_standing0 hM F33 F30 s1
    refine (c_recover0 rfl k0 k10 k11 k14).mono (fun v h1 e1 => ?_)
    obtain ⟨rfl, z1, f1⟩ := e1
    have hM1 := (f1 233 (by omega)).trans hM
    have s1' := (f1 259 (by omega)).trans s1
    have s3' := (f1 1061 (by omega)).trans s3
    have k0' := (f1 0 (by omega)).trans k0
    refine ⟨_, F, rfl, hM1, (r_recover0 hM1 F30 F31 s1' s3').mono (fun v2 h2 e2 => ?_)⟩
    obtain ⟨rfl, z2, f2⟩ := e2
    exact ⟨rfl, bd_of (z2.trans (z1.trans hz)), _, (f2 0 (by omega)).trans k0'⟩
  · intro h hI
    obtain ⟨hz, hC, hMI⟩ := hI
    obtain ⟨k0, ⟨k1, k2⟩, -, ⟨k10, k11, k12, k13, k14, k15, k16, k17⟩, -, -, -, k231, k232⟩ := hC
    obtain ⟨⟨F, hM, hMC, hMF⟩, -, ⟨-, -, -, -, -, -, ⟨g1, ⟨s1, s2⟩, -⟩, ⟨g2, ⟨s3, s4⟩, -⟩⟩, ⟨m63, m64, -⟩, -⟩ := hMI
    obtain ⟨-, -, -, -, -, -, -, -, -, -, -, -, -, F30, F31, F39, F43, -⟩ := hMC
    obtain ⟨F32, F33, F34, F35, F36, F37, F38, F40, F41, F42, F44, -⟩ := hMF
    have hJ : I1 1 h := ⟨bd_of hz, _, k0⟩
    have hSh : ∀ i, Ca G mX10_shapeOf [.ref 0, .int i] h (fun v h' => v = some .null ∧ h' = h) := fun i => (c_shapeOf (n := 0) (by omega) k0 k10 k11 k12 k13).mono (fun v h' e => by
      obtain ⟨rfl, rfl⟩ := e
      exact ⟨rfl, rfl⟩)
    have hSt : ∀ i, Ca G mX14_standing [.ref 233, .int i] h (fun v h' => v = some (.int (-1)) ∧ h' = h) := fun i => r_standing0 hM F33 F30 s1
    exact Pr_get (c_isDown (Or.inl rfl) k0 k10) hM (r_isDown (Or.inl rfl) hM F33) hJ
  · intro h hI
    obtain ⟨hz, hC, hMI⟩ := hI
    obtain ⟨k0, ⟨k1, k2⟩, -, ⟨k10, k11, k12, k13, k14, k15, k16, k17⟩, -, -, -, k231, k232⟩ := hC
    obtain ⟨⟨F, hM, hMC, hMF⟩, -, ⟨-, -, -, -, -, -, ⟨g1, ⟨s1, s2⟩, -⟩, ⟨g2, ⟨s3, s4⟩, -⟩⟩, ⟨m63, m64, -⟩, -⟩ := hMI
    obtain ⟨-, -, -, -, -, -, -, -, -, -, -, -, -, F30, F31, F39, F43, -⟩ := hMC
    obtain ⟨F32, F33, F34, F35, F36, F37, F38, F40, F41, F42, F44, -⟩ := hMF
    have hJ : I1 1 h := ⟨bd_of hz, _, k0⟩
    have hSh : ∀ i, Ca G mX10_shapeOf [.ref 0, .int i] h (fun v h' => v = some .null ∧ h' = h) := fun i => (c_shapeOf (n := 0) (by omega) k0 k10 k11 k12 k13).mono (fun v h' e => by
      obtain ⟨rfl, rfl⟩ := e
      exact ⟨rfl, rfl⟩)
    have hSt : ∀ i, Ca G mX14_standing [.ref 233, .int i] h (fun v h' => v = some (.int (-1)) ∧ h' = h) := fun i => r_standing0 hM F33 F30 s1
    exact Pr_get (c_isOpen k0 k10) hM (r_isOpen (Or.inl rfl) hM F32) hJ
  · intro h hI
    obtain ⟨hz, hC, hMI⟩ := hI
    obtain ⟨k0, ⟨k1, k2⟩, -, ⟨k10, k11, k12, k13, k14, k15, k16, k17⟩, -, -, -, k231, k232⟩ := hC
    obtain ⟨⟨F, hM, hMC, hMF⟩, -, ⟨-, -, -, -, -, -, ⟨g1, ⟨s1, s2⟩, -⟩, ⟨g2, ⟨s3, s4⟩, -⟩⟩, ⟨m63, m64, -⟩, -⟩ := hMI
    obtain ⟨-, -, -, -, -, -, -, -, -, -, -, -, -, F30, F31, F39, F43, -⟩ := hMC
    obtain ⟨F32, F33, F34, F35, F36, F37, F38, F40, F41, F42, F44, -⟩ := hMF
    have hJ : I1 1 h := ⟨bd_of hz, _, k0⟩
    have hSh : ∀ i, Ca G mX10_shapeOf [.ref 0, .int i] h (fun v h' => v = some .null ∧ h' = h) := fun i => (c_shapeOf (n := 0) (by omega) k0 k10 k11 k12 k13).mono (fun v h' e => by
      obtain ⟨rfl, rfl⟩ := e
      exact ⟨rfl, rfl⟩)
    have hSt : ∀ i, Ca G mX14_standing [.ref 233, .int i] h (fun v h' => v = some (.int (-1)) ∧ h' = h) := fun i => r_standing0 hM F33 F30 s1
    exact Pr_get (c_live k0 k10 k11) hM (r_live hM F33 F30 s1) hJ
  · intro h hI a
    obtain ⟨hz, hC, hMI⟩ := hI
    obtain ⟨k0, ⟨k1, k2⟩, -, ⟨k10, k11, k12, k13, k14, k15, k16, k17⟩, -, -, -, k231, k232⟩ := hC
    obtain ⟨⟨F, hM, hMC, hMF⟩, -, ⟨-, -, -, -, -, -, ⟨g1, ⟨s1, s2⟩, -⟩, ⟨g2, ⟨s3, s4⟩, -⟩⟩, ⟨m63, m64, -⟩, -⟩ := hMI
    obtain ⟨-, -, -, -, -, -, -, -, -, -, -, -, -, F30, F31, F39, F43, -⟩ := hMC
    obtain ⟨F32, F33, F34, F35, F36, F37, F38, F40, F41, F42, F44, -⟩ := hMF
    have hJ : I1 1 h := ⟨bd_of hz, _, k0⟩
    have hSh : ∀ i, Ca G mX10_shapeOf [.ref 0, .int i] h (fun v h' => v = some .null ∧ h' = h) := fun i => (c_shapeOf (n := 0) (by omega) k0 k10 k11 k12 k13).mono (fun v h' e => by
      obtain ⟨rfl, rfl⟩ := e
      exact ⟨rfl, rfl⟩)
    have hSt : ∀ i, Ca G mX14_standing [.ref 233, .int i] h (fun v h' => v = some (.int (-1)) ∧ h' = h) := fun i => r_standing0 hM F33 F30 s1
    have e : idV 0 (fun _ => 0) 0 a = -1 := by
      unfold idV
      rw [if_pos]
      by_cases c : a < 0
      · exact Or.inr (Or.inl c)
      · exact Or.inr (Or.inr (Int32.not_lt.mp c))
    exact Pr_get (e ▸ c_idAt (n := 0) (by omega) k0 k10 k11 k12) hM (r_idAt0 hM F33 F30 s1) hJ
  · intro h hI a
    obtain ⟨hz, hC, hMI⟩ := hI
    obtain ⟨k0, ⟨k1, k2⟩, -, ⟨k10, k11, k12, k13, k14, k15, k16, k17⟩, -, -, -, k231, k232⟩ := hC
    obtain ⟨⟨F, hM, hMC, hMF⟩, -, ⟨-, -, -, -, -, -, ⟨g1, ⟨s1, s2⟩, -⟩, ⟨g2, ⟨s3, s4⟩, -⟩⟩, ⟨m63, m64, -⟩, -⟩ := hMI
    obtain ⟨-, -, -, -, -, -, -, -, -, -, -, -, -, F30, F31, F39, F43, -⟩ := hMC
    obtain ⟨F32, F33, F34, F35, F36, F37, F38, F40, F41, F42, F44, -⟩ := hMF
    have hJ : I1 1 h := ⟨bd_of hz, _, k0⟩
    have hSh : ∀ i, Ca G mX10_shapeOf [.ref 0, .int i] h (fun v h' => v = some .null ∧ h' = h) := fun i => (c_shapeOf (n := 0) (by omega) k0 k10 k11 k12 k13).mono (fun v h' e => by
      obtain ⟨rfl, rfl⟩ := e
      exact ⟨rfl, rfl⟩)
    have hSt : ∀ i, Ca G mX14_standing [.ref 233, .int i] h (fun v h' => v = some (.int (-1)) ∧ h' = h) := fun i => r_standing0 hM F33 F30 s1
    exact Pr_get (c_kindOf (n := 0) (g := fun _ => 0) (by omega) k0 k10 k11 k12 k13 (fun i a hi => absurd hi (by omega))) hM (r_kindOf0 hM (hSt _)) hJ
  · intro h hI a
    obtain ⟨hz, hC, hMI⟩ := hI
    obtain ⟨k0, ⟨k1, k2⟩, -, ⟨k10, k11, k12, k13, k14, k15, k16, k17⟩, -, -, -, k231, k232⟩ := hC
    obtain ⟨⟨F, hM, hMC, hMF⟩, -, ⟨-, -, -, -, -, -, ⟨g1, ⟨s1, s2⟩, -⟩, ⟨g2, ⟨s3, s4⟩, -⟩⟩, ⟨m63, m64, -⟩, -⟩ := hMI
    obtain ⟨-, -, -, -, -, -, -, -, -, -, -, -, -, F30, F31, F39, F43, -⟩ := hMC
    obtain ⟨F32, F33, F34, F35, F36, F37, F38, F40, F41, F42, F44, -⟩ := hMF
    have hJ : I1 1 h := ⟨bd_of hz, _, k0⟩
    have hSh : ∀ i, Ca G mX10_shapeOf [.ref 0, .int i] h (fun v h' => v = some .null ∧ h' = h) := fun i => (c_shapeOf (n := 0) (by omega) k0 k10 k11 k12 k13).mono (fun v h' e => by
      obtain ⟨rfl, rfl⟩ := e
      exact ⟨rfl, rfl⟩)
    have hSt : ∀ i, Ca G mX14_standing [.ref 233, .int i] h (fun v h' => v = some (.int (-1)) ∧ h' = h) := fun i => r_standing0 hM F33 F30 s1
    exact Pr_get (c_places (n := 0) (g := fun _ => 0) (by omega) k0 k10 k11 k12 k13 (fun i a hi => absurd hi (by omega))) hM (r_places0 hM (hSt _)) hJ
  · intro h hI a
    obtain ⟨hz, hC, hMI⟩ := hI
    obtain ⟨k0, ⟨k1, k2⟩, -, ⟨k10, k11, k12, k13, k14, k15, k16, k17⟩, -, -, -, k231, k232⟩ := hC
    obtain ⟨⟨F, hM, hMC, hMF⟩, -, ⟨-, -, -, -, -, -, ⟨g1, ⟨s1, s2⟩, -⟩, ⟨g2, ⟨s3, s4⟩, -⟩⟩, ⟨m63, m64, -⟩, -⟩ := hMI
    obtain ⟨-, -, -, -, -, -, -, -, -, -, -, -, -, F30, F31, F39, F43, -⟩ := hMC
    obtain ⟨F32, F33, F34, F35, F36, F37, F38, F40, F41, F42, F44, -⟩ := hMF
    have hJ : I1 1 h := ⟨bd_of hz, _, k0⟩
    have hSh : ∀ i, Ca G mX10_shapeOf [.ref 0, .int i] h (fun v h' => v = some .null ∧ h' = h) := fun i => (c_shapeOf (n := 0) (by omega) k0 k10 k11 k12 k13).mono (fun v h' e => by
      obtain ⟨rfl, rfl⟩ := e
      exact ⟨rfl, rfl⟩)
    have hSt : ∀ i, Ca G mX14_standing [.ref 233, .int i] h (fun v h' => v = some (.int (-1)) ∧ h' = h) := fun i => r_standing0 hM F33 F30 s1
    exact Pr_get (c_rings (n := 0) (g := fun _ => 0) (by omega) k0 k10 k11 k12 k13 (fun i a hi => absurd hi (by omega))) hM (r_rings0 hM (hSt _)) hJ
  · intro h hI a b c
    obtain ⟨hz, hC, hMI⟩ := hI
    obtain ⟨k0, ⟨k1, k2⟩, -, ⟨k10, k11, k12, k13, k14, k15, k16, k17⟩, -, -, -, k231, k232⟩ := hC
    obtain ⟨⟨F, hM, hMC, hMF⟩, -, ⟨-, -, -, -, -, -, ⟨g1, ⟨s1, s2⟩, -⟩, ⟨g2, ⟨s3, s4⟩, -⟩⟩, ⟨m63, m64, -⟩, -⟩ := hMI
    obtain ⟨-, -, -, -, -, -, -, -, -, -, -, -, -, F30, F31, F39, F43, -⟩ := hMC
    obtain ⟨F32, F33, F34, F35, F36, F37, F38, F40, F41, F42, F44, -⟩ := hMF
    have hJ : I1 1 h := ⟨bd_of hz, _, k0⟩
    have hSh : ∀ i, Ca G mX10_shapeOf [.ref 0, .int i] h (fun v h' => v = some .null ∧ h' = h) := fun i => (c_shapeOf (n := 0) (by omega) k0 k10 k11 k12 k13).mono (fun v h' e => by
      obtain ⟨rfl, rfl⟩ := e
      exact ⟨rfl, rfl⟩)
    have hSt : ∀ i, Ca G mX14_standing [.ref 233, .int i] h (fun v h' => v = some (.int (-1)) ∧ h' = h) := fun i => r_standing0 hM F33 F30 s1
    exact Pr_get (c_at0 (hSh _) k0) hM (r_at0 hM (hSt _)) hJ
  · intro h hI a b c
    obtain ⟨hz, hC, hMI⟩ := hI
    obtain ⟨k0, ⟨k1, k2⟩, -, ⟨k10, k11, k12, k13, k14, k15, k16, k17⟩, -, -, -, k231, k232⟩ := hC
    obtain ⟨⟨F, hM, hMC, hMF⟩, -, ⟨-, -, -, -, -, -, ⟨g1, ⟨s1, s2⟩, -⟩, ⟨g2, ⟨s3, s4⟩, -⟩⟩, ⟨m63, m64, -⟩, -⟩ := hMI
    obtain ⟨-, -, -, -, -, -, -, -, -, -, -, -, -, F30, F31, F39, F43, -⟩ := hMC
    obtain ⟨F32, F33, F34, F35, F36, F37, F38, F40, F41, F42, F44, -⟩ := hMF
    have hJ : I1 1 h := ⟨bd_of hz, _, k0⟩
    have hSh : ∀ i, Ca G mX10_shapeOf [.ref 0, .int i] h (fun v h' => v = some .null ∧ h' = h) := fun i => (c_shapeOf (n := 0) (by omega) k0 k10 k11 k12 k13).mono (fun v h' e => by
      obtain ⟨rfl, rfl⟩ := e
      exact ⟨rfl, rfl⟩)
    have hSt : ∀ i, Ca G mX14_standing [.ref 233, .int i] h (fun v h' => v = some (.int (-1)) ∧ h' = h) := fun i => r_standing0 hM F33 F30 s1
    exact Pr_get (c_relate0 hSh k0) hM (r_relate0 hM hSt) hJ
  · intro h hI a b c d
    obtain ⟨hz, hC, hMI⟩ := hI
    obtain ⟨k0, ⟨k1, k2⟩, -, ⟨k10, k11, k12, k13, k14, k15, k16, k17⟩, -, -, -, k231, k232⟩ := hC
    obtain ⟨⟨F, hM, hMC, hMF⟩, -, ⟨-, -, -, -, -, -, ⟨g1, ⟨s1, s2⟩, -⟩, ⟨g2, ⟨s3, s4⟩, -⟩⟩, ⟨m63, m64, -⟩, -⟩ := hMI
    obtain ⟨-, -, -, -, -, -, -, -, -, -, -, -, -, F30, F31, F39, F43, -⟩ := hMC
    obtain ⟨F32, F33, F34, F35, F36, F37, F38, F40, F41, F42, F44, -⟩ := hMF
    have hJ : I1 1 h := ⟨bd_of hz, _, k0⟩
    have hSh : ∀ i, Ca G mX10_shapeOf [.ref 0, .int i] h (fun v h' => v = some .null ∧ h' = h) := fun i => (c_shapeOf (n := 0) (by omega) k0 k10 k11 k12 k13).mono (fun v h' e => by
      obtain ⟨rfl, rfl⟩ := e
      exact ⟨rfl, rfl⟩)
    have hSt : ∀ i, Ca G mX14_standing [.ref 233, .int i] h (fun v h' => v = some (.int (-1)) ∧ h' = h) := fun i => r_standing0 hM F33 F30 s1
    exact Pr_get (c_nearer0 hSh k0) hM (r_nearer0 hM hSt) hJ
  · intro h hI
    obtain ⟨hz, hC, hMI⟩ := hI
    obtain ⟨k0, ⟨k1, k2⟩, -, ⟨k10, k11, k12, k13, k14, k15, k16, k17⟩, -, -, -, k231, k232⟩ := hC
    obtain ⟨⟨F, hM, hMC, hMF⟩, -, ⟨-, -, -, -, -, -, ⟨g1, ⟨s1, s2⟩, -⟩, ⟨g2, ⟨s3, s4⟩, -⟩⟩, ⟨m63, m64, -⟩, -⟩ := hMI
    obtain ⟨-, -, -, -, -, -, -, -, -, -, -, -, -, F30, F31, F39, F43, -⟩ := hMC
    obtain ⟨F32, F33, F34, F35, F36, F37, F38, F40, F41, F42, F44, -⟩ := hMF
    have hJ : I1 1 h := ⟨bd_of hz, _, k0⟩
    have hSh : ∀ i, Ca G mX10_shapeOf [.ref 0, .int i] h (fun v h' => v = some .null ∧ h' = h) := fun i => (c_shapeOf (n := 0) (by omega) k0 k10 k11 k12 k13).mono (fun v h' e => by
      obtain ⟨rfl, rfl⟩ := e
      exact ⟨rfl, rfl⟩)
    have hSt : ∀ i, Ca G mX14_standing [.ref 233, .int i] h (fun v h' => v = some (.int (-1)) ∧ h' = h) := fun i => r_standing0 hM F33 F30 s1
    exact Pr_get (c_used k0 k10) hM (r_used hM F33 F35) hJ
  · intro h hI
    obtain ⟨hz, hC, hMI⟩ := hI
    obtain ⟨k0, ⟨k1, k2⟩, -, ⟨k10, k11, k12, k13, k14, k15, k16, k17⟩, -, -, -, k231, k232⟩ := hC
    obtain ⟨⟨F, hM, hMC, hMF⟩, -, ⟨-, -, -, -, -, -, ⟨g1, ⟨s1, s2⟩, -⟩, ⟨g2, ⟨s3, s4⟩, -⟩⟩, ⟨m63, m64, -⟩, -⟩ := hMI
    obtain ⟨-, -, -, -, -, -, -, -, -, -, -, -, -, F30, F31, F39, F43, -⟩ := hMC
    obtain ⟨F32, F33, F34, F35, F36, F37, F38, F40, F41, F42, F44, -⟩ := hMF
    have hJ : I1 1 h := ⟨bd_of hz, _, k0⟩
    have hSh : ∀ i, Ca G mX10_shapeOf [.ref 0, .int i] h (fun v h' => v = some .null ∧ h' = h) := fun i => (c_shapeOf (n := 0) (by omega) k0 k10 k11 k12 k13).mono (fun v h' e => by
      obtain ⟨rfl, rfl⟩ := e
      exact ⟨rfl, rfl⟩)
    have hSt : ∀ i, Ca G mX14_standing [.ref 233, .int i] h (fun v h' => v = some (.int (-1)) ∧ h' = h) := fun i => r_standing0 hM F33 F30 s1
    exact Pr_get (c_saves k0 k10) hM (r_saves hM F36) hJ
  · intro h hI
    obtain ⟨hz, hC, hMI⟩ := hI
    obtain ⟨k0, ⟨k1, k2⟩, -, ⟨k10, k11, k12, k13, k14, k15, k16, k17⟩, -, -, -, k231, k232⟩ := hC
    obtain ⟨⟨F, hM, hMC, hMF⟩, -, ⟨-, -, -, -, -, -, ⟨g1, ⟨s1, s2⟩, -⟩, ⟨g2, ⟨s3, s4⟩, -⟩⟩, ⟨m63, m64, -⟩, -⟩ := hMI
    obtain ⟨-, -, -, -, -, -, -, -, -, -, -, -, -, F30, F31, F39, F43, -⟩ := hMC
    obtain ⟨F32, F33, F34, F35, F36, F37, F38, F40, F41, F42, F44, -⟩ := hMF
    have hJ : I1 1 h := ⟨bd_of hz, _, k0⟩
    have hSh : ∀ i, Ca G mX10_shapeOf [.ref 0, .int i] h (fun v h' => v = some .null ∧ h' = h) := fun i => (c_shapeOf (n := 0) (by omega) k0 k10 k11 k12 k13).mono (fun v h' e => by
      obtain ⟨rfl, rfl⟩ := e
      exact ⟨rfl, rfl⟩)
    have hSt : ∀ i, Ca G mX14_standing [.ref 233, .int i] h (fun v h' => v = some (.int (-1)) ∧ h' = h) := fun i => r_standing0 hM F33 F30 s1
    exact Pr_get (c_flaws0 rfl k0 k10 k11 k14) hM r_flaws hJ
/-- from the entry, for a script of at most 11 ints -/
theorem p1_go (G : xG) (hN : gN G ≤ 11) : Go G mL_law 0 [some (.retAddr 99), none, none, none] [] ((0, 0), fun _ => none) (fun v h' => v = some (.int 1) ∧ Bd h') :=
  law_all (I := I1) (by omega) (fun h a b c => ⟨a, b, c⟩) I1_bd I1_keep (fun n hn => by
    have e : n = 0 := by omega
    subst e
    exact ow_fresh)

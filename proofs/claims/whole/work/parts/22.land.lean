/-! LandBase() -/
/-- what LandBase() leaves: the parts at 1 .. 232 -/
def CIn (h : xH) : Prop :=
  h.2 0 = some (.inr (9, [.ref 1, .ref 3, .ref 10, .ref 27, .ref 29, .ref 30, .ref 231, .ref 232, .int 0, .int 0, .int (-1)])) ∧
  (h.2 1 = some (.inr (8, [.ref 2, .int 0, .int 0, .int 0, .int 0, .int 0])) ∧ h.2 2 = some (.inl (1, 4000, .inl (fun _ => 0)))) ∧
  (h.2 3 = some (.inr (4, [.ref 4, .ref 5, .int 0, .int 0, .int 0, .int 0])) ∧ h.2 4 = some (.inl (0, 6, .inl (fun _ => 0))) ∧ CSh0 h 5) ∧
  (h.2 10 = some (.inr (3, [.ref 11, .ref 14, .ref 17, .int 0, .int 0, .int 0, .int 0, .int 0, .int 0, .int 0, .int (-1), .int 0])) ∧ h.2 11 = some (.inr (7, [.ref 12, .ref 13, .int 0])) ∧ h.2 12 = some (.inl (0, 200, .inl (fun _ => 0))) ∧ h.2 13 = some (.inl (4, 200, .inr (.inr (.inr (.inr (fun _ => none)))))) ∧ h.2 14 = some (.inr (7, [.ref 15, .ref 16, .int 0])) ∧ h.2 15 = some (.inl (0, 200, .inl (fun _ => 0))) ∧ h.2 16 = some (.inl (4, 200, .inr (.inr (.inr (.inr (fun _ => none)))))) ∧ h.2 17 = some (.inl (4, 401, .inr (.inr (.inr (.inr (fun _ => none))))))) ∧
  (h.2 18 = some (.inr (1, [.ref 19, .int 0, .int 0, .int 0, .int 0, .int 0, .int 0, .ref 24, .ref 25, .ref 26, .int 0, .int 0, .int 0, .int 0])) ∧ CSh0 h 19 ∧ h.2 24 = some (.inl (2, 80, .inr (.inl (fun _ => 0)))) ∧ h.2 25 = some (.inl (2, 80, .inr (.inl (fun _ => 0)))) ∧ h.2 26 = some (.inl (0, 80, .inl (fun _ => 0)))) ∧
  (h.2 27 = some (.inr (0, [.ref 18, .ref 28])) ∧ h.2 28 = some (.inl (0, 8, .inl (fun _ => 0))) ∧ h.2 29 = some (.inr (5, [.ref 18]))) ∧
  (∃ f : Nat → Option Nat, h.2 30 = some (.inl (5, 200, .inr (.inr (.inr (.inr f))))) ∧ (∀ i, i < 200 → f i = some (31 + i) ∧ h.2 (31 + i) = some (.inr (2, [.long 0, .long 0, .long 1])))) ∧
  (h.2 231 = some (.inl (0, 200, .inl (fun _ => 0))) ∧ h.2 232 = some (.inl (0, 20000, .inl (fun _ => 0))))
theorem CIn.kept {h h1 : xH} (k : CIn h) (f : ∀ b, b < 233 → h1.2 b = h.2 b) : CIn h1 := by
  obtain ⟨k0, ⟨k1, k2⟩, ⟨k3, k4, k5⟩, ⟨k10, k11, k12, k13, k14, k15, k16, k17⟩, ⟨k18, k19, k24, k25, k26⟩, ⟨k27, k28, k29⟩, ⟨g, k30, k31⟩, k231, k232⟩ := k
  exact ⟨(f _ (by omega)).trans k0, ⟨(f _ (by omega)).trans k1, (f _ (by omega)).trans k2⟩, ⟨(f _ (by omega)).trans k3, (f _ (by omega)).trans k4, k5.kept (fun b _ q => f b (by omega))⟩,
    ⟨(f _ (by omega)).trans k10, (f _ (by omega)).trans k11, (f _ (by omega)).trans k12, (f _ (by omega)).trans k13, (f _ (by omega)).trans k14, (f _ (by omega)).trans k15, (f _ (by omega)).trans k16, (f _ (by omega)).trans k17⟩,
    ⟨(f _ (by omega)).trans k18, k19.kept (fun b _ q => f b (by omega)), (f _ (by omega)).trans k24, (f _ (by omega)).trans k25, (f _ (by omega)).trans k26⟩, ⟨(f _ (by omega)).trans k27, (f _ (by omega)).trans k28, (f _ (by omega)).trans k29⟩,
    ⟨g, (f _ (by omega)).trans k30, fun i hi => ⟨(k31 i hi).1, (f _ (by omega)).trans (k31 i hi).2⟩⟩, (f _ (by omega)).trans k231, (f _ (by omega)).trans k232⟩
set_option maxRecDepth 100000 in
/-- the loop that makes the distances -/
theorem g_Land_init {G : xG} {P : Option Value → xH → Prop} {fs : List Value} (hfs : fs[5]? = some (.ref 30)) (hL : fs.length = 11) :
    ∀ (m i : Nat) (h : xH) (f : Nat → Option Nat), i + m = 200 → h.1 = (31 + i, 5995 + 3 * i) → h.2 0 = some (.inr (9, fs)) → h.2 30 = some (.inl (5, 200, .inr (.inr (.inr (.inr f))))) → (∀ j, j < i → f j = some (31 + j) ∧ h.2 (31 + j) = some (.inr (2, [.long 0, .long 0, .long 1]))) →
    (∀ (h' : xH) (f' : Nat → Option Nat), h'.1 = (231, 6595) → h'.2 0 = some (.inr (9, fs)) → h'.2 30 = some (.inl (5, 200, .inr (.inr (.inr (.inr f'))))) → (∀ j, j < 200 → f' j = some (31 + j) ∧ h'.2 (31 + j) = some (.inr (2, [.long 0, .long 0, .long 1]))) → (∀ b, 0 < b → b < 30 → h'.2 b = h.2 b) → Go G mX10_init 107 [some (.ref 0), some (.ref 18), some (.int 200)] [] h' P) →
    Go G mX10_init 81 [some (.ref 0), some (.ref 18), some (.int (nI i))] [] h P := by
  intro m
  induction m with
  | zero =>
    intro i h f him hz h0 h30 hj k
    have hi : i = 200 := by omega
    subst hi
    refine go_iload_n (i := 2) (pc' := 82) dX10_init_81 rfl rfl rfl ?_
    refine go_sipush (v := 200) (pc' := 85) dX10_init_82 rfl (by decide) ?_
    refine go_icmp_ge (pc' := 88) (tgt := 107) dX10_init_85 (by decide) rfl (fun c1 => ?_) (fun c1 => ?_)
    · exact k h f hz h0 h30 hj (fun _ _ _ => rfl)
    · exact absurd (by decide) c1
  | succ m ih =>
    intro i h f him hz h0 h30 hj k
    have hin : vp_in (nI i) 200 := vp_in_nI (by omega) (by omega)
    have hc : (nI i).toNatClampNeg = i := nI_clamp (by omega)
    refine go_iload_n (i := 2) (pc' := 82) dX10_init_81 rfl rfl rfl ?_
    refine go_sipush (v := 200) (pc' := 85) dX10_init_82 rfl (by decide) ?_
    refine go_icmp_ge (pc' := 88) (tgt := 107) dX10_init_85 (by decide) rfl (fun c1 => ?_) (fun c1 => ?_)
    · exact absurd c1 (nI_ge (a := i) (b := 200) (by omega) (by omega))
    · first | refine go_aload_n (i := 0) (pc' := 89) dX10_init_88 rfl rfl rfl ?_ | refine go_aloadX_n (i := 0) (pc' := 89) dX10_init_88 rfl rfl rfl ?_ | refine go_aload_nN (i := 0) (pc' := 89) dX10_init_88 rfl rfl rfl ?_
      refine go_getf (pc' := 92) dX10_init_89 rfl gf_LandBase_51 h0 hfs ?_
      refine go_iload_n (i := 2) (pc' := 93) dX10_init_92 rfl rfl rfl ?_
      refine go_newK (pc' := 96) dX10_init_93 rfl nw_LandBase_49 hz (fun h1 z1 c1 f1 => ?_)
      have hz := z1
      have h0 := (f1 _ (by omega)).trans h0
      have h30 := (f1 _ (by omega)).trans h30
      have hD := c1
      refine go_dup (pc' := 97) dX10_init_96 rfl rfl ?_
      refine go_invI (As := []) (pc' := 100) dX10_init_97 rfl cf_X10_init_55 rfl rfl (Nat.le_of_ble_eq_true rfl) (c_Distance_init (hz:=hz) (hh:=hD)) (fun v2 h2 q2 => ?_)
      obtain ⟨rfl, hz, hD, f2⟩ := q2
      have h0 := (f2 _ (by omega)).trans h0
      have h30 := (f2 _ (by omega)).trans h30
      refine go_aastoreK (pc' := 101) dX10_init_100 rfl (by decide) rfl rfl h30 hD hin (fun h3 z3 c3 f3 => ?_)
      have hz := z3.trans hz
      have h0 := (f3 _ (by omega)).trans h0
      have hD := (f3 _ (by omega)).trans hD
      have h30 := c3
      refine go_iincC (kk := 1) (pc' := 104) dX10_init_101 rfl rfl (by decide) (by decide) rfl ?_
      refine go_goto (pc' := 0) (tgt := 81) dX10_init_104 (by decide) ?_
      rw [hc] at h30
      rw [nI_1]
      refine ih (i + 1) _ _ (by omega) (by rw [hz]; congr 1) h0 h30 (fun j hj2 => ?_) (fun h' f' e1 e2 e3 e4 e5 => k h' f' e1 e2 e3 e4 (fun b p q => (e5 b p q).trans ?_))
      · by_cases e : j = i
        · subst e
          exact ⟨by simp [va_up], hD⟩
        · refine ⟨by simp [va_up, e, (hj j (by omega)).1], ?_⟩
          rw [f3 _ (by omega), f2 _ (by omega), f1 _ (by omega)]
          exact (hj j (by omega)).2
      · rw [f3 _ (by omega), f2 _ (by omega), f1 _ (by omega)]
set_option maxRecDepth 100000 in
theorem c_Land_init {G : xG} {h : xH} (hz : h.1 = (1, 11)) (hh : h.2 0 = some (.inr (9, [.null, .null, .null, .null, .null, .null, .null, .null, .int 0, .int 0, .int 0]))) : Ca G mX10_init [.ref 0] h (fun v h' => v = none ∧ h'.1 = (233, 26795) ∧ CIn h') := by
  refine Ca.of rfl (Nat.le_of_ble_eq_true rfl) ?_
  first | refine go_aload_n (i := 0) (pc' := 1) dX10_init_0 rfl rfl rfl ?_ | refine go_aloadX_n (i := 0) (pc' := 1) dX10_init_0 rfl rfl rfl ?_ | refine go_aload_nN (i := 0) (pc' := 1) dX10_init_0 rfl rfl rfl ?_
  refine go_objInit (pc' := 4) dX10_init_1 rfl wd_27 wd_28 wd_29 (by decide) (Nat.le_of_ble_eq_true rfl) ?_
  first | refine go_aload_n (i := 0) (pc' := 5) dX10_init_4 rfl rfl rfl ?_ | refine go_aloadX_n (i := 0) (pc' := 5) dX10_init_4 rfl rfl rfl ?_ | refine go_aload_nN (i := 0) (pc' := 5) dX10_init_4 rfl rfl rfl ?_
  refine go_newK (pc' := 8) dX10_init_5 rfl nw_LandBase_7 hz (fun h1 z1 c1 f1 => ?_)
  have hz := z1
  have hh := (f1 _ (by omega)).trans hh
  have h1t := c1
  refine go_dup (pc' := 9) dX10_init_8 rfl rfl ?_
  refine go_invI (As := []) (pc' := 12) dX10_init_9 rfl cf_X10_init_9 rfl rfl (Nat.le_of_ble_eq_true rfl) (c_Tape_init (hz:=hz) (ha:=by omega) (hh:=h1t)) (fun v2 h2 q2 => ?_)
  obtain ⟨rfl, hz, h1t, h2t, f2⟩ := q2
  have hh := (f2 _ (by omega)).trans hh
  have hz : h2.1 = (3, 4017) := hz
  refine go_putfK (pc' := 15) dX10_init_12 rfl pf_LandBase_10 (fun _ => rfl) hh (Nat.le_of_ble_eq_true rfl) rfl rfl (fun h3 z3 c3 f3 => ?_)
  dsimp only [List.set] at c3
  have hz := z3.trans hz
  have h1t := (f3 _ (by omega)).trans h1t
  have h2t := (f3 _ (by omega)).trans h2t
  have hh := c3
  first | refine go_aload_n (i := 0) (pc' := 16) dX10_init_15 rfl rfl rfl ?_ | refine go_aloadX_n (i := 0) (pc' := 16) dX10_init_15 rfl rfl rfl ?_ | refine go_aload_nN (i := 0) (pc' := 16) dX10_init_15 rfl rfl rfl ?_
  refine go_newK (pc' := 19) dX10_init_16 rfl nw_LandBase_16 hz (fun h4 z4 c4 f4 => ?_)
  have hz := z4
  have hh := (f4 _ (by omega)).trans hh
  have h1t := (f4 _ (by omega)).trans h1t
  have h2t := (f4 _ (by omega)).trans h2t
  have h3t := c4
  refine go_dup (pc' := 20) dX10_init_19 rfl rfl ?_
  refine go_invI (As := []) (pc' := 23) dX10_init_20 rfl cf_X10_init_18 rfl rfl (Nat.le_of_ble_eq_true rfl) (c_Reader_init (hz:=hz) (ha:=by omega) (hh:=h3t)) (fun v5 h5 q5 => ?_)
  obtain ⟨rfl, hz, h3t, h4t, hS5, f5⟩ := q5
  have hh := (f5 _ (by omega)).trans hh
  have h1t := (f5 _ (by omega)).trans h1t
  have h2t := (f5 _ (by omega)).trans h2t
  have hz : h5.1 = (10, 4170) := hz
  have hR5 : ∀ b, 5 ≤ b → b < 10 → h5.2 b = h5.2 b := fun _ _ _ => rfl
  refine go_putfK (pc' := 26) dX10_init_23 rfl pf_LandBase_19 (fun _ => rfl) hh (Nat.le_of_ble_eq_true rfl) rfl rfl (fun h6 z6 c6 f6 => ?_)
  dsimp only [List.set] at c6
  have hz := z6.trans hz
  have h1t := (f6 _ (by omega)).trans h1t
  have h2t := (f6 _ (by omega)).trans h2t
  have h3t := (f6 _ (by omega)).trans h3t
  have h4t := (f6 _ (by omega)).trans h4t
  have hR5 : ∀ b, 5 ≤ b → b < 10 → h6.2 b = h5.2 b := fun b p q => (f6 b (by omega)).trans (hR5 b p q)
  have hh := c6
  first | refine go_aload_n (i := 0) (pc' := 27) dX10_init_26 rfl rfl rfl ?_ | refine go_aloadX_n (i := 0) (pc' := 27) dX10_init_26 rfl rfl rfl ?_ | refine go_aload_nN (i := 0) (pc' := 27) dX10_init_26 rfl rfl rfl ?_
  refine go_newK (pc' := 30) dX10_init_27 rfl nw_LandBase_23 hz (fun h7 z7 c7 f7 => ?_)
  have hz := z7
  have hh := (f7 _ (by omega)).trans hh
  have h1t := (f7 _ (by omega)).trans h1t
  have h2t := (f7 _ (by omega)).trans h2t
  have h3t := (f7 _ (by omega)).trans h3t
  have h4t := (f7 _ (by omega)).trans h4t
  have hR5 : ∀ b, 5 ≤ b → b < 10 → h7.2 b = h5.2 b := fun b p q => (f7 b (by omega)).trans (hR5 b p q)
  have h10t := c7
  refine go_dup (pc' := 31) dX10_init_30 rfl rfl ?_
  refine go_invI (As := []) (pc' := 34) dX10_init_31 rfl cf_X10_init_25 rfl rfl (Nat.le_of_ble_eq_true rfl) (c_Keeper_init (hz:=hz) (ha:=by omega) (hh:=h10t)) (fun v8 h8 q8 => ?_)
  obtain ⟨rfl, hz, h10t, h11t, h12t, h13t, h14t, h15t, h16t, h17t, f8⟩ := q8
  have hh := (f8 _ (by omega)).trans hh
  have h1t := (f8 _ (by omega)).trans h1t
  have h2t := (f8 _ (by omega)).trans h2t
  have h3t := (f8 _ (by omega)).trans h3t
  have h4t := (f8 _ (by omega)).trans h4t
  have hR5 : ∀ b, 5 ≤ b → b < 10 → h8.2 b = h5.2 b := fun b p q => (f8 b (by omega)).trans (hR5 b p q)
  have hz : h8.1 = (18, 5389) := hz
  refine go_putfK (pc' := 37) dX10_init_34 rfl pf_LandBase_26 (fun _ => rfl) hh (Nat.le_of_ble_eq_true rfl) rfl rfl (fun h9 z9 c9 f9 => ?_)
  dsimp only [List.set] at c9
  have hz := z9.trans hz
  have h1t := (f9 _ (by omega)).trans h1t
  have h2t := (f9 _ (by omega)).trans h2t
  have h3t := (f9 _ (by omega)).trans h3t
  have h4t := (f9 _ (by omega)).trans h4t
  have h10t := (f9 _ (by omega)).trans h10t
  have h11t := (f9 _ (by omega)).trans h11t
  have h12t := (f9 _ (by omega)).trans h12t
  have h13t := (f9 _ (by omega)).trans h13t
  have h14t := (f9 _ (by omega)).trans h14t
  have h15t := (f9 _ (by omega)).trans h15t
  have h16t := (f9 _ (by omega)).trans h16t
  have h17t := (f9 _ (by omega)).trans h17t
  have hR5 : ∀ b, 5 ≤ b → b < 10 → h9.2 b = h5.2 b := fun b p q => (f9 b (by omega)).trans (hR5 b p q)
  have hh := c9
  refine go_newK (pc' := 40) dX10_init_37 rfl nw_LandBase_30 hz (fun h10 z10 c10 f10 => ?_)
  have hz := z10
  have hh := (f10 _ (by omega)).trans hh
  have h1t := (f10 _ (by omega)).trans h1t
  have h2t := (f10 _ (by omega)).trans h2t
  have h3t := (f10 _ (by omega)).trans h3t
  have h4t := (f10 _ (by omega)).trans h4t
  have h10t := (f10 _ (by omega)).trans h10t
  have h11t := (f10 _ (by omega)).trans h11t
  have h12t := (f10 _ (by omega)).trans h12t
  have h13t := (f10 _ (by omega)).trans h13t
  have h14t := (f10 _ (by omega)).trans h14t
  have h15t := (f10 _ (by omega)).trans h15t
  have h16t := (f10 _ (by omega)).trans h16t
  have h17t := (f10 _ (by omega)).trans h17t
  have hR5 : ∀ b, 5 ≤ b → b < 10 → h10.2 b = h5.2 b := fun b p q => (f10 b (by omega)).trans (hR5 b p q)
  have h18t := c10
  refine go_dup (pc' := 41) dX10_init_40 rfl rfl ?_
  refine go_invI (As := []) (pc' := 44) dX10_init_41 rfl cf_X10_init_32 rfl rfl (Nat.le_of_ble_eq_true rfl) (c_Cutter_init (hz:=hz) (ha:=by omega) (hh:=h18t)) (fun v11 h11 q11 => ?_)
  obtain ⟨rfl, hz, h18t, hS19, h24t, h25t, h26t, f11⟩ := q11
  have hh := (f11 _ (by omega)).trans hh
  have h1t := (f11 _ (by omega)).trans h1t
  have h2t := (f11 _ (by omega)).trans h2t
  have h3t := (f11 _ (by omega)).trans h3t
  have h4t := (f11 _ (by omega)).trans h4t
  have h10t := (f11 _ (by omega)).trans h10t
  have h11t := (f11 _ (by omega)).trans h11t
  have h12t := (f11 _ (by omega)).trans h12t
  have h13t := (f11 _ (by omega)).trans h13t
  have h14t := (f11 _ (by omega)).trans h14t
  have h15t := (f11 _ (by omega)).trans h15t
  have h16t := (f11 _ (by omega)).trans h16t
  have h17t := (f11 _ (by omega)).trans h17t
  have hR5 : ∀ b, 5 ≤ b → b < 10 → h11.2 b = h5.2 b := fun b p q => (f11 b (by omega)).trans (hR5 b p q)
  have hz : h11.1 = (27, 5784) := hz
  have hR19 : ∀ b, 19 ≤ b → b < 24 → h11.2 b = h11.2 b := fun _ _ _ => rfl
  first | refine go_astore_n (i := 1) (pc' := 45) dX10_init_44 rfl rfl (by decide) rfl ?_ | refine go_astoreX_n (i := 1) (pc' := 45) dX10_init_44 rfl rfl (by decide) rfl ?_ | refine go_astore_nN (i := 1) (pc' := 45) dX10_init_44 rfl rfl (by decide) rfl ?_
  first | refine go_aload_n (i := 0) (pc' := 46) dX10_init_45 rfl rfl rfl ?_ | refine go_aloadX_n (i := 0) (pc' := 46) dX10_init_45 rfl rfl rfl ?_ | refine go_aload_nN (i := 0) (pc' := 46) dX10_init_45 rfl rfl rfl ?_
  refine go_newK (pc' := 49) dX10_init_46 rfl nw_LandBase_33 hz (fun h12 z12 c12 f12 => ?_)
  have hz := z12
  have hh := (f12 _ (by omega)).trans hh
  have h1t := (f12 _ (by omega)).trans h1t
  have h2t := (f12 _ (by omega)).trans h2t
  have h3t := (f12 _ (by omega)).trans h3t
  have h4t := (f12 _ (by omega)).trans h4t
  have h10t := (f12 _ (by omega)).trans h10t
  have h11t := (f12 _ (by omega)).trans h11t
  have h12t := (f12 _ (by omega)).trans h12t
  have h13t := (f12 _ (by omega)).trans h13t
  have h14t := (f12 _ (by omega)).trans h14t
  have h15t := (f12 _ (by omega)).trans h15t
  have h16t := (f12 _ (by omega)).trans h16t
  have h17t := (f12 _ (by omega)).trans h17t
  have h18t := (f12 _ (by omega)).trans h18t
  have h24t := (f12 _ (by omega)).trans h24t
  have h25t := (f12 _ (by omega)).trans h25t
  have h26t := (f12 _ (by omega)).trans h26t
  have hR5 : ∀ b, 5 ≤ b → b < 10 → h12.2 b = h5.2 b := fun b p q => (f12 b (by omega)).trans (hR5 b p q)
  have hR19 : ∀ b, 19 ≤ b → b < 24 → h12.2 b = h11.2 b := fun b p q => (f12 b (by omega)).trans (hR19 b p q)
  have h27t := c12
  refine go_dup (pc' := 50) dX10_init_49 rfl rfl ?_
  first | refine go_aload_n (i := 1) (pc' := 51) dX10_init_50 rfl rfl rfl ?_ | refine go_aloadX_n (i := 1) (pc' := 51) dX10_init_50 rfl rfl rfl ?_ | refine go_aload_nN (i := 1) (pc' := 51) dX10_init_50 rfl rfl rfl ?_
  refine go_invI (As := [_]) (pc' := 54) dX10_init_51 rfl cf_X10_init_35 rfl rfl (Nat.le_of_ble_eq_true rfl) (c_Checker_init (hz:=hz) (ha:=by omega) (hh:=h27t)) (fun v13 h13 q13 => ?_)
  obtain ⟨rfl, hz, h27t, h28t, f13⟩ := q13
  have hh := (f13 _ (by omega)).trans hh
  have h1t := (f13 _ (by omega)).trans h1t
  have h2t := (f13 _ (by omega)).trans h2t
  have h3t := (f13 _ (by omega)).trans h3t
  have h4t := (f13 _ (by omega)).trans h4t
  have h10t := (f13 _ (by omega)).trans h10t
  have h11t := (f13 _ (by omega)).trans h11t
  have h12t := (f13 _ (by omega)).trans h12t
  have h13t := (f13 _ (by omega)).trans h13t
  have h14t := (f13 _ (by omega)).trans h14t
  have h15t := (f13 _ (by omega)).trans h15t
  have h16t := (f13 _ (by omega)).trans h16t
  have h17t := (f13 _ (by omega)).trans h17t
  have h18t := (f13 _ (by omega)).trans h18t
  have h24t := (f13 _ (by omega)).trans h24t
  have h25t := (f13 _ (by omega)).trans h25t
  have h26t := (f13 _ (by omega)).trans h26t
  have hR5 : ∀ b, 5 ≤ b → b < 10 → h13.2 b = h5.2 b := fun b p q => (f13 b (by omega)).trans (hR5 b p q)
  have hR19 : ∀ b, 19 ≤ b → b < 24 → h13.2 b = h11.2 b := fun b p q => (f13 b (by omega)).trans (hR19 b p q)
  have hz : h13.1 = (29, 5794) := hz
  refine go_putfK (pc' := 57) dX10_init_54 rfl pf_LandBase_38 (fun _ => rfl) hh (Nat.le_of_ble_eq_true rfl) rfl rfl (fun h14 z14 c14 f14 => ?_)
  dsimp only [List.set] at c14
  have hz := z14.trans hz
  have h1t := (f14 _ (by omega)).trans h1t
  have h2t := (f14 _ (by omega)).trans h2t
  have h3t := (f14 _ (by omega)).trans h3t
  have h4t := (f14 _ (by omega)).trans h4t
  have h10t := (f14 _ (by omega)).trans h10t
  have h11t := (f14 _ (by omega)).trans h11t
  have h12t := (f14 _ (by omega)).trans h12t
  have h13t := (f14 _ (by omega)).trans h13t
  have h14t := (f14 _ (by omega)).trans h14t
  have h15t := (f14 _ (by omega)).trans h15t
  have h16t := (f14 _ (by omega)).trans h16t
  have h17t := (f14 _ (by omega)).trans h17t
  have h18t := (f14 _ (by omega)).trans h18t
  have h24t := (f14 _ (by omega)).trans h24t
  have h25t := (f14 _ (by omega)).trans h25t
  have h26t := (f14 _ (by omega)).trans h26t
  have h27t := (f14 _ (by omega)).trans h27t
  have h28t := (f14 _ (by omega)).trans h28t
  have hR5 : ∀ b, 5 ≤ b → b < 10 → h14.2 b = h5.2 b := fun b p q => (f14 b (by omega)).trans (hR5 b p q)
  have hR19 : ∀ b, 19 ≤ b → b < 24 → h14.2 b = h11.2 b := fun b p q => (f14 b (by omega)).trans (hR19 b p q)
  have hh := c14
  first | refine go_aload_n (i := 0) (pc' := 58) dX10_init_57 rfl rfl rfl ?_ | refine go_aloadX_n (i := 0) (pc' := 58) dX10_init_57 rfl rfl rfl ?_ | refine go_aload_nN (i := 0) (pc' := 58) dX10_init_57 rfl rfl rfl ?_
  refine go_newK (pc' := 61) dX10_init_58 rfl nw_LandBase_42 hz (fun h15 z15 c15 f15 => ?_)
  have hz := z15
  have hh := (f15 _ (by omega)).trans hh
  have h1t := (f15 _ (by omega)).trans h1t
  have h2t := (f15 _ (by omega)).trans h2t
  have h3t := (f15 _ (by omega)).trans h3t
  have h4t := (f15 _ (by omega)).trans h4t
  have h10t := (f15 _ (by omega)).trans h10t
  have h11t := (f15 _ (by omega)).trans h11t
  have h12t := (f15 _ (by omega)).trans h12t
  have h13t := (f15 _ (by omega)).trans h13t
  have h14t := (f15 _ (by omega)).trans h14t
  have h15t := (f15 _ (by omega)).trans h15t
  have h16t := (f15 _ (by omega)).trans h16t
  have h17t := (f15 _ (by omega)).trans h17t
  have h18t := (f15 _ (by omega)).trans h18t
  have h24t := (f15 _ (by omega)).trans h24t
  have h25t := (f15 _ (by omega)).trans h25t
  have h26t := (f15 _ (by omega)).trans h26t
  have h27t := (f15 _ (by omega)).trans h27t
  have h28t := (f15 _ (by omega)).trans h28t
  have hR5 : ∀ b, 5 ≤ b → b < 10 → h15.2 b = h5.2 b := fun b p q => (f15 b (by omega)).trans (hR5 b p q)
  have hR19 : ∀ b, 19 ≤ b → b < 24 → h15.2 b = h11.2 b := fun b p q => (f15 b (by omega)).trans (hR19 b p q)
  have h29t := c15
  refine go_dup (pc' := 62) dX10_init_61 rfl rfl ?_
  first | refine go_aload_n (i := 1) (pc' := 63) dX10_init_62 rfl rfl rfl ?_ | refine go_aloadX_n (i := 1) (pc' := 63) dX10_init_62 rfl rfl rfl ?_ | refine go_aload_nN (i := 1) (pc' := 63) dX10_init_62 rfl rfl rfl ?_
  refine go_invI (As := [_]) (pc' := 66) dX10_init_63 rfl cf_X10_init_44 rfl rfl (Nat.le_of_ble_eq_true rfl) (c_Relations_init (hz:=hz) (hh:=h29t)) (fun v16 h16 q16 => ?_)
  obtain ⟨rfl, hz, h29t, f16⟩ := q16
  have hh := (f16 _ (by omega)).trans hh
  have h1t := (f16 _ (by omega)).trans h1t
  have h2t := (f16 _ (by omega)).trans h2t
  have h3t := (f16 _ (by omega)).trans h3t
  have h4t := (f16 _ (by omega)).trans h4t
  have h10t := (f16 _ (by omega)).trans h10t
  have h11t := (f16 _ (by omega)).trans h11t
  have h12t := (f16 _ (by omega)).trans h12t
  have h13t := (f16 _ (by omega)).trans h13t
  have h14t := (f16 _ (by omega)).trans h14t
  have h15t := (f16 _ (by omega)).trans h15t
  have h16t := (f16 _ (by omega)).trans h16t
  have h17t := (f16 _ (by omega)).trans h17t
  have h18t := (f16 _ (by omega)).trans h18t
  have h24t := (f16 _ (by omega)).trans h24t
  have h25t := (f16 _ (by omega)).trans h25t
  have h26t := (f16 _ (by omega)).trans h26t
  have h27t := (f16 _ (by omega)).trans h27t
  have h28t := (f16 _ (by omega)).trans h28t
  have hR5 : ∀ b, 5 ≤ b → b < 10 → h16.2 b = h5.2 b := fun b p q => (f16 b (by omega)).trans (hR5 b p q)
  have hR19 : ∀ b, 19 ≤ b → b < 24 → h16.2 b = h11.2 b := fun b p q => (f16 b (by omega)).trans (hR19 b p q)
  have hz : h16.1 = (30, 5795) := hz
  refine go_putfK (pc' := 69) dX10_init_66 rfl pf_LandBase_45 (fun _ => rfl) hh (Nat.le_of_ble_eq_true rfl) rfl rfl (fun h17 z17 c17 f17 => ?_)
  dsimp only [List.set] at c17
  have hz := z17.trans hz
  have h1t := (f17 _ (by omega)).trans h1t
  have h2t := (f17 _ (by omega)).trans h2t
  have h3t := (f17 _ (by omega)).trans h3t
  have h4t := (f17 _ (by omega)).trans h4t
  have h10t := (f17 _ (by omega)).trans h10t
  have h11t := (f17 _ (by omega)).trans h11t
  have h12t := (f17 _ (by omega)).trans h12t
  have h13t := (f17 _ (by omega)).trans h13t
  have h14t := (f17 _ (by omega)).trans h14t
  have h15t := (f17 _ (by omega)).trans h15t
  have h16t := (f17 _ (by omega)).trans h16t
  have h17t := (f17 _ (by omega)).trans h17t
  have h18t := (f17 _ (by omega)).trans h18t
  have h24t := (f17 _ (by omega)).trans h24t
  have h25t := (f17 _ (by omega)).trans h25t
  have h26t := (f17 _ (by omega)).trans h26t
  have h27t := (f17 _ (by omega)).trans h27t
  have h28t := (f17 _ (by omega)).trans h28t
  have h29t := (f17 _ (by omega)).trans h29t
  have hR5 : ∀ b, 5 ≤ b → b < 10 → h17.2 b = h5.2 b := fun b p q => (f17 b (by omega)).trans (hR5 b p q)
  have hR19 : ∀ b, 19 ≤ b → b < 24 → h17.2 b = h11.2 b := fun b p q => (f17 b (by omega)).trans (hR19 b p q)
  have hh := c17
  first | refine go_aload_n (i := 0) (pc' := 70) dX10_init_69 rfl rfl rfl ?_ | refine go_aloadX_n (i := 0) (pc' := 70) dX10_init_69 rfl rfl rfl ?_ | refine go_aload_nN (i := 0) (pc' := 70) dX10_init_69 rfl rfl rfl ?_
  refine go_sipush (v := 200) (pc' := 73) dX10_init_70 rfl (by decide) ?_
  refine go_anewarrayK (t := 5) (N := 200) (pc' := 76) dX10_init_73 rfl (by decide) rfl wd_323 (by decide) (by decide) (by decide) hz (fun h18 z18 c18 f18 => ?_)
  have hz := z18
  have hh := (f18 _ (by omega)).trans hh
  have h1t := (f18 _ (by omega)).trans h1t
  have h2t := (f18 _ (by omega)).trans h2t
  have h3t := (f18 _ (by omega)).trans h3t
  have h4t := (f18 _ (by omega)).trans h4t
  have h10t := (f18 _ (by omega)).trans h10t
  have h11t := (f18 _ (by omega)).trans h11t
  have h12t := (f18 _ (by omega)).trans h12t
  have h13t := (f18 _ (by omega)).trans h13t
  have h14t := (f18 _ (by omega)).trans h14t
  have h15t := (f18 _ (by omega)).trans h15t
  have h16t := (f18 _ (by omega)).trans h16t
  have h17t := (f18 _ (by omega)).trans h17t
  have h18t := (f18 _ (by omega)).trans h18t
  have h24t := (f18 _ (by omega)).trans h24t
  have h25t := (f18 _ (by omega)).trans h25t
  have h26t := (f18 _ (by omega)).trans h26t
  have h27t := (f18 _ (by omega)).trans h27t
  have h28t := (f18 _ (by omega)).trans h28t
  have h29t := (f18 _ (by omega)).trans h29t
  have hR5 : ∀ b, 5 ≤ b → b < 10 → h18.2 b = h5.2 b := fun b p q => (f18 b (by omega)).trans (hR5 b p q)
  have hR19 : ∀ b, 19 ≤ b → b < 24 → h18.2 b = h11.2 b := fun b p q => (f18 b (by omega)).trans (hR19 b p q)
  have h30t : h18.2 _ = some (.inl (5, 200, .inr (.inr (.inr (.inr (fun _ => none)))))) := c18
  refine go_putfK (pc' := 79) dX10_init_76 rfl pf_LandBase_51 (fun _ => rfl) hh (Nat.le_of_ble_eq_true rfl) rfl rfl (fun h19 z19 c19 f19 => ?_)
  dsimp only [List.set] at c19
  have hz := z19.trans hz
  have h1t := (f19 _ (by omega)).trans h1t
  have h2t := (f19 _ (by omega)).trans h2t
  have h3t := (f19 _ (by omega)).trans h3t
  have h4t := (f19 _ (by omega)).trans h4t
  have h10t := (f19 _ (by omega)).trans h10t
  have h11t := (f19 _ (by omega)).trans h11t
  have h12t := (f19 _ (by omega)).trans h12t
  have h13t := (f19 _ (by omega)).trans h13t
  have h14t := (f19 _ (by omega)).trans h14t
  have h15t := (f19 _ (by omega)).trans h15t
  have h16t := (f19 _ (by omega)).trans h16t
  have h17t := (f19 _ (by omega)).trans h17t
  have h18t := (f19 _ (by omega)).trans h18t
  have h24t := (f19 _ (by omega)).trans h24t
  have h25t := (f19 _ (by omega)).trans h25t
  have h26t := (f19 _ (by omega)).trans h26t
  have h27t := (f19 _ (by omega)).trans h27t
  have h28t := (f19 _ (by omega)).trans h28t
  have h29t := (f19 _ (by omega)).trans h29t
  have h30t := (f19 _ (by omega)).trans h30t
  have hR5 : ∀ b, 5 ≤ b → b < 10 → h19.2 b = h5.2 b := fun b p q => (f19 b (by omega)).trans (hR5 b p q)
  have hR19 : ∀ b, 19 ≤ b → b < 24 → h19.2 b = h11.2 b := fun b p q => (f19 b (by omega)).trans (hR19 b p q)
  have hh := c19
  refine go_iconst (v := 0) (pc' := 80) dX10_init_79 rfl (by decide) ?_
  refine go_istore_n (i := 2) (pc' := 81) dX10_init_80 rfl rfl (by decide) rfl ?_
  have hz : h19.1 = (31, 5995) := hz
  have hcur := hz
  refine g_Land_init (fs := [.ref 1, .ref 3, .ref 10, .ref 27, .ref 29, .ref 30, .null, .null, .int 0, .int 0, .int 0]) rfl rfl 200 0 _ _ rfl hz hh h30t (fun j hj => absurd hj (by omega)) (fun h50 f50 hz hh h30t h31t fr50 => ?_)
  have h1t := (fr50 _ (by omega) (by omega)).trans h1t
  have h2t := (fr50 _ (by omega) (by omega)).trans h2t
  have h3t := (fr50 _ (by omega) (by omega)).trans h3t
  have h4t := (fr50 _ (by omega) (by omega)).trans h4t
  have hR5' : ∀ b, 5 ≤ b → b < 10 → h50.2 b = _ := fun b p q => (fr50 b (by omega) (by omega)).trans (hR5 b p q)
  have h10t := (fr50 _ (by omega) (by omega)).trans h10t
  have h11t := (fr50 _ (by omega) (by omega)).trans h11t
  have h12t := (fr50 _ (by omega) (by omega)).trans h12t
  have h13t := (fr50 _ (by omega) (by omega)).trans h13t
  have h14t := (fr50 _ (by omega) (by omega)).trans h14t
  have h15t := (fr50 _ (by omega) (by omega)).trans h15t
  have h16t := (fr50 _ (by omega) (by omega)).trans h16t
  have h17t := (fr50 _ (by omega) (by omega)).trans h17t
  have h18t := (fr50 _ (by omega) (by omega)).trans h18t
  have hR19' : ∀ b, 19 ≤ b → b < 24 → h50.2 b = _ := fun b p q => (fr50 b (by omega) (by omega)).trans (hR19 b p q)
  have h24t := (fr50 _ (by omega) (by omega)).trans h24t
  have h25t := (fr50 _ (by omega) (by omega)).trans h25t
  have h26t := (fr50 _ (by omega) (by omega)).trans h26t
  have h27t := (fr50 _ (by omega) (by omega)).trans h27t
  have h28t := (fr50 _ (by omega) (by omega)).trans h28t
  have h29t := (fr50 _ (by omega) (by omega)).trans h29t
  have hS5 := hS5.kept (fun b p q => hR5' b (by omega) (by omega))
  have hS19 := hS19.kept (fun b p q => hR19' b (by omega) (by omega))
  have hfr : ∀ b, (0 < b ∧ b < 231) → h50.2 b = h50.2 b := fun _ _ => rfl
  first | refine go_aload_n (i := 0) (pc' := 108) dX10_init_107 rfl rfl rfl ?_ | refine go_aloadX_n (i := 0) (pc' := 108) dX10_init_107 rfl rfl rfl ?_ | refine go_aload_nN (i := 0) (pc' := 108) dX10_init_107 rfl rfl rfl ?_
  refine go_sipush (v := 200) (pc' := 111) dX10_init_108 rfl (by decide) ?_
  refine go_newarrayK (t := 0) (N := 200) (pc' := 113) dX10_init_111 rfl rfl (by decide) wd_149 (by decide) (by decide) (by decide) hz (fun h51 z51 c51 f51 => ?_)
  have hz := z51
  have hh := (f51 _ (by omega)).trans hh
  have hfr : ∀ b, (0 < b ∧ b < 231) → h51.2 b = h50.2 b := fun b hb => (f51 b (by omega)).trans (hfr b hb)
  have h231t : h51.2 _ = some (.inl (0, 200, .inl (fun _ => 0))) := c51
  refine go_putfK (pc' := 116) dX10_init_113 rfl pf_LandBase_56 (fun _ => rfl) hh (Nat.le_of_ble_eq_true rfl) rfl rfl (fun h52 z52 c52 f52 => ?_)
  dsimp only [List.set] at c52
  have hz := z52.trans hz
  have h231t := (f52 _ (by omega)).trans h231t
  have hfr : ∀ b, (0 < b ∧ b < 231) → h52.2 b = h50.2 b := fun b hb => (f52 b (by omega)).trans (hfr b hb)
  have hh := c52
  first | refine go_aload_n (i := 0) (pc' := 117) dX10_init_116 rfl rfl rfl ?_ | refine go_aloadX_n (i := 0) (pc' := 117) dX10_init_116 rfl rfl rfl ?_ | refine go_aload_nN (i := 0) (pc' := 117) dX10_init_116 rfl rfl rfl ?_
  refine go_sipush (v := 20000) (pc' := 120) dX10_init_117 rfl (by decide) ?_
  refine go_newarrayK (t := 0) (N := 20000) (pc' := 122) dX10_init_120 rfl rfl (by decide) wd_149 (by decide) (by decide) (by decide) hz (fun h53 z53 c53 f53 => ?_)
  have hz := z53
  have hh := (f53 _ (by omega)).trans hh
  have h231t := (f53 _ (by omega)).trans h231t
  have hfr : ∀ b, (0 < b ∧ b < 231) → h53.2 b = h50.2 b := fun b hb => (f53 b (by omega)).trans (hfr b hb)
  have h232t : h53.2 _ = some (.inl (0, 20000, .inl (fun _ => 0))) := c53
  refine go_putfK (pc' := 125) dX10_init_122 rfl pf_LandBase_60 (fun _ => rfl) hh (Nat.le_of_ble_eq_true rfl) rfl rfl (fun h54 z54 c54 f54 => ?_)
  dsimp only [List.set] at c54
  have hz := z54.trans hz
  have h231t := (f54 _ (by omega)).trans h231t
  have h232t := (f54 _ (by omega)).trans h232t
  have hfr : ∀ b, (0 < b ∧ b < 231) → h54.2 b = h50.2 b := fun b hb => (f54 b (by omega)).trans (hfr b hb)
  have hh := c54
  first | refine go_aload_n (i := 0) (pc' := 126) dX10_init_125 rfl rfl rfl ?_ | refine go_aloadX_n (i := 0) (pc' := 126) dX10_init_125 rfl rfl rfl ?_ | refine go_aload_nN (i := 0) (pc' := 126) dX10_init_125 rfl rfl rfl ?_
  refine go_iconst (v := 0) (pc' := 127) dX10_init_126 rfl (by decide) ?_
  refine go_putfK (pc' := 130) dX10_init_127 rfl pf_LandBase_63 (fun h => by cases h) hh (Nat.le_of_ble_eq_true rfl) rfl rfl (fun h55 z55 c55 f55 => ?_)
  dsimp only [List.set] at c55
  have hz := z55.trans hz
  have h231t := (f55 _ (by omega)).trans h231t
  have h232t := (f55 _ (by omega)).trans h232t
  have hfr : ∀ b, (0 < b ∧ b < 231) → h55.2 b = h50.2 b := fun b hb => (f55 b (by omega)).trans (hfr b hb)
  have hh := c55
  first | refine go_aload_n (i := 0) (pc' := 131) dX10_init_130 rfl rfl rfl ?_ | refine go_aloadX_n (i := 0) (pc' := 131) dX10_init_130 rfl rfl rfl ?_ | refine go_aload_nN (i := 0) (pc' := 131) dX10_init_130 rfl rfl rfl ?_
  refine go_iconst (v := 0) (pc' := 132) dX10_init_131 rfl (by decide) ?_
  refine go_putfK (pc' := 135) dX10_init_132 rfl pf_LandBase_67 (fun h => by cases h) hh (Nat.le_of_ble_eq_true rfl) rfl rfl (fun h56 z56 c56 f56 => ?_)
  dsimp only [List.set] at c56
  have hz := z56.trans hz
  have h231t := (f56 _ (by omega)).trans h231t
  have h232t := (f56 _ (by omega)).trans h232t
  have hfr : ∀ b, (0 < b ∧ b < 231) → h56.2 b = h50.2 b := fun b hb => (f56 b (by omega)).trans (hfr b hb)
  have hh := c56
  first | refine go_aload_n (i := 0) (pc' := 136) dX10_init_135 rfl rfl rfl ?_ | refine go_aloadX_n (i := 0) (pc' := 136) dX10_init_135 rfl rfl rfl ?_ | refine go_aload_nN (i := 0) (pc' := 136) dX10_init_135 rfl rfl rfl ?_
  refine go_iconst (v := (-1)) (pc' := 137) dX10_init_136 rfl (by decide) ?_
  refine go_putfK (pc' := 140) dX10_init_137 rfl pf_LandBase_70 (fun h => by cases h) hh (Nat.le_of_ble_eq_true rfl) rfl rfl (fun h57 z57 c57 f57 => ?_)
  dsimp only [List.set] at c57
  have hz := z57.trans hz
  have h231t := (f57 _ (by omega)).trans h231t
  have h232t := (f57 _ (by omega)).trans h232t
  have hfr : ∀ b, (0 < b ∧ b < 231) → h57.2 b = h50.2 b := fun b hb => (f57 b (by omega)).trans (hfr b hb)
  have hh := c57
  refine Go.ret (v := none) dX10_init_140 rfl ⟨trivial, rfl, hz, hh, ⟨(hfr _ (by omega)).trans h1t, (hfr _ (by omega)).trans h2t⟩, ⟨(hfr _ (by omega)).trans h3t, (hfr _ (by omega)).trans h4t, hS5.kept (fun b p q => hfr b (by omega))⟩, ⟨(hfr _ (by omega)).trans h10t, (hfr _ (by omega)).trans h11t, (hfr _ (by omega)).trans h12t, (hfr _ (by omega)).trans h13t, (hfr _ (by omega)).trans h14t, (hfr _ (by omega)).trans h15t, (hfr _ (by omega)).trans h16t, (hfr _ (by omega)).trans h17t⟩, ⟨(hfr _ (by omega)).trans h18t, hS19.kept (fun b p q => hfr b (by omega)), (hfr _ (by omega)).trans h24t, (hfr _ (by omega)).trans h25t, (hfr _ (by omega)).trans h26t⟩, ⟨(hfr _ (by omega)).trans h27t, (hfr _ (by omega)).trans h28t, (hfr _ (by omega)).trans h29t⟩, ⟨f50, (hfr _ (by omega)).trans h30t, fun i hi => ⟨(h31t i hi).1, (hfr _ (by omega)).trans (h31t i hi).2⟩⟩, h231t, h232t⟩

/-! LandBase() -/
/-- what LandBase() leaves: the parts at 1 .. 232 -/
def CIn (h : xH) : Prop :=
  h.2 0 = some (.inr (9, [.ref 1, .ref 3, .ref 10, .ref 27, .ref 29, .ref 30, .ref 231, .ref 232, .int 0, .int 0, .int (-1)])) ∧
  (h.2 1 = some (.inr (8, [.ref 2, .int 0, .int 0, .int 0, .int 0, .int 0])) ∧ h.2 2 = some (.inl (1, 4000, .inl (fun _ => 0)))) ∧
  (h.2 3 = some (.inr (4, [.ref 4, .ref 5, .int 0, .int 0, .int 0, .int 0])) ∧ h.2 4 = some (.inl (0, 6, .inl (fun _ => 0))) ∧ CSh0 h 5) ∧
  (h.2 10 = some (.inr (3, [.ref 11, .ref 14, .ref 17, .int 0, .int 0, .int 0, .int 0, .int 0, .int 0, .int 0, .int (-1), .int 0])) ∧ h.2 11 = some (.inr (7, [.ref 12, .ref 13, .int 0])) ∧ h.2 12 = some (.inl (0, 200, .inl (fun _ => 0))) ∧ h.2 13 = some (.inl (4, 200, .inr (.inr (.inr (.inr (fun _ => none)))))) ∧ h.2 14 = some (.inr (7, [.ref 15, .ref 16, .int 0])) ∧ h.2 15 = some (.inl (0, 200, .inl (fun _ => 0))) ∧ h.2 16 = some (.inl (4, 200, .inr (.inr (.inr (.inr (fun _ => none)))))) ∧ h.2 17 = some (.inl (4, 401, .inr (.inr (.inr (.inr (fun _ => none))))))) ∧
  (h.2 18 = some (.inr (1, [.ref 19, .int 0, .int 0, .int 0, .int 0, .int 0, .int 0, .ref 24, .ref 25, .ref 26, .int 0, .int 0, .int 0, .int 0])) ∧ CSh0 h 19 ∧ h.2 24 = some (.inl (2, 80, .inr (.inl (fun _ => 0)))) ∧ h.2 25 = some (.inl (2, 80, .inr (.inl (fun _ => 0)))) ∧ h.2 26 = some (.inl (0, 80, .inl (fun _ => 0)))) ∧
  (h.2 27 = some (.inr (0, [.ref 18, .ref 28])) ∧ h.2 28 = some (.inl (0, 8, .inl (fun _ => 0))) ∧ h.2 29 = some (.inr (5, [.ref 18]))) ∧
  (∃ f : Nat → Option Nat, h.2 30 = some (.inl (5, 200, .inr (.inr (.inr (.inr f))))) ∧ (∀ i, i < 200 → f i = some (31 + i) ∧ h.2 (31 + i) = some (.inr (2, [.long 0, .long 0, .long 1])))) ∧
  (h.2 231 = some (.inl (0, 200, .inl (fun _ => 0))) ∧ h.2 232 = some (.inl (0, 20000, .inl (fun _ => 0))))
theorem CIn.kept {h h1 : xH} (k : CIn h) (f : ∀ b, b < 233 → h1.2 b = h.2 b) : CIn h1 := by
  obtain ⟨k0, ⟨k1, k2⟩, ⟨k3, k4, k5⟩, ⟨k10, k11, k12, k13, k14, k15, k16, k17⟩, ⟨k18, k19, k24, k25, k26⟩, ⟨k27, k28, k29⟩, ⟨g, k30, k31⟩, k231, k232⟩ := k
  exact ⟨(f _ (by omega)).trans k0, ⟨(f _ (by omega)).trans k1, (f _ (by omega)).trans k2⟩, ⟨(f _ (by omega)).trans k3, (f _ (by omega)).trans k4, k5.kept (fun b _ q => f b (by omega))⟩,
    ⟨(f _ (by omega)).trans k10, (f _ (by omega)).trans k11, (f _ (by omega)).trans k12, (f _ (by omega)).trans k13, (f _ (by omega)).trans k14, (f _ (by omega)).trans k15, (f _ (by omega)).trans k16, (f _ (by omega)).trans k17⟩,
    ⟨(f _ (by omega)).trans k18, k19.kept (fun b _ q => f b (by omega)), (f _ (by omega)).trans k24, (f _ (by omega)).trans k25, (f _ (by omega)).trans k26⟩, ⟨(f _ (by omega)).trans k27, (f _ (by omega)).trans k28, (f _ (by omega)).trans k29⟩,
    ⟨g, (f _ (by omega)).trans k30, fun i hi => ⟨(k31 i hi).1, (f _ (by omega)).trans (k31 i hi).2⟩⟩, (f _ (by omega)).trans k231, (f _ (by omega)).trans k232⟩
set_option maxRecDepth 100000 in
/-- the loop that makes the distances -/
theorem g_Land_init {G : xG} {P : Option Value → xH → Prop} {fs : List Value} (hfs : fs[5]? = some (.ref 30)) (hL : fs.length = 11) :
    ∀ (m i : Nat) (h : xH) (f : Nat → Option Nat), i + m = 200 → h.1 = (31 + i, 5995 + 3 * i) → h.2 0 = some (.inr (9, fs)) → h.2 30 = some (.inl (5, 200, .inr (.inr (.inr (.inr f))))) → (∀ j, j < i → f j = some (31 + j) ∧ h.2 (31 + j) = some (.inr (2, [.long 0, .long 0, .long 1]))) →
    (∀ (h' : xH) (f' : Nat → Option Nat), h'.1 = (231, 6595) → h'.2 0 = some (.inr (9, fs)) → h'.2 30 = some (.inl (5, 200, .inr (.inr (.inr (.inr f'))))) → (∀ j, j < 200 → f' j = some (31 + j) ∧ h'.2 (31 + j) = some (.inr (2, [.long 0, .long 0, .long 1]))) → (∀ b, 0 < b → b < 30 → h'.2 b = h.2 b) → Go G mX10_init 107 [some (.ref 0), some (.ref 18), some (.int 200)] [] h' P) →
    Go G mX10_init 81 [some (.ref 0), some (.ref 18), some (.int (nI i))] [] h P := by
  intro m
  induction m with
  | zero =>
    intro i h f him hz h0 h30 hj k
    have hi : i = 200 := by omega
    subst hi
    refine go_iload_n (i := 2) (pc' := 82) dX10_init_81 rfl rfl rfl ?_
    refine go_sipush (v := 200) (pc' := 85) dX10_init_82 rfl (by decide) ?_
    refine go_icmp_ge (pc' := 88) (tgt := 107) dX10_init_85 (by decide) rfl (fun c1 => ?_) (fun c1 => ?_)
    · exact k h f hz h0 h30 hj (fun _ _ _ => rfl)
    · exact absurd (by decide) c1
  | succ m ih =>
    intro i h f him hz h0 h30 hj k
    have hin : vp_in (nI i) 200 := vp_in_nI (by omega) (by omega)
    have hc : (nI i).toNatClampNeg = i := nI_clamp (by omega)
    refine go_iload_n (i := 2) (pc' := 82) dX10_init_81 rfl rfl rfl ?_
    refine go_sipush (v := 200) (pc' := 85) dX10_init_82 rfl (by decide) ?_
    refine go_icmp_ge (pc' := 88) (tgt := 107) dX10_init_85 (by decide) rfl (fun c1 => ?_) (fun c1 => ?_)
    · exact absurd c1 (nI_ge (a := i) (b := 200) (by omega) (by omega))
    · first | refine go_aload_n (i := 0) (pc' := 89) dX10_init_88 rfl rfl rfl ?_ | refine go_aloadX_n (i := 0) (pc' := 89) dX10_init_88 rfl rfl rfl ?_ | refine go_aload_nN (i := 0) (pc' := 89) dX10_init_88 rfl rfl rfl ?_
      refine go_getf (pc' := 92) dX10_init_89 rfl gf_LandBase_51 h0 hfs ?_
      refine go_iload_n (i := 2) (pc' := 93) dX10_init_92 rfl rfl rfl ?_
      refine go_newK (pc' := 96) dX10_init_93 rfl nw_LandBase_49 hz (fun hp1 zp1 cp1 fp1 => ?_)
      have hz := zp1
      have h0 := (fp1 _ (by omega)).trans h0
      have h30 := (fp1 _ (by omega)).trans h30
      have hD := cp1
      refine go_dup (pc' := 97) dX10_init_96 rfl rfl ?_
      refine go_invI (As := []) (pc' := 100) dX10_init_97 rfl cf_X10_init_55 rfl rfl (Nat.le_of_ble_eq_true rfl) (c_Distance_init (hz:=hz) (hh:=hD)) (fun vp2 hp2 qp2 => ?_)
      obtain ⟨rfl, hz, hD, fp2⟩ := qp2
      have h0 := (fp2 _ (by omega)).trans h0
      have h30 := (fp2 _ (by omega)).trans h30
      refine go_aastoreK (pc' := 101) dX10_init_100 rfl (by decide) rfl rfl h30 hD hin (fun hp3 zp3 cp3 fp3 => ?_)
      have hz := zp3.trans hz
      have h0 := (fp3 _ (by omega)).trans h0
      have hD := (fp3 _ (by omega)).trans hD
      have h30 := cp3
      refine go_iincC (kk := 1) (pc' := 104) dX10_init_101 rfl rfl (by decide) (by decide) rfl ?_
      refine go_goto (pc' := 0) (tgt := 81) dX10_init_104 (by decide) ?_
      rw [hc] at h30
      rw [nI_1]
      refine ih (i + 1) _ _ (by omega) (by rw [hz]; congr 1) h0 h30 (fun j hj2 => ?_) (fun h' f' e1 e2 e3 e4 e5 => k h' f' e1 e2 e3 e4 (fun b p q => (e5 b p q).trans ?_))
      · by_cases e : j = i
        · subst e
          exact ⟨by simp [va_up], hD⟩
        · refine ⟨by simp [va_up, e, (hj j (by omega)).1], ?_⟩
          rw [fp3 _ (by omega), fp2 _ (by omega), fp1 _ (by omega)]
          exact (hj j (by omega)).2
      · rw [fp3 _ (by omega), fp2 _ (by omega), fp1 _ (by omega)]
set_option maxRecDepth 100000 in
theorem c_Land_init {G : xG} {h : xH} (hz : h.1 = (1, 11)) (hh : h.2 0 = some (.inr (9, [.null, .null, .null, .null, .null, .null, .null, .null, .int 0, .int 0, .int 0]))) : Ca G mX10_init [.ref 0] h (fun v h' => v = none ∧ h'.1 = (233, 26795) ∧ CIn h') := by
  refine Ca.of rfl (Nat.le_of_ble_eq_true rfl) ?_
  first | refine go_aload_n (i := 0) (pc' := 1) dX10_init_0 rfl rfl rfl ?_ | refine go_aloadX_n (i := 0) (pc' := 1) dX10_init_0 rfl rfl rfl ?_ | refine go_aload_nN (i := 0) (pc' := 1) dX10_init_0 rfl rfl rfl ?_
  refine go_objInit (pc' := 4) dX10_init_1 rfl wd_26 wd_27 wd_28 (by decide) (Nat.le_of_ble_eq_true rfl) ?_
  first | refine go_aload_n (i := 0) (pc' := 5) dX10_init_4 rfl rfl rfl ?_ | refine go_aloadX_n (i := 0) (pc' := 5) dX10_init_4 rfl rfl rfl ?_ | refine go_aload_nN (i := 0) (pc' := 5) dX10_init_4 rfl rfl rfl ?_
  refine go_newK (pc' := 8) dX10_init_5 rfl nw_LandBase_7 hz (fun hp1 zp1 cp1 fp1 => ?_)
  have hz := zp1
  have hh := (fp1 _ (by omega)).trans hh
  have h1t := cp1
  refine go_dup (pc' := 9) dX10_init_8 rfl rfl ?_
  refine go_invI (As := []) (pc' := 12) dX10_init_9 rfl cf_X10_init_9 rfl rfl (Nat.le_of_ble_eq_true rfl) (c_Tape_init (hz:=hz) (ha:=by omega) (hh:=h1t)) (fun vp2 hp2 qp2 => ?_)
  obtain ⟨rfl, hz, h1t, h2t, fp2⟩ := qp2
  have hh := (fp2 _ (by omega)).trans hh
  have hz : hp2.1 = (3, 4017) := hz
  refine go_putfK (pc' := 15) dX10_init_12 rfl pf_LandBase_10 (fun _ => rfl) hh (Nat.le_of_ble_eq_true rfl) rfl rfl (fun hp3 zp3 cp3 fp3 => ?_)
  dsimp only [List.set] at cp3
  have hz := zp3.trans hz
  have h1t := (fp3 _ (by omega)).trans h1t
  have h2t := (fp3 _ (by omega)).trans h2t
  have hh := cp3
  first | refine go_aload_n (i := 0) (pc' := 16) dX10_init_15 rfl rfl rfl ?_ | refine go_aloadX_n (i := 0) (pc' := 16) dX10_init_15 rfl rfl rfl ?_ | refine go_aload_nN (i := 0) (pc' := 16) dX10_init_15 rfl rfl rfl ?_
  refine go_newK (pc' := 19) dX10_init_16 rfl nw_LandBase_16 hz (fun hp4 zp4 cp4 fp4 => ?_)
  have hz := zp4
  have hh := (fp4 _ (by omega)).trans hh
  have h1t := (fp4 _ (by omega)).trans h1t
  have h2t := (fp4 _ (by omega)).trans h2t
  have h3t := cp4
  refine go_dup (pc' := 20) dX10_init_19 rfl rfl ?_
  refine go_invI (As := []) (pc' := 23) dX10_init_20 rfl cf_X10_init_18 rfl rfl (Nat.le_of_ble_eq_true rfl) (c_Reader_init (hz:=hz) (ha:=by omega) (hh:=h3t)) (fun vp5 hp5 qp5 => ?_)
  obtain ⟨rfl, hz, h3t, h4t, hS5, fp5⟩ := qp5
  have hh := (fp5 _ (by omega)).trans hh
  have h1t := (fp5 _ (by omega)).trans h1t
  have h2t := (fp5 _ (by omega)).trans h2t
  have hz : hp5.1 = (10, 4170) := hz
  have hR5 : ∀ b, 5 ≤ b → b < 10 → hp5.2 b = hp5.2 b := fun _ _ _ => rfl
  refine go_putfK (pc' := 26) dX10_init_23 rfl pf_LandBase_19 (fun _ => rfl) hh (Nat.le_of_ble_eq_true rfl) rfl rfl (fun hp6 zp6 cp6 fp6 => ?_)
  dsimp only [List.set] at cp6
  have hz := zp6.trans hz
  have h1t := (fp6 _ (by omega)).trans h1t
  have h2t := (fp6 _ (by omega)).trans h2t
  have h3t := (fp6 _ (by omega)).trans h3t
  have h4t := (fp6 _ (by omega)).trans h4t
  have hR5 : ∀ b, 5 ≤ b → b < 10 → hp6.2 b = hp5.2 b := fun b p q => (fp6 b (by omega)).trans (hR5 b p q)
  have hh := cp6
  first | refine go_aload_n (i := 0) (pc' := 27) dX10_init_26 rfl rfl rfl ?_ | refine go_aloadX_n (i := 0) (pc' := 27) dX10_init_26 rfl rfl rfl ?_ | refine go_aload_nN (i := 0) (pc' := 27) dX10_init_26 rfl rfl rfl ?_
  refine go_newK (pc' := 30) dX10_init_27 rfl nw_LandBase_23 hz (fun hp7 zp7 cp7 fp7 => ?_)
  have hz := zp7
  have hh := (fp7 _ (by omega)).trans hh
  have h1t := (fp7 _ (by omega)).trans h1t
  have h2t := (fp7 _ (by omega)).trans h2t
  have h3t := (fp7 _ (by omega)).trans h3t
  have h4t := (fp7 _ (by omega)).trans h4t
  have hR5 : ∀ b, 5 ≤ b → b < 10 → hp7.2 b = hp5.2 b := fun b p q => (fp7 b (by omega)).trans (hR5 b p q)
  have h10t := cp7
  refine go_dup (pc' := 31) dX10_init_30 rfl rfl ?_
  refine go_invI (As := []) (pc' := 34) dX10_init_31 rfl cf_X10_init_25 rfl rfl (Nat.le_of_ble_eq_true rfl) (c_Keeper_init (hz:=hz) (ha:=by omega) (hh:=h10t)) (fun vp8 hp8 qp8 => ?_)
  obtain ⟨rfl, hz, h10t, h11t, h12t, h13t, h14t, h15t, h16t, h17t, fp8⟩ := qp8
  have hh := (fp8 _ (by omega)).trans hh
  have h1t := (fp8 _ (by omega)).trans h1t
  have h2t := (fp8 _ (by omega)).trans h2t
  have h3t := (fp8 _ (by omega)).trans h3t
  have h4t := (fp8 _ (by omega)).trans h4t
  have hR5 : ∀ b, 5 ≤ b → b < 10 → hp8.2 b = hp5.2 b := fun b p q => (fp8 b (by omega)).trans (hR5 b p q)
  have hz : hp8.1 = (18, 5389) := hz
  refine go_putfK (pc' := 37) dX10_init_34 rfl pf_LandBase_26 (fun _ => rfl) hh (Nat.le_of_ble_eq_true rfl) rfl rfl (fun hp9 zp9 cp9 fp9 => ?_)
  dsimp only [List.set] at cp9
  have hz := zp9.trans hz
  have h1t := (fp9 _ (by omega)).trans h1t
  have h2t := (fp9 _ (by omega)).trans h2t
  have h3t := (fp9 _ (by omega)).trans h3t
  have h4t := (fp9 _ (by omega)).trans h4t
  have h10t := (fp9 _ (by omega)).trans h10t
  have h11t := (fp9 _ (by omega)).trans h11t
  have h12t := (fp9 _ (by omega)).trans h12t
  have h13t := (fp9 _ (by omega)).trans h13t
  have h14t := (fp9 _ (by omega)).trans h14t
  have h15t := (fp9 _ (by omega)).trans h15t
  have h16t := (fp9 _ (by omega)).trans h16t
  have h17t := (fp9 _ (by omega)).trans h17t
  have hR5 : ∀ b, 5 ≤ b → b < 10 → hp9.2 b = hp5.2 b := fun b p q => (fp9 b (by omega)).trans (hR5 b p q)
  have hh := cp9
  refine go_newK (pc' := 40) dX10_init_37 rfl nw_LandBase_30 hz (fun hp10 zp10 cp10 fp10 => ?_)
  have hz := zp10
  have hh := (fp10 _ (by omega)).trans hh
  have h1t := (fp10 _ (by omega)).trans h1t
  have h2t := (fp10 _ (by omega)).trans h2t
  have h3t := (fp10 _ (by omega)).trans h3t
  have h4t := (fp10 _ (by omega)).trans h4t
  have h10t := (fp10 _ (by omega)).trans h10t
  have h11t := (fp10 _ (by omega)).trans h11t
  have h12t := (fp10 _ (by omega)).trans h12t
  have h13t := (fp10 _ (by omega)).trans h13t
  have h14t := (fp10 _ (by omega)).trans h14t
  have h15t := (fp10 _ (by omega)).trans h15t
  have h16t := (fp10 _ (by omega)).trans h16t
  have h17t := (fp10 _ (by omega)).trans h17t
  have hR5 : ∀ b, 5 ≤ b → b < 10 → hp10.2 b = hp5.2 b := fun b p q => (fp10 b (by omega)).trans (hR5 b p q)
  have h18t := cp10
  refine go_dup (pc' := 41) dX10_init_40 rfl rfl ?_
  refine go_invI (As := []) (pc' := 44) dX10_init_41 rfl cf_X10_init_32 rfl rfl (Nat.le_of_ble_eq_true rfl) (c_Cutter_init (hz:=hz) (ha:=by omega) (hh:=h18t)) (fun vp11 hp11 qp11 => ?_)
  obtain ⟨rfl, hz, h18t, hS19, h24t, h25t, h26t, fp11⟩ := qp11
  have hh := (fp11 _ (by omega)).trans hh
  have h1t := (fp11 _ (by omega)).trans h1t
  have h2t := (fp11 _ (by omega)).trans h2t
  have h3t := (fp11 _ (by omega)).trans h3t
  have h4t := (fp11 _ (by omega)).trans h4t
  have h10t := (fp11 _ (by omega)).trans h10t
  have h11t := (fp11 _ (by omega)).trans h11t
  have h12t := (fp11 _ (by omega)).trans h12t
  have h13t := (fp11 _ (by omega)).trans h13t
  have h14t := (fp11 _ (by omega)).trans h14t
  have h15t := (fp11 _ (by omega)).trans h15t
  have h16t := (fp11 _ (by omega)).trans h16t
  have h17t := (fp11 _ (by omega)).trans h17t
  have hR5 : ∀ b, 5 ≤ b → b < 10 → hp11.2 b = hp5.2 b := fun b p q => (fp11 b (by omega)).trans (hR5 b p q)
  have hz : hp11.1 = (27, 5784) := hz
  have hR19 : ∀ b, 19 ≤ b → b < 24 → hp11.2 b = hp11.2 b := fun _ _ _ => rfl
  first | refine go_astore_n (i := 1) (pc' := 45) dX10_init_44 rfl rfl (by decide) rfl ?_ | refine go_astoreX_n (i := 1) (pc' := 45) dX10_init_44 rfl rfl (by decide) rfl ?_ | refine go_astore_nN (i := 1) (pc' := 45) dX10_init_44 rfl rfl (by decide) rfl ?_
  first | refine go_aload_n (i := 0) (pc' := 46) dX10_init_45 rfl rfl rfl ?_ | refine go_aloadX_n (i := 0) (pc' := 46) dX10_init_45 rfl rfl rfl ?_ | refine go_aload_nN (i := 0) (pc' := 46) dX10_init_45 rfl rfl rfl ?_
  refine go_newK (pc' := 49) dX10_init_46 rfl nw_LandBase_33 hz (fun hp12 zp12 cp12 fp12 => ?_)
  have hz := zp12
  have hh := (fp12 _ (by omega)).trans hh
  have h1t := (fp12 _ (by omega)).trans h1t
  have h2t := (fp12 _ (by omega)).trans h2t
  have h3t := (fp12 _ (by omega)).trans h3t
  have h4t := (fp12 _ (by omega)).trans h4t
  have h10t := (fp12 _ (by omega)).trans h10t
  have h11t := (fp12 _ (by omega)).trans h11t
  have h12t := (fp12 _ (by omega)).trans h12t
  have h13t := (fp12 _ (by omega)).trans h13t
  have h14t := (fp12 _ (by omega)).trans h14t
  have h15t := (fp12 _ (by omega)).trans h15t
  have h16t := (fp12 _ (by omega)).trans h16t
  have h17t := (fp12 _ (by omega)).trans h17t
  have h18t := (fp12 _ (by omega)).trans h18t
  have h24t := (fp12 _ (by omega)).trans h24t
  have h25t := (fp12 _ (by omega)).trans h25t
  have h26t := (fp12 _ (by omega)).trans h26t
  have hR5 : ∀ b, 5 ≤ b → b < 10 → hp12.2 b = hp5.2 b := fun b p q => (fp12 b (by omega)).trans (hR5 b p q)
  have hR19 : ∀ b, 19 ≤ b → b < 24 → hp12.2 b = hp11.2 b := fun b p q => (fp12 b (by omega)).trans (hR19 b p q)
  have h27t := cp12
  refine go_dup (pc' := 50) dX10_init_49 rfl rfl ?_
  first | refine go_aload_n (i := 1) (pc' := 51) dX10_init_50 rfl rfl rfl ?_ | refine go_aloadX_n (i := 1) (pc' := 51) dX10_init_50 rfl rfl rfl ?_ | refine go_aload_nN (i := 1) (pc' := 51) dX10_init_50 rfl rfl rfl ?_
  refine go_invI (As := [_]) (pc' := 54) dX10_init_51 rfl cf_X10_init_35 rfl rfl (Nat.le_of_ble_eq_true rfl) (c_Checker_init (hz:=hz) (ha:=by omega) (hh:=h27t)) (fun vp13 hp13 qp13 => ?_)
  obtain ⟨rfl, hz, h27t, h28t, fp13⟩ := qp13
  have hh := (fp13 _ (by omega)).trans hh
  have h1t := (fp13 _ (by omega)).trans h1t
  have h2t := (fp13 _ (by omega)).trans h2t
  have h3t := (fp13 _ (by omega)).trans h3t
  have h4t := (fp13 _ (by omega)).trans h4t
  have h10t := (fp13 _ (by omega)).trans h10t
  have h11t := (fp13 _ (by omega)).trans h11t
  have h12t := (fp13 _ (by omega)).trans h12t
  have h13t := (fp13 _ (by omega)).trans h13t
  have h14t := (fp13 _ (by omega)).trans h14t
  have h15t := (fp13 _ (by omega)).trans h15t
  have h16t := (fp13 _ (by omega)).trans h16t
  have h17t := (fp13 _ (by omega)).trans h17t
  have h18t := (fp13 _ (by omega)).trans h18t
  have h24t := (fp13 _ (by omega)).trans h24t
  have h25t := (fp13 _ (by omega)).trans h25t
  have h26t := (fp13 _ (by omega)).trans h26t
  have hR5 : ∀ b, 5 ≤ b → b < 10 → hp13.2 b = hp5.2 b := fun b p q => (fp13 b (by omega)).trans (hR5 b p q)
  have hR19 : ∀ b, 19 ≤ b → b < 24 → hp13.2 b = hp11.2 b := fun b p q => (fp13 b (by omega)).trans (hR19 b p q)
  have hz : hp13.1 = (29, 5794) := hz
  refine go_putfK (pc' := 57) dX10_init_54 rfl pf_LandBase_38 (fun _ => rfl) hh (Nat.le_of_ble_eq_true rfl) rfl rfl (fun hp14 zp14 cp14 fp14 => ?_)
  dsimp only [List.set] at cp14
  have hz := zp14.trans hz
  have h1t := (fp14 _ (by omega)).trans h1t
  have h2t := (fp14 _ (by omega)).trans h2t
  have h3t := (fp14 _ (by omega)).trans h3t
  have h4t := (fp14 _ (by omega)).trans h4t
  have h10t := (fp14 _ (by omega)).trans h10t
  have h11t := (fp14 _ (by omega)).trans h11t
  have h12t := (fp14 _ (by omega)).trans h12t
  have h13t := (fp14 _ (by omega)).trans h13t
  have h14t := (fp14 _ (by omega)).trans h14t
  have h15t := (fp14 _ (by omega)).trans h15t
  have h16t := (fp14 _ (by omega)).trans h16t
  have h17t := (fp14 _ (by omega)).trans h17t
  have h18t := (fp14 _ (by omega)).trans h18t
  have h24t := (fp14 _ (by omega)).trans h24t
  have h25t := (fp14 _ (by omega)).trans h25t
  have h26t := (fp14 _ (by omega)).trans h26t
  have h27t := (fp14 _ (by omega)).trans h27t
  have h28t := (fp14 _ (by omega)).trans h28t
  have hR5 : ∀ b, 5 ≤ b → b < 10 → hp14.2 b = hp5.2 b := fun b p q => (fp14 b (by omega)).trans (hR5 b p q)
  have hR19 : ∀ b, 19 ≤ b → b < 24 → hp14.2 b = hp11.2 b := fun b p q => (fp14 b (by omega)).trans (hR19 b p q)
  have hh := cp14
  first | refine go_aload_n (i := 0) (pc' := 58) dX10_init_57 rfl rfl rfl ?_ | refine go_aloadX_n (i := 0) (pc' := 58) dX10_init_57 rfl rfl rfl ?_ | refine go_aload_nN (i := 0) (pc' := 58) dX10_init_57 rfl rfl rfl ?_
  refine go_newK (pc' := 61) dX10_init_58 rfl nw_LandBase_42 hz (fun hp15 zp15 cp15 fp15 => ?_)
  have hz := zp15
  have hh := (fp15 _ (by omega)).trans hh
  have h1t := (fp15 _ (by omega)).trans h1t
  have h2t := (fp15 _ (by omega)).trans h2t
  have h3t := (fp15 _ (by omega)).trans h3t
  have h4t := (fp15 _ (by omega)).trans h4t
  have h10t := (fp15 _ (by omega)).trans h10t
  have h11t := (fp15 _ (by omega)).trans h11t
  have h12t := (fp15 _ (by omega)).trans h12t
  have h13t := (fp15 _ (by omega)).trans h13t
  have h14t := (fp15 _ (by omega)).trans h14t
  have h15t := (fp15 _ (by omega)).trans h15t
  have h16t := (fp15 _ (by omega)).trans h16t
  have h17t := (fp15 _ (by omega)).trans h17t
  have h18t := (fp15 _ (by omega)).trans h18t
  have h24t := (fp15 _ (by omega)).trans h24t
  have h25t := (fp15 _ (by omega)).trans h25t
  have h26t := (fp15 _ (by omega)).trans h26t
  have h27t := (fp15 _ (by omega)).trans h27t
  have h28t := (fp15 _ (by omega)).trans h28t
  have hR5 : ∀ b, 5 ≤ b → b < 10 → hp15.2 b = hp5.2 b := fun b p q => (fp15 b (by omega)).trans (hR5 b p q)
  have hR19 : ∀ b, 19 ≤ b → b < 24 → hp15.2 b = hp11.2 b := fun b p q => (fp15 b (by omega)).trans (hR19 b p q)
  have h29t := cp15
  refine go_dup (pc' := 62) dX10_init_61 rfl rfl ?_
  first | refine go_aload_n (i := 1) (pc' := 63) dX10_init_62 rfl rfl rfl ?_ | refine go_aloadX_n (i := 1) (pc' := 63) dX10_init_62 rfl rfl rfl ?_ | refine go_aload_nN (i := 1) (pc' := 63) dX10_init_62 rfl rfl rfl ?_
  refine go_invI (As := [_]) (pc' := 66) dX10_init_63 rfl cf_X10_init_44 rfl rfl (Nat.le_of_ble_eq_true rfl) (c_Relations_init (hz:=hz) (hh:=h29t)) (fun vp16 hp16 qp16 => ?_)
  obtain ⟨rfl, hz, h29t, fp16⟩ := qp16
  have hh := (fp16 _ (by omega)).trans hh
  have h1t := (fp16 _ (by omega)).trans h1t
  have h2t := (fp16 _ (by omega)).trans h2t
  have h3t := (fp16 _ (by omega)).trans h3t
  have h4t := (fp16 _ (by omega)).trans h4t
  have h10t := (fp16 _ (by omega)).trans h10t
  have h11t := (fp16 _ (by omega)).trans h11t
  have h12t := (fp16 _ (by omega)).trans h12t
  have h13t := (fp16 _ (by omega)).trans h13t
  have h14t := (fp16 _ (by omega)).trans h14t
  have h15t := (fp16 _ (by omega)).trans h15t
  have h16t := (fp16 _ (by omega)).trans h16t
  have h17t := (fp16 _ (by omega)).trans h17t
  have h18t := (fp16 _ (by omega)).trans h18t
  have h24t := (fp16 _ (by omega)).trans h24t
  have h25t := (fp16 _ (by omega)).trans h25t
  have h26t := (fp16 _ (by omega)).trans h26t
  have h27t := (fp16 _ (by omega)).trans h27t
  have h28t := (fp16 _ (by omega)).trans h28t
  have hR5 : ∀ b, 5 ≤ b → b < 10 → hp16.2 b = hp5.2 b := fun b p q => (fp16 b (by omega)).trans (hR5 b p q)
  have hR19 : ∀ b, 19 ≤ b → b < 24 → hp16.2 b = hp11.2 b := fun b p q => (fp16 b (by omega)).trans (hR19 b p q)
  have hz : hp16.1 = (30, 5795) := hz
  refine go_putfK (pc' := 69) dX10_init_66 rfl pf_LandBase_45 (fun _ => rfl) hh (Nat.le_of_ble_eq_true rfl) rfl rfl (fun hp17 zp17 cp17 fp17 => ?_)
  dsimp only [List.set] at cp17
  have hz := zp17.trans hz
  have h1t := (fp17 _ (by omega)).trans h1t
  have h2t := (fp17 _ (by omega)).trans h2t
  have h3t := (fp17 _ (by omega)).trans h3t
  have h4t := (fp17 _ (by omega)).trans h4t
  have h10t := (fp17 _ (by omega)).trans h10t
  have h11t := (fp17 _ (by omega)).trans h11t
  have h12t := (fp17 _ (by omega)).trans h12t
  have h13t := (fp17 _ (by omega)).trans h13t
  have h14t := (fp17 _ (by omega)).trans h14t
  have h15t := (fp17 _ (by omega)).trans h15t
  have h16t := (fp17 _ (by omega)).trans h16t
  have h17t := (fp17 _ (by omega)).trans h17t
  have h18t := (fp17 _ (by omega)).trans h18t
  have h24t := (fp17 _ (by omega)).trans h24t
  have h25t := (fp17 _ (by omega)).trans h25t
  have h26t := (fp17 _ (by omega)).trans h26t
  have h27t := (fp17 _ (by omega)).trans h27t
  have h28t := (fp17 _ (by omega)).trans h28t
  have h29t := (fp17 _ (by omega)).trans h29t
  have hR5 : ∀ b, 5 ≤ b → b < 10 → hp17.2 b = hp5.2 b := fun b p q => (fp17 b (by omega)).trans (hR5 b p q)
  have hR19 : ∀ b, 19 ≤ b → b < 24 → hp17.2 b = hp11.2 b := fun b p q => (fp17 b (by omega)).trans (hR19 b p q)
  have hh := cp17
  first | refine go_aload_n (i := 0) (pc' := 70) dX10_init_69 rfl rfl rfl ?_ | refine go_aloadX_n (i := 0) (pc' := 70) dX10_init_69 rfl rfl rfl ?_ | refine go_aload_nN (i := 0) (pc' := 70) dX10_init_69 rfl rfl rfl ?_
  refine go_sipush (v := 200) (pc' := 73) dX10_init_70 rfl (by decide) ?_
  refine go_anewarrayK (t := 5) (N := 200) (pc' := 76) dX10_init_73 rfl (by decide) rfl wd_322 (by decide) (by decide) (by decide) hz (fun hp18 zp18 cp18 fp18 => ?_)
  have hz := zp18
  have hh := (fp18 _ (by omega)).trans hh
  have h1t := (fp18 _ (by omega)).trans h1t
  have h2t := (fp18 _ (by omega)).trans h2t
  have h3t := (fp18 _ (by omega)).trans h3t
  have h4t := (fp18 _ (by omega)).trans h4t
  have h10t := (fp18 _ (by omega)).trans h10t
  have h11t := (fp18 _ (by omega)).trans h11t
  have h12t := (fp18 _ (by omega)).trans h12t
  have h13t := (fp18 _ (by omega)).trans h13t
  have h14t := (fp18 _ (by omega)).trans h14t
  have h15t := (fp18 _ (by omega)).trans h15t
  have h16t := (fp18 _ (by omega)).trans h16t
  have h17t := (fp18 _ (by omega)).trans h17t
  have h18t := (fp18 _ (by omega)).trans h18t
  have h24t := (fp18 _ (by omega)).trans h24t
  have h25t := (fp18 _ (by omega)).trans h25t
  have h26t := (fp18 _ (by omega)).trans h26t
  have h27t := (fp18 _ (by omega)).trans h27t
  have h28t := (fp18 _ (by omega)).trans h28t
  have h29t := (fp18 _ (by omega)).trans h29t
  have hR5 : ∀ b, 5 ≤ b → b < 10 → hp18.2 b = hp5.2 b := fun b p q => (fp18 b (by omega)).trans (hR5 b p q)
  have hR19 : ∀ b, 19 ≤ b → b < 24 → hp18.2 b = hp11.2 b := fun b p q => (fp18 b (by omega)).trans (hR19 b p q)
  have h30t : hp18.2 _ = some (.inl (5, 200, .inr (.inr (.inr (.inr (fun _ => none)))))) := cp18
  refine go_putfK (pc' := 79) dX10_init_76 rfl pf_LandBase_51 (fun _ => rfl) hh (Nat.le_of_ble_eq_true rfl) rfl rfl (fun hp19 zp19 cp19 fp19 => ?_)
  dsimp only [List.set] at cp19
  have hz := zp19.trans hz
  have h1t := (fp19 _ (by omega)).trans h1t
  have h2t := (fp19 _ (by omega)).trans h2t
  have h3t := (fp19 _ (by omega)).trans h3t
  have h4t := (fp19 _ (by omega)).trans h4t
  have h10t := (fp19 _ (by omega)).trans h10t
  have h11t := (fp19 _ (by omega)).trans h11t
  have h12t := (fp19 _ (by omega)).trans h12t
  have h13t := (fp19 _ (by omega)).trans h13t
  have h14t := (fp19 _ (by omega)).trans h14t
  have h15t := (fp19 _ (by omega)).trans h15t
  have h16t := (fp19 _ (by omega)).trans h16t
  have h17t := (fp19 _ (by omega)).trans h17t
  have h18t := (fp19 _ (by omega)).trans h18t
  have h24t := (fp19 _ (by omega)).trans h24t
  have h25t := (fp19 _ (by omega)).trans h25t
  have h26t := (fp19 _ (by omega)).trans h26t
  have h27t := (fp19 _ (by omega)).trans h27t
  have h28t := (fp19 _ (by omega)).trans h28t
  have h29t := (fp19 _ (by omega)).trans h29t
  have h30t := (fp19 _ (by omega)).trans h30t
  have hR5 : ∀ b, 5 ≤ b → b < 10 → hp19.2 b = hp5.2 b := fun b p q => (fp19 b (by omega)).trans (hR5 b p q)
  have hR19 : ∀ b, 19 ≤ b → b < 24 → hp19.2 b = hp11.2 b := fun b p q => (fp19 b (by omega)).trans (hR19 b p q)
  have hh := cp19
  refine go_iconst (v := 0) (pc' := 80) dX10_init_79 rfl (by decide) ?_
  refine go_istore_n (i := 2) (pc' := 81) dX10_init_80 rfl rfl (by decide) rfl ?_
  have hz : hp19.1 = (31, 5995) := hz
  have hcur := hz
  refine g_Land_init (fs := [.ref 1, .ref 3, .ref 10, .ref 27, .ref 29, .ref 30, .null, .null, .int 0, .int 0, .int 0]) rfl rfl 200 0 _ _ rfl hz hh h30t (fun j hj => absurd hj (by omega)) (fun h50 f50 hz hh h30t h31t fr50 => ?_)
  have h1t := (fr50 _ (by omega) (by omega)).trans h1t
  have h2t := (fr50 _ (by omega) (by omega)).trans h2t
  have h3t := (fr50 _ (by omega) (by omega)).trans h3t
  have h4t := (fr50 _ (by omega) (by omega)).trans h4t
  have hR5' : ∀ b, 5 ≤ b → b < 10 → h50.2 b = _ := fun b p q => (fr50 b (by omega) (by omega)).trans (hR5 b p q)
  have h10t := (fr50 _ (by omega) (by omega)).trans h10t
  have h11t := (fr50 _ (by omega) (by omega)).trans h11t
  have h12t := (fr50 _ (by omega) (by omega)).trans h12t
  have h13t := (fr50 _ (by omega) (by omega)).trans h13t
  have h14t := (fr50 _ (by omega) (by omega)).trans h14t
  have h15t := (fr50 _ (by omega) (by omega)).trans h15t
  have h16t := (fr50 _ (by omega) (by omega)).trans h16t
  have h17t := (fr50 _ (by omega) (by omega)).trans h17t
  have h18t := (fr50 _ (by omega) (by omega)).trans h18t
  have hR19' : ∀ b, 19 ≤ b → b < 24 → h50.2 b = _ := fun b p q => (fr50 b (by omega) (by omega)).trans (hR19 b p q)
  have h24t := (fr50 _ (by omega) (by omega)).trans h24t
  have h25t := (fr50 _ (by omega) (by omega)).trans h25t
  have h26t := (fr50 _ (by omega) (by omega)).trans h26t
  have h27t := (fr50 _ (by omega) (by omega)).trans h27t
  have h28t := (fr50 _ (by omega) (by omega)).trans h28t
  have h29t := (fr50 _ (by omega) (by omega)).trans h29t
  have hS5 := hS5.kept (fun b p q => hR5' b (by omega) (by omega))
  have hS19 := hS19.kept (fun b p q => hR19' b (by omega) (by omega))
  have hfr : ∀ b, (0 < b ∧ b < 231) → h50.2 b = h50.2 b := fun _ _ => rfl
  first | refine go_aload_n (i := 0) (pc' := 108) dX10_init_107 rfl rfl rfl ?_ | refine go_aloadX_n (i := 0) (pc' := 108) dX10_init_107 rfl rfl rfl ?_ | refine go_aload_nN (i := 0) (pc' := 108) dX10_init_107 rfl rfl rfl ?_
  refine go_sipush (v := 200) (pc' := 111) dX10_init_108 rfl (by decide) ?_
  refine go_newarrayK (t := 0) (N := 200) (pc' := 113) dX10_init_111 rfl rfl (by decide) wd_148 (by decide) (by decide) (by decide) hz (fun hp51 zp51 cp51 fp51 => ?_)
  have hz := zp51
  have hh := (fp51 _ (by omega)).trans hh
  have hfr : ∀ b, (0 < b ∧ b < 231) → hp51.2 b = h50.2 b := fun b hb => (fp51 b (by omega)).trans (hfr b hb)
  have h231t : hp51.2 _ = some (.inl (0, 200, .inl (fun _ => 0))) := cp51
  refine go_putfK (pc' := 116) dX10_init_113 rfl pf_LandBase_56 (fun _ => rfl) hh (Nat.le_of_ble_eq_true rfl) rfl rfl (fun hp52 zp52 cp52 fp52 => ?_)
  dsimp only [List.set] at cp52
  have hz := zp52.trans hz
  have h231t := (fp52 _ (by omega)).trans h231t
  have hfr : ∀ b, (0 < b ∧ b < 231) → hp52.2 b = h50.2 b := fun b hb => (fp52 b (by omega)).trans (hfr b hb)
  have hh := cp52
  first | refine go_aload_n (i := 0) (pc' := 117) dX10_init_116 rfl rfl rfl ?_ | refine go_aloadX_n (i := 0) (pc' := 117) dX10_init_116 rfl rfl rfl ?_ | refine go_aload_nN (i := 0) (pc' := 117) dX10_init_116 rfl rfl rfl ?_
  refine go_sipush (v := 20000) (pc' := 120) dX10_init_117 rfl (by decide) ?_
  refine go_newarrayK (t := 0) (N := 20000) (pc' := 122) dX10_init_120 rfl rfl (by decide) wd_148 (by decide) (by decide) (by decide) hz (fun hp53 zp53 cp53 fp53 => ?_)
  have hz := zp53
  have hh := (fp53 _ (by omega)).trans hh
  have h231t := (fp53 _ (by omega)).trans h231t
  have hfr : ∀ b, (0 < b ∧ b < 231) → hp53.2 b = h50.2 b := fun b hb => (fp53 b (by omega)).trans (hfr b hb)
  have h232t : hp53.2 _ = some (.inl (0, 20000, .inl (fun _ => 0))) := cp53
  refine go_putfK (pc' := 125) dX10_init_122 rfl pf_LandBase_60 (fun _ => rfl) hh (Nat.le_of_ble_eq_true rfl) rfl rfl (fun hp54 zp54 cp54 fp54 => ?_)
  dsimp only [List.set] at cp54
  have hz := zp54.trans hz
  have h231t := (fp54 _ (by omega)).trans h231t
  have h232t := (fp54 _ (by omega)).trans h232t
  have hfr : ∀ b, (0 < b ∧ b < 231) → hp54.2 b = h50.2 b := fun b hb => (fp54 b (by omega)).trans (hfr b hb)
  have hh := cp54
  first | refine go_aload_n (i := 0) (pc' := 126) dX10_init_125 rfl rfl rfl ?_ | refine go_aloadX_n (i := 0) (pc' := 126) dX10_init_125 rfl rfl rfl ?_ | refine go_aload_nN (i := 0) (pc' := 126) dX10_init_125 rfl rfl rfl ?_
  refine go_iconst (v := 0) (pc' := 127) dX10_init_126 rfl (by decide) ?_
  refine go_putfK (pc' := 130) dX10_init_127 rfl pf_LandBase_63 (fun h => by cases h) hh (Nat.le_of_ble_eq_true rfl) rfl rfl (fun hp55 zp55 cp55 fp55 => ?_)
  dsimp only [List.set] at cp55
  have hz := zp55.trans hz
  have h231t := (fp55 _ (by omega)).trans h231t
  have h232t := (fp55 _ (by omega)).trans h232t
  have hfr : ∀ b, (0 < b ∧ b < 231) → hp55.2 b = h50.2 b := fun b hb => (fp55 b (by omega)).trans (hfr b hb)
  have hh := cp55
  first | refine go_aload_n (i := 0) (pc' := 131) dX10_init_130 rfl rfl rfl ?_ | refine go_aloadX_n (i := 0) (pc' := 131) dX10_init_130 rfl rfl rfl ?_ | refine go_aload_nN (i := 0) (pc' := 131) dX10_init_130 rfl rfl rfl ?_
  refine go_iconst (v := 0) (pc' := 132) dX10_init_131 rfl (by decide) ?_
  refine go_putfK (pc' := 135) dX10_init_132 rfl pf_LandBase_67 (fun h => by cases h) hh (Nat.le_of_ble_eq_true rfl) rfl rfl (fun hp56 zp56 cp56 fp56 => ?_)
  dsimp only [List.set] at cp56
  have hz := zp56.trans hz
  have h231t := (fp56 _ (by omega)).trans h231t
  have h232t := (fp56 _ (by omega)).trans h232t
  have hfr : ∀ b, (0 < b ∧ b < 231) → hp56.2 b = h50.2 b := fun b hb => (fp56 b (by omega)).trans (hfr b hb)
  have hh := cp56
  first | refine go_aload_n (i := 0) (pc' := 136) dX10_init_135 rfl rfl rfl ?_ | refine go_aloadX_n (i := 0) (pc' := 136) dX10_init_135 rfl rfl rfl ?_ | refine go_aload_nN (i := 0) (pc' := 136) dX10_init_135 rfl rfl rfl ?_
  refine go_iconst (v := (-1)) (pc' := 137) dX10_init_136 rfl (by decide) ?_
  refine go_putfK (pc' := 140) dX10_init_137 rfl pf_LandBase_70 (fun h => by cases h) hh (Nat.le_of_ble_eq_true rfl) rfl rfl (fun hp57 zp57 cp57 fp57 => ?_)
  dsimp only [List.set] at cp57
  have hz := zp57.trans hz
  have h231t := (fp57 _ (by omega)).trans h231t
  have h232t := (fp57 _ (by omega)).trans h232t
  have hfr : ∀ b, (0 < b ∧ b < 231) → hp57.2 b = h50.2 b := fun b hb => (fp57 b (by omega)).trans (hfr b hb)
  have hh := cp57
  refine Go.ret (v := none) dX10_init_140 rfl ⟨trivial, rfl, hz, hh, ⟨(hfr _ (by omega)).trans h1t, (hfr _ (by omega)).trans h2t⟩, ⟨(hfr _ (by omega)).trans h3t, (hfr _ (by omega)).trans h4t, hS5.kept (fun b p q => hfr b (by omega))⟩, ⟨(hfr _ (by omega)).trans h10t, (hfr _ (by omega)).trans h11t, (hfr _ (by omega)).trans h12t, (hfr _ (by omega)).trans h13t, (hfr _ (by omega)).trans h14t, (hfr _ (by omega)).trans h15t, (hfr _ (by omega)).trans h16t, (hfr _ (by omega)).trans h17t⟩, ⟨(hfr _ (by omega)).trans h18t, hS19.kept (fun b p q => hfr b (by omega)), (hfr _ (by omega)).trans h24t, (hfr _ (by omega)).trans h25t, (hfr _ (by omega)).trans h26t⟩, ⟨(hfr _ (by omega)).trans h27t, (hfr _ (by omega)).trans h28t, (hfr _ (by omega)).trans h29t⟩, ⟨f50, (hfr _ (by omega)).trans h30t, fun i hi => ⟨(h31t i hi).1, (hfr _ (by omega)).trans (h31t i hi).2⟩⟩, h231t, h232t⟩

/-! LandBaseModel() -/
def mF0 (k : Nat) : Value := if k ∈ [0, 1, 2, 3, 14, 15, 23, 24, 25, 26, 27, 28, 29, 30, 31, 39, 43, 49, 52, 53, 54, 55] then .null else if k ∈ [10, 11, 12, 20, 21] then .long 0 else .int 0
/-- the references of the reference's object never change -/
def MC (F : Nat → Value) : Prop := F 0 = .ref 234 ∧ F 1 = .ref 235 ∧ F 2 = .ref 236 ∧ F 3 = .ref 237 ∧ F 14 = .ref 238 ∧ F 15 = .ref 239 ∧ F 23 = .ref 240 ∧ F 24 = .ref 241 ∧ F 25 = .ref 245 ∧ F 26 = .ref 249 ∧ F 27 = .ref 250 ∧ F 28 = .ref 253 ∧ F 29 = .ref 256 ∧ F 30 = .ref 259 ∧ F 31 = .ref 1061 ∧ F 39 = .ref 1863 ∧ F 43 = .ref 1864 ∧ F 49 = .ref 1865 ∧ F 52 = .ref 1869 ∧ F 53 = .ref 1870 ∧ F 54 = .ref 1874 ∧ F 55 = .ref 1875
/-- its numbers at the start -/
def MF0 (F : Nat → Value) : Prop := F 32 = .int 0 ∧ F 33 = .int 0 ∧ F 34 = .int 0 ∧ F 35 = .int 0 ∧ F 36 = .int 0 ∧ F 37 = .int (-1) ∧ F 38 = .int 0 ∧ F 40 = .int 0 ∧ F 41 = .int 0 ∧ F 42 = .int (-1) ∧ F 44 = .int 0 ∧ F 45 = .int 0 ∧ F 46 = .int 0 ∧ F 47 = .int 0 ∧ F 48 = .int 0
/-- what LandBaseModel() leaves, at 233 .. 2475 -/
def MIn (h : xH) : Prop :=
  (∃ F, h.2 233 = some (.inr (13, mkF F 58)) ∧ MC F ∧ MF0 F) ∧
  (h.2 234 = some (.inl (2, 8, .inr (.inl (fun _ => 0)))) ∧ h.2 235 = some (.inl (2, 8, .inr (.inl (fun _ => 0)))) ∧ h.2 236 = some (.inl (2, 8, .inr (.inl (fun _ => 0)))) ∧ h.2 237 = some (.inl (2, 8, .inr (.inl (fun _ => 0)))) ∧ h.2 238 = some (.inl (2, 82, .inr (.inl (fun _ => 0)))) ∧ h.2 239 = some (.inl (2, 82, .inr (.inl (fun _ => 0)))) ∧ h.2 240 = some (.inl (3, 8, .inl (fun _ => 0)))) ∧
  (MSh0 h 241 ∧ MSh0 h 245 ∧ h.2 249 = some (.inl (0, 8, .inl (fun _ => 0))) ∧ MDi0 h 250 ∧ MDi0 h 253 ∧ MDi0 h 256 ∧ MSt0 h 259 ∧ MSt0 h 1061) ∧
  (h.2 1863 = some (.inl (0, 4000, .inl (fun _ => 0))) ∧ h.2 1864 = some (.inl (0, 30000, .inl (fun _ => 0))) ∧ MSh0 h 1865 ∧ h.2 1869 = some (.inl (0, 8, .inl (fun _ => 0))) ∧ MSh0 h 1870 ∧ h.2 1875 = some (.inl (0, 200, .inl (fun _ => 0)))) ∧
  (∃ f : Nat → Option Nat, h.2 1874 = some (.inl (7, 200, .inr (.inr (.inr (.inr f))))) ∧ (∀ i, i < 200 → f i = some (1876 + 3 * i) ∧ MDi0 h (1876 + 3 * i)))
set_option maxRecDepth 100000 in
theorem g_Model_init {G : xG} {P : Option Value → xH → Prop} {F : Nat → Value} (hF : F 54 = .ref 1874) :
    ∀ (m i : Nat) (h : xH) (f : Nat → Option Nat), i + m = 200 → h.1 = (1876 + 3 * i, 100311 + 18 * i) → h.2 233 = some (.inr (13, mkF F 58)) → h.2 1874 = some (.inl (7, 200, .inr (.inr (.inr (.inr f))))) → (∀ j, j < i → f j = some (1876 + 3 * j) ∧ MDi0 h (1876 + 3 * j)) →
    (∀ (h' : xH) (f' : Nat → Option Nat), h'.1 = (2476, 103911) → h'.2 233 = some (.inr (13, mkF F 58)) → h'.2 1874 = some (.inl (7, 200, .inr (.inr (.inr (.inr f'))))) → (∀ j, j < 200 → f' j = some (1876 + 3 * j) ∧ MDi0 h' (1876 + 3 * j)) → (∀ b, (b < 1876 ∧ b ≠ 233 ∧ b ≠ 1874) → h'.2 b = h.2 b) → Go G mX14_init 250 [some (.ref 233), some (.int 200)] [] h' P) →
    Go G mX14_init 224 [some (.ref 233), some (.int (nI i))] [] h P := by
  intro m
  induction m with
  | zero =>
    intro i h f him hz h0 h30 hj k
    have hi : i = 200 := by omega
    subst hi
    refine go_iload_n (i := 1) (pc' := 225) dX14_init_224 rfl rfl rfl ?_
    refine go_sipush (v := 200) (pc' := 228) dX14_init_225 rfl (by decide) ?_
    refine go_icmp_ge (pc' := 231) (tgt := 250) dX14_init_228 (by decide) rfl (fun c1 => ?_) (fun c1 => ?_)
    · exact k h f hz h0 h30 hj (fun _ _ => rfl)
    · exact absurd (by decide) c1
  | succ m ih =>
    intro i h f him hz h0 h30 hj k
    have hin : vp_in (nI i) 200 := vp_in_nI (by omega) (by omega)
    have hc : (nI i).toNatClampNeg = i := nI_clamp (by omega)
    refine go_iload_n (i := 1) (pc' := 225) dX14_init_224 rfl rfl rfl ?_
    refine go_sipush (v := 200) (pc' := 228) dX14_init_225 rfl (by decide) ?_
    refine go_icmp_ge (pc' := 231) (tgt := 250) dX14_init_228 (by decide) rfl (fun c1 => ?_) (fun c1 => ?_)
    · exact absurd c1 (nI_ge (a := i) (b := 200) (by omega) (by omega))
    · first | refine go_aload_n (i := 0) (pc' := 232) dX14_init_231 rfl rfl rfl ?_ | refine go_aloadX_n (i := 0) (pc' := 232) dX14_init_231 rfl rfl rfl ?_ | refine go_aload_nN (i := 0) (pc' := 232) dX14_init_231 rfl rfl rfl ?_
      refine go_getfF (pc' := 235) dX14_init_232 rfl gf_LandBaseModel_477 h0 (by decide) hF ?_
      refine go_iload_n (i := 1) (pc' := 236) dX14_init_235 rfl rfl rfl ?_
      refine go_newK (pc' := 239) dX14_init_236 rfl nw_LandBaseModel_289 hz (fun h1 z1 c1 f1 => ?_)
      have hz := z1
      have h0 := (f1 _ (by omega)).trans h0
      have h30 := (f1 _ (by omega)).trans h30
      have hD := c1
      refine go_dup (pc' := 240) dX14_init_239 rfl rfl ?_
      refine go_invIN (As := []) (pc' := 243) dX14_init_240 rfl cf_X14_init_463 rfl rfl (Nat.le_of_ble_eq_true rfl) (c_MDist_init (hz:=hz) (ha:=rfl) (hh:=hD)) (fun v2 h2 q2 => ?_)
      obtain ⟨rfl, hz, hD, f2⟩ := q2
      have h0 := (f2 _ (by omega)).trans h0
      have h30 := (f2 _ (by omega)).trans h30
      refine go_aastoreK (pc' := 244) dX14_init_243 rfl (by decide) rfl rfl h30 hD.1 hin (fun h3 z3 c3 f3 => ?_)
      have hz := z3.trans hz
      have h0 := (f3 _ (by omega)).trans h0
      have h30 := c3
      refine go_iincC (kk := 1) (pc' := 247) dX14_init_244 rfl rfl (by decide) (by decide) rfl ?_
      refine go_goto (pc' := 0) (tgt := 224) dX14_init_247 (by decide) ?_
      rw [hc] at h30
      rw [nI_1]
      refine ih (i + 1) _ _ (by omega) (by rw [hz]; congr 1) h0 h30 (fun j hj2 => ?_) (fun h' f' e1 e2 e3 e4 e5 => k h' f' e1 e2 e3 e4 (fun b p => (e5 b p).trans ?_))
      · by_cases e : j = i
        · subst e
          exact ⟨by simp [va_up], hD.kept (fun b p q => f3 b (by omega))⟩
        · refine ⟨by simp [va_up, e, (hj j (by omega)).1], (hj j (by omega)).2.kept (fun b p q => ?_)⟩
          rw [f3 _ (by omega), f2 _ (by omega), f1 _ (by omega)]
      · rw [f3 _ (by omega), f2 _ (by omega), f1 _ (by omega)]
set_option maxRecDepth 100000 in
set_option maxHeartbeats 4000000 in
theorem c_Model_init {G : xG} {h : xH} (hz : h.1 = (234, 26853)) (hh : h.2 233 = some (.inr (13, mkF mF0 58))) : Ca G mX14_init [.ref 233] h (fun v h' => v = none ∧ h'.1 = (2476, 103911) ∧ MIn h' ∧ ∀ b, b < 233 → h'.2 b = h.2 b) := by
  refine Ca.of rfl (Nat.le_of_ble_eq_true rfl) ?_
  have hfr : ∀ b, (b < 233) → h.2 b = h.2 b := fun _ _ => rfl
  first | refine go_aload_n (i := 0) (pc' := 1) dX14_init_0 rfl rfl rfl ?_ | refine go_aloadX_n (i := 0) (pc' := 1) dX14_init_0 rfl rfl rfl ?_ | refine go_aload_nN (i := 0) (pc' := 1) dX14_init_0 rfl rfl rfl ?_
  refine go_objInit (pc' := 4) dX14_init_1 rfl wd_985 wd_28 wd_29 (by decide) (Nat.le_of_ble_eq_true rfl) ?_
  first | refine go_aload_n (i := 0) (pc' := 5) dX14_init_4 rfl rfl rfl ?_ | refine go_aloadX_n (i := 0) (pc' := 5) dX14_init_4 rfl rfl rfl ?_ | refine go_aload_nN (i := 0) (pc' := 5) dX14_init_4 rfl rfl rfl ?_
  refine go_bipush (v := 8) (pc' := 7) dX14_init_5 rfl (by decide) ?_
  refine go_newarrayK (t := 2) (N := 8) (pc' := 9) dX14_init_7 rfl rfl (by decide) wd_299 (by decide) (by decide) (by decide) hz (fun h1 z1 c1 f1 => ?_)
  have hz := z1
  have hh := (f1 _ (by omega)).trans hh
  have hfr : ∀ b, (b < 233) → h1.2 b = h.2 b := fun b hb => (f1 b (by omega)).trans (hfr b hb)
  have a34 : h1.2 _ = some (.inl (2, 8, .inr (.inl (fun _ => 0)))) := c1
  refine go_putfF (pc' := 12) dX14_init_9 rfl pf_LandBaseModel_5 (fun _ => rfl) hh (by decide) rfl rfl (fun h2 z2 c2 f2 => ?_)
  have hz := z2.trans hz
  have a34 := (f2 _ (by omega)).trans a34
  have hfr : ∀ b, (b < 233) → h2.2 b = h.2 b := fun b hb => (f2 b (by omega)).trans (hfr b hb)
  have hh := c2
  first | refine go_aload_n (i := 0) (pc' := 13) dX14_init_12 rfl rfl rfl ?_ | refine go_aloadX_n (i := 0) (pc' := 13) dX14_init_12 rfl rfl rfl ?_ | refine go_aload_nN (i := 0) (pc' := 13) dX14_init_12 rfl rfl rfl ?_
  refine go_bipush (v := 8) (pc' := 15) dX14_init_13 rfl (by decide) ?_
  refine go_newarrayK (t := 2) (N := 8) (pc' := 17) dX14_init_15 rfl rfl (by decide) wd_299 (by decide) (by decide) (by decide) hz (fun h3 z3 c3 f3 => ?_)
  have hz := z3
  have hh := (f3 _ (by omega)).trans hh
  have a34 := (f3 _ (by omega)).trans a34
  have hfr : ∀ b, (b < 233) → h3.2 b = h.2 b := fun b hb => (f3 b (by omega)).trans (hfr b hb)
  have a35 : h3.2 _ = some (.inl (2, 8, .inr (.inl (fun _ => 0)))) := c3
  refine go_putfF (pc' := 20) dX14_init_17 rfl pf_LandBaseModel_13 (fun _ => rfl) hh (by decide) rfl rfl (fun h4 z4 c4 f4 => ?_)
  have hz := z4.trans hz
  have a34 := (f4 _ (by omega)).trans a34
  have a35 := (f4 _ (by omega)).trans a35
  have hfr : ∀ b, (b < 233) → h4.2 b = h.2 b := fun b hb => (f4 b (by omega)).trans (hfr b hb)
  have hh := c4
  first | refine go_aload_n (i := 0) (pc' := 21) dX14_init_20 rfl rfl rfl ?_ | refine go_aloadX_n (i := 0) (pc' := 21) dX14_init_20 rfl rfl rfl ?_ | refine go_aload_nN (i := 0) (pc' := 21) dX14_init_20 rfl rfl rfl ?_
  refine go_bipush (v := 8) (pc' := 23) dX14_init_21 rfl (by decide) ?_
  refine go_newarrayK (t := 2) (N := 8) (pc' := 25) dX14_init_23 rfl rfl (by decide) wd_299 (by decide) (by decide) (by decide) hz (fun h5 z5 c5 f5 => ?_)
  have hz := z5
  have hh := (f5 _ (by omega)).trans hh
  have a34 := (f5 _ (by omega)).trans a34
  have a35 := (f5 _ (by omega)).trans a35
  have hfr : ∀ b, (b < 233) → h5.2 b = h.2 b := fun b hb => (f5 b (by omega)).trans (hfr b hb)
  have a36 : h5.2 _ = some (.inl (2, 8, .inr (.inl (fun _ => 0)))) := c5
  refine go_putfF (pc' := 28) dX14_init_25 rfl pf_LandBaseModel_16 (fun _ => rfl) hh (by decide) rfl rfl (fun h6 z6 c6 f6 => ?_)
  have hz := z6.trans hz
  have a34 := (f6 _ (by omega)).trans a34
  have a35 := (f6 _ (by omega)).trans a35
  have a36 := (f6 _ (by omega)).trans a36
  have hfr : ∀ b, (b < 233) → h6.2 b = h.2 b := fun b hb => (f6 b (by omega)).trans (hfr b hb)
  have hh := c6
  first | refine go_aload_n (i := 0) (pc' := 29) dX14_init_28 rfl rfl rfl ?_ | refine go_aloadX_n (i := 0) (pc' := 29) dX14_init_28 rfl rfl rfl ?_ | refine go_aload_nN (i := 0) (pc' := 29) dX14_init_28 rfl rfl rfl ?_
  refine go_bipush (v := 8) (pc' := 31) dX14_init_29 rfl (by decide) ?_
  refine go_newarrayK (t := 2) (N := 8) (pc' := 33) dX14_init_31 rfl rfl (by decide) wd_299 (by decide) (by decide) (by decide) hz (fun h7 z7 c7 f7 => ?_)
  have hz := z7
  have hh := (f7 _ (by omega)).trans hh
  have a34 := (f7 _ (by omega)).trans a34
  have a35 := (f7 _ (by omega)).trans a35
  have a36 := (f7 _ (by omega)).trans a36
  have hfr : ∀ b, (b < 233) → h7.2 b = h.2 b := fun b hb => (f7 b (by omega)).trans (hfr b hb)
  have a37 : h7.2 _ = some (.inl (2, 8, .inr (.inl (fun _ => 0)))) := c7
  refine go_putfF (pc' := 36) dX14_init_33 rfl pf_LandBaseModel_23 (fun _ => rfl) hh (by decide) rfl rfl (fun h8 z8 c8 f8 => ?_)
  have hz := z8.trans hz
  have a34 := (f8 _ (by omega)).trans a34
  have a35 := (f8 _ (by omega)).trans a35
  have a36 := (f8 _ (by omega)).trans a36
  have a37 := (f8 _ (by omega)).trans a37
  have hfr : ∀ b, (b < 233) → h8.2 b = h.2 b := fun b hb => (f8 b (by omega)).trans (hfr b hb)
  have hh := c8
  have hz : h8.1 = (238, 26885) := hz
  first | refine go_aload_n (i := 0) (pc' := 37) dX14_init_36 rfl rfl rfl ?_ | refine go_aloadX_n (i := 0) (pc' := 37) dX14_init_36 rfl rfl rfl ?_ | refine go_aload_nN (i := 0) (pc' := 37) dX14_init_36 rfl rfl rfl ?_
  refine go_bipush (v := 82) (pc' := 39) dX14_init_37 rfl (by decide) ?_
  refine go_newarrayK (t := 2) (N := 82) (pc' := 41) dX14_init_39 rfl rfl (by decide) wd_299 (by decide) (by decide) (by decide) hz (fun h9 z9 c9 f9 => ?_)
  have hz := z9
  have hh := (f9 _ (by omega)).trans hh
  have a34 := (f9 _ (by omega)).trans a34
  have a35 := (f9 _ (by omega)).trans a35
  have a36 := (f9 _ (by omega)).trans a36
  have a37 := (f9 _ (by omega)).trans a37
  have hfr : ∀ b, (b < 233) → h9.2 b = h.2 b := fun b hb => (f9 b (by omega)).trans (hfr b hb)
  have a38 : h9.2 _ = some (.inl (2, 82, .inr (.inl (fun _ => 0)))) := c9
  refine go_putfF (pc' := 44) dX14_init_41 rfl pf_LandBaseModel_111 (fun _ => rfl) hh (by decide) rfl rfl (fun h10 z10 c10 f10 => ?_)
  have hz := z10.trans hz
  have a34 := (f10 _ (by omega)).trans a34
  have a35 := (f10 _ (by omega)).trans a35
  have a36 := (f10 _ (by omega)).trans a36
  have a37 := (f10 _ (by omega)).trans a37
  have a38 := (f10 _ (by omega)).trans a38
  have hfr : ∀ b, (b < 233) → h10.2 b = h.2 b := fun b hb => (f10 b (by omega)).trans (hfr b hb)
  have hh := c10
  first | refine go_aload_n (i := 0) (pc' := 45) dX14_init_44 rfl rfl rfl ?_ | refine go_aloadX_n (i := 0) (pc' := 45) dX14_init_44 rfl rfl rfl ?_ | refine go_aload_nN (i := 0) (pc' := 45) dX14_init_44 rfl rfl rfl ?_
  refine go_bipush (v := 82) (pc' := 47) dX14_init_45 rfl (by decide) ?_
  refine go_newarrayK (t := 2) (N := 82) (pc' := 49) dX14_init_47 rfl rfl (by decide) wd_299 (by decide) (by decide) (by decide) hz (fun h11 z11 c11 f11 => ?_)
  have hz := z11
  have hh := (f11 _ (by omega)).trans hh
  have a34 := (f11 _ (by omega)).trans a34
  have a35 := (f11 _ (by omega)).trans a35
  have a36 := (f11 _ (by omega)).trans a36
  have a37 := (f11 _ (by omega)).trans a37
  have a38 := (f11 _ (by omega)).trans a38
  have hfr : ∀ b, (b < 233) → h11.2 b = h.2 b := fun b hb => (f11 b (by omega)).trans (hfr b hb)
  have a39 : h11.2 _ = some (.inl (2, 82, .inr (.inl (fun _ => 0)))) := c11
  refine go_putfF (pc' := 52) dX14_init_49 rfl pf_LandBaseModel_117 (fun _ => rfl) hh (by decide) rfl rfl (fun h12 z12 c12 f12 => ?_)
  have hz := z12.trans hz
  have a34 := (f12 _ (by omega)).trans a34
  have a35 := (f12 _ (by omega)).trans a35
  have a36 := (f12 _ (by omega)).trans a36
  have a37 := (f12 _ (by omega)).trans a37
  have a38 := (f12 _ (by omega)).trans a38
  have a39 := (f12 _ (by omega)).trans a39
  have hfr : ∀ b, (b < 233) → h12.2 b = h.2 b := fun b hb => (f12 b (by omega)).trans (hfr b hb)
  have hh := c12
  first | refine go_aload_n (i := 0) (pc' := 53) dX14_init_52 rfl rfl rfl ?_ | refine go_aloadX_n (i := 0) (pc' := 53) dX14_init_52 rfl rfl rfl ?_ | refine go_aload_nN (i := 0) (pc' := 53) dX14_init_52 rfl rfl rfl ?_
  refine go_bipush (v := 8) (pc' := 55) dX14_init_53 rfl (by decide) ?_
  refine go_newarrayK (t := 3) (N := 8) (pc' := 57) dX14_init_55 rfl rfl (by decide) wd_150 (by decide) (by decide) (by decide) hz (fun h13 z13 c13 f13 => ?_)
  have hz := z13
  have hh := (f13 _ (by omega)).trans hh
  have a34 := (f13 _ (by omega)).trans a34
  have a35 := (f13 _ (by omega)).trans a35
  have a36 := (f13 _ (by omega)).trans a36
  have a37 := (f13 _ (by omega)).trans a37
  have a38 := (f13 _ (by omega)).trans a38
  have a39 := (f13 _ (by omega)).trans a39
  have hfr : ∀ b, (b < 233) → h13.2 b = h.2 b := fun b hb => (f13 b (by omega)).trans (hfr b hb)
  have a40 : h13.2 _ = some (.inl (3, 8, .inl (fun _ => 0))) := c13
  refine go_putfF (pc' := 60) dX14_init_57 rfl pf_LandBaseModel_156 (fun _ => rfl) hh (by decide) rfl rfl (fun h14 z14 c14 f14 => ?_)
  have hz := z14.trans hz
  have a34 := (f14 _ (by omega)).trans a34
  have a35 := (f14 _ (by omega)).trans a35
  have a36 := (f14 _ (by omega)).trans a36
  have a37 := (f14 _ (by omega)).trans a37
  have a38 := (f14 _ (by omega)).trans a38
  have a39 := (f14 _ (by omega)).trans a39
  have a40 := (f14 _ (by omega)).trans a40
  have hfr : ∀ b, (b < 233) → h14.2 b = h.2 b := fun b hb => (f14 b (by omega)).trans (hfr b hb)
  have hh := c14
  first | refine go_aload_n (i := 0) (pc' := 61) dX14_init_60 rfl rfl rfl ?_ | refine go_aloadX_n (i := 0) (pc' := 61) dX14_init_60 rfl rfl rfl ?_ | refine go_aload_nN (i := 0) (pc' := 61) dX14_init_60 rfl rfl rfl ?_
  refine go_newK (pc' := 64) dX14_init_61 rfl nw_LandBaseModel_31 hz (fun h15 z15 c15 f15 => ?_)
  have hz := z15
  have hh := (f15 _ (by omega)).trans hh
  have a34 := (f15 _ (by omega)).trans a34
  have a35 := (f15 _ (by omega)).trans a35
  have a36 := (f15 _ (by omega)).trans a36
  have a37 := (f15 _ (by omega)).trans a37
  have a38 := (f15 _ (by omega)).trans a38
  have a39 := (f15 _ (by omega)).trans a39
  have a40 := (f15 _ (by omega)).trans a40
  have hfr : ∀ b, (b < 233) → h15.2 b = h.2 b := fun b hb => (f15 b (by omega)).trans (hfr b hb)
  have s41 := c15
  refine go_dup (pc' := 65) dX14_init_64 rfl rfl ?_
  have hz : h15.1 = (242, 27064) := hz
  refine go_invIN (As := []) (pc' := 68) dX14_init_65 rfl cf_X14_init_462 rfl rfl (Nat.le_of_ble_eq_true rfl) (c_MShape_init (hz:=hz) (ha:=rfl) (hh:=s41)) (fun v16 h16 q16 => ?_)
  obtain ⟨rfl, hz, s41, f16⟩ := q16
  have hh := (f16 _ (by omega)).trans hh
  have a34 := (f16 _ (by omega)).trans a34
  have a35 := (f16 _ (by omega)).trans a35
  have a36 := (f16 _ (by omega)).trans a36
  have a37 := (f16 _ (by omega)).trans a37
  have a38 := (f16 _ (by omega)).trans a38
  have a39 := (f16 _ (by omega)).trans a39
  have a40 := (f16 _ (by omega)).trans a40
  have hfr : ∀ b, (b < 233) → h16.2 b = h.2 b := fun b hb => (f16 b (by omega)).trans (hfr b hb)
  have hz : h16.1 = (245, 27152) := hz
  have r41 : ∀ b, 241 ≤ b → b < 245 → h16.2 b = h16.2 b := fun _ _ _ => rfl
  refine go_putfF (pc' := 71) dX14_init_68 rfl pf_LandBaseModel_254 (fun _ => rfl) hh (by decide) rfl rfl (fun h17 z17 c17 f17 => ?_)
  have hz := z17.trans hz
  have a34 := (f17 _ (by omega)).trans a34
  have a35 := (f17 _ (by omega)).trans a35
  have a36 := (f17 _ (by omega)).trans a36
  have a37 := (f17 _ (by omega)).trans a37
  have a38 := (f17 _ (by omega)).trans a38
  have a39 := (f17 _ (by omega)).trans a39
  have a40 := (f17 _ (by omega)).trans a40
  have r41 : ∀ b, 241 ≤ b → b < 245 → h17.2 b = h16.2 b := fun b p q => (f17 b (by omega)).trans (r41 b p q)
  have hfr : ∀ b, (b < 233) → h17.2 b = h.2 b := fun b hb => (f17 b (by omega)).trans (hfr b hb)
  have hh := c17
  first | refine go_aload_n (i := 0) (pc' := 72) dX14_init_71 rfl rfl rfl ?_ | refine go_aloadX_n (i := 0) (pc' := 72) dX14_init_71 rfl rfl rfl ?_ | refine go_aload_nN (i := 0) (pc' := 72) dX14_init_71 rfl rfl rfl ?_
  refine go_newK (pc' := 75) dX14_init_72 rfl nw_LandBaseModel_31 hz (fun h18 z18 c18 f18 => ?_)
  have hz := z18
  have hh := (f18 _ (by omega)).trans hh
  have a34 := (f18 _ (by omega)).trans a34
  have a35 := (f18 _ (by omega)).trans a35
  have a36 := (f18 _ (by omega)).trans a36
  have a37 := (f18 _ (by omega)).trans a37
  have a38 := (f18 _ (by omega)).trans a38
  have a39 := (f18 _ (by omega)).trans a39
  have a40 := (f18 _ (by omega)).trans a40
  have r41 : ∀ b, 241 ≤ b → b < 245 → h18.2 b = h16.2 b := fun b p q => (f18 b (by omega)).trans (r41 b p q)
  have hfr : ∀ b, (b < 233) → h18.2 b = h.2 b := fun b hb => (f18 b (by omega)).trans (hfr b hb)
  have s45 := c18
  refine go_dup (pc' := 76) dX14_init_75 rfl rfl ?_
  refine go_invIN (As := []) (pc' := 79) dX14_init_76 rfl cf_X14_init_462 rfl rfl (Nat.le_of_ble_eq_true rfl) (c_MShape_init (hz:=hz) (ha:=rfl) (hh:=s45)) (fun v19 h19 q19 => ?_)
  obtain ⟨rfl, hz, s45, f19⟩ := q19
  have hh := (f19 _ (by omega)).trans hh
  have a34 := (f19 _ (by omega)).trans a34
  have a35 := (f19 _ (by omega)).trans a35
  have a36 := (f19 _ (by omega)).trans a36
  have a37 := (f19 _ (by omega)).trans a37
  have a38 := (f19 _ (by omega)).trans a38
  have a39 := (f19 _ (by omega)).trans a39
  have a40 := (f19 _ (by omega)).trans a40
  have r41 : ∀ b, 241 ≤ b → b < 245 → h19.2 b = h16.2 b := fun b p q => (f19 b (by omega)).trans (r41 b p q)
  have hfr : ∀ b, (b < 233) → h19.2 b = h.2 b := fun b hb => (f19 b (by omega)).trans (hfr b hb)
  have hz : h19.1 = (249, 27247) := hz
  have r45 : ∀ b, 245 ≤ b → b < 249 → h19.2 b = h19.2 b := fun _ _ _ => rfl
  refine go_putfF (pc' := 82) dX14_init_79 rfl pf_LandBaseModel_262 (fun _ => rfl) hh (by decide) rfl rfl (fun h20 z20 c20 f20 => ?_)
  have hz := z20.trans hz
  have a34 := (f20 _ (by omega)).trans a34
  have a35 := (f20 _ (by omega)).trans a35
  have a36 := (f20 _ (by omega)).trans a36
  have a37 := (f20 _ (by omega)).trans a37
  have a38 := (f20 _ (by omega)).trans a38
  have a39 := (f20 _ (by omega)).trans a39
  have a40 := (f20 _ (by omega)).trans a40
  have r41 : ∀ b, 241 ≤ b → b < 245 → h20.2 b = h16.2 b := fun b p q => (f20 b (by omega)).trans (r41 b p q)
  have r45 : ∀ b, 245 ≤ b → b < 249 → h20.2 b = h19.2 b := fun b p q => (f20 b (by omega)).trans (r45 b p q)
  have hfr : ∀ b, (b < 233) → h20.2 b = h.2 b := fun b hb => (f20 b (by omega)).trans (hfr b hb)
  have hh := c20
  first | refine go_aload_n (i := 0) (pc' := 83) dX14_init_82 rfl rfl rfl ?_ | refine go_aloadX_n (i := 0) (pc' := 83) dX14_init_82 rfl rfl rfl ?_ | refine go_aload_nN (i := 0) (pc' := 83) dX14_init_82 rfl rfl rfl ?_
  refine go_bipush (v := 8) (pc' := 85) dX14_init_83 rfl (by decide) ?_
  refine go_newarrayK (t := 0) (N := 8) (pc' := 87) dX14_init_85 rfl rfl (by decide) wd_149 (by decide) (by decide) (by decide) hz (fun h21 z21 c21 f21 => ?_)
  have hz := z21
  have hh := (f21 _ (by omega)).trans hh
  have a34 := (f21 _ (by omega)).trans a34
  have a35 := (f21 _ (by omega)).trans a35
  have a36 := (f21 _ (by omega)).trans a36
  have a37 := (f21 _ (by omega)).trans a37
  have a38 := (f21 _ (by omega)).trans a38
  have a39 := (f21 _ (by omega)).trans a39
  have a40 := (f21 _ (by omega)).trans a40
  have r41 : ∀ b, 241 ≤ b → b < 245 → h21.2 b = h16.2 b := fun b p q => (f21 b (by omega)).trans (r41 b p q)
  have r45 : ∀ b, 245 ≤ b → b < 249 → h21.2 b = h19.2 b := fun b p q => (f21 b (by omega)).trans (r45 b p q)
  have hfr : ∀ b, (b < 233) → h21.2 b = h.2 b := fun b hb => (f21 b (by omega)).trans (hfr b hb)
  have a49 : h21.2 _ = some (.inl (0, 8, .inl (fun _ => 0))) := c21
  refine go_putfF (pc' := 90) dX14_init_87 rfl pf_LandBaseModel_265 (fun _ => rfl) hh (by decide) rfl rfl (fun h22 z22 c22 f22 => ?_)
  have hz := z22.trans hz
  have a34 := (f22 _ (by omega)).trans a34
  have a35 := (f22 _ (by omega)).trans a35
  have a36 := (f22 _ (by omega)).trans a36
  have a37 := (f22 _ (by omega)).trans a37
  have a38 := (f22 _ (by omega)).trans a38
  have a39 := (f22 _ (by omega)).trans a39
  have a40 := (f22 _ (by omega)).trans a40
  have a49 := (f22 _ (by omega)).trans a49
  have r41 : ∀ b, 241 ≤ b → b < 245 → h22.2 b = h16.2 b := fun b p q => (f22 b (by omega)).trans (r41 b p q)
  have r45 : ∀ b, 245 ≤ b → b < 249 → h22.2 b = h19.2 b := fun b p q => (f22 b (by omega)).trans (r45 b p q)
  have hfr : ∀ b, (b < 233) → h22.2 b = h.2 b := fun b hb => (f22 b (by omega)).trans (hfr b hb)
  have hh := c22
  first | refine go_aload_n (i := 0) (pc' := 91) dX14_init_90 rfl rfl rfl ?_ | refine go_aloadX_n (i := 0) (pc' := 91) dX14_init_90 rfl rfl rfl ?_ | refine go_aload_nN (i := 0) (pc' := 91) dX14_init_90 rfl rfl rfl ?_
  refine go_newK (pc' := 94) dX14_init_91 rfl nw_LandBaseModel_289 hz (fun h23 z23 c23 f23 => ?_)
  have hz := z23
  have hh := (f23 _ (by omega)).trans hh
  have a34 := (f23 _ (by omega)).trans a34
  have a35 := (f23 _ (by omega)).trans a35
  have a36 := (f23 _ (by omega)).trans a36
  have a37 := (f23 _ (by omega)).trans a37
  have a38 := (f23 _ (by omega)).trans a38
  have a39 := (f23 _ (by omega)).trans a39
  have a40 := (f23 _ (by omega)).trans a40
  have a49 := (f23 _ (by omega)).trans a49
  have r41 : ∀ b, 241 ≤ b → b < 245 → h23.2 b = h16.2 b := fun b p q => (f23 b (by omega)).trans (r41 b p q)
  have r45 : ∀ b, 245 ≤ b → b < 249 → h23.2 b = h19.2 b := fun b p q => (f23 b (by omega)).trans (r45 b p q)
  have hfr : ∀ b, (b < 233) → h23.2 b = h.2 b := fun b hb => (f23 b (by omega)).trans (hfr b hb)
  have s50 := c23
  refine go_dup (pc' := 95) dX14_init_94 rfl rfl ?_
  refine go_invIN (As := []) (pc' := 98) dX14_init_95 rfl cf_X14_init_463 rfl rfl (Nat.le_of_ble_eq_true rfl) (c_MDist_init (hz:=hz) (ha:=rfl) (hh:=s50)) (fun v24 h24 q24 => ?_)
  obtain ⟨rfl, hz, s50, f24⟩ := q24
  have hh := (f24 _ (by omega)).trans hh
  have a34 := (f24 _ (by omega)).trans a34
  have a35 := (f24 _ (by omega)).trans a35
  have a36 := (f24 _ (by omega)).trans a36
  have a37 := (f24 _ (by omega)).trans a37
  have a38 := (f24 _ (by omega)).trans a38
  have a39 := (f24 _ (by omega)).trans a39
  have a40 := (f24 _ (by omega)).trans a40
  have a49 := (f24 _ (by omega)).trans a49
  have r41 : ∀ b, 241 ≤ b → b < 245 → h24.2 b = h16.2 b := fun b p q => (f24 b (by omega)).trans (r41 b p q)
  have r45 : ∀ b, 245 ≤ b → b < 249 → h24.2 b = h19.2 b := fun b p q => (f24 b (by omega)).trans (r45 b p q)
  have hfr : ∀ b, (b < 233) → h24.2 b = h.2 b := fun b hb => (f24 b (by omega)).trans (hfr b hb)
  have hz : h24.1 = (253, 27273) := hz
  have r50 : ∀ b, 250 ≤ b → b < 253 → h24.2 b = h24.2 b := fun _ _ _ => rfl
  refine go_putfF (pc' := 101) dX14_init_98 rfl pf_LandBaseModel_296 (fun _ => rfl) hh (by decide) rfl rfl (fun h25 z25 c25 f25 => ?_)
  have hz := z25.trans hz
  have a34 := (f25 _ (by omega)).trans a34
  have a35 := (f25 _ (by omega)).trans a35
  have a36 := (f25 _ (by omega)).trans a36
  have a37 := (f25 _ (by omega)).trans a37
  have a38 := (f25 _ (by omega)).trans a38
  have a39 := (f25 _ (by omega)).trans a39
  have a40 := (f25 _ (by omega)).trans a40
  have a49 := (f25 _ (by omega)).trans a49
  have r41 : ∀ b, 241 ≤ b → b < 245 → h25.2 b = h16.2 b := fun b p q => (f25 b (by omega)).trans (r41 b p q)
  have r45 : ∀ b, 245 ≤ b → b < 249 → h25.2 b = h19.2 b := fun b p q => (f25 b (by omega)).trans (r45 b p q)
  have r50 : ∀ b, 250 ≤ b → b < 253 → h25.2 b = h24.2 b := fun b p q => (f25 b (by omega)).trans (r50 b p q)
  have hfr : ∀ b, (b < 233) → h25.2 b = h.2 b := fun b hb => (f25 b (by omega)).trans (hfr b hb)
  have hh := c25
  first | refine go_aload_n (i := 0) (pc' := 102) dX14_init_101 rfl rfl rfl ?_ | refine go_aloadX_n (i := 0) (pc' := 102) dX14_init_101 rfl rfl rfl ?_ | refine go_aload_nN (i := 0) (pc' := 102) dX14_init_101 rfl rfl rfl ?_
  refine go_newK (pc' := 105) dX14_init_102 rfl nw_LandBaseModel_289 hz (fun h26 z26 c26 f26 => ?_)
  have hz := z26
  have hh := (f26 _ (by omega)).trans hh
  have a34 := (f26 _ (by omega)).trans a34
  have a35 := (f26 _ (by omega)).trans a35
  have a36 := (f26 _ (by omega)).trans a36
  have a37 := (f26 _ (by omega)).trans a37
  have a38 := (f26 _ (by omega)).trans a38
  have a39 := (f26 _ (by omega)).trans a39
  have a40 := (f26 _ (by omega)).trans a40
  have a49 := (f26 _ (by omega)).trans a49
  have r41 : ∀ b, 241 ≤ b → b < 245 → h26.2 b = h16.2 b := fun b p q => (f26 b (by omega)).trans (r41 b p q)
  have r45 : ∀ b, 245 ≤ b → b < 249 → h26.2 b = h19.2 b := fun b p q => (f26 b (by omega)).trans (r45 b p q)
  have r50 : ∀ b, 250 ≤ b → b < 253 → h26.2 b = h24.2 b := fun b p q => (f26 b (by omega)).trans (r50 b p q)
  have hfr : ∀ b, (b < 233) → h26.2 b = h.2 b := fun b hb => (f26 b (by omega)).trans (hfr b hb)
  have s53 := c26
  refine go_dup (pc' := 106) dX14_init_105 rfl rfl ?_
  refine go_invIN (As := []) (pc' := 109) dX14_init_106 rfl cf_X14_init_463 rfl rfl (Nat.le_of_ble_eq_true rfl) (c_MDist_init (hz:=hz) (ha:=rfl) (hh:=s53)) (fun v27 h27 q27 => ?_)
  obtain ⟨rfl, hz, s53, f27⟩ := q27
  have hh := (f27 _ (by omega)).trans hh
  have a34 := (f27 _ (by omega)).trans a34
  have a35 := (f27 _ (by omega)).trans a35
  have a36 := (f27 _ (by omega)).trans a36
  have a37 := (f27 _ (by omega)).trans a37
  have a38 := (f27 _ (by omega)).trans a38
  have a39 := (f27 _ (by omega)).trans a39
  have a40 := (f27 _ (by omega)).trans a40
  have a49 := (f27 _ (by omega)).trans a49
  have r41 : ∀ b, 241 ≤ b → b < 245 → h27.2 b = h16.2 b := fun b p q => (f27 b (by omega)).trans (r41 b p q)
  have r45 : ∀ b, 245 ≤ b → b < 249 → h27.2 b = h19.2 b := fun b p q => (f27 b (by omega)).trans (r45 b p q)
  have r50 : ∀ b, 250 ≤ b → b < 253 → h27.2 b = h24.2 b := fun b p q => (f27 b (by omega)).trans (r50 b p q)
  have hfr : ∀ b, (b < 233) → h27.2 b = h.2 b := fun b hb => (f27 b (by omega)).trans (hfr b hb)
  have hz : h27.1 = (256, 27291) := hz
  have r53 : ∀ b, 253 ≤ b → b < 256 → h27.2 b = h27.2 b := fun _ _ _ => rfl
  refine go_putfF (pc' := 112) dX14_init_109 rfl pf_LandBaseModel_464 (fun _ => rfl) hh (by decide) rfl rfl (fun h28 z28 c28 f28 => ?_)
  have hz := z28.trans hz
  have a34 := (f28 _ (by omega)).trans a34
  have a35 := (f28 _ (by omega)).trans a35
  have a36 := (f28 _ (by omega)).trans a36
  have a37 := (f28 _ (by omega)).trans a37
  have a38 := (f28 _ (by omega)).trans a38
  have a39 := (f28 _ (by omega)).trans a39
  have a40 := (f28 _ (by omega)).trans a40
  have a49 := (f28 _ (by omega)).trans a49
  have r41 : ∀ b, 241 ≤ b → b < 245 → h28.2 b = h16.2 b := fun b p q => (f28 b (by omega)).trans (r41 b p q)
  have r45 : ∀ b, 245 ≤ b → b < 249 → h28.2 b = h19.2 b := fun b p q => (f28 b (by omega)).trans (r45 b p q)
  have r50 : ∀ b, 250 ≤ b → b < 253 → h28.2 b = h24.2 b := fun b p q => (f28 b (by omega)).trans (r50 b p q)
  have r53 : ∀ b, 253 ≤ b → b < 256 → h28.2 b = h27.2 b := fun b p q => (f28 b (by omega)).trans (r53 b p q)
  have hfr : ∀ b, (b < 233) → h28.2 b = h.2 b := fun b hb => (f28 b (by omega)).trans (hfr b hb)
  have hh := c28
  first | refine go_aload_n (i := 0) (pc' := 113) dX14_init_112 rfl rfl rfl ?_ | refine go_aloadX_n (i := 0) (pc' := 113) dX14_init_112 rfl rfl rfl ?_ | refine go_aload_nN (i := 0) (pc' := 113) dX14_init_112 rfl rfl rfl ?_
  refine go_newK (pc' := 116) dX14_init_113 rfl nw_LandBaseModel_289 hz (fun h29 z29 c29 f29 => ?_)
  have hz := z29
  have hh := (f29 _ (by omega)).trans hh
  have a34 := (f29 _ (by omega)).trans a34
  have a35 := (f29 _ (by omega)).trans a35
  have a36 := (f29 _ (by omega)).trans a36
  have a37 := (f29 _ (by omega)).trans a37
  have a38 := (f29 _ (by omega)).trans a38
  have a39 := (f29 _ (by omega)).trans a39
  have a40 := (f29 _ (by omega)).trans a40
  have a49 := (f29 _ (by omega)).trans a49
  have r41 : ∀ b, 241 ≤ b → b < 245 → h29.2 b = h16.2 b := fun b p q => (f29 b (by omega)).trans (r41 b p q)
  have r45 : ∀ b, 245 ≤ b → b < 249 → h29.2 b = h19.2 b := fun b p q => (f29 b (by omega)).trans (r45 b p q)
  have r50 : ∀ b, 250 ≤ b → b < 253 → h29.2 b = h24.2 b := fun b p q => (f29 b (by omega)).trans (r50 b p q)
  have r53 : ∀ b, 253 ≤ b → b < 256 → h29.2 b = h27.2 b := fun b p q => (f29 b (by omega)).trans (r53 b p q)
  have hfr : ∀ b, (b < 233) → h29.2 b = h.2 b := fun b hb => (f29 b (by omega)).trans (hfr b hb)
  have s56 := c29
  refine go_dup (pc' := 117) dX14_init_116 rfl rfl ?_
  refine go_invIN (As := []) (pc' := 120) dX14_init_117 rfl cf_X14_init_463 rfl rfl (Nat.le_of_ble_eq_true rfl) (c_MDist_init (hz:=hz) (ha:=rfl) (hh:=s56)) (fun v30 h30 q30 => ?_)
  obtain ⟨rfl, hz, s56, f30⟩ := q30
  have hh := (f30 _ (by omega)).trans hh
  have a34 := (f30 _ (by omega)).trans a34
  have a35 := (f30 _ (by omega)).trans a35
  have a36 := (f30 _ (by omega)).trans a36
  have a37 := (f30 _ (by omega)).trans a37
  have a38 := (f30 _ (by omega)).trans a38
  have a39 := (f30 _ (by omega)).trans a39
  have a40 := (f30 _ (by omega)).trans a40
  have a49 := (f30 _ (by omega)).trans a49
  have r41 : ∀ b, 241 ≤ b → b < 245 → h30.2 b = h16.2 b := fun b p q => (f30 b (by omega)).trans (r41 b p q)
  have r45 : ∀ b, 245 ≤ b → b < 249 → h30.2 b = h19.2 b := fun b p q => (f30 b (by omega)).trans (r45 b p q)
  have r50 : ∀ b, 250 ≤ b → b < 253 → h30.2 b = h24.2 b := fun b p q => (f30 b (by omega)).trans (r50 b p q)
  have r53 : ∀ b, 253 ≤ b → b < 256 → h30.2 b = h27.2 b := fun b p q => (f30 b (by omega)).trans (r53 b p q)
  have hfr : ∀ b, (b < 233) → h30.2 b = h.2 b := fun b hb => (f30 b (by omega)).trans (hfr b hb)
  have hz : h30.1 = (259, 27309) := hz
  have r56 : ∀ b, 256 ≤ b → b < 259 → h30.2 b = h30.2 b := fun _ _ _ => rfl
  refine go_putfF (pc' := 123) dX14_init_120 rfl pf_LandBaseModel_467 (fun _ => rfl) hh (by decide) rfl rfl (fun h31 z31 c31 f31 => ?_)
  have hz := z31.trans hz
  have a34 := (f31 _ (by omega)).trans a34
  have a35 := (f31 _ (by omega)).trans a35
  have a36 := (f31 _ (by omega)).trans a36
  have a37 := (f31 _ (by omega)).trans a37
  have a38 := (f31 _ (by omega)).trans a38
  have a39 := (f31 _ (by omega)).trans a39
  have a40 := (f31 _ (by omega)).trans a40
  have a49 := (f31 _ (by omega)).trans a49
  have r41 : ∀ b, 241 ≤ b → b < 245 → h31.2 b = h16.2 b := fun b p q => (f31 b (by omega)).trans (r41 b p q)
  have r45 : ∀ b, 245 ≤ b → b < 249 → h31.2 b = h19.2 b := fun b p q => (f31 b (by omega)).trans (r45 b p q)
  have r50 : ∀ b, 250 ≤ b → b < 253 → h31.2 b = h24.2 b := fun b p q => (f31 b (by omega)).trans (r50 b p q)
  have r53 : ∀ b, 253 ≤ b → b < 256 → h31.2 b = h27.2 b := fun b p q => (f31 b (by omega)).trans (r53 b p q)
  have r56 : ∀ b, 256 ≤ b → b < 259 → h31.2 b = h30.2 b := fun b p q => (f31 b (by omega)).trans (r56 b p q)
  have hfr : ∀ b, (b < 233) → h31.2 b = h.2 b := fun b hb => (f31 b (by omega)).trans (hfr b hb)
  have hh := c31
  first | refine go_aload_n (i := 0) (pc' := 124) dX14_init_123 rfl rfl rfl ?_ | refine go_aloadX_n (i := 0) (pc' := 124) dX14_init_123 rfl rfl rfl ?_ | refine go_aload_nN (i := 0) (pc' := 124) dX14_init_123 rfl rfl rfl ?_
  refine go_newK (pc' := 127) dX14_init_124 rfl nw_LandBaseModel_355 hz (fun h32 z32 c32 f32 => ?_)
  have hz := z32
  have hh := (f32 _ (by omega)).trans hh
  have a34 := (f32 _ (by omega)).trans a34
  have a35 := (f32 _ (by omega)).trans a35
  have a36 := (f32 _ (by omega)).trans a36
  have a37 := (f32 _ (by omega)).trans a37
  have a38 := (f32 _ (by omega)).trans a38
  have a39 := (f32 _ (by omega)).trans a39
  have a40 := (f32 _ (by omega)).trans a40
  have a49 := (f32 _ (by omega)).trans a49
  have r41 : ∀ b, 241 ≤ b → b < 245 → h32.2 b = h16.2 b := fun b p q => (f32 b (by omega)).trans (r41 b p q)
  have r45 : ∀ b, 245 ≤ b → b < 249 → h32.2 b = h19.2 b := fun b p q => (f32 b (by omega)).trans (r45 b p q)
  have r50 : ∀ b, 250 ≤ b → b < 253 → h32.2 b = h24.2 b := fun b p q => (f32 b (by omega)).trans (r50 b p q)
  have r53 : ∀ b, 253 ≤ b → b < 256 → h32.2 b = h27.2 b := fun b p q => (f32 b (by omega)).trans (r53 b p q)
  have r56 : ∀ b, 256 ≤ b → b < 259 → h32.2 b = h30.2 b := fun b p q => (f32 b (by omega)).trans (r56 b p q)
  have hfr : ∀ b, (b < 233) → h32.2 b = h.2 b := fun b hb => (f32 b (by omega)).trans (hfr b hb)
  have s59 := c32
  refine go_dup (pc' := 128) dX14_init_127 rfl rfl ?_
  refine go_invI (As := []) (pc' := 131) dX14_init_128 rfl cf_X14_init_470 rfl rfl (Nat.le_of_ble_eq_true rfl) (c_MState_init (hz:=hz) (ha:=rfl) (hh:=s59)) (fun v33 h33 q33 => ?_)
  obtain ⟨rfl, hz, s59, f33⟩ := q33
  have hh := (f33 _ (by omega)).trans hh
  have a34 := (f33 _ (by omega)).trans a34
  have a35 := (f33 _ (by omega)).trans a35
  have a36 := (f33 _ (by omega)).trans a36
  have a37 := (f33 _ (by omega)).trans a37
  have a38 := (f33 _ (by omega)).trans a38
  have a39 := (f33 _ (by omega)).trans a39
  have a40 := (f33 _ (by omega)).trans a40
  have a49 := (f33 _ (by omega)).trans a49
  have r41 : ∀ b, 241 ≤ b → b < 245 → h33.2 b = h16.2 b := fun b p q => (f33 b (by omega)).trans (r41 b p q)
  have r45 : ∀ b, 245 ≤ b → b < 249 → h33.2 b = h19.2 b := fun b p q => (f33 b (by omega)).trans (r45 b p q)
  have r50 : ∀ b, 250 ≤ b → b < 253 → h33.2 b = h24.2 b := fun b p q => (f33 b (by omega)).trans (r50 b p q)
  have r53 : ∀ b, 253 ≤ b → b < 256 → h33.2 b = h27.2 b := fun b p q => (f33 b (by omega)).trans (r53 b p q)
  have r56 : ∀ b, 256 ≤ b → b < 259 → h33.2 b = h30.2 b := fun b p q => (f33 b (by omega)).trans (r56 b p q)
  have hfr : ∀ b, (b < 233) → h33.2 b = h.2 b := fun b hb => (f33 b (by omega)).trans (hfr b hb)
  have hz : h33.1 = (1061, 46511) := hz
  have r59 : ∀ b, 259 ≤ b → b < 1061 → h33.2 b = h33.2 b := fun _ _ _ => rfl
  refine go_putfF (pc' := 134) dX14_init_131 rfl pf_LandBaseModel_351 (fun _ => rfl) hh (by decide) rfl rfl (fun h34 z34 c34 f34 => ?_)
  have hz := z34.trans hz
  have a34 := (f34 _ (by omega)).trans a34
  have a35 := (f34 _ (by omega)).trans a35
  have a36 := (f34 _ (by omega)).trans a36
  have a37 := (f34 _ (by omega)).trans a37
  have a38 := (f34 _ (by omega)).trans a38
  have a39 := (f34 _ (by omega)).trans a39
  have a40 := (f34 _ (by omega)).trans a40
  have a49 := (f34 _ (by omega)).trans a49
  have r41 : ∀ b, 241 ≤ b → b < 245 → h34.2 b = h16.2 b := fun b p q => (f34 b (by omega)).trans (r41 b p q)
  have r45 : ∀ b, 245 ≤ b → b < 249 → h34.2 b = h19.2 b := fun b p q => (f34 b (by omega)).trans (r45 b p q)
  have r50 : ∀ b, 250 ≤ b → b < 253 → h34.2 b = h24.2 b := fun b p q => (f34 b (by omega)).trans (r50 b p q)
  have r53 : ∀ b, 253 ≤ b → b < 256 → h34.2 b = h27.2 b := fun b p q => (f34 b (by omega)).trans (r53 b p q)
  have r56 : ∀ b, 256 ≤ b → b < 259 → h34.2 b = h30.2 b := fun b p q => (f34 b (by omega)).trans (r56 b p q)
  have r59 : ∀ b, 259 ≤ b → b < 1061 → h34.2 b = h33.2 b := fun b p q => (f34 b (by omega)).trans (r59 b p q)
  have hfr : ∀ b, (b < 233) → h34.2 b = h.2 b := fun b hb => (f34 b (by omega)).trans (hfr b hb)
  have hh := c34
  first | refine go_aload_n (i := 0) (pc' := 135) dX14_init_134 rfl rfl rfl ?_ | refine go_aloadX_n (i := 0) (pc' := 135) dX14_init_134 rfl rfl rfl ?_ | refine go_aload_nN (i := 0) (pc' := 135) dX14_init_134 rfl rfl rfl ?_
  refine go_newK (pc' := 138) dX14_init_135 rfl nw_LandBaseModel_355 hz (fun h35 z35 c35 f35 => ?_)
  have hz := z35
  have hh := (f35 _ (by omega)).trans hh
  have a34 := (f35 _ (by omega)).trans a34
  have a35 := (f35 _ (by omega)).trans a35
  have a36 := (f35 _ (by omega)).trans a36
  have a37 := (f35 _ (by omega)).trans a37
  have a38 := (f35 _ (by omega)).trans a38
  have a39 := (f35 _ (by omega)).trans a39
  have a40 := (f35 _ (by omega)).trans a40
  have a49 := (f35 _ (by omega)).trans a49
  have r41 : ∀ b, 241 ≤ b → b < 245 → h35.2 b = h16.2 b := fun b p q => (f35 b (by omega)).trans (r41 b p q)
  have r45 : ∀ b, 245 ≤ b → b < 249 → h35.2 b = h19.2 b := fun b p q => (f35 b (by omega)).trans (r45 b p q)
  have r50 : ∀ b, 250 ≤ b → b < 253 → h35.2 b = h24.2 b := fun b p q => (f35 b (by omega)).trans (r50 b p q)
  have r53 : ∀ b, 253 ≤ b → b < 256 → h35.2 b = h27.2 b := fun b p q => (f35 b (by omega)).trans (r53 b p q)
  have r56 : ∀ b, 256 ≤ b → b < 259 → h35.2 b = h30.2 b := fun b p q => (f35 b (by omega)).trans (r56 b p q)
  have r59 : ∀ b, 259 ≤ b → b < 1061 → h35.2 b = h33.2 b := fun b p q => (f35 b (by omega)).trans (r59 b p q)
  have hfr : ∀ b, (b < 233) → h35.2 b = h.2 b := fun b hb => (f35 b (by omega)).trans (hfr b hb)
  have s61 := c35
  refine go_dup (pc' := 139) dX14_init_138 rfl rfl ?_
  refine go_invI (As := []) (pc' := 142) dX14_init_139 rfl cf_X14_init_470 rfl rfl (Nat.le_of_ble_eq_true rfl) (c_MState_init (hz:=hz) (ha:=rfl) (hh:=s61)) (fun v36 h36 q36 => ?_)
  obtain ⟨rfl, hz, s61, f36⟩ := q36
  have hh := (f36 _ (by omega)).trans hh
  have a34 := (f36 _ (by omega)).trans a34
  have a35 := (f36 _ (by omega)).trans a35
  have a36 := (f36 _ (by omega)).trans a36
  have a37 := (f36 _ (by omega)).trans a37
  have a38 := (f36 _ (by omega)).trans a38
  have a39 := (f36 _ (by omega)).trans a39
  have a40 := (f36 _ (by omega)).trans a40
  have a49 := (f36 _ (by omega)).trans a49
  have r41 : ∀ b, 241 ≤ b → b < 245 → h36.2 b = h16.2 b := fun b p q => (f36 b (by omega)).trans (r41 b p q)
  have r45 : ∀ b, 245 ≤ b → b < 249 → h36.2 b = h19.2 b := fun b p q => (f36 b (by omega)).trans (r45 b p q)
  have r50 : ∀ b, 250 ≤ b → b < 253 → h36.2 b = h24.2 b := fun b p q => (f36 b (by omega)).trans (r50 b p q)
  have r53 : ∀ b, 253 ≤ b → b < 256 → h36.2 b = h27.2 b := fun b p q => (f36 b (by omega)).trans (r53 b p q)
  have r56 : ∀ b, 256 ≤ b → b < 259 → h36.2 b = h30.2 b := fun b p q => (f36 b (by omega)).trans (r56 b p q)
  have r59 : ∀ b, 259 ≤ b → b < 1061 → h36.2 b = h33.2 b := fun b p q => (f36 b (by omega)).trans (r59 b p q)
  have hfr : ∀ b, (b < 233) → h36.2 b = h.2 b := fun b hb => (f36 b (by omega)).trans (hfr b hb)
  have hz : h36.1 = (1863, 65713) := hz
  have r61 : ∀ b, 1061 ≤ b → b < 1863 → h36.2 b = h36.2 b := fun _ _ _ => rfl
  refine go_putfF (pc' := 145) dX14_init_142 rfl pf_LandBaseModel_347 (fun _ => rfl) hh (by decide) rfl rfl (fun h37 z37 c37 f37 => ?_)
  have hz := z37.trans hz
  have a34 := (f37 _ (by omega)).trans a34
  have a35 := (f37 _ (by omega)).trans a35
  have a36 := (f37 _ (by omega)).trans a36
  have a37 := (f37 _ (by omega)).trans a37
  have a38 := (f37 _ (by omega)).trans a38
  have a39 := (f37 _ (by omega)).trans a39
  have a40 := (f37 _ (by omega)).trans a40
  have a49 := (f37 _ (by omega)).trans a49
  have r41 : ∀ b, 241 ≤ b → b < 245 → h37.2 b = h16.2 b := fun b p q => (f37 b (by omega)).trans (r41 b p q)
  have r45 : ∀ b, 245 ≤ b → b < 249 → h37.2 b = h19.2 b := fun b p q => (f37 b (by omega)).trans (r45 b p q)
  have r50 : ∀ b, 250 ≤ b → b < 253 → h37.2 b = h24.2 b := fun b p q => (f37 b (by omega)).trans (r50 b p q)
  have r53 : ∀ b, 253 ≤ b → b < 256 → h37.2 b = h27.2 b := fun b p q => (f37 b (by omega)).trans (r53 b p q)
  have r56 : ∀ b, 256 ≤ b → b < 259 → h37.2 b = h30.2 b := fun b p q => (f37 b (by omega)).trans (r56 b p q)
  have r59 : ∀ b, 259 ≤ b → b < 1061 → h37.2 b = h33.2 b := fun b p q => (f37 b (by omega)).trans (r59 b p q)
  have r61 : ∀ b, 1061 ≤ b → b < 1863 → h37.2 b = h36.2 b := fun b p q => (f37 b (by omega)).trans (r61 b p q)
  have hfr : ∀ b, (b < 233) → h37.2 b = h.2 b := fun b hb => (f37 b (by omega)).trans (hfr b hb)
  have hh := c37
  first | refine go_aload_n (i := 0) (pc' := 146) dX14_init_145 rfl rfl rfl ?_ | refine go_aloadX_n (i := 0) (pc' := 146) dX14_init_145 rfl rfl rfl ?_ | refine go_aload_nN (i := 0) (pc' := 146) dX14_init_145 rfl rfl rfl ?_
  refine go_iconst (v := (-1)) (pc' := 147) dX14_init_146 rfl (by decide) ?_
  refine go_putfF (pc' := 150) dX14_init_147 rfl pf_LandBaseModel_323 (fun h => by cases h) hh (by decide) rfl rfl (fun h38 z38 c38 f38 => ?_)
  have hz := z38.trans hz
  have a34 := (f38 _ (by omega)).trans a34
  have a35 := (f38 _ (by omega)).trans a35
  have a36 := (f38 _ (by omega)).trans a36
  have a37 := (f38 _ (by omega)).trans a37
  have a38 := (f38 _ (by omega)).trans a38
  have a39 := (f38 _ (by omega)).trans a39
  have a40 := (f38 _ (by omega)).trans a40
  have a49 := (f38 _ (by omega)).trans a49
  have r41 : ∀ b, 241 ≤ b → b < 245 → h38.2 b = h16.2 b := fun b p q => (f38 b (by omega)).trans (r41 b p q)
  have r45 : ∀ b, 245 ≤ b → b < 249 → h38.2 b = h19.2 b := fun b p q => (f38 b (by omega)).trans (r45 b p q)
  have r50 : ∀ b, 250 ≤ b → b < 253 → h38.2 b = h24.2 b := fun b p q => (f38 b (by omega)).trans (r50 b p q)
  have r53 : ∀ b, 253 ≤ b → b < 256 → h38.2 b = h27.2 b := fun b p q => (f38 b (by omega)).trans (r53 b p q)
  have r56 : ∀ b, 256 ≤ b → b < 259 → h38.2 b = h30.2 b := fun b p q => (f38 b (by omega)).trans (r56 b p q)
  have r59 : ∀ b, 259 ≤ b → b < 1061 → h38.2 b = h33.2 b := fun b p q => (f38 b (by omega)).trans (r59 b p q)
  have r61 : ∀ b, 1061 ≤ b → b < 1863 → h38.2 b = h36.2 b := fun b p q => (f38 b (by omega)).trans (r61 b p q)
  have hfr : ∀ b, (b < 233) → h38.2 b = h.2 b := fun b hb => (f38 b (by omega)).trans (hfr b hb)
  have hh := c38
  first | refine go_aload_n (i := 0) (pc' := 151) dX14_init_150 rfl rfl rfl ?_ | refine go_aloadX_n (i := 0) (pc' := 151) dX14_init_150 rfl rfl rfl ?_ | refine go_aload_nN (i := 0) (pc' := 151) dX14_init_150 rfl rfl rfl ?_
  refine go_sipush (v := 4000) (pc' := 154) dX14_init_151 rfl (by decide) ?_
  refine go_newarrayK (t := 0) (N := 4000) (pc' := 156) dX14_init_154 rfl rfl (by decide) wd_149 (by decide) (by decide) (by decide) hz (fun h39 z39 c39 f39 => ?_)
  have hz := z39
  have hh := (f39 _ (by omega)).trans hh
  have a34 := (f39 _ (by omega)).trans a34
  have a35 := (f39 _ (by omega)).trans a35
  have a36 := (f39 _ (by omega)).trans a36
  have a37 := (f39 _ (by omega)).trans a37
  have a38 := (f39 _ (by omega)).trans a38
  have a39 := (f39 _ (by omega)).trans a39
  have a40 := (f39 _ (by omega)).trans a40
  have a49 := (f39 _ (by omega)).trans a49
  have r41 : ∀ b, 241 ≤ b → b < 245 → h39.2 b = h16.2 b := fun b p q => (f39 b (by omega)).trans (r41 b p q)
  have r45 : ∀ b, 245 ≤ b → b < 249 → h39.2 b = h19.2 b := fun b p q => (f39 b (by omega)).trans (r45 b p q)
  have r50 : ∀ b, 250 ≤ b → b < 253 → h39.2 b = h24.2 b := fun b p q => (f39 b (by omega)).trans (r50 b p q)
  have r53 : ∀ b, 253 ≤ b → b < 256 → h39.2 b = h27.2 b := fun b p q => (f39 b (by omega)).trans (r53 b p q)
  have r56 : ∀ b, 256 ≤ b → b < 259 → h39.2 b = h30.2 b := fun b p q => (f39 b (by omega)).trans (r56 b p q)
  have r59 : ∀ b, 259 ≤ b → b < 1061 → h39.2 b = h33.2 b := fun b p q => (f39 b (by omega)).trans (r59 b p q)
  have r61 : ∀ b, 1061 ≤ b → b < 1863 → h39.2 b = h36.2 b := fun b p q => (f39 b (by omega)).trans (r61 b p q)
  have hfr : ∀ b, (b < 233) → h39.2 b = h.2 b := fun b hb => (f39 b (by omega)).trans (hfr b hb)
  have a63 : h39.2 _ = some (.inl (0, 4000, .inl (fun _ => 0))) := c39
  refine go_putfF (pc' := 159) dX14_init_156 rfl pf_LandBaseModel_376 (fun _ => rfl) hh (by decide) rfl rfl (fun h40 z40 c40 f40 => ?_)
  have hz := z40.trans hz
  have a34 := (f40 _ (by omega)).trans a34
  have a35 := (f40 _ (by omega)).trans a35
  have a36 := (f40 _ (by omega)).trans a36
  have a37 := (f40 _ (by omega)).trans a37
  have a38 := (f40 _ (by omega)).trans a38
  have a39 := (f40 _ (by omega)).trans a39
  have a40 := (f40 _ (by omega)).trans a40
  have a49 := (f40 _ (by omega)).trans a49
  have a63 := (f40 _ (by omega)).trans a63
  have r41 : ∀ b, 241 ≤ b → b < 245 → h40.2 b = h16.2 b := fun b p q => (f40 b (by omega)).trans (r41 b p q)
  have r45 : ∀ b, 245 ≤ b → b < 249 → h40.2 b = h19.2 b := fun b p q => (f40 b (by omega)).trans (r45 b p q)
  have r50 : ∀ b, 250 ≤ b → b < 253 → h40.2 b = h24.2 b := fun b p q => (f40 b (by omega)).trans (r50 b p q)
  have r53 : ∀ b, 253 ≤ b → b < 256 → h40.2 b = h27.2 b := fun b p q => (f40 b (by omega)).trans (r53 b p q)
  have r56 : ∀ b, 256 ≤ b → b < 259 → h40.2 b = h30.2 b := fun b p q => (f40 b (by omega)).trans (r56 b p q)
  have r59 : ∀ b, 259 ≤ b → b < 1061 → h40.2 b = h33.2 b := fun b p q => (f40 b (by omega)).trans (r59 b p q)
  have r61 : ∀ b, 1061 ≤ b → b < 1863 → h40.2 b = h36.2 b := fun b p q => (f40 b (by omega)).trans (r61 b p q)
  have hfr : ∀ b, (b < 233) → h40.2 b = h.2 b := fun b hb => (f40 b (by omega)).trans (hfr b hb)
  have hh := c40
  first | refine go_aload_n (i := 0) (pc' := 160) dX14_init_159 rfl rfl rfl ?_ | refine go_aloadX_n (i := 0) (pc' := 160) dX14_init_159 rfl rfl rfl ?_ | refine go_aload_nN (i := 0) (pc' := 160) dX14_init_159 rfl rfl rfl ?_
  refine go_iconst (v := (-1)) (pc' := 161) dX14_init_160 rfl (by decide) ?_
  refine go_putfF (pc' := 164) dX14_init_161 rfl pf_LandBaseModel_370 (fun h => by cases h) hh (by decide) rfl rfl (fun h41 z41 c41 f41 => ?_)
  have hz := z41.trans hz
  have a34 := (f41 _ (by omega)).trans a34
  have a35 := (f41 _ (by omega)).trans a35
  have a36 := (f41 _ (by omega)).trans a36
  have a37 := (f41 _ (by omega)).trans a37
  have a38 := (f41 _ (by omega)).trans a38
  have a39 := (f41 _ (by omega)).trans a39
  have a40 := (f41 _ (by omega)).trans a40
  have a49 := (f41 _ (by omega)).trans a49
  have a63 := (f41 _ (by omega)).trans a63
  have r41 : ∀ b, 241 ≤ b → b < 245 → h41.2 b = h16.2 b := fun b p q => (f41 b (by omega)).trans (r41 b p q)
  have r45 : ∀ b, 245 ≤ b → b < 249 → h41.2 b = h19.2 b := fun b p q => (f41 b (by omega)).trans (r45 b p q)
  have r50 : ∀ b, 250 ≤ b → b < 253 → h41.2 b = h24.2 b := fun b p q => (f41 b (by omega)).trans (r50 b p q)
  have r53 : ∀ b, 253 ≤ b → b < 256 → h41.2 b = h27.2 b := fun b p q => (f41 b (by omega)).trans (r53 b p q)
  have r56 : ∀ b, 256 ≤ b → b < 259 → h41.2 b = h30.2 b := fun b p q => (f41 b (by omega)).trans (r56 b p q)
  have r59 : ∀ b, 259 ≤ b → b < 1061 → h41.2 b = h33.2 b := fun b p q => (f41 b (by omega)).trans (r59 b p q)
  have r61 : ∀ b, 1061 ≤ b → b < 1863 → h41.2 b = h36.2 b := fun b p q => (f41 b (by omega)).trans (r61 b p q)
  have hfr : ∀ b, (b < 233) → h41.2 b = h.2 b := fun b hb => (f41 b (by omega)).trans (hfr b hb)
  have hh := c41
  first | refine go_aload_n (i := 0) (pc' := 165) dX14_init_164 rfl rfl rfl ?_ | refine go_aloadX_n (i := 0) (pc' := 165) dX14_init_164 rfl rfl rfl ?_ | refine go_aload_nN (i := 0) (pc' := 165) dX14_init_164 rfl rfl rfl ?_
  refine go_sipush (v := 30000) (pc' := 168) dX14_init_165 rfl (by decide) ?_
  refine go_newarrayK (t := 0) (N := 30000) (pc' := 170) dX14_init_168 rfl rfl (by decide) wd_149 (by decide) (by decide) (by decide) hz (fun h42 z42 c42 f42 => ?_)
  have hz := z42
  have hh := (f42 _ (by omega)).trans hh
  have a34 := (f42 _ (by omega)).trans a34
  have a35 := (f42 _ (by omega)).trans a35
  have a36 := (f42 _ (by omega)).trans a36
  have a37 := (f42 _ (by omega)).trans a37
  have a38 := (f42 _ (by omega)).trans a38
  have a39 := (f42 _ (by omega)).trans a39
  have a40 := (f42 _ (by omega)).trans a40
  have a49 := (f42 _ (by omega)).trans a49
  have a63 := (f42 _ (by omega)).trans a63
  have r41 : ∀ b, 241 ≤ b → b < 245 → h42.2 b = h16.2 b := fun b p q => (f42 b (by omega)).trans (r41 b p q)
  have r45 : ∀ b, 245 ≤ b → b < 249 → h42.2 b = h19.2 b := fun b p q => (f42 b (by omega)).trans (r45 b p q)
  have r50 : ∀ b, 250 ≤ b → b < 253 → h42.2 b = h24.2 b := fun b p q => (f42 b (by omega)).trans (r50 b p q)
  have r53 : ∀ b, 253 ≤ b → b < 256 → h42.2 b = h27.2 b := fun b p q => (f42 b (by omega)).trans (r53 b p q)
  have r56 : ∀ b, 256 ≤ b → b < 259 → h42.2 b = h30.2 b := fun b p q => (f42 b (by omega)).trans (r56 b p q)
  have r59 : ∀ b, 259 ≤ b → b < 1061 → h42.2 b = h33.2 b := fun b p q => (f42 b (by omega)).trans (r59 b p q)
  have r61 : ∀ b, 1061 ≤ b → b < 1863 → h42.2 b = h36.2 b := fun b p q => (f42 b (by omega)).trans (r61 b p q)
  have hfr : ∀ b, (b < 233) → h42.2 b = h.2 b := fun b hb => (f42 b (by omega)).trans (hfr b hb)
  have a64 : h42.2 _ = some (.inl (0, 30000, .inl (fun _ => 0))) := c42
  refine go_putfF (pc' := 173) dX14_init_170 rfl pf_LandBaseModel_359 (fun _ => rfl) hh (by decide) rfl rfl (fun h43 z43 c43 f43 => ?_)
  have hz := z43.trans hz
  have a34 := (f43 _ (by omega)).trans a34
  have a35 := (f43 _ (by omega)).trans a35
  have a36 := (f43 _ (by omega)).trans a36
  have a37 := (f43 _ (by omega)).trans a37
  have a38 := (f43 _ (by omega)).trans a38
  have a39 := (f43 _ (by omega)).trans a39
  have a40 := (f43 _ (by omega)).trans a40
  have a49 := (f43 _ (by omega)).trans a49
  have a63 := (f43 _ (by omega)).trans a63
  have a64 := (f43 _ (by omega)).trans a64
  have r41 : ∀ b, 241 ≤ b → b < 245 → h43.2 b = h16.2 b := fun b p q => (f43 b (by omega)).trans (r41 b p q)
  have r45 : ∀ b, 245 ≤ b → b < 249 → h43.2 b = h19.2 b := fun b p q => (f43 b (by omega)).trans (r45 b p q)
  have r50 : ∀ b, 250 ≤ b → b < 253 → h43.2 b = h24.2 b := fun b p q => (f43 b (by omega)).trans (r50 b p q)
  have r53 : ∀ b, 253 ≤ b → b < 256 → h43.2 b = h27.2 b := fun b p q => (f43 b (by omega)).trans (r53 b p q)
  have r56 : ∀ b, 256 ≤ b → b < 259 → h43.2 b = h30.2 b := fun b p q => (f43 b (by omega)).trans (r56 b p q)
  have r59 : ∀ b, 259 ≤ b → b < 1061 → h43.2 b = h33.2 b := fun b p q => (f43 b (by omega)).trans (r59 b p q)
  have r61 : ∀ b, 1061 ≤ b → b < 1863 → h43.2 b = h36.2 b := fun b p q => (f43 b (by omega)).trans (r61 b p q)
  have hfr : ∀ b, (b < 233) → h43.2 b = h.2 b := fun b hb => (f43 b (by omega)).trans (hfr b hb)
  have hh := c43
  first | refine go_aload_n (i := 0) (pc' := 174) dX14_init_173 rfl rfl rfl ?_ | refine go_aloadX_n (i := 0) (pc' := 174) dX14_init_173 rfl rfl rfl ?_ | refine go_aload_nN (i := 0) (pc' := 174) dX14_init_173 rfl rfl rfl ?_
  refine go_newK (pc' := 177) dX14_init_174 rfl nw_LandBaseModel_31 hz (fun h44 z44 c44 f44 => ?_)
  have hz := z44
  have hh := (f44 _ (by omega)).trans hh
  have a34 := (f44 _ (by omega)).trans a34
  have a35 := (f44 _ (by omega)).trans a35
  have a36 := (f44 _ (by omega)).trans a36
  have a37 := (f44 _ (by omega)).trans a37
  have a38 := (f44 _ (by omega)).trans a38
  have a39 := (f44 _ (by omega)).trans a39
  have a40 := (f44 _ (by omega)).trans a40
  have a49 := (f44 _ (by omega)).trans a49
  have a63 := (f44 _ (by omega)).trans a63
  have a64 := (f44 _ (by omega)).trans a64
  have r41 : ∀ b, 241 ≤ b → b < 245 → h44.2 b = h16.2 b := fun b p q => (f44 b (by omega)).trans (r41 b p q)
  have r45 : ∀ b, 245 ≤ b → b < 249 → h44.2 b = h19.2 b := fun b p q => (f44 b (by omega)).trans (r45 b p q)
  have r50 : ∀ b, 250 ≤ b → b < 253 → h44.2 b = h24.2 b := fun b p q => (f44 b (by omega)).trans (r50 b p q)
  have r53 : ∀ b, 253 ≤ b → b < 256 → h44.2 b = h27.2 b := fun b p q => (f44 b (by omega)).trans (r53 b p q)
  have r56 : ∀ b, 256 ≤ b → b < 259 → h44.2 b = h30.2 b := fun b p q => (f44 b (by omega)).trans (r56 b p q)
  have r59 : ∀ b, 259 ≤ b → b < 1061 → h44.2 b = h33.2 b := fun b p q => (f44 b (by omega)).trans (r59 b p q)
  have r61 : ∀ b, 1061 ≤ b → b < 1863 → h44.2 b = h36.2 b := fun b p q => (f44 b (by omega)).trans (r61 b p q)
  have hfr : ∀ b, (b < 233) → h44.2 b = h.2 b := fun b hb => (f44 b (by omega)).trans (hfr b hb)
  have s65 := c44
  refine go_dup (pc' := 178) dX14_init_177 rfl rfl ?_
  have hz : h44.1 = (1866, 99720) := hz
  refine go_invIN (As := []) (pc' := 181) dX14_init_178 rfl cf_X14_init_462 rfl rfl (Nat.le_of_ble_eq_true rfl) (c_MShape_init (hz:=hz) (ha:=rfl) (hh:=s65)) (fun v45 h45 q45 => ?_)
  obtain ⟨rfl, hz, s65, f45⟩ := q45
  have hh := (f45 _ (by omega)).trans hh
  have a34 := (f45 _ (by omega)).trans a34
  have a35 := (f45 _ (by omega)).trans a35
  have a36 := (f45 _ (by omega)).trans a36
  have a37 := (f45 _ (by omega)).trans a37
  have a38 := (f45 _ (by omega)).trans a38
  have a39 := (f45 _ (by omega)).trans a39
  have a40 := (f45 _ (by omega)).trans a40
  have a49 := (f45 _ (by omega)).trans a49
  have a63 := (f45 _ (by omega)).trans a63
  have a64 := (f45 _ (by omega)).trans a64
  have r41 : ∀ b, 241 ≤ b → b < 245 → h45.2 b = h16.2 b := fun b p q => (f45 b (by omega)).trans (r41 b p q)
  have r45 : ∀ b, 245 ≤ b → b < 249 → h45.2 b = h19.2 b := fun b p q => (f45 b (by omega)).trans (r45 b p q)
  have r50 : ∀ b, 250 ≤ b → b < 253 → h45.2 b = h24.2 b := fun b p q => (f45 b (by omega)).trans (r50 b p q)
  have r53 : ∀ b, 253 ≤ b → b < 256 → h45.2 b = h27.2 b := fun b p q => (f45 b (by omega)).trans (r53 b p q)
  have r56 : ∀ b, 256 ≤ b → b < 259 → h45.2 b = h30.2 b := fun b p q => (f45 b (by omega)).trans (r56 b p q)
  have r59 : ∀ b, 259 ≤ b → b < 1061 → h45.2 b = h33.2 b := fun b p q => (f45 b (by omega)).trans (r59 b p q)
  have r61 : ∀ b, 1061 ≤ b → b < 1863 → h45.2 b = h36.2 b := fun b p q => (f45 b (by omega)).trans (r61 b p q)
  have hfr : ∀ b, (b < 233) → h45.2 b = h.2 b := fun b hb => (f45 b (by omega)).trans (hfr b hb)
  have hz : h45.1 = (1869, 99808) := hz
  have r65 : ∀ b, 1865 ≤ b → b < 1869 → h45.2 b = h45.2 b := fun _ _ _ => rfl
  refine go_putfF (pc' := 184) dX14_init_181 rfl pf_LandBaseModel_432 (fun _ => rfl) hh (by decide) rfl rfl (fun h46 z46 c46 f46 => ?_)
  have hz := z46.trans hz
  have a34 := (f46 _ (by omega)).trans a34
  have a35 := (f46 _ (by omega)).trans a35
  have a36 := (f46 _ (by omega)).trans a36
  have a37 := (f46 _ (by omega)).trans a37
  have a38 := (f46 _ (by omega)).trans a38
  have a39 := (f46 _ (by omega)).trans a39
  have a40 := (f46 _ (by omega)).trans a40
  have a49 := (f46 _ (by omega)).trans a49
  have a63 := (f46 _ (by omega)).trans a63
  have a64 := (f46 _ (by omega)).trans a64
  have r41 : ∀ b, 241 ≤ b → b < 245 → h46.2 b = h16.2 b := fun b p q => (f46 b (by omega)).trans (r41 b p q)
  have r45 : ∀ b, 245 ≤ b → b < 249 → h46.2 b = h19.2 b := fun b p q => (f46 b (by omega)).trans (r45 b p q)
  have r50 : ∀ b, 250 ≤ b → b < 253 → h46.2 b = h24.2 b := fun b p q => (f46 b (by omega)).trans (r50 b p q)
  have r53 : ∀ b, 253 ≤ b → b < 256 → h46.2 b = h27.2 b := fun b p q => (f46 b (by omega)).trans (r53 b p q)
  have r56 : ∀ b, 256 ≤ b → b < 259 → h46.2 b = h30.2 b := fun b p q => (f46 b (by omega)).trans (r56 b p q)
  have r59 : ∀ b, 259 ≤ b → b < 1061 → h46.2 b = h33.2 b := fun b p q => (f46 b (by omega)).trans (r59 b p q)
  have r61 : ∀ b, 1061 ≤ b → b < 1863 → h46.2 b = h36.2 b := fun b p q => (f46 b (by omega)).trans (r61 b p q)
  have r65 : ∀ b, 1865 ≤ b → b < 1869 → h46.2 b = h45.2 b := fun b p q => (f46 b (by omega)).trans (r65 b p q)
  have hfr : ∀ b, (b < 233) → h46.2 b = h.2 b := fun b hb => (f46 b (by omega)).trans (hfr b hb)
  have hh := c46
  first | refine go_aload_n (i := 0) (pc' := 185) dX14_init_184 rfl rfl rfl ?_ | refine go_aloadX_n (i := 0) (pc' := 185) dX14_init_184 rfl rfl rfl ?_ | refine go_aload_nN (i := 0) (pc' := 185) dX14_init_184 rfl rfl rfl ?_
  refine go_bipush (v := 8) (pc' := 187) dX14_init_185 rfl (by decide) ?_
  refine go_newarrayK (t := 0) (N := 8) (pc' := 189) dX14_init_187 rfl rfl (by decide) wd_149 (by decide) (by decide) (by decide) hz (fun h47 z47 c47 f47 => ?_)
  have hz := z47
  have hh := (f47 _ (by omega)).trans hh
  have a34 := (f47 _ (by omega)).trans a34
  have a35 := (f47 _ (by omega)).trans a35
  have a36 := (f47 _ (by omega)).trans a36
  have a37 := (f47 _ (by omega)).trans a37
  have a38 := (f47 _ (by omega)).trans a38
  have a39 := (f47 _ (by omega)).trans a39
  have a40 := (f47 _ (by omega)).trans a40
  have a49 := (f47 _ (by omega)).trans a49
  have a63 := (f47 _ (by omega)).trans a63
  have a64 := (f47 _ (by omega)).trans a64
  have r41 : ∀ b, 241 ≤ b → b < 245 → h47.2 b = h16.2 b := fun b p q => (f47 b (by omega)).trans (r41 b p q)
  have r45 : ∀ b, 245 ≤ b → b < 249 → h47.2 b = h19.2 b := fun b p q => (f47 b (by omega)).trans (r45 b p q)
  have r50 : ∀ b, 250 ≤ b → b < 253 → h47.2 b = h24.2 b := fun b p q => (f47 b (by omega)).trans (r50 b p q)
  have r53 : ∀ b, 253 ≤ b → b < 256 → h47.2 b = h27.2 b := fun b p q => (f47 b (by omega)).trans (r53 b p q)
  have r56 : ∀ b, 256 ≤ b → b < 259 → h47.2 b = h30.2 b := fun b p q => (f47 b (by omega)).trans (r56 b p q)
  have r59 : ∀ b, 259 ≤ b → b < 1061 → h47.2 b = h33.2 b := fun b p q => (f47 b (by omega)).trans (r59 b p q)
  have r61 : ∀ b, 1061 ≤ b → b < 1863 → h47.2 b = h36.2 b := fun b p q => (f47 b (by omega)).trans (r61 b p q)
  have r65 : ∀ b, 1865 ≤ b → b < 1869 → h47.2 b = h45.2 b := fun b p q => (f47 b (by omega)).trans (r65 b p q)
  have hfr : ∀ b, (b < 233) → h47.2 b = h.2 b := fun b hb => (f47 b (by omega)).trans (hfr b hb)
  have a69 : h47.2 _ = some (.inl (0, 8, .inl (fun _ => 0))) := c47
  refine go_putfF (pc' := 192) dX14_init_189 rfl pf_LandBaseModel_471 (fun _ => rfl) hh (by decide) rfl rfl (fun h48 z48 c48 f48 => ?_)
  have hz := z48.trans hz
  have a34 := (f48 _ (by omega)).trans a34
  have a35 := (f48 _ (by omega)).trans a35
  have a36 := (f48 _ (by omega)).trans a36
  have a37 := (f48 _ (by omega)).trans a37
  have a38 := (f48 _ (by omega)).trans a38
  have a39 := (f48 _ (by omega)).trans a39
  have a40 := (f48 _ (by omega)).trans a40
  have a49 := (f48 _ (by omega)).trans a49
  have a63 := (f48 _ (by omega)).trans a63
  have a64 := (f48 _ (by omega)).trans a64
  have a69 := (f48 _ (by omega)).trans a69
  have r41 : ∀ b, 241 ≤ b → b < 245 → h48.2 b = h16.2 b := fun b p q => (f48 b (by omega)).trans (r41 b p q)
  have r45 : ∀ b, 245 ≤ b → b < 249 → h48.2 b = h19.2 b := fun b p q => (f48 b (by omega)).trans (r45 b p q)
  have r50 : ∀ b, 250 ≤ b → b < 253 → h48.2 b = h24.2 b := fun b p q => (f48 b (by omega)).trans (r50 b p q)
  have r53 : ∀ b, 253 ≤ b → b < 256 → h48.2 b = h27.2 b := fun b p q => (f48 b (by omega)).trans (r53 b p q)
  have r56 : ∀ b, 256 ≤ b → b < 259 → h48.2 b = h30.2 b := fun b p q => (f48 b (by omega)).trans (r56 b p q)
  have r59 : ∀ b, 259 ≤ b → b < 1061 → h48.2 b = h33.2 b := fun b p q => (f48 b (by omega)).trans (r59 b p q)
  have r61 : ∀ b, 1061 ≤ b → b < 1863 → h48.2 b = h36.2 b := fun b p q => (f48 b (by omega)).trans (r61 b p q)
  have r65 : ∀ b, 1865 ≤ b → b < 1869 → h48.2 b = h45.2 b := fun b p q => (f48 b (by omega)).trans (r65 b p q)
  have hfr : ∀ b, (b < 233) → h48.2 b = h.2 b := fun b hb => (f48 b (by omega)).trans (hfr b hb)
  have hh := c48
  first | refine go_aload_n (i := 0) (pc' := 193) dX14_init_192 rfl rfl rfl ?_ | refine go_aloadX_n (i := 0) (pc' := 193) dX14_init_192 rfl rfl rfl ?_ | refine go_aload_nN (i := 0) (pc' := 193) dX14_init_192 rfl rfl rfl ?_
  refine go_newK (pc' := 196) dX14_init_193 rfl nw_LandBaseModel_31 hz (fun h49 z49 c49 f49 => ?_)
  have hz := z49
  have hh := (f49 _ (by omega)).trans hh
  have a34 := (f49 _ (by omega)).trans a34
  have a35 := (f49 _ (by omega)).trans a35
  have a36 := (f49 _ (by omega)).trans a36
  have a37 := (f49 _ (by omega)).trans a37
  have a38 := (f49 _ (by omega)).trans a38
  have a39 := (f49 _ (by omega)).trans a39
  have a40 := (f49 _ (by omega)).trans a40
  have a49 := (f49 _ (by omega)).trans a49
  have a63 := (f49 _ (by omega)).trans a63
  have a64 := (f49 _ (by omega)).trans a64
  have a69 := (f49 _ (by omega)).trans a69
  have r41 : ∀ b, 241 ≤ b → b < 245 → h49.2 b = h16.2 b := fun b p q => (f49 b (by omega)).trans (r41 b p q)
  have r45 : ∀ b, 245 ≤ b → b < 249 → h49.2 b = h19.2 b := fun b p q => (f49 b (by omega)).trans (r45 b p q)
  have r50 : ∀ b, 250 ≤ b → b < 253 → h49.2 b = h24.2 b := fun b p q => (f49 b (by omega)).trans (r50 b p q)
  have r53 : ∀ b, 253 ≤ b → b < 256 → h49.2 b = h27.2 b := fun b p q => (f49 b (by omega)).trans (r53 b p q)
  have r56 : ∀ b, 256 ≤ b → b < 259 → h49.2 b = h30.2 b := fun b p q => (f49 b (by omega)).trans (r56 b p q)
  have r59 : ∀ b, 259 ≤ b → b < 1061 → h49.2 b = h33.2 b := fun b p q => (f49 b (by omega)).trans (r59 b p q)
  have r61 : ∀ b, 1061 ≤ b → b < 1863 → h49.2 b = h36.2 b := fun b p q => (f49 b (by omega)).trans (r61 b p q)
  have r65 : ∀ b, 1865 ≤ b → b < 1869 → h49.2 b = h45.2 b := fun b p q => (f49 b (by omega)).trans (r65 b p q)
  have hfr : ∀ b, (b < 233) → h49.2 b = h.2 b := fun b hb => (f49 b (by omega)).trans (hfr b hb)
  have s70 := c49
  refine go_dup (pc' := 197) dX14_init_196 rfl rfl ?_
  refine go_invIN (As := []) (pc' := 200) dX14_init_197 rfl cf_X14_init_462 rfl rfl (Nat.le_of_ble_eq_true rfl) (c_MShape_init (hz:=hz) (ha:=rfl) (hh:=s70)) (fun v50 h50 q50 => ?_)
  obtain ⟨rfl, hz, s70, f50⟩ := q50
  have hh := (f50 _ (by omega)).trans hh
  have a34 := (f50 _ (by omega)).trans a34
  have a35 := (f50 _ (by omega)).trans a35
  have a36 := (f50 _ (by omega)).trans a36
  have a37 := (f50 _ (by omega)).trans a37
  have a38 := (f50 _ (by omega)).trans a38
  have a39 := (f50 _ (by omega)).trans a39
  have a40 := (f50 _ (by omega)).trans a40
  have a49 := (f50 _ (by omega)).trans a49
  have a63 := (f50 _ (by omega)).trans a63
  have a64 := (f50 _ (by omega)).trans a64
  have a69 := (f50 _ (by omega)).trans a69
  have r41 : ∀ b, 241 ≤ b → b < 245 → h50.2 b = h16.2 b := fun b p q => (f50 b (by omega)).trans (r41 b p q)
  have r45 : ∀ b, 245 ≤ b → b < 249 → h50.2 b = h19.2 b := fun b p q => (f50 b (by omega)).trans (r45 b p q)
  have r50 : ∀ b, 250 ≤ b → b < 253 → h50.2 b = h24.2 b := fun b p q => (f50 b (by omega)).trans (r50 b p q)
  have r53 : ∀ b, 253 ≤ b → b < 256 → h50.2 b = h27.2 b := fun b p q => (f50 b (by omega)).trans (r53 b p q)
  have r56 : ∀ b, 256 ≤ b → b < 259 → h50.2 b = h30.2 b := fun b p q => (f50 b (by omega)).trans (r56 b p q)
  have r59 : ∀ b, 259 ≤ b → b < 1061 → h50.2 b = h33.2 b := fun b p q => (f50 b (by omega)).trans (r59 b p q)
  have r61 : ∀ b, 1061 ≤ b → b < 1863 → h50.2 b = h36.2 b := fun b p q => (f50 b (by omega)).trans (r61 b p q)
  have r65 : ∀ b, 1865 ≤ b → b < 1869 → h50.2 b = h45.2 b := fun b p q => (f50 b (by omega)).trans (r65 b p q)
  have hfr : ∀ b, (b < 233) → h50.2 b = h.2 b := fun b hb => (f50 b (by omega)).trans (hfr b hb)
  have hz : h50.1 = (1874, 99911) := hz
  have r70 : ∀ b, 1870 ≤ b → b < 1874 → h50.2 b = h50.2 b := fun _ _ _ => rfl
  refine go_putfF (pc' := 203) dX14_init_200 rfl pf_LandBaseModel_474 (fun _ => rfl) hh (by decide) rfl rfl (fun h51 z51 c51 f51 => ?_)
  have hz := z51.trans hz
  have a34 := (f51 _ (by omega)).trans a34
  have a35 := (f51 _ (by omega)).trans a35
  have a36 := (f51 _ (by omega)).trans a36
  have a37 := (f51 _ (by omega)).trans a37
  have a38 := (f51 _ (by omega)).trans a38
  have a39 := (f51 _ (by omega)).trans a39
  have a40 := (f51 _ (by omega)).trans a40
  have a49 := (f51 _ (by omega)).trans a49
  have a63 := (f51 _ (by omega)).trans a63
  have a64 := (f51 _ (by omega)).trans a64
  have a69 := (f51 _ (by omega)).trans a69
  have r41 : ∀ b, 241 ≤ b → b < 245 → h51.2 b = h16.2 b := fun b p q => (f51 b (by omega)).trans (r41 b p q)
  have r45 : ∀ b, 245 ≤ b → b < 249 → h51.2 b = h19.2 b := fun b p q => (f51 b (by omega)).trans (r45 b p q)
  have r50 : ∀ b, 250 ≤ b → b < 253 → h51.2 b = h24.2 b := fun b p q => (f51 b (by omega)).trans (r50 b p q)
  have r53 : ∀ b, 253 ≤ b → b < 256 → h51.2 b = h27.2 b := fun b p q => (f51 b (by omega)).trans (r53 b p q)
  have r56 : ∀ b, 256 ≤ b → b < 259 → h51.2 b = h30.2 b := fun b p q => (f51 b (by omega)).trans (r56 b p q)
  have r59 : ∀ b, 259 ≤ b → b < 1061 → h51.2 b = h33.2 b := fun b p q => (f51 b (by omega)).trans (r59 b p q)
  have r61 : ∀ b, 1061 ≤ b → b < 1863 → h51.2 b = h36.2 b := fun b p q => (f51 b (by omega)).trans (r61 b p q)
  have r65 : ∀ b, 1865 ≤ b → b < 1869 → h51.2 b = h45.2 b := fun b p q => (f51 b (by omega)).trans (r65 b p q)
  have r70 : ∀ b, 1870 ≤ b → b < 1874 → h51.2 b = h50.2 b := fun b p q => (f51 b (by omega)).trans (r70 b p q)
  have hfr : ∀ b, (b < 233) → h51.2 b = h.2 b := fun b hb => (f51 b (by omega)).trans (hfr b hb)
  have hh := c51
  first | refine go_aload_n (i := 0) (pc' := 204) dX14_init_203 rfl rfl rfl ?_ | refine go_aloadX_n (i := 0) (pc' := 204) dX14_init_203 rfl rfl rfl ?_ | refine go_aload_nN (i := 0) (pc' := 204) dX14_init_203 rfl rfl rfl ?_
  refine go_sipush (v := 200) (pc' := 207) dX14_init_204 rfl (by decide) ?_
  refine go_anewarrayK (t := 7) (N := 200) (pc' := 210) dX14_init_207 rfl (by decide) rfl wd_1022 (by decide) (by decide) (by decide) hz (fun h52 z52 c52 f52 => ?_)
  have hz := z52
  have hh := (f52 _ (by omega)).trans hh
  have a34 := (f52 _ (by omega)).trans a34
  have a35 := (f52 _ (by omega)).trans a35
  have a36 := (f52 _ (by omega)).trans a36
  have a37 := (f52 _ (by omega)).trans a37
  have a38 := (f52 _ (by omega)).trans a38
  have a39 := (f52 _ (by omega)).trans a39
  have a40 := (f52 _ (by omega)).trans a40
  have a49 := (f52 _ (by omega)).trans a49
  have a63 := (f52 _ (by omega)).trans a63
  have a64 := (f52 _ (by omega)).trans a64
  have a69 := (f52 _ (by omega)).trans a69
  have r41 : ∀ b, 241 ≤ b → b < 245 → h52.2 b = h16.2 b := fun b p q => (f52 b (by omega)).trans (r41 b p q)
  have r45 : ∀ b, 245 ≤ b → b < 249 → h52.2 b = h19.2 b := fun b p q => (f52 b (by omega)).trans (r45 b p q)
  have r50 : ∀ b, 250 ≤ b → b < 253 → h52.2 b = h24.2 b := fun b p q => (f52 b (by omega)).trans (r50 b p q)
  have r53 : ∀ b, 253 ≤ b → b < 256 → h52.2 b = h27.2 b := fun b p q => (f52 b (by omega)).trans (r53 b p q)
  have r56 : ∀ b, 256 ≤ b → b < 259 → h52.2 b = h30.2 b := fun b p q => (f52 b (by omega)).trans (r56 b p q)
  have r59 : ∀ b, 259 ≤ b → b < 1061 → h52.2 b = h33.2 b := fun b p q => (f52 b (by omega)).trans (r59 b p q)
  have r61 : ∀ b, 1061 ≤ b → b < 1863 → h52.2 b = h36.2 b := fun b p q => (f52 b (by omega)).trans (r61 b p q)
  have r65 : ∀ b, 1865 ≤ b → b < 1869 → h52.2 b = h45.2 b := fun b p q => (f52 b (by omega)).trans (r65 b p q)
  have r70 : ∀ b, 1870 ≤ b → b < 1874 → h52.2 b = h50.2 b := fun b p q => (f52 b (by omega)).trans (r70 b p q)
  have hfr : ∀ b, (b < 233) → h52.2 b = h.2 b := fun b hb => (f52 b (by omega)).trans (hfr b hb)
  have a74 : h52.2 _ = some (.inl (7, 200, .inr (.inr (.inr (.inr (fun _ => none)))))) := c52
  refine go_putfF (pc' := 213) dX14_init_210 rfl pf_LandBaseModel_477 (fun _ => rfl) hh (by decide) rfl rfl (fun h53 z53 c53 f53 => ?_)
  have hz := z53.trans hz
  have a34 := (f53 _ (by omega)).trans a34
  have a35 := (f53 _ (by omega)).trans a35
  have a36 := (f53 _ (by omega)).trans a36
  have a37 := (f53 _ (by omega)).trans a37
  have a38 := (f53 _ (by omega)).trans a38
  have a39 := (f53 _ (by omega)).trans a39
  have a40 := (f53 _ (by omega)).trans a40
  have a49 := (f53 _ (by omega)).trans a49
  have a63 := (f53 _ (by omega)).trans a63
  have a64 := (f53 _ (by omega)).trans a64
  have a69 := (f53 _ (by omega)).trans a69
  have a74 := (f53 _ (by omega)).trans a74
  have r41 : ∀ b, 241 ≤ b → b < 245 → h53.2 b = h16.2 b := fun b p q => (f53 b (by omega)).trans (r41 b p q)
  have r45 : ∀ b, 245 ≤ b → b < 249 → h53.2 b = h19.2 b := fun b p q => (f53 b (by omega)).trans (r45 b p q)
  have r50 : ∀ b, 250 ≤ b → b < 253 → h53.2 b = h24.2 b := fun b p q => (f53 b (by omega)).trans (r50 b p q)
  have r53 : ∀ b, 253 ≤ b → b < 256 → h53.2 b = h27.2 b := fun b p q => (f53 b (by omega)).trans (r53 b p q)
  have r56 : ∀ b, 256 ≤ b → b < 259 → h53.2 b = h30.2 b := fun b p q => (f53 b (by omega)).trans (r56 b p q)
  have r59 : ∀ b, 259 ≤ b → b < 1061 → h53.2 b = h33.2 b := fun b p q => (f53 b (by omega)).trans (r59 b p q)
  have r61 : ∀ b, 1061 ≤ b → b < 1863 → h53.2 b = h36.2 b := fun b p q => (f53 b (by omega)).trans (r61 b p q)
  have r65 : ∀ b, 1865 ≤ b → b < 1869 → h53.2 b = h45.2 b := fun b p q => (f53 b (by omega)).trans (r65 b p q)
  have r70 : ∀ b, 1870 ≤ b → b < 1874 → h53.2 b = h50.2 b := fun b p q => (f53 b (by omega)).trans (r70 b p q)
  have hfr : ∀ b, (b < 233) → h53.2 b = h.2 b := fun b hb => (f53 b (by omega)).trans (hfr b hb)
  have hh := c53
  first | refine go_aload_n (i := 0) (pc' := 214) dX14_init_213 rfl rfl rfl ?_ | refine go_aloadX_n (i := 0) (pc' := 214) dX14_init_213 rfl rfl rfl ?_ | refine go_aload_nN (i := 0) (pc' := 214) dX14_init_213 rfl rfl rfl ?_
  refine go_sipush (v := 200) (pc' := 217) dX14_init_214 rfl (by decide) ?_
  refine go_newarrayK (t := 0) (N := 200) (pc' := 219) dX14_init_217 rfl rfl (by decide) wd_149 (by decide) (by decide) (by decide) hz (fun h54 z54 c54 f54 => ?_)
  have hz := z54
  have hh := (f54 _ (by omega)).trans hh
  have a34 := (f54 _ (by omega)).trans a34
  have a35 := (f54 _ (by omega)).trans a35
  have a36 := (f54 _ (by omega)).trans a36
  have a37 := (f54 _ (by omega)).trans a37
  have a38 := (f54 _ (by omega)).trans a38
  have a39 := (f54 _ (by omega)).trans a39
  have a40 := (f54 _ (by omega)).trans a40
  have a49 := (f54 _ (by omega)).trans a49
  have a63 := (f54 _ (by omega)).trans a63
  have a64 := (f54 _ (by omega)).trans a64
  have a69 := (f54 _ (by omega)).trans a69
  have a74 := (f54 _ (by omega)).trans a74
  have r41 : ∀ b, 241 ≤ b → b < 245 → h54.2 b = h16.2 b := fun b p q => (f54 b (by omega)).trans (r41 b p q)
  have r45 : ∀ b, 245 ≤ b → b < 249 → h54.2 b = h19.2 b := fun b p q => (f54 b (by omega)).trans (r45 b p q)
  have r50 : ∀ b, 250 ≤ b → b < 253 → h54.2 b = h24.2 b := fun b p q => (f54 b (by omega)).trans (r50 b p q)
  have r53 : ∀ b, 253 ≤ b → b < 256 → h54.2 b = h27.2 b := fun b p q => (f54 b (by omega)).trans (r53 b p q)
  have r56 : ∀ b, 256 ≤ b → b < 259 → h54.2 b = h30.2 b := fun b p q => (f54 b (by omega)).trans (r56 b p q)
  have r59 : ∀ b, 259 ≤ b → b < 1061 → h54.2 b = h33.2 b := fun b p q => (f54 b (by omega)).trans (r59 b p q)
  have r61 : ∀ b, 1061 ≤ b → b < 1863 → h54.2 b = h36.2 b := fun b p q => (f54 b (by omega)).trans (r61 b p q)
  have r65 : ∀ b, 1865 ≤ b → b < 1869 → h54.2 b = h45.2 b := fun b p q => (f54 b (by omega)).trans (r65 b p q)
  have r70 : ∀ b, 1870 ≤ b → b < 1874 → h54.2 b = h50.2 b := fun b p q => (f54 b (by omega)).trans (r70 b p q)
  have hfr : ∀ b, (b < 233) → h54.2 b = h.2 b := fun b hb => (f54 b (by omega)).trans (hfr b hb)
  have a75 : h54.2 _ = some (.inl (0, 200, .inl (fun _ => 0))) := c54
  refine go_putfF (pc' := 222) dX14_init_219 rfl pf_LandBaseModel_481 (fun _ => rfl) hh (by decide) rfl rfl (fun h55 z55 c55 f55 => ?_)
  have hz := z55.trans hz
  have a34 := (f55 _ (by omega)).trans a34
  have a35 := (f55 _ (by omega)).trans a35
  have a36 := (f55 _ (by omega)).trans a36
  have a37 := (f55 _ (by omega)).trans a37
  have a38 := (f55 _ (by omega)).trans a38
  have a39 := (f55 _ (by omega)).trans a39
  have a40 := (f55 _ (by omega)).trans a40
  have a49 := (f55 _ (by omega)).trans a49
  have a63 := (f55 _ (by omega)).trans a63
  have a64 := (f55 _ (by omega)).trans a64
  have a69 := (f55 _ (by omega)).trans a69
  have a74 := (f55 _ (by omega)).trans a74
  have a75 := (f55 _ (by omega)).trans a75
  have r41 : ∀ b, 241 ≤ b → b < 245 → h55.2 b = h16.2 b := fun b p q => (f55 b (by omega)).trans (r41 b p q)
  have r45 : ∀ b, 245 ≤ b → b < 249 → h55.2 b = h19.2 b := fun b p q => (f55 b (by omega)).trans (r45 b p q)
  have r50 : ∀ b, 250 ≤ b → b < 253 → h55.2 b = h24.2 b := fun b p q => (f55 b (by omega)).trans (r50 b p q)
  have r53 : ∀ b, 253 ≤ b → b < 256 → h55.2 b = h27.2 b := fun b p q => (f55 b (by omega)).trans (r53 b p q)
  have r56 : ∀ b, 256 ≤ b → b < 259 → h55.2 b = h30.2 b := fun b p q => (f55 b (by omega)).trans (r56 b p q)
  have r59 : ∀ b, 259 ≤ b → b < 1061 → h55.2 b = h33.2 b := fun b p q => (f55 b (by omega)).trans (r59 b p q)
  have r61 : ∀ b, 1061 ≤ b → b < 1863 → h55.2 b = h36.2 b := fun b p q => (f55 b (by omega)).trans (r61 b p q)
  have r65 : ∀ b, 1865 ≤ b → b < 1869 → h55.2 b = h45.2 b := fun b p q => (f55 b (by omega)).trans (r65 b p q)
  have r70 : ∀ b, 1870 ≤ b → b < 1874 → h55.2 b = h50.2 b := fun b p q => (f55 b (by omega)).trans (r70 b p q)
  have hfr : ∀ b, (b < 233) → h55.2 b = h.2 b := fun b hb => (f55 b (by omega)).trans (hfr b hb)
  have hh := c55
  refine go_iconst (v := 0) (pc' := 223) dX14_init_222 rfl (by decide) ?_
  refine go_istore_n (i := 1) (pc' := 224) dX14_init_223 rfl rfl (by decide) rfl ?_
  have hz : h55.1 = (1876, 100311) := hz
  refine g_Model_init rfl 200 0 _ _ rfl hz hh a74 (fun j hj => absurd hj (by omega)) (fun h' f' e1 e2 e3 e4 e5 => ?_)
  refine Go.ret (v := none) dX14_init_250 rfl ⟨trivial, rfl, e1, ⟨⟨_, e2, ⟨rfl, rfl, rfl, rfl, rfl, rfl, rfl, rfl, rfl, rfl, rfl, rfl, rfl, rfl, rfl, rfl, rfl, rfl, rfl, rfl, rfl, rfl⟩, ⟨rfl, rfl, rfl, rfl, rfl, rfl, rfl, rfl, rfl, rfl, rfl, rfl, rfl, rfl, rfl⟩⟩, ⟨(e5 _ (by omega)).trans a34, (e5 _ (by omega)).trans a35, (e5 _ (by omega)).trans a36, (e5 _ (by omega)).trans a37, (e5 _ (by omega)).trans a38, (e5 _ (by omega)).trans a39, (e5 _ (by omega)).trans a40⟩,
    ⟨s41.kept (fun b p q => (e5 b (by omega)).trans (r41 b (by omega) (by omega))), s45.kept (fun b p q => (e5 b (by omega)).trans (r45 b (by omega) (by omega))), (e5 _ (by omega)).trans a49, s50.kept (fun b p q => (e5 b (by omega)).trans (r50 b (by omega) (by omega))), s53.kept (fun b p q => (e5 b (by omega)).trans (r53 b (by omega) (by omega))), s56.kept (fun b p q => (e5 b (by omega)).trans (r56 b (by omega) (by omega))), s59.kept (fun b p q => (e5 b (by omega)).trans (r59 b (by omega) (by omega))), s61.kept (fun b p q => (e5 b (by omega)).trans (r61 b (by omega) (by omega)))⟩,
    ⟨(e5 _ (by omega)).trans a63, (e5 _ (by omega)).trans a64, s65.kept (fun b p q => (e5 b (by omega)).trans (r65 b (by omega) (by omega))), (e5 _ (by omega)).trans a69, s70.kept (fun b p q => (e5 b (by omega)).trans (r70 b (by omega) (by omega))), (e5 _ (by omega)).trans a75⟩, ⟨f', e3, e4⟩⟩, fun b hb => (e5 b (by omega)).trans (hfr b hb)⟩

/-! LandBaseModel() -/
def mF0 (k : Nat) : Value := if k ∈ [0, 1, 2, 3, 14, 15, 23, 24, 25, 26, 27, 28, 29, 30, 31, 39, 43, 49, 52, 53, 54, 55] then .null else if k ∈ [10, 11, 12, 20, 21] then .long 0 else .int 0
/-- the references of the reference's object never change -/
def MC (F : Nat → Value) : Prop := F 0 = .ref 234 ∧ F 1 = .ref 235 ∧ F 2 = .ref 236 ∧ F 3 = .ref 237 ∧ F 14 = .ref 238 ∧ F 15 = .ref 239 ∧ F 23 = .ref 240 ∧ F 24 = .ref 241 ∧ F 25 = .ref 245 ∧ F 26 = .ref 249 ∧ F 27 = .ref 250 ∧ F 28 = .ref 253 ∧ F 29 = .ref 256 ∧ F 30 = .ref 259 ∧ F 31 = .ref 1061 ∧ F 39 = .ref 1863 ∧ F 43 = .ref 1864 ∧ F 49 = .ref 1865 ∧ F 52 = .ref 1869 ∧ F 53 = .ref 1870 ∧ F 54 = .ref 1874 ∧ F 55 = .ref 1875
/-- its numbers at the start -/
def MF0 (F : Nat → Value) : Prop := F 32 = .int 0 ∧ F 33 = .int 0 ∧ F 34 = .int 0 ∧ F 35 = .int 0 ∧ F 36 = .int 0 ∧ F 37 = .int (-1) ∧ F 38 = .int 0 ∧ F 40 = .int 0 ∧ F 41 = .int 0 ∧ F 42 = .int (-1) ∧ F 44 = .int 0 ∧ F 45 = .int 0 ∧ F 46 = .int 0 ∧ F 47 = .int 0 ∧ F 48 = .int 0 ∧ F 4 = .int 0 ∧ F 5 = .int 0 ∧ F 6 = .int 0 ∧ F 7 = .int 0 ∧ F 8 = .int 0 ∧ F 9 = .int 0 ∧ F 13 = .int 0 ∧ F 16 = .int 0 ∧ F 17 = .int 0 ∧ F 18 = .int 0 ∧ F 19 = .int 0 ∧ F 22 = .int 0 ∧ F 50 = .int 0 ∧ F 51 = .int 0 ∧ F 56 = .int 0 ∧ F 57 = .int 0 ∧ F 10 = .long 0 ∧ F 11 = .long 0 ∧ F 12 = .long 0 ∧ F 20 = .long 0 ∧ F 21 = .long 0
/-- what LandBaseModel() leaves, at 233 .. 2475 -/
def MIn (h : xH) : Prop :=
  (∃ F, h.2 233 = some (.inr (13, mkF F 58)) ∧ MC F ∧ MF0 F) ∧
  (h.2 234 = some (.inl (2, 8, .inr (.inl (fun _ => 0)))) ∧ h.2 235 = some (.inl (2, 8, .inr (.inl (fun _ => 0)))) ∧ h.2 236 = some (.inl (2, 8, .inr (.inl (fun _ => 0)))) ∧ h.2 237 = some (.inl (2, 8, .inr (.inl (fun _ => 0)))) ∧ h.2 238 = some (.inl (2, 82, .inr (.inl (fun _ => 0)))) ∧ h.2 239 = some (.inl (2, 82, .inr (.inl (fun _ => 0)))) ∧ h.2 240 = some (.inl (3, 8, .inl (fun _ => 0)))) ∧
  (MSh0 h 241 ∧ MSh0 h 245 ∧ h.2 249 = some (.inl (0, 8, .inl (fun _ => 0))) ∧ MDi0 h 250 ∧ MDi0 h 253 ∧ MDi0 h 256 ∧ MSt0 h 259 ∧ MSt0 h 1061) ∧
  (h.2 1863 = some (.inl (0, 4000, .inl (fun _ => 0))) ∧ h.2 1864 = some (.inl (0, 30000, .inl (fun _ => 0))) ∧ MSh0 h 1865 ∧ h.2 1869 = some (.inl (0, 8, .inl (fun _ => 0))) ∧ MSh0 h 1870 ∧ h.2 1875 = some (.inl (0, 200, .inl (fun _ => 0)))) ∧
  (∃ f : Nat → Option Nat, h.2 1874 = some (.inl (7, 200, .inr (.inr (.inr (.inr f))))) ∧ (∀ i, i < 200 → f i = some (1876 + 3 * i) ∧ MDi0 h (1876 + 3 * i)))
set_option maxRecDepth 100000 in
theorem g_Model_init {G : xG} {P : Option Value → xH → Prop} {F : Nat → Value} (hF : F 54 = .ref 1874) :
    ∀ (m i : Nat) (h : xH) (f : Nat → Option Nat), i + m = 200 → h.1 = (1876 + 3 * i, 100311 + 18 * i) → h.2 233 = some (.inr (13, mkF F 58)) → h.2 1874 = some (.inl (7, 200, .inr (.inr (.inr (.inr f))))) → (∀ j, j < i → f j = some (1876 + 3 * j) ∧ MDi0 h (1876 + 3 * j)) →
    (∀ (h' : xH) (f' : Nat → Option Nat), h'.1 = (2476, 103911) → h'.2 233 = some (.inr (13, mkF F 58)) → h'.2 1874 = some (.inl (7, 200, .inr (.inr (.inr (.inr f'))))) → (∀ j, j < 200 → f' j = some (1876 + 3 * j) ∧ MDi0 h' (1876 + 3 * j)) → (∀ b, (b < 1876 ∧ b ≠ 233 ∧ b ≠ 1874) → h'.2 b = h.2 b) → Go G mX14_init 250 [some (.ref 233), some (.int 200)] [] h' P) →
    Go G mX14_init 224 [some (.ref 233), some (.int (nI i))] [] h P := by
  intro m
  induction m with
  | zero =>
    intro i h f him hz h0 h30 hj k
    have hi : i = 200 := by omega
    subst hi
    refine go_iload_n (i := 1) (pc' := 225) dX14_init_224 rfl rfl rfl ?_
    refine go_sipush (v := 200) (pc' := 228) dX14_init_225 rfl (by decide) ?_
    refine go_icmp_ge (pc' := 231) (tgt := 250) dX14_init_228 (by decide) rfl (fun c1 => ?_) (fun c1 => ?_)
    · exact k h f hz h0 h30 hj (fun _ _ => rfl)
    · exact absurd (by decide) c1
  | succ m ih =>
    intro i h f him hz h0 h30 hj k
    have hin : vp_in (nI i) 200 := vp_in_nI (by omega) (by omega)
    have hc : (nI i).toNatClampNeg = i := nI_clamp (by omega)
    refine go_iload_n (i := 1) (pc' := 225) dX14_init_224 rfl rfl rfl ?_
    refine go_sipush (v := 200) (pc' := 228) dX14_init_225 rfl (by decide) ?_
    refine go_icmp_ge (pc' := 231) (tgt := 250) dX14_init_228 (by decide) rfl (fun c1 => ?_) (fun c1 => ?_)
    · exact absurd c1 (nI_ge (a := i) (b := 200) (by omega) (by omega))
    · first | refine go_aload_n (i := 0) (pc' := 232) dX14_init_231 rfl rfl rfl ?_ | refine go_aloadX_n (i := 0) (pc' := 232) dX14_init_231 rfl rfl rfl ?_ | refine go_aload_nN (i := 0) (pc' := 232) dX14_init_231 rfl rfl rfl ?_
      refine go_getfF (pc' := 235) dX14_init_232 rfl gf_LandBaseModel_477 h0 (by decide) hF ?_
      refine go_iload_n (i := 1) (pc' := 236) dX14_init_235 rfl rfl rfl ?_
      refine go_newK (pc' := 239) dX14_init_236 rfl nw_LandBaseModel_289 hz (fun hp1 zp1 cp1 fp1 => ?_)
      have hz := zp1
      have h0 := (fp1 _ (by omega)).trans h0
      have h30 := (fp1 _ (by omega)).trans h30
      have hD := cp1
      refine go_dup (pc' := 240) dX14_init_239 rfl rfl ?_
      refine go_invIN (As := []) (pc' := 243) dX14_init_240 rfl cf_X14_init_463 rfl rfl (Nat.le_of_ble_eq_true rfl) (c_MDist_init (hz:=hz) (ha:=rfl) (hh:=hD)) (fun vp2 hp2 qp2 => ?_)
      obtain ⟨rfl, hz, hD, fp2⟩ := qp2
      have h0 := (fp2 _ (by omega)).trans h0
      have h30 := (fp2 _ (by omega)).trans h30
      refine go_aastoreK (pc' := 244) dX14_init_243 rfl (by decide) rfl rfl h30 hD.1 hin (fun hp3 zp3 cp3 fp3 => ?_)
      have hz := zp3.trans hz
      have h0 := (fp3 _ (by omega)).trans h0
      have h30 := cp3
      refine go_iincC (kk := 1) (pc' := 247) dX14_init_244 rfl rfl (by decide) (by decide) rfl ?_
      refine go_goto (pc' := 0) (tgt := 224) dX14_init_247 (by decide) ?_
      rw [hc] at h30
      rw [nI_1]
      refine ih (i + 1) _ _ (by omega) (by rw [hz]; congr 1) h0 h30 (fun j hj2 => ?_) (fun h' f' e1 e2 e3 e4 e5 => k h' f' e1 e2 e3 e4 (fun b p => (e5 b p).trans ?_))
      · by_cases e : j = i
        · subst e
          exact ⟨by simp [va_up], hD.kept (fun b p q => fp3 b (by omega))⟩
        · refine ⟨by simp [va_up, e, (hj j (by omega)).1], (hj j (by omega)).2.kept (fun b p q => ?_)⟩
          rw [fp3 _ (by omega), fp2 _ (by omega), fp1 _ (by omega)]
      · rw [fp3 _ (by omega), fp2 _ (by omega), fp1 _ (by omega)]
set_option maxRecDepth 100000 in
set_option maxHeartbeats 4000000 in
theorem c_Model_init {G : xG} {h : xH} (hz : h.1 = (234, 26853)) (hh : h.2 233 = some (.inr (13, mkF mF0 58))) : Ca G mX14_init [.ref 233] h (fun v h' => v = none ∧ h'.1 = (2476, 103911) ∧ MIn h' ∧ ∀ b, b < 233 → h'.2 b = h.2 b) := by
  refine Ca.of rfl (Nat.le_of_ble_eq_true rfl) ?_
  have hfr : ∀ b, (b < 233) → h.2 b = h.2 b := fun _ _ => rfl
  first | refine go_aload_n (i := 0) (pc' := 1) dX14_init_0 rfl rfl rfl ?_ | refine go_aloadX_n (i := 0) (pc' := 1) dX14_init_0 rfl rfl rfl ?_ | refine go_aload_nN (i := 0) (pc' := 1) dX14_init_0 rfl rfl rfl ?_
  refine go_objInit (pc' := 4) dX14_init_1 rfl wd_981 wd_27 wd_28 (by decide) (Nat.le_of_ble_eq_true rfl) ?_
  first | refine go_aload_n (i := 0) (pc' := 5) dX14_init_4 rfl rfl rfl ?_ | refine go_aloadX_n (i := 0) (pc' := 5) dX14_init_4 rfl rfl rfl ?_ | refine go_aload_nN (i := 0) (pc' := 5) dX14_init_4 rfl rfl rfl ?_
  refine go_bipush (v := 8) (pc' := 7) dX14_init_5 rfl (by decide) ?_
  refine go_newarrayK (t := 2) (N := 8) (pc' := 9) dX14_init_7 rfl rfl (by decide) wd_298 (by decide) (by decide) (by decide) hz (fun hp1 zp1 cp1 fp1 => ?_)
  have hz := zp1
  have hh := (fp1 _ (by omega)).trans hh
  have hfr : ∀ b, (b < 233) → hp1.2 b = h.2 b := fun b hb => (fp1 b (by omega)).trans (hfr b hb)
  have a34 : hp1.2 _ = some (.inl (2, 8, .inr (.inl (fun _ => 0)))) := cp1
  refine go_putfF (pc' := 12) dX14_init_9 rfl pf_LandBaseModel_5 (fun _ => rfl) hh (by decide) rfl rfl (fun hp2 zp2 cp2 fp2 => ?_)
  have hz := zp2.trans hz
  have a34 := (fp2 _ (by omega)).trans a34
  have hfr : ∀ b, (b < 233) → hp2.2 b = h.2 b := fun b hb => (fp2 b (by omega)).trans (hfr b hb)
  have hh := cp2
  first | refine go_aload_n (i := 0) (pc' := 13) dX14_init_12 rfl rfl rfl ?_ | refine go_aloadX_n (i := 0) (pc' := 13) dX14_init_12 rfl rfl rfl ?_ | refine go_aload_nN (i := 0) (pc' := 13) dX14_init_12 rfl rfl rfl ?_
  refine go_bipush (v := 8) (pc' := 15) dX14_init_13 rfl (by decide) ?_
  refine go_newarrayK (t := 2) (N := 8) (pc' := 17) dX14_init_15 rfl rfl (by decide) wd_298 (by decide) (by decide) (by decide) hz (fun hp3 zp3 cp3 fp3 => ?_)
  have hz := zp3
  have hh := (fp3 _ (by omega)).trans hh
  have a34 := (fp3 _ (by omega)).trans a34
  have hfr : ∀ b, (b < 233) → hp3.2 b = h.2 b := fun b hb => (fp3 b (by omega)).trans (hfr b hb)
  have a35 : hp3.2 _ = some (.inl (2, 8, .inr (.inl (fun _ => 0)))) := cp3
  refine go_putfF (pc' := 20) dX14_init_17 rfl pf_LandBaseModel_13 (fun _ => rfl) hh (by decide) rfl rfl (fun hp4 zp4 cp4 fp4 => ?_)
  have hz := zp4.trans hz
  have a34 := (fp4 _ (by omega)).trans a34
  have a35 := (fp4 _ (by omega)).trans a35
  have hfr : ∀ b, (b < 233) → hp4.2 b = h.2 b := fun b hb => (fp4 b (by omega)).trans (hfr b hb)
  have hh := cp4
  first | refine go_aload_n (i := 0) (pc' := 21) dX14_init_20 rfl rfl rfl ?_ | refine go_aloadX_n (i := 0) (pc' := 21) dX14_init_20 rfl rfl rfl ?_ | refine go_aload_nN (i := 0) (pc' := 21) dX14_init_20 rfl rfl rfl ?_
  refine go_bipush (v := 8) (pc' := 23) dX14_init_21 rfl (by decide) ?_
  refine go_newarrayK (t := 2) (N := 8) (pc' := 25) dX14_init_23 rfl rfl (by decide) wd_298 (by decide) (by decide) (by decide) hz (fun hp5 zp5 cp5 fp5 => ?_)
  have hz := zp5
  have hh := (fp5 _ (by omega)).trans hh
  have a34 := (fp5 _ (by omega)).trans a34
  have a35 := (fp5 _ (by omega)).trans a35
  have hfr : ∀ b, (b < 233) → hp5.2 b = h.2 b := fun b hb => (fp5 b (by omega)).trans (hfr b hb)
  have a36 : hp5.2 _ = some (.inl (2, 8, .inr (.inl (fun _ => 0)))) := cp5
  refine go_putfF (pc' := 28) dX14_init_25 rfl pf_LandBaseModel_16 (fun _ => rfl) hh (by decide) rfl rfl (fun hp6 zp6 cp6 fp6 => ?_)
  have hz := zp6.trans hz
  have a34 := (fp6 _ (by omega)).trans a34
  have a35 := (fp6 _ (by omega)).trans a35
  have a36 := (fp6 _ (by omega)).trans a36
  have hfr : ∀ b, (b < 233) → hp6.2 b = h.2 b := fun b hb => (fp6 b (by omega)).trans (hfr b hb)
  have hh := cp6
  first | refine go_aload_n (i := 0) (pc' := 29) dX14_init_28 rfl rfl rfl ?_ | refine go_aloadX_n (i := 0) (pc' := 29) dX14_init_28 rfl rfl rfl ?_ | refine go_aload_nN (i := 0) (pc' := 29) dX14_init_28 rfl rfl rfl ?_
  refine go_bipush (v := 8) (pc' := 31) dX14_init_29 rfl (by decide) ?_
  refine go_newarrayK (t := 2) (N := 8) (pc' := 33) dX14_init_31 rfl rfl (by decide) wd_298 (by decide) (by decide) (by decide) hz (fun hp7 zp7 cp7 fp7 => ?_)
  have hz := zp7
  have hh := (fp7 _ (by omega)).trans hh
  have a34 := (fp7 _ (by omega)).trans a34
  have a35 := (fp7 _ (by omega)).trans a35
  have a36 := (fp7 _ (by omega)).trans a36
  have hfr : ∀ b, (b < 233) → hp7.2 b = h.2 b := fun b hb => (fp7 b (by omega)).trans (hfr b hb)
  have a37 : hp7.2 _ = some (.inl (2, 8, .inr (.inl (fun _ => 0)))) := cp7
  refine go_putfF (pc' := 36) dX14_init_33 rfl pf_LandBaseModel_23 (fun _ => rfl) hh (by decide) rfl rfl (fun hp8 zp8 cp8 fp8 => ?_)
  have hz := zp8.trans hz
  have a34 := (fp8 _ (by omega)).trans a34
  have a35 := (fp8 _ (by omega)).trans a35
  have a36 := (fp8 _ (by omega)).trans a36
  have a37 := (fp8 _ (by omega)).trans a37
  have hfr : ∀ b, (b < 233) → hp8.2 b = h.2 b := fun b hb => (fp8 b (by omega)).trans (hfr b hb)
  have hh := cp8
  have hz : hp8.1 = (238, 26885) := hz
  first | refine go_aload_n (i := 0) (pc' := 37) dX14_init_36 rfl rfl rfl ?_ | refine go_aloadX_n (i := 0) (pc' := 37) dX14_init_36 rfl rfl rfl ?_ | refine go_aload_nN (i := 0) (pc' := 37) dX14_init_36 rfl rfl rfl ?_
  refine go_bipush (v := 82) (pc' := 39) dX14_init_37 rfl (by decide) ?_
  refine go_newarrayK (t := 2) (N := 82) (pc' := 41) dX14_init_39 rfl rfl (by decide) wd_298 (by decide) (by decide) (by decide) hz (fun hp9 zp9 cp9 fp9 => ?_)
  have hz := zp9
  have hh := (fp9 _ (by omega)).trans hh
  have a34 := (fp9 _ (by omega)).trans a34
  have a35 := (fp9 _ (by omega)).trans a35
  have a36 := (fp9 _ (by omega)).trans a36
  have a37 := (fp9 _ (by omega)).trans a37
  have hfr : ∀ b, (b < 233) → hp9.2 b = h.2 b := fun b hb => (fp9 b (by omega)).trans (hfr b hb)
  have a38 : hp9.2 _ = some (.inl (2, 82, .inr (.inl (fun _ => 0)))) := cp9
  refine go_putfF (pc' := 44) dX14_init_41 rfl pf_LandBaseModel_111 (fun _ => rfl) hh (by decide) rfl rfl (fun hp10 zp10 cp10 fp10 => ?_)
  have hz := zp10.trans hz
  have a34 := (fp10 _ (by omega)).trans a34
  have a35 := (fp10 _ (by omega)).trans a35
  have a36 := (fp10 _ (by omega)).trans a36
  have a37 := (fp10 _ (by omega)).trans a37
  have a38 := (fp10 _ (by omega)).trans a38
  have hfr : ∀ b, (b < 233) → hp10.2 b = h.2 b := fun b hb => (fp10 b (by omega)).trans (hfr b hb)
  have hh := cp10
  first | refine go_aload_n (i := 0) (pc' := 45) dX14_init_44 rfl rfl rfl ?_ | refine go_aloadX_n (i := 0) (pc' := 45) dX14_init_44 rfl rfl rfl ?_ | refine go_aload_nN (i := 0) (pc' := 45) dX14_init_44 rfl rfl rfl ?_
  refine go_bipush (v := 82) (pc' := 47) dX14_init_45 rfl (by decide) ?_
  refine go_newarrayK (t := 2) (N := 82) (pc' := 49) dX14_init_47 rfl rfl (by decide) wd_298 (by decide) (by decide) (by decide) hz (fun hp11 zp11 cp11 fp11 => ?_)
  have hz := zp11
  have hh := (fp11 _ (by omega)).trans hh
  have a34 := (fp11 _ (by omega)).trans a34
  have a35 := (fp11 _ (by omega)).trans a35
  have a36 := (fp11 _ (by omega)).trans a36
  have a37 := (fp11 _ (by omega)).trans a37
  have a38 := (fp11 _ (by omega)).trans a38
  have hfr : ∀ b, (b < 233) → hp11.2 b = h.2 b := fun b hb => (fp11 b (by omega)).trans (hfr b hb)
  have a39 : hp11.2 _ = some (.inl (2, 82, .inr (.inl (fun _ => 0)))) := cp11
  refine go_putfF (pc' := 52) dX14_init_49 rfl pf_LandBaseModel_117 (fun _ => rfl) hh (by decide) rfl rfl (fun hp12 zp12 cp12 fp12 => ?_)
  have hz := zp12.trans hz
  have a34 := (fp12 _ (by omega)).trans a34
  have a35 := (fp12 _ (by omega)).trans a35
  have a36 := (fp12 _ (by omega)).trans a36
  have a37 := (fp12 _ (by omega)).trans a37
  have a38 := (fp12 _ (by omega)).trans a38
  have a39 := (fp12 _ (by omega)).trans a39
  have hfr : ∀ b, (b < 233) → hp12.2 b = h.2 b := fun b hb => (fp12 b (by omega)).trans (hfr b hb)
  have hh := cp12
  first | refine go_aload_n (i := 0) (pc' := 53) dX14_init_52 rfl rfl rfl ?_ | refine go_aloadX_n (i := 0) (pc' := 53) dX14_init_52 rfl rfl rfl ?_ | refine go_aload_nN (i := 0) (pc' := 53) dX14_init_52 rfl rfl rfl ?_
  refine go_bipush (v := 8) (pc' := 55) dX14_init_53 rfl (by decide) ?_
  refine go_newarrayK (t := 3) (N := 8) (pc' := 57) dX14_init_55 rfl rfl (by decide) wd_149 (by decide) (by decide) (by decide) hz (fun hp13 zp13 cp13 fp13 => ?_)
  have hz := zp13
  have hh := (fp13 _ (by omega)).trans hh
  have a34 := (fp13 _ (by omega)).trans a34
  have a35 := (fp13 _ (by omega)).trans a35
  have a36 := (fp13 _ (by omega)).trans a36
  have a37 := (fp13 _ (by omega)).trans a37
  have a38 := (fp13 _ (by omega)).trans a38
  have a39 := (fp13 _ (by omega)).trans a39
  have hfr : ∀ b, (b < 233) → hp13.2 b = h.2 b := fun b hb => (fp13 b (by omega)).trans (hfr b hb)
  have a40 : hp13.2 _ = some (.inl (3, 8, .inl (fun _ => 0))) := cp13
  refine go_putfF (pc' := 60) dX14_init_57 rfl pf_LandBaseModel_156 (fun _ => rfl) hh (by decide) rfl rfl (fun hp14 zp14 cp14 fp14 => ?_)
  have hz := zp14.trans hz
  have a34 := (fp14 _ (by omega)).trans a34
  have a35 := (fp14 _ (by omega)).trans a35
  have a36 := (fp14 _ (by omega)).trans a36
  have a37 := (fp14 _ (by omega)).trans a37
  have a38 := (fp14 _ (by omega)).trans a38
  have a39 := (fp14 _ (by omega)).trans a39
  have a40 := (fp14 _ (by omega)).trans a40
  have hfr : ∀ b, (b < 233) → hp14.2 b = h.2 b := fun b hb => (fp14 b (by omega)).trans (hfr b hb)
  have hh := cp14
  first | refine go_aload_n (i := 0) (pc' := 61) dX14_init_60 rfl rfl rfl ?_ | refine go_aloadX_n (i := 0) (pc' := 61) dX14_init_60 rfl rfl rfl ?_ | refine go_aload_nN (i := 0) (pc' := 61) dX14_init_60 rfl rfl rfl ?_
  refine go_newK (pc' := 64) dX14_init_61 rfl nw_LandBaseModel_31 hz (fun hp15 zp15 cp15 fp15 => ?_)
  have hz := zp15
  have hh := (fp15 _ (by omega)).trans hh
  have a34 := (fp15 _ (by omega)).trans a34
  have a35 := (fp15 _ (by omega)).trans a35
  have a36 := (fp15 _ (by omega)).trans a36
  have a37 := (fp15 _ (by omega)).trans a37
  have a38 := (fp15 _ (by omega)).trans a38
  have a39 := (fp15 _ (by omega)).trans a39
  have a40 := (fp15 _ (by omega)).trans a40
  have hfr : ∀ b, (b < 233) → hp15.2 b = h.2 b := fun b hb => (fp15 b (by omega)).trans (hfr b hb)
  have s41 := cp15
  refine go_dup (pc' := 65) dX14_init_64 rfl rfl ?_
  have hz : hp15.1 = (242, 27064) := hz
  refine go_invIN (As := []) (pc' := 68) dX14_init_65 rfl cf_X14_init_462 rfl rfl (Nat.le_of_ble_eq_true rfl) (c_MShape_init (hz:=hz) (ha:=rfl) (hh:=s41)) (fun vp16 hp16 qp16 => ?_)
  obtain ⟨rfl, hz, s41, fp16⟩ := qp16
  have hh := (fp16 _ (by omega)).trans hh
  have a34 := (fp16 _ (by omega)).trans a34
  have a35 := (fp16 _ (by omega)).trans a35
  have a36 := (fp16 _ (by omega)).trans a36
  have a37 := (fp16 _ (by omega)).trans a37
  have a38 := (fp16 _ (by omega)).trans a38
  have a39 := (fp16 _ (by omega)).trans a39
  have a40 := (fp16 _ (by omega)).trans a40
  have hfr : ∀ b, (b < 233) → hp16.2 b = h.2 b := fun b hb => (fp16 b (by omega)).trans (hfr b hb)
  have hz : hp16.1 = (245, 27152) := hz
  have r41 : ∀ b, 241 ≤ b → b < 245 → hp16.2 b = hp16.2 b := fun _ _ _ => rfl
  refine go_putfF (pc' := 71) dX14_init_68 rfl pf_LandBaseModel_254 (fun _ => rfl) hh (by decide) rfl rfl (fun hp17 zp17 cp17 fp17 => ?_)
  have hz := zp17.trans hz
  have a34 := (fp17 _ (by omega)).trans a34
  have a35 := (fp17 _ (by omega)).trans a35
  have a36 := (fp17 _ (by omega)).trans a36
  have a37 := (fp17 _ (by omega)).trans a37
  have a38 := (fp17 _ (by omega)).trans a38
  have a39 := (fp17 _ (by omega)).trans a39
  have a40 := (fp17 _ (by omega)).trans a40
  have r41 : ∀ b, 241 ≤ b → b < 245 → hp17.2 b = hp16.2 b := fun b p q => (fp17 b (by omega)).trans (r41 b p q)
  have hfr : ∀ b, (b < 233) → hp17.2 b = h.2 b := fun b hb => (fp17 b (by omega)).trans (hfr b hb)
  have hh := cp17
  first | refine go_aload_n (i := 0) (pc' := 72) dX14_init_71 rfl rfl rfl ?_ | refine go_aloadX_n (i := 0) (pc' := 72) dX14_init_71 rfl rfl rfl ?_ | refine go_aload_nN (i := 0) (pc' := 72) dX14_init_71 rfl rfl rfl ?_
  refine go_newK (pc' := 75) dX14_init_72 rfl nw_LandBaseModel_31 hz (fun hp18 zp18 cp18 fp18 => ?_)
  have hz := zp18
  have hh := (fp18 _ (by omega)).trans hh
  have a34 := (fp18 _ (by omega)).trans a34
  have a35 := (fp18 _ (by omega)).trans a35
  have a36 := (fp18 _ (by omega)).trans a36
  have a37 := (fp18 _ (by omega)).trans a37
  have a38 := (fp18 _ (by omega)).trans a38
  have a39 := (fp18 _ (by omega)).trans a39
  have a40 := (fp18 _ (by omega)).trans a40
  have r41 : ∀ b, 241 ≤ b → b < 245 → hp18.2 b = hp16.2 b := fun b p q => (fp18 b (by omega)).trans (r41 b p q)
  have hfr : ∀ b, (b < 233) → hp18.2 b = h.2 b := fun b hb => (fp18 b (by omega)).trans (hfr b hb)
  have s45 := cp18
  refine go_dup (pc' := 76) dX14_init_75 rfl rfl ?_
  refine go_invIN (As := []) (pc' := 79) dX14_init_76 rfl cf_X14_init_462 rfl rfl (Nat.le_of_ble_eq_true rfl) (c_MShape_init (hz:=hz) (ha:=rfl) (hh:=s45)) (fun vp19 hp19 qp19 => ?_)
  obtain ⟨rfl, hz, s45, fp19⟩ := qp19
  have hh := (fp19 _ (by omega)).trans hh
  have a34 := (fp19 _ (by omega)).trans a34
  have a35 := (fp19 _ (by omega)).trans a35
  have a36 := (fp19 _ (by omega)).trans a36
  have a37 := (fp19 _ (by omega)).trans a37
  have a38 := (fp19 _ (by omega)).trans a38
  have a39 := (fp19 _ (by omega)).trans a39
  have a40 := (fp19 _ (by omega)).trans a40
  have r41 : ∀ b, 241 ≤ b → b < 245 → hp19.2 b = hp16.2 b := fun b p q => (fp19 b (by omega)).trans (r41 b p q)
  have hfr : ∀ b, (b < 233) → hp19.2 b = h.2 b := fun b hb => (fp19 b (by omega)).trans (hfr b hb)
  have hz : hp19.1 = (249, 27247) := hz
  have r45 : ∀ b, 245 ≤ b → b < 249 → hp19.2 b = hp19.2 b := fun _ _ _ => rfl
  refine go_putfF (pc' := 82) dX14_init_79 rfl pf_LandBaseModel_262 (fun _ => rfl) hh (by decide) rfl rfl (fun hp20 zp20 cp20 fp20 => ?_)
  have hz := zp20.trans hz
  have a34 := (fp20 _ (by omega)).trans a34
  have a35 := (fp20 _ (by omega)).trans a35
  have a36 := (fp20 _ (by omega)).trans a36
  have a37 := (fp20 _ (by omega)).trans a37
  have a38 := (fp20 _ (by omega)).trans a38
  have a39 := (fp20 _ (by omega)).trans a39
  have a40 := (fp20 _ (by omega)).trans a40
  have r41 : ∀ b, 241 ≤ b → b < 245 → hp20.2 b = hp16.2 b := fun b p q => (fp20 b (by omega)).trans (r41 b p q)
  have r45 : ∀ b, 245 ≤ b → b < 249 → hp20.2 b = hp19.2 b := fun b p q => (fp20 b (by omega)).trans (r45 b p q)
  have hfr : ∀ b, (b < 233) → hp20.2 b = h.2 b := fun b hb => (fp20 b (by omega)).trans (hfr b hb)
  have hh := cp20
  first | refine go_aload_n (i := 0) (pc' := 83) dX14_init_82 rfl rfl rfl ?_ | refine go_aloadX_n (i := 0) (pc' := 83) dX14_init_82 rfl rfl rfl ?_ | refine go_aload_nN (i := 0) (pc' := 83) dX14_init_82 rfl rfl rfl ?_
  refine go_bipush (v := 8) (pc' := 85) dX14_init_83 rfl (by decide) ?_
  refine go_newarrayK (t := 0) (N := 8) (pc' := 87) dX14_init_85 rfl rfl (by decide) wd_148 (by decide) (by decide) (by decide) hz (fun hp21 zp21 cp21 fp21 => ?_)
  have hz := zp21
  have hh := (fp21 _ (by omega)).trans hh
  have a34 := (fp21 _ (by omega)).trans a34
  have a35 := (fp21 _ (by omega)).trans a35
  have a36 := (fp21 _ (by omega)).trans a36
  have a37 := (fp21 _ (by omega)).trans a37
  have a38 := (fp21 _ (by omega)).trans a38
  have a39 := (fp21 _ (by omega)).trans a39
  have a40 := (fp21 _ (by omega)).trans a40
  have r41 : ∀ b, 241 ≤ b → b < 245 → hp21.2 b = hp16.2 b := fun b p q => (fp21 b (by omega)).trans (r41 b p q)
  have r45 : ∀ b, 245 ≤ b → b < 249 → hp21.2 b = hp19.2 b := fun b p q => (fp21 b (by omega)).trans (r45 b p q)
  have hfr : ∀ b, (b < 233) → hp21.2 b = h.2 b := fun b hb => (fp21 b (by omega)).trans (hfr b hb)
  have a49 : hp21.2 _ = some (.inl (0, 8, .inl (fun _ => 0))) := cp21
  refine go_putfF (pc' := 90) dX14_init_87 rfl pf_LandBaseModel_265 (fun _ => rfl) hh (by decide) rfl rfl (fun hp22 zp22 cp22 fp22 => ?_)
  have hz := zp22.trans hz
  have a34 := (fp22 _ (by omega)).trans a34
  have a35 := (fp22 _ (by omega)).trans a35
  have a36 := (fp22 _ (by omega)).trans a36
  have a37 := (fp22 _ (by omega)).trans a37
  have a38 := (fp22 _ (by omega)).trans a38
  have a39 := (fp22 _ (by omega)).trans a39
  have a40 := (fp22 _ (by omega)).trans a40
  have a49 := (fp22 _ (by omega)).trans a49
  have r41 : ∀ b, 241 ≤ b → b < 245 → hp22.2 b = hp16.2 b := fun b p q => (fp22 b (by omega)).trans (r41 b p q)
  have r45 : ∀ b, 245 ≤ b → b < 249 → hp22.2 b = hp19.2 b := fun b p q => (fp22 b (by omega)).trans (r45 b p q)
  have hfr : ∀ b, (b < 233) → hp22.2 b = h.2 b := fun b hb => (fp22 b (by omega)).trans (hfr b hb)
  have hh := cp22
  first | refine go_aload_n (i := 0) (pc' := 91) dX14_init_90 rfl rfl rfl ?_ | refine go_aloadX_n (i := 0) (pc' := 91) dX14_init_90 rfl rfl rfl ?_ | refine go_aload_nN (i := 0) (pc' := 91) dX14_init_90 rfl rfl rfl ?_
  refine go_newK (pc' := 94) dX14_init_91 rfl nw_LandBaseModel_289 hz (fun hp23 zp23 cp23 fp23 => ?_)
  have hz := zp23
  have hh := (fp23 _ (by omega)).trans hh
  have a34 := (fp23 _ (by omega)).trans a34
  have a35 := (fp23 _ (by omega)).trans a35
  have a36 := (fp23 _ (by omega)).trans a36
  have a37 := (fp23 _ (by omega)).trans a37
  have a38 := (fp23 _ (by omega)).trans a38
  have a39 := (fp23 _ (by omega)).trans a39
  have a40 := (fp23 _ (by omega)).trans a40
  have a49 := (fp23 _ (by omega)).trans a49
  have r41 : ∀ b, 241 ≤ b → b < 245 → hp23.2 b = hp16.2 b := fun b p q => (fp23 b (by omega)).trans (r41 b p q)
  have r45 : ∀ b, 245 ≤ b → b < 249 → hp23.2 b = hp19.2 b := fun b p q => (fp23 b (by omega)).trans (r45 b p q)
  have hfr : ∀ b, (b < 233) → hp23.2 b = h.2 b := fun b hb => (fp23 b (by omega)).trans (hfr b hb)
  have s50 := cp23
  refine go_dup (pc' := 95) dX14_init_94 rfl rfl ?_
  refine go_invIN (As := []) (pc' := 98) dX14_init_95 rfl cf_X14_init_463 rfl rfl (Nat.le_of_ble_eq_true rfl) (c_MDist_init (hz:=hz) (ha:=rfl) (hh:=s50)) (fun vp24 hp24 qp24 => ?_)
  obtain ⟨rfl, hz, s50, fp24⟩ := qp24
  have hh := (fp24 _ (by omega)).trans hh
  have a34 := (fp24 _ (by omega)).trans a34
  have a35 := (fp24 _ (by omega)).trans a35
  have a36 := (fp24 _ (by omega)).trans a36
  have a37 := (fp24 _ (by omega)).trans a37
  have a38 := (fp24 _ (by omega)).trans a38
  have a39 := (fp24 _ (by omega)).trans a39
  have a40 := (fp24 _ (by omega)).trans a40
  have a49 := (fp24 _ (by omega)).trans a49
  have r41 : ∀ b, 241 ≤ b → b < 245 → hp24.2 b = hp16.2 b := fun b p q => (fp24 b (by omega)).trans (r41 b p q)
  have r45 : ∀ b, 245 ≤ b → b < 249 → hp24.2 b = hp19.2 b := fun b p q => (fp24 b (by omega)).trans (r45 b p q)
  have hfr : ∀ b, (b < 233) → hp24.2 b = h.2 b := fun b hb => (fp24 b (by omega)).trans (hfr b hb)
  have hz : hp24.1 = (253, 27273) := hz
  have r50 : ∀ b, 250 ≤ b → b < 253 → hp24.2 b = hp24.2 b := fun _ _ _ => rfl
  refine go_putfF (pc' := 101) dX14_init_98 rfl pf_LandBaseModel_296 (fun _ => rfl) hh (by decide) rfl rfl (fun hp25 zp25 cp25 fp25 => ?_)
  have hz := zp25.trans hz
  have a34 := (fp25 _ (by omega)).trans a34
  have a35 := (fp25 _ (by omega)).trans a35
  have a36 := (fp25 _ (by omega)).trans a36
  have a37 := (fp25 _ (by omega)).trans a37
  have a38 := (fp25 _ (by omega)).trans a38
  have a39 := (fp25 _ (by omega)).trans a39
  have a40 := (fp25 _ (by omega)).trans a40
  have a49 := (fp25 _ (by omega)).trans a49
  have r41 : ∀ b, 241 ≤ b → b < 245 → hp25.2 b = hp16.2 b := fun b p q => (fp25 b (by omega)).trans (r41 b p q)
  have r45 : ∀ b, 245 ≤ b → b < 249 → hp25.2 b = hp19.2 b := fun b p q => (fp25 b (by omega)).trans (r45 b p q)
  have r50 : ∀ b, 250 ≤ b → b < 253 → hp25.2 b = hp24.2 b := fun b p q => (fp25 b (by omega)).trans (r50 b p q)
  have hfr : ∀ b, (b < 233) → hp25.2 b = h.2 b := fun b hb => (fp25 b (by omega)).trans (hfr b hb)
  have hh := cp25
  first | refine go_aload_n (i := 0) (pc' := 102) dX14_init_101 rfl rfl rfl ?_ | refine go_aloadX_n (i := 0) (pc' := 102) dX14_init_101 rfl rfl rfl ?_ | refine go_aload_nN (i := 0) (pc' := 102) dX14_init_101 rfl rfl rfl ?_
  refine go_newK (pc' := 105) dX14_init_102 rfl nw_LandBaseModel_289 hz (fun hp26 zp26 cp26 fp26 => ?_)
  have hz := zp26
  have hh := (fp26 _ (by omega)).trans hh
  have a34 := (fp26 _ (by omega)).trans a34
  have a35 := (fp26 _ (by omega)).trans a35
  have a36 := (fp26 _ (by omega)).trans a36
  have a37 := (fp26 _ (by omega)).trans a37
  have a38 := (fp26 _ (by omega)).trans a38
  have a39 := (fp26 _ (by omega)).trans a39
  have a40 := (fp26 _ (by omega)).trans a40
  have a49 := (fp26 _ (by omega)).trans a49
  have r41 : ∀ b, 241 ≤ b → b < 245 → hp26.2 b = hp16.2 b := fun b p q => (fp26 b (by omega)).trans (r41 b p q)
  have r45 : ∀ b, 245 ≤ b → b < 249 → hp26.2 b = hp19.2 b := fun b p q => (fp26 b (by omega)).trans (r45 b p q)
  have r50 : ∀ b, 250 ≤ b → b < 253 → hp26.2 b = hp24.2 b := fun b p q => (fp26 b (by omega)).trans (r50 b p q)
  have hfr : ∀ b, (b < 233) → hp26.2 b = h.2 b := fun b hb => (fp26 b (by omega)).trans (hfr b hb)
  have s53 := cp26
  refine go_dup (pc' := 106) dX14_init_105 rfl rfl ?_
  refine go_invIN (As := []) (pc' := 109) dX14_init_106 rfl cf_X14_init_463 rfl rfl (Nat.le_of_ble_eq_true rfl) (c_MDist_init (hz:=hz) (ha:=rfl) (hh:=s53)) (fun vp27 hp27 qp27 => ?_)
  obtain ⟨rfl, hz, s53, fp27⟩ := qp27
  have hh := (fp27 _ (by omega)).trans hh
  have a34 := (fp27 _ (by omega)).trans a34
  have a35 := (fp27 _ (by omega)).trans a35
  have a36 := (fp27 _ (by omega)).trans a36
  have a37 := (fp27 _ (by omega)).trans a37
  have a38 := (fp27 _ (by omega)).trans a38
  have a39 := (fp27 _ (by omega)).trans a39
  have a40 := (fp27 _ (by omega)).trans a40
  have a49 := (fp27 _ (by omega)).trans a49
  have r41 : ∀ b, 241 ≤ b → b < 245 → hp27.2 b = hp16.2 b := fun b p q => (fp27 b (by omega)).trans (r41 b p q)
  have r45 : ∀ b, 245 ≤ b → b < 249 → hp27.2 b = hp19.2 b := fun b p q => (fp27 b (by omega)).trans (r45 b p q)
  have r50 : ∀ b, 250 ≤ b → b < 253 → hp27.2 b = hp24.2 b := fun b p q => (fp27 b (by omega)).trans (r50 b p q)
  have hfr : ∀ b, (b < 233) → hp27.2 b = h.2 b := fun b hb => (fp27 b (by omega)).trans (hfr b hb)
  have hz : hp27.1 = (256, 27291) := hz
  have r53 : ∀ b, 253 ≤ b → b < 256 → hp27.2 b = hp27.2 b := fun _ _ _ => rfl
  refine go_putfF (pc' := 112) dX14_init_109 rfl pf_LandBaseModel_464 (fun _ => rfl) hh (by decide) rfl rfl (fun hp28 zp28 cp28 fp28 => ?_)
  have hz := zp28.trans hz
  have a34 := (fp28 _ (by omega)).trans a34
  have a35 := (fp28 _ (by omega)).trans a35
  have a36 := (fp28 _ (by omega)).trans a36
  have a37 := (fp28 _ (by omega)).trans a37
  have a38 := (fp28 _ (by omega)).trans a38
  have a39 := (fp28 _ (by omega)).trans a39
  have a40 := (fp28 _ (by omega)).trans a40
  have a49 := (fp28 _ (by omega)).trans a49
  have r41 : ∀ b, 241 ≤ b → b < 245 → hp28.2 b = hp16.2 b := fun b p q => (fp28 b (by omega)).trans (r41 b p q)
  have r45 : ∀ b, 245 ≤ b → b < 249 → hp28.2 b = hp19.2 b := fun b p q => (fp28 b (by omega)).trans (r45 b p q)
  have r50 : ∀ b, 250 ≤ b → b < 253 → hp28.2 b = hp24.2 b := fun b p q => (fp28 b (by omega)).trans (r50 b p q)
  have r53 : ∀ b, 253 ≤ b → b < 256 → hp28.2 b = hp27.2 b := fun b p q => (fp28 b (by omega)).trans (r53 b p q)
  have hfr : ∀ b, (b < 233) → hp28.2 b = h.2 b := fun b hb => (fp28 b (by omega)).trans (hfr b hb)
  have hh := cp28
  first | refine go_aload_n (i := 0) (pc' := 113) dX14_init_112 rfl rfl rfl ?_ | refine go_aloadX_n (i := 0) (pc' := 113) dX14_init_112 rfl rfl rfl ?_ | refine go_aload_nN (i := 0) (pc' := 113) dX14_init_112 rfl rfl rfl ?_
  refine go_newK (pc' := 116) dX14_init_113 rfl nw_LandBaseModel_289 hz (fun hp29 zp29 cp29 fp29 => ?_)
  have hz := zp29
  have hh := (fp29 _ (by omega)).trans hh
  have a34 := (fp29 _ (by omega)).trans a34
  have a35 := (fp29 _ (by omega)).trans a35
  have a36 := (fp29 _ (by omega)).trans a36
  have a37 := (fp29 _ (by omega)).trans a37
  have a38 := (fp29 _ (by omega)).trans a38
  have a39 := (fp29 _ (by omega)).trans a39
  have a40 := (fp29 _ (by omega)).trans a40
  have a49 := (fp29 _ (by omega)).trans a49
  have r41 : ∀ b, 241 ≤ b → b < 245 → hp29.2 b = hp16.2 b := fun b p q => (fp29 b (by omega)).trans (r41 b p q)
  have r45 : ∀ b, 245 ≤ b → b < 249 → hp29.2 b = hp19.2 b := fun b p q => (fp29 b (by omega)).trans (r45 b p q)
  have r50 : ∀ b, 250 ≤ b → b < 253 → hp29.2 b = hp24.2 b := fun b p q => (fp29 b (by omega)).trans (r50 b p q)
  have r53 : ∀ b, 253 ≤ b → b < 256 → hp29.2 b = hp27.2 b := fun b p q => (fp29 b (by omega)).trans (r53 b p q)
  have hfr : ∀ b, (b < 233) → hp29.2 b = h.2 b := fun b hb => (fp29 b (by omega)).trans (hfr b hb)
  have s56 := cp29
  refine go_dup (pc' := 117) dX14_init_116 rfl rfl ?_
  refine go_invIN (As := []) (pc' := 120) dX14_init_117 rfl cf_X14_init_463 rfl rfl (Nat.le_of_ble_eq_true rfl) (c_MDist_init (hz:=hz) (ha:=rfl) (hh:=s56)) (fun vp30 hp30 qp30 => ?_)
  obtain ⟨rfl, hz, s56, fp30⟩ := qp30
  have hh := (fp30 _ (by omega)).trans hh
  have a34 := (fp30 _ (by omega)).trans a34
  have a35 := (fp30 _ (by omega)).trans a35
  have a36 := (fp30 _ (by omega)).trans a36
  have a37 := (fp30 _ (by omega)).trans a37
  have a38 := (fp30 _ (by omega)).trans a38
  have a39 := (fp30 _ (by omega)).trans a39
  have a40 := (fp30 _ (by omega)).trans a40
  have a49 := (fp30 _ (by omega)).trans a49
  have r41 : ∀ b, 241 ≤ b → b < 245 → hp30.2 b = hp16.2 b := fun b p q => (fp30 b (by omega)).trans (r41 b p q)
  have r45 : ∀ b, 245 ≤ b → b < 249 → hp30.2 b = hp19.2 b := fun b p q => (fp30 b (by omega)).trans (r45 b p q)
  have r50 : ∀ b, 250 ≤ b → b < 253 → hp30.2 b = hp24.2 b := fun b p q => (fp30 b (by omega)).trans (r50 b p q)
  have r53 : ∀ b, 253 ≤ b → b < 256 → hp30.2 b = hp27.2 b := fun b p q => (fp30 b (by omega)).trans (r53 b p q)
  have hfr : ∀ b, (b < 233) → hp30.2 b = h.2 b := fun b hb => (fp30 b (by omega)).trans (hfr b hb)
  have hz : hp30.1 = (259, 27309) := hz
  have r56 : ∀ b, 256 ≤ b → b < 259 → hp30.2 b = hp30.2 b := fun _ _ _ => rfl
  refine go_putfF (pc' := 123) dX14_init_120 rfl pf_LandBaseModel_467 (fun _ => rfl) hh (by decide) rfl rfl (fun hp31 zp31 cp31 fp31 => ?_)
  have hz := zp31.trans hz
  have a34 := (fp31 _ (by omega)).trans a34
  have a35 := (fp31 _ (by omega)).trans a35
  have a36 := (fp31 _ (by omega)).trans a36
  have a37 := (fp31 _ (by omega)).trans a37
  have a38 := (fp31 _ (by omega)).trans a38
  have a39 := (fp31 _ (by omega)).trans a39
  have a40 := (fp31 _ (by omega)).trans a40
  have a49 := (fp31 _ (by omega)).trans a49
  have r41 : ∀ b, 241 ≤ b → b < 245 → hp31.2 b = hp16.2 b := fun b p q => (fp31 b (by omega)).trans (r41 b p q)
  have r45 : ∀ b, 245 ≤ b → b < 249 → hp31.2 b = hp19.2 b := fun b p q => (fp31 b (by omega)).trans (r45 b p q)
  have r50 : ∀ b, 250 ≤ b → b < 253 → hp31.2 b = hp24.2 b := fun b p q => (fp31 b (by omega)).trans (r50 b p q)
  have r53 : ∀ b, 253 ≤ b → b < 256 → hp31.2 b = hp27.2 b := fun b p q => (fp31 b (by omega)).trans (r53 b p q)
  have r56 : ∀ b, 256 ≤ b → b < 259 → hp31.2 b = hp30.2 b := fun b p q => (fp31 b (by omega)).trans (r56 b p q)
  have hfr : ∀ b, (b < 233) → hp31.2 b = h.2 b := fun b hb => (fp31 b (by omega)).trans (hfr b hb)
  have hh := cp31
  first | refine go_aload_n (i := 0) (pc' := 124) dX14_init_123 rfl rfl rfl ?_ | refine go_aloadX_n (i := 0) (pc' := 124) dX14_init_123 rfl rfl rfl ?_ | refine go_aload_nN (i := 0) (pc' := 124) dX14_init_123 rfl rfl rfl ?_
  refine go_newK (pc' := 127) dX14_init_124 rfl nw_LandBaseModel_355 hz (fun hp32 zp32 cp32 fp32 => ?_)
  have hz := zp32
  have hh := (fp32 _ (by omega)).trans hh
  have a34 := (fp32 _ (by omega)).trans a34
  have a35 := (fp32 _ (by omega)).trans a35
  have a36 := (fp32 _ (by omega)).trans a36
  have a37 := (fp32 _ (by omega)).trans a37
  have a38 := (fp32 _ (by omega)).trans a38
  have a39 := (fp32 _ (by omega)).trans a39
  have a40 := (fp32 _ (by omega)).trans a40
  have a49 := (fp32 _ (by omega)).trans a49
  have r41 : ∀ b, 241 ≤ b → b < 245 → hp32.2 b = hp16.2 b := fun b p q => (fp32 b (by omega)).trans (r41 b p q)
  have r45 : ∀ b, 245 ≤ b → b < 249 → hp32.2 b = hp19.2 b := fun b p q => (fp32 b (by omega)).trans (r45 b p q)
  have r50 : ∀ b, 250 ≤ b → b < 253 → hp32.2 b = hp24.2 b := fun b p q => (fp32 b (by omega)).trans (r50 b p q)
  have r53 : ∀ b, 253 ≤ b → b < 256 → hp32.2 b = hp27.2 b := fun b p q => (fp32 b (by omega)).trans (r53 b p q)
  have r56 : ∀ b, 256 ≤ b → b < 259 → hp32.2 b = hp30.2 b := fun b p q => (fp32 b (by omega)).trans (r56 b p q)
  have hfr : ∀ b, (b < 233) → hp32.2 b = h.2 b := fun b hb => (fp32 b (by omega)).trans (hfr b hb)
  have s59 := cp32
  refine go_dup (pc' := 128) dX14_init_127 rfl rfl ?_
  refine go_invI (As := []) (pc' := 131) dX14_init_128 rfl cf_X14_init_470 rfl rfl (Nat.le_of_ble_eq_true rfl) (c_MState_init (hz:=hz) (ha:=rfl) (hh:=s59)) (fun vp33 hp33 qp33 => ?_)
  obtain ⟨rfl, hz, s59, fp33⟩ := qp33
  have hh := (fp33 _ (by omega)).trans hh
  have a34 := (fp33 _ (by omega)).trans a34
  have a35 := (fp33 _ (by omega)).trans a35
  have a36 := (fp33 _ (by omega)).trans a36
  have a37 := (fp33 _ (by omega)).trans a37
  have a38 := (fp33 _ (by omega)).trans a38
  have a39 := (fp33 _ (by omega)).trans a39
  have a40 := (fp33 _ (by omega)).trans a40
  have a49 := (fp33 _ (by omega)).trans a49
  have r41 : ∀ b, 241 ≤ b → b < 245 → hp33.2 b = hp16.2 b := fun b p q => (fp33 b (by omega)).trans (r41 b p q)
  have r45 : ∀ b, 245 ≤ b → b < 249 → hp33.2 b = hp19.2 b := fun b p q => (fp33 b (by omega)).trans (r45 b p q)
  have r50 : ∀ b, 250 ≤ b → b < 253 → hp33.2 b = hp24.2 b := fun b p q => (fp33 b (by omega)).trans (r50 b p q)
  have r53 : ∀ b, 253 ≤ b → b < 256 → hp33.2 b = hp27.2 b := fun b p q => (fp33 b (by omega)).trans (r53 b p q)
  have r56 : ∀ b, 256 ≤ b → b < 259 → hp33.2 b = hp30.2 b := fun b p q => (fp33 b (by omega)).trans (r56 b p q)
  have hfr : ∀ b, (b < 233) → hp33.2 b = h.2 b := fun b hb => (fp33 b (by omega)).trans (hfr b hb)
  have hz : hp33.1 = (1061, 46511) := hz
  have r59 : ∀ b, 259 ≤ b → b < 1061 → hp33.2 b = hp33.2 b := fun _ _ _ => rfl
  refine go_putfF (pc' := 134) dX14_init_131 rfl pf_LandBaseModel_351 (fun _ => rfl) hh (by decide) rfl rfl (fun hp34 zp34 cp34 fp34 => ?_)
  have hz := zp34.trans hz
  have a34 := (fp34 _ (by omega)).trans a34
  have a35 := (fp34 _ (by omega)).trans a35
  have a36 := (fp34 _ (by omega)).trans a36
  have a37 := (fp34 _ (by omega)).trans a37
  have a38 := (fp34 _ (by omega)).trans a38
  have a39 := (fp34 _ (by omega)).trans a39
  have a40 := (fp34 _ (by omega)).trans a40
  have a49 := (fp34 _ (by omega)).trans a49
  have r41 : ∀ b, 241 ≤ b → b < 245 → hp34.2 b = hp16.2 b := fun b p q => (fp34 b (by omega)).trans (r41 b p q)
  have r45 : ∀ b, 245 ≤ b → b < 249 → hp34.2 b = hp19.2 b := fun b p q => (fp34 b (by omega)).trans (r45 b p q)
  have r50 : ∀ b, 250 ≤ b → b < 253 → hp34.2 b = hp24.2 b := fun b p q => (fp34 b (by omega)).trans (r50 b p q)
  have r53 : ∀ b, 253 ≤ b → b < 256 → hp34.2 b = hp27.2 b := fun b p q => (fp34 b (by omega)).trans (r53 b p q)
  have r56 : ∀ b, 256 ≤ b → b < 259 → hp34.2 b = hp30.2 b := fun b p q => (fp34 b (by omega)).trans (r56 b p q)
  have r59 : ∀ b, 259 ≤ b → b < 1061 → hp34.2 b = hp33.2 b := fun b p q => (fp34 b (by omega)).trans (r59 b p q)
  have hfr : ∀ b, (b < 233) → hp34.2 b = h.2 b := fun b hb => (fp34 b (by omega)).trans (hfr b hb)
  have hh := cp34
  first | refine go_aload_n (i := 0) (pc' := 135) dX14_init_134 rfl rfl rfl ?_ | refine go_aloadX_n (i := 0) (pc' := 135) dX14_init_134 rfl rfl rfl ?_ | refine go_aload_nN (i := 0) (pc' := 135) dX14_init_134 rfl rfl rfl ?_
  refine go_newK (pc' := 138) dX14_init_135 rfl nw_LandBaseModel_355 hz (fun hp35 zp35 cp35 fp35 => ?_)
  have hz := zp35
  have hh := (fp35 _ (by omega)).trans hh
  have a34 := (fp35 _ (by omega)).trans a34
  have a35 := (fp35 _ (by omega)).trans a35
  have a36 := (fp35 _ (by omega)).trans a36
  have a37 := (fp35 _ (by omega)).trans a37
  have a38 := (fp35 _ (by omega)).trans a38
  have a39 := (fp35 _ (by omega)).trans a39
  have a40 := (fp35 _ (by omega)).trans a40
  have a49 := (fp35 _ (by omega)).trans a49
  have r41 : ∀ b, 241 ≤ b → b < 245 → hp35.2 b = hp16.2 b := fun b p q => (fp35 b (by omega)).trans (r41 b p q)
  have r45 : ∀ b, 245 ≤ b → b < 249 → hp35.2 b = hp19.2 b := fun b p q => (fp35 b (by omega)).trans (r45 b p q)
  have r50 : ∀ b, 250 ≤ b → b < 253 → hp35.2 b = hp24.2 b := fun b p q => (fp35 b (by omega)).trans (r50 b p q)
  have r53 : ∀ b, 253 ≤ b → b < 256 → hp35.2 b = hp27.2 b := fun b p q => (fp35 b (by omega)).trans (r53 b p q)
  have r56 : ∀ b, 256 ≤ b → b < 259 → hp35.2 b = hp30.2 b := fun b p q => (fp35 b (by omega)).trans (r56 b p q)
  have r59 : ∀ b, 259 ≤ b → b < 1061 → hp35.2 b = hp33.2 b := fun b p q => (fp35 b (by omega)).trans (r59 b p q)
  have hfr : ∀ b, (b < 233) → hp35.2 b = h.2 b := fun b hb => (fp35 b (by omega)).trans (hfr b hb)
  have s61 := cp35
  refine go_dup (pc' := 139) dX14_init_138 rfl rfl ?_
  refine go_invI (As := []) (pc' := 142) dX14_init_139 rfl cf_X14_init_470 rfl rfl (Nat.le_of_ble_eq_true rfl) (c_MState_init (hz:=hz) (ha:=rfl) (hh:=s61)) (fun vp36 hp36 qp36 => ?_)
  obtain ⟨rfl, hz, s61, fp36⟩ := qp36
  have hh := (fp36 _ (by omega)).trans hh
  have a34 := (fp36 _ (by omega)).trans a34
  have a35 := (fp36 _ (by omega)).trans a35
  have a36 := (fp36 _ (by omega)).trans a36
  have a37 := (fp36 _ (by omega)).trans a37
  have a38 := (fp36 _ (by omega)).trans a38
  have a39 := (fp36 _ (by omega)).trans a39
  have a40 := (fp36 _ (by omega)).trans a40
  have a49 := (fp36 _ (by omega)).trans a49
  have r41 : ∀ b, 241 ≤ b → b < 245 → hp36.2 b = hp16.2 b := fun b p q => (fp36 b (by omega)).trans (r41 b p q)
  have r45 : ∀ b, 245 ≤ b → b < 249 → hp36.2 b = hp19.2 b := fun b p q => (fp36 b (by omega)).trans (r45 b p q)
  have r50 : ∀ b, 250 ≤ b → b < 253 → hp36.2 b = hp24.2 b := fun b p q => (fp36 b (by omega)).trans (r50 b p q)
  have r53 : ∀ b, 253 ≤ b → b < 256 → hp36.2 b = hp27.2 b := fun b p q => (fp36 b (by omega)).trans (r53 b p q)
  have r56 : ∀ b, 256 ≤ b → b < 259 → hp36.2 b = hp30.2 b := fun b p q => (fp36 b (by omega)).trans (r56 b p q)
  have r59 : ∀ b, 259 ≤ b → b < 1061 → hp36.2 b = hp33.2 b := fun b p q => (fp36 b (by omega)).trans (r59 b p q)
  have hfr : ∀ b, (b < 233) → hp36.2 b = h.2 b := fun b hb => (fp36 b (by omega)).trans (hfr b hb)
  have hz : hp36.1 = (1863, 65713) := hz
  have r61 : ∀ b, 1061 ≤ b → b < 1863 → hp36.2 b = hp36.2 b := fun _ _ _ => rfl
  refine go_putfF (pc' := 145) dX14_init_142 rfl pf_LandBaseModel_347 (fun _ => rfl) hh (by decide) rfl rfl (fun hp37 zp37 cp37 fp37 => ?_)
  have hz := zp37.trans hz
  have a34 := (fp37 _ (by omega)).trans a34
  have a35 := (fp37 _ (by omega)).trans a35
  have a36 := (fp37 _ (by omega)).trans a36
  have a37 := (fp37 _ (by omega)).trans a37
  have a38 := (fp37 _ (by omega)).trans a38
  have a39 := (fp37 _ (by omega)).trans a39
  have a40 := (fp37 _ (by omega)).trans a40
  have a49 := (fp37 _ (by omega)).trans a49
  have r41 : ∀ b, 241 ≤ b → b < 245 → hp37.2 b = hp16.2 b := fun b p q => (fp37 b (by omega)).trans (r41 b p q)
  have r45 : ∀ b, 245 ≤ b → b < 249 → hp37.2 b = hp19.2 b := fun b p q => (fp37 b (by omega)).trans (r45 b p q)
  have r50 : ∀ b, 250 ≤ b → b < 253 → hp37.2 b = hp24.2 b := fun b p q => (fp37 b (by omega)).trans (r50 b p q)
  have r53 : ∀ b, 253 ≤ b → b < 256 → hp37.2 b = hp27.2 b := fun b p q => (fp37 b (by omega)).trans (r53 b p q)
  have r56 : ∀ b, 256 ≤ b → b < 259 → hp37.2 b = hp30.2 b := fun b p q => (fp37 b (by omega)).trans (r56 b p q)
  have r59 : ∀ b, 259 ≤ b → b < 1061 → hp37.2 b = hp33.2 b := fun b p q => (fp37 b (by omega)).trans (r59 b p q)
  have r61 : ∀ b, 1061 ≤ b → b < 1863 → hp37.2 b = hp36.2 b := fun b p q => (fp37 b (by omega)).trans (r61 b p q)
  have hfr : ∀ b, (b < 233) → hp37.2 b = h.2 b := fun b hb => (fp37 b (by omega)).trans (hfr b hb)
  have hh := cp37
  first | refine go_aload_n (i := 0) (pc' := 146) dX14_init_145 rfl rfl rfl ?_ | refine go_aloadX_n (i := 0) (pc' := 146) dX14_init_145 rfl rfl rfl ?_ | refine go_aload_nN (i := 0) (pc' := 146) dX14_init_145 rfl rfl rfl ?_
  refine go_iconst (v := (-1)) (pc' := 147) dX14_init_146 rfl (by decide) ?_
  refine go_putfF (pc' := 150) dX14_init_147 rfl pf_LandBaseModel_323 (fun h => by cases h) hh (by decide) rfl rfl (fun hp38 zp38 cp38 fp38 => ?_)
  have hz := zp38.trans hz
  have a34 := (fp38 _ (by omega)).trans a34
  have a35 := (fp38 _ (by omega)).trans a35
  have a36 := (fp38 _ (by omega)).trans a36
  have a37 := (fp38 _ (by omega)).trans a37
  have a38 := (fp38 _ (by omega)).trans a38
  have a39 := (fp38 _ (by omega)).trans a39
  have a40 := (fp38 _ (by omega)).trans a40
  have a49 := (fp38 _ (by omega)).trans a49
  have r41 : ∀ b, 241 ≤ b → b < 245 → hp38.2 b = hp16.2 b := fun b p q => (fp38 b (by omega)).trans (r41 b p q)
  have r45 : ∀ b, 245 ≤ b → b < 249 → hp38.2 b = hp19.2 b := fun b p q => (fp38 b (by omega)).trans (r45 b p q)
  have r50 : ∀ b, 250 ≤ b → b < 253 → hp38.2 b = hp24.2 b := fun b p q => (fp38 b (by omega)).trans (r50 b p q)
  have r53 : ∀ b, 253 ≤ b → b < 256 → hp38.2 b = hp27.2 b := fun b p q => (fp38 b (by omega)).trans (r53 b p q)
  have r56 : ∀ b, 256 ≤ b → b < 259 → hp38.2 b = hp30.2 b := fun b p q => (fp38 b (by omega)).trans (r56 b p q)
  have r59 : ∀ b, 259 ≤ b → b < 1061 → hp38.2 b = hp33.2 b := fun b p q => (fp38 b (by omega)).trans (r59 b p q)
  have r61 : ∀ b, 1061 ≤ b → b < 1863 → hp38.2 b = hp36.2 b := fun b p q => (fp38 b (by omega)).trans (r61 b p q)
  have hfr : ∀ b, (b < 233) → hp38.2 b = h.2 b := fun b hb => (fp38 b (by omega)).trans (hfr b hb)
  have hh := cp38
  first | refine go_aload_n (i := 0) (pc' := 151) dX14_init_150 rfl rfl rfl ?_ | refine go_aloadX_n (i := 0) (pc' := 151) dX14_init_150 rfl rfl rfl ?_ | refine go_aload_nN (i := 0) (pc' := 151) dX14_init_150 rfl rfl rfl ?_
  refine go_sipush (v := 4000) (pc' := 154) dX14_init_151 rfl (by decide) ?_
  refine go_newarrayK (t := 0) (N := 4000) (pc' := 156) dX14_init_154 rfl rfl (by decide) wd_148 (by decide) (by decide) (by decide) hz (fun hp39 zp39 cp39 fp39 => ?_)
  have hz := zp39
  have hh := (fp39 _ (by omega)).trans hh
  have a34 := (fp39 _ (by omega)).trans a34
  have a35 := (fp39 _ (by omega)).trans a35
  have a36 := (fp39 _ (by omega)).trans a36
  have a37 := (fp39 _ (by omega)).trans a37
  have a38 := (fp39 _ (by omega)).trans a38
  have a39 := (fp39 _ (by omega)).trans a39
  have a40 := (fp39 _ (by omega)).trans a40
  have a49 := (fp39 _ (by omega)).trans a49
  have r41 : ∀ b, 241 ≤ b → b < 245 → hp39.2 b = hp16.2 b := fun b p q => (fp39 b (by omega)).trans (r41 b p q)
  have r45 : ∀ b, 245 ≤ b → b < 249 → hp39.2 b = hp19.2 b := fun b p q => (fp39 b (by omega)).trans (r45 b p q)
  have r50 : ∀ b, 250 ≤ b → b < 253 → hp39.2 b = hp24.2 b := fun b p q => (fp39 b (by omega)).trans (r50 b p q)
  have r53 : ∀ b, 253 ≤ b → b < 256 → hp39.2 b = hp27.2 b := fun b p q => (fp39 b (by omega)).trans (r53 b p q)
  have r56 : ∀ b, 256 ≤ b → b < 259 → hp39.2 b = hp30.2 b := fun b p q => (fp39 b (by omega)).trans (r56 b p q)
  have r59 : ∀ b, 259 ≤ b → b < 1061 → hp39.2 b = hp33.2 b := fun b p q => (fp39 b (by omega)).trans (r59 b p q)
  have r61 : ∀ b, 1061 ≤ b → b < 1863 → hp39.2 b = hp36.2 b := fun b p q => (fp39 b (by omega)).trans (r61 b p q)
  have hfr : ∀ b, (b < 233) → hp39.2 b = h.2 b := fun b hb => (fp39 b (by omega)).trans (hfr b hb)
  have a63 : hp39.2 _ = some (.inl (0, 4000, .inl (fun _ => 0))) := cp39
  refine go_putfF (pc' := 159) dX14_init_156 rfl pf_LandBaseModel_376 (fun _ => rfl) hh (by decide) rfl rfl (fun hp40 zp40 cp40 fp40 => ?_)
  have hz := zp40.trans hz
  have a34 := (fp40 _ (by omega)).trans a34
  have a35 := (fp40 _ (by omega)).trans a35
  have a36 := (fp40 _ (by omega)).trans a36
  have a37 := (fp40 _ (by omega)).trans a37
  have a38 := (fp40 _ (by omega)).trans a38
  have a39 := (fp40 _ (by omega)).trans a39
  have a40 := (fp40 _ (by omega)).trans a40
  have a49 := (fp40 _ (by omega)).trans a49
  have a63 := (fp40 _ (by omega)).trans a63
  have r41 : ∀ b, 241 ≤ b → b < 245 → hp40.2 b = hp16.2 b := fun b p q => (fp40 b (by omega)).trans (r41 b p q)
  have r45 : ∀ b, 245 ≤ b → b < 249 → hp40.2 b = hp19.2 b := fun b p q => (fp40 b (by omega)).trans (r45 b p q)
  have r50 : ∀ b, 250 ≤ b → b < 253 → hp40.2 b = hp24.2 b := fun b p q => (fp40 b (by omega)).trans (r50 b p q)
  have r53 : ∀ b, 253 ≤ b → b < 256 → hp40.2 b = hp27.2 b := fun b p q => (fp40 b (by omega)).trans (r53 b p q)
  have r56 : ∀ b, 256 ≤ b → b < 259 → hp40.2 b = hp30.2 b := fun b p q => (fp40 b (by omega)).trans (r56 b p q)
  have r59 : ∀ b, 259 ≤ b → b < 1061 → hp40.2 b = hp33.2 b := fun b p q => (fp40 b (by omega)).trans (r59 b p q)
  have r61 : ∀ b, 1061 ≤ b → b < 1863 → hp40.2 b = hp36.2 b := fun b p q => (fp40 b (by omega)).trans (r61 b p q)
  have hfr : ∀ b, (b < 233) → hp40.2 b = h.2 b := fun b hb => (fp40 b (by omega)).trans (hfr b hb)
  have hh := cp40
  first | refine go_aload_n (i := 0) (pc' := 160) dX14_init_159 rfl rfl rfl ?_ | refine go_aloadX_n (i := 0) (pc' := 160) dX14_init_159 rfl rfl rfl ?_ | refine go_aload_nN (i := 0) (pc' := 160) dX14_init_159 rfl rfl rfl ?_
  refine go_iconst (v := (-1)) (pc' := 161) dX14_init_160 rfl (by decide) ?_
  refine go_putfF (pc' := 164) dX14_init_161 rfl pf_LandBaseModel_370 (fun h => by cases h) hh (by decide) rfl rfl (fun hp41 zp41 cp41 fp41 => ?_)
  have hz := zp41.trans hz
  have a34 := (fp41 _ (by omega)).trans a34
  have a35 := (fp41 _ (by omega)).trans a35
  have a36 := (fp41 _ (by omega)).trans a36
  have a37 := (fp41 _ (by omega)).trans a37
  have a38 := (fp41 _ (by omega)).trans a38
  have a39 := (fp41 _ (by omega)).trans a39
  have a40 := (fp41 _ (by omega)).trans a40
  have a49 := (fp41 _ (by omega)).trans a49
  have a63 := (fp41 _ (by omega)).trans a63
  have r41 : ∀ b, 241 ≤ b → b < 245 → hp41.2 b = hp16.2 b := fun b p q => (fp41 b (by omega)).trans (r41 b p q)
  have r45 : ∀ b, 245 ≤ b → b < 249 → hp41.2 b = hp19.2 b := fun b p q => (fp41 b (by omega)).trans (r45 b p q)
  have r50 : ∀ b, 250 ≤ b → b < 253 → hp41.2 b = hp24.2 b := fun b p q => (fp41 b (by omega)).trans (r50 b p q)
  have r53 : ∀ b, 253 ≤ b → b < 256 → hp41.2 b = hp27.2 b := fun b p q => (fp41 b (by omega)).trans (r53 b p q)
  have r56 : ∀ b, 256 ≤ b → b < 259 → hp41.2 b = hp30.2 b := fun b p q => (fp41 b (by omega)).trans (r56 b p q)
  have r59 : ∀ b, 259 ≤ b → b < 1061 → hp41.2 b = hp33.2 b := fun b p q => (fp41 b (by omega)).trans (r59 b p q)
  have r61 : ∀ b, 1061 ≤ b → b < 1863 → hp41.2 b = hp36.2 b := fun b p q => (fp41 b (by omega)).trans (r61 b p q)
  have hfr : ∀ b, (b < 233) → hp41.2 b = h.2 b := fun b hb => (fp41 b (by omega)).trans (hfr b hb)
  have hh := cp41
  first | refine go_aload_n (i := 0) (pc' := 165) dX14_init_164 rfl rfl rfl ?_ | refine go_aloadX_n (i := 0) (pc' := 165) dX14_init_164 rfl rfl rfl ?_ | refine go_aload_nN (i := 0) (pc' := 165) dX14_init_164 rfl rfl rfl ?_
  refine go_sipush (v := 30000) (pc' := 168) dX14_init_165 rfl (by decide) ?_
  refine go_newarrayK (t := 0) (N := 30000) (pc' := 170) dX14_init_168 rfl rfl (by decide) wd_148 (by decide) (by decide) (by decide) hz (fun hp42 zp42 cp42 fp42 => ?_)
  have hz := zp42
  have hh := (fp42 _ (by omega)).trans hh
  have a34 := (fp42 _ (by omega)).trans a34
  have a35 := (fp42 _ (by omega)).trans a35
  have a36 := (fp42 _ (by omega)).trans a36
  have a37 := (fp42 _ (by omega)).trans a37
  have a38 := (fp42 _ (by omega)).trans a38
  have a39 := (fp42 _ (by omega)).trans a39
  have a40 := (fp42 _ (by omega)).trans a40
  have a49 := (fp42 _ (by omega)).trans a49
  have a63 := (fp42 _ (by omega)).trans a63
  have r41 : ∀ b, 241 ≤ b → b < 245 → hp42.2 b = hp16.2 b := fun b p q => (fp42 b (by omega)).trans (r41 b p q)
  have r45 : ∀ b, 245 ≤ b → b < 249 → hp42.2 b = hp19.2 b := fun b p q => (fp42 b (by omega)).trans (r45 b p q)
  have r50 : ∀ b, 250 ≤ b → b < 253 → hp42.2 b = hp24.2 b := fun b p q => (fp42 b (by omega)).trans (r50 b p q)
  have r53 : ∀ b, 253 ≤ b → b < 256 → hp42.2 b = hp27.2 b := fun b p q => (fp42 b (by omega)).trans (r53 b p q)
  have r56 : ∀ b, 256 ≤ b → b < 259 → hp42.2 b = hp30.2 b := fun b p q => (fp42 b (by omega)).trans (r56 b p q)
  have r59 : ∀ b, 259 ≤ b → b < 1061 → hp42.2 b = hp33.2 b := fun b p q => (fp42 b (by omega)).trans (r59 b p q)
  have r61 : ∀ b, 1061 ≤ b → b < 1863 → hp42.2 b = hp36.2 b := fun b p q => (fp42 b (by omega)).trans (r61 b p q)
  have hfr : ∀ b, (b < 233) → hp42.2 b = h.2 b := fun b hb => (fp42 b (by omega)).trans (hfr b hb)
  have a64 : hp42.2 _ = some (.inl (0, 30000, .inl (fun _ => 0))) := cp42
  refine go_putfF (pc' := 173) dX14_init_170 rfl pf_LandBaseModel_359 (fun _ => rfl) hh (by decide) rfl rfl (fun hp43 zp43 cp43 fp43 => ?_)
  have hz := zp43.trans hz
  have a34 := (fp43 _ (by omega)).trans a34
  have a35 := (fp43 _ (by omega)).trans a35
  have a36 := (fp43 _ (by omega)).trans a36
  have a37 := (fp43 _ (by omega)).trans a37
  have a38 := (fp43 _ (by omega)).trans a38
  have a39 := (fp43 _ (by omega)).trans a39
  have a40 := (fp43 _ (by omega)).trans a40
  have a49 := (fp43 _ (by omega)).trans a49
  have a63 := (fp43 _ (by omega)).trans a63
  have a64 := (fp43 _ (by omega)).trans a64
  have r41 : ∀ b, 241 ≤ b → b < 245 → hp43.2 b = hp16.2 b := fun b p q => (fp43 b (by omega)).trans (r41 b p q)
  have r45 : ∀ b, 245 ≤ b → b < 249 → hp43.2 b = hp19.2 b := fun b p q => (fp43 b (by omega)).trans (r45 b p q)
  have r50 : ∀ b, 250 ≤ b → b < 253 → hp43.2 b = hp24.2 b := fun b p q => (fp43 b (by omega)).trans (r50 b p q)
  have r53 : ∀ b, 253 ≤ b → b < 256 → hp43.2 b = hp27.2 b := fun b p q => (fp43 b (by omega)).trans (r53 b p q)
  have r56 : ∀ b, 256 ≤ b → b < 259 → hp43.2 b = hp30.2 b := fun b p q => (fp43 b (by omega)).trans (r56 b p q)
  have r59 : ∀ b, 259 ≤ b → b < 1061 → hp43.2 b = hp33.2 b := fun b p q => (fp43 b (by omega)).trans (r59 b p q)
  have r61 : ∀ b, 1061 ≤ b → b < 1863 → hp43.2 b = hp36.2 b := fun b p q => (fp43 b (by omega)).trans (r61 b p q)
  have hfr : ∀ b, (b < 233) → hp43.2 b = h.2 b := fun b hb => (fp43 b (by omega)).trans (hfr b hb)
  have hh := cp43
  first | refine go_aload_n (i := 0) (pc' := 174) dX14_init_173 rfl rfl rfl ?_ | refine go_aloadX_n (i := 0) (pc' := 174) dX14_init_173 rfl rfl rfl ?_ | refine go_aload_nN (i := 0) (pc' := 174) dX14_init_173 rfl rfl rfl ?_
  refine go_newK (pc' := 177) dX14_init_174 rfl nw_LandBaseModel_31 hz (fun hp44 zp44 cp44 fp44 => ?_)
  have hz := zp44
  have hh := (fp44 _ (by omega)).trans hh
  have a34 := (fp44 _ (by omega)).trans a34
  have a35 := (fp44 _ (by omega)).trans a35
  have a36 := (fp44 _ (by omega)).trans a36
  have a37 := (fp44 _ (by omega)).trans a37
  have a38 := (fp44 _ (by omega)).trans a38
  have a39 := (fp44 _ (by omega)).trans a39
  have a40 := (fp44 _ (by omega)).trans a40
  have a49 := (fp44 _ (by omega)).trans a49
  have a63 := (fp44 _ (by omega)).trans a63
  have a64 := (fp44 _ (by omega)).trans a64
  have r41 : ∀ b, 241 ≤ b → b < 245 → hp44.2 b = hp16.2 b := fun b p q => (fp44 b (by omega)).trans (r41 b p q)
  have r45 : ∀ b, 245 ≤ b → b < 249 → hp44.2 b = hp19.2 b := fun b p q => (fp44 b (by omega)).trans (r45 b p q)
  have r50 : ∀ b, 250 ≤ b → b < 253 → hp44.2 b = hp24.2 b := fun b p q => (fp44 b (by omega)).trans (r50 b p q)
  have r53 : ∀ b, 253 ≤ b → b < 256 → hp44.2 b = hp27.2 b := fun b p q => (fp44 b (by omega)).trans (r53 b p q)
  have r56 : ∀ b, 256 ≤ b → b < 259 → hp44.2 b = hp30.2 b := fun b p q => (fp44 b (by omega)).trans (r56 b p q)
  have r59 : ∀ b, 259 ≤ b → b < 1061 → hp44.2 b = hp33.2 b := fun b p q => (fp44 b (by omega)).trans (r59 b p q)
  have r61 : ∀ b, 1061 ≤ b → b < 1863 → hp44.2 b = hp36.2 b := fun b p q => (fp44 b (by omega)).trans (r61 b p q)
  have hfr : ∀ b, (b < 233) → hp44.2 b = h.2 b := fun b hb => (fp44 b (by omega)).trans (hfr b hb)
  have s65 := cp44
  refine go_dup (pc' := 178) dX14_init_177 rfl rfl ?_
  have hz : hp44.1 = (1866, 99720) := hz
  refine go_invIN (As := []) (pc' := 181) dX14_init_178 rfl cf_X14_init_462 rfl rfl (Nat.le_of_ble_eq_true rfl) (c_MShape_init (hz:=hz) (ha:=rfl) (hh:=s65)) (fun vp45 hp45 qp45 => ?_)
  obtain ⟨rfl, hz, s65, fp45⟩ := qp45
  have hh := (fp45 _ (by omega)).trans hh
  have a34 := (fp45 _ (by omega)).trans a34
  have a35 := (fp45 _ (by omega)).trans a35
  have a36 := (fp45 _ (by omega)).trans a36
  have a37 := (fp45 _ (by omega)).trans a37
  have a38 := (fp45 _ (by omega)).trans a38
  have a39 := (fp45 _ (by omega)).trans a39
  have a40 := (fp45 _ (by omega)).trans a40
  have a49 := (fp45 _ (by omega)).trans a49
  have a63 := (fp45 _ (by omega)).trans a63
  have a64 := (fp45 _ (by omega)).trans a64
  have r41 : ∀ b, 241 ≤ b → b < 245 → hp45.2 b = hp16.2 b := fun b p q => (fp45 b (by omega)).trans (r41 b p q)
  have r45 : ∀ b, 245 ≤ b → b < 249 → hp45.2 b = hp19.2 b := fun b p q => (fp45 b (by omega)).trans (r45 b p q)
  have r50 : ∀ b, 250 ≤ b → b < 253 → hp45.2 b = hp24.2 b := fun b p q => (fp45 b (by omega)).trans (r50 b p q)
  have r53 : ∀ b, 253 ≤ b → b < 256 → hp45.2 b = hp27.2 b := fun b p q => (fp45 b (by omega)).trans (r53 b p q)
  have r56 : ∀ b, 256 ≤ b → b < 259 → hp45.2 b = hp30.2 b := fun b p q => (fp45 b (by omega)).trans (r56 b p q)
  have r59 : ∀ b, 259 ≤ b → b < 1061 → hp45.2 b = hp33.2 b := fun b p q => (fp45 b (by omega)).trans (r59 b p q)
  have r61 : ∀ b, 1061 ≤ b → b < 1863 → hp45.2 b = hp36.2 b := fun b p q => (fp45 b (by omega)).trans (r61 b p q)
  have hfr : ∀ b, (b < 233) → hp45.2 b = h.2 b := fun b hb => (fp45 b (by omega)).trans (hfr b hb)
  have hz : hp45.1 = (1869, 99808) := hz
  have r65 : ∀ b, 1865 ≤ b → b < 1869 → hp45.2 b = hp45.2 b := fun _ _ _ => rfl
  refine go_putfF (pc' := 184) dX14_init_181 rfl pf_LandBaseModel_432 (fun _ => rfl) hh (by decide) rfl rfl (fun hp46 zp46 cp46 fp46 => ?_)
  have hz := zp46.trans hz
  have a34 := (fp46 _ (by omega)).trans a34
  have a35 := (fp46 _ (by omega)).trans a35
  have a36 := (fp46 _ (by omega)).trans a36
  have a37 := (fp46 _ (by omega)).trans a37
  have a38 := (fp46 _ (by omega)).trans a38
  have a39 := (fp46 _ (by omega)).trans a39
  have a40 := (fp46 _ (by omega)).trans a40
  have a49 := (fp46 _ (by omega)).trans a49
  have a63 := (fp46 _ (by omega)).trans a63
  have a64 := (fp46 _ (by omega)).trans a64
  have r41 : ∀ b, 241 ≤ b → b < 245 → hp46.2 b = hp16.2 b := fun b p q => (fp46 b (by omega)).trans (r41 b p q)
  have r45 : ∀ b, 245 ≤ b → b < 249 → hp46.2 b = hp19.2 b := fun b p q => (fp46 b (by omega)).trans (r45 b p q)
  have r50 : ∀ b, 250 ≤ b → b < 253 → hp46.2 b = hp24.2 b := fun b p q => (fp46 b (by omega)).trans (r50 b p q)
  have r53 : ∀ b, 253 ≤ b → b < 256 → hp46.2 b = hp27.2 b := fun b p q => (fp46 b (by omega)).trans (r53 b p q)
  have r56 : ∀ b, 256 ≤ b → b < 259 → hp46.2 b = hp30.2 b := fun b p q => (fp46 b (by omega)).trans (r56 b p q)
  have r59 : ∀ b, 259 ≤ b → b < 1061 → hp46.2 b = hp33.2 b := fun b p q => (fp46 b (by omega)).trans (r59 b p q)
  have r61 : ∀ b, 1061 ≤ b → b < 1863 → hp46.2 b = hp36.2 b := fun b p q => (fp46 b (by omega)).trans (r61 b p q)
  have r65 : ∀ b, 1865 ≤ b → b < 1869 → hp46.2 b = hp45.2 b := fun b p q => (fp46 b (by omega)).trans (r65 b p q)
  have hfr : ∀ b, (b < 233) → hp46.2 b = h.2 b := fun b hb => (fp46 b (by omega)).trans (hfr b hb)
  have hh := cp46
  first | refine go_aload_n (i := 0) (pc' := 185) dX14_init_184 rfl rfl rfl ?_ | refine go_aloadX_n (i := 0) (pc' := 185) dX14_init_184 rfl rfl rfl ?_ | refine go_aload_nN (i := 0) (pc' := 185) dX14_init_184 rfl rfl rfl ?_
  refine go_bipush (v := 8) (pc' := 187) dX14_init_185 rfl (by decide) ?_
  refine go_newarrayK (t := 0) (N := 8) (pc' := 189) dX14_init_187 rfl rfl (by decide) wd_148 (by decide) (by decide) (by decide) hz (fun hp47 zp47 cp47 fp47 => ?_)
  have hz := zp47
  have hh := (fp47 _ (by omega)).trans hh
  have a34 := (fp47 _ (by omega)).trans a34
  have a35 := (fp47 _ (by omega)).trans a35
  have a36 := (fp47 _ (by omega)).trans a36
  have a37 := (fp47 _ (by omega)).trans a37
  have a38 := (fp47 _ (by omega)).trans a38
  have a39 := (fp47 _ (by omega)).trans a39
  have a40 := (fp47 _ (by omega)).trans a40
  have a49 := (fp47 _ (by omega)).trans a49
  have a63 := (fp47 _ (by omega)).trans a63
  have a64 := (fp47 _ (by omega)).trans a64
  have r41 : ∀ b, 241 ≤ b → b < 245 → hp47.2 b = hp16.2 b := fun b p q => (fp47 b (by omega)).trans (r41 b p q)
  have r45 : ∀ b, 245 ≤ b → b < 249 → hp47.2 b = hp19.2 b := fun b p q => (fp47 b (by omega)).trans (r45 b p q)
  have r50 : ∀ b, 250 ≤ b → b < 253 → hp47.2 b = hp24.2 b := fun b p q => (fp47 b (by omega)).trans (r50 b p q)
  have r53 : ∀ b, 253 ≤ b → b < 256 → hp47.2 b = hp27.2 b := fun b p q => (fp47 b (by omega)).trans (r53 b p q)
  have r56 : ∀ b, 256 ≤ b → b < 259 → hp47.2 b = hp30.2 b := fun b p q => (fp47 b (by omega)).trans (r56 b p q)
  have r59 : ∀ b, 259 ≤ b → b < 1061 → hp47.2 b = hp33.2 b := fun b p q => (fp47 b (by omega)).trans (r59 b p q)
  have r61 : ∀ b, 1061 ≤ b → b < 1863 → hp47.2 b = hp36.2 b := fun b p q => (fp47 b (by omega)).trans (r61 b p q)
  have r65 : ∀ b, 1865 ≤ b → b < 1869 → hp47.2 b = hp45.2 b := fun b p q => (fp47 b (by omega)).trans (r65 b p q)
  have hfr : ∀ b, (b < 233) → hp47.2 b = h.2 b := fun b hb => (fp47 b (by omega)).trans (hfr b hb)
  have a69 : hp47.2 _ = some (.inl (0, 8, .inl (fun _ => 0))) := cp47
  refine go_putfF (pc' := 192) dX14_init_189 rfl pf_LandBaseModel_471 (fun _ => rfl) hh (by decide) rfl rfl (fun hp48 zp48 cp48 fp48 => ?_)
  have hz := zp48.trans hz
  have a34 := (fp48 _ (by omega)).trans a34
  have a35 := (fp48 _ (by omega)).trans a35
  have a36 := (fp48 _ (by omega)).trans a36
  have a37 := (fp48 _ (by omega)).trans a37
  have a38 := (fp48 _ (by omega)).trans a38
  have a39 := (fp48 _ (by omega)).trans a39
  have a40 := (fp48 _ (by omega)).trans a40
  have a49 := (fp48 _ (by omega)).trans a49
  have a63 := (fp48 _ (by omega)).trans a63
  have a64 := (fp48 _ (by omega)).trans a64
  have a69 := (fp48 _ (by omega)).trans a69
  have r41 : ∀ b, 241 ≤ b → b < 245 → hp48.2 b = hp16.2 b := fun b p q => (fp48 b (by omega)).trans (r41 b p q)
  have r45 : ∀ b, 245 ≤ b → b < 249 → hp48.2 b = hp19.2 b := fun b p q => (fp48 b (by omega)).trans (r45 b p q)
  have r50 : ∀ b, 250 ≤ b → b < 253 → hp48.2 b = hp24.2 b := fun b p q => (fp48 b (by omega)).trans (r50 b p q)
  have r53 : ∀ b, 253 ≤ b → b < 256 → hp48.2 b = hp27.2 b := fun b p q => (fp48 b (by omega)).trans (r53 b p q)
  have r56 : ∀ b, 256 ≤ b → b < 259 → hp48.2 b = hp30.2 b := fun b p q => (fp48 b (by omega)).trans (r56 b p q)
  have r59 : ∀ b, 259 ≤ b → b < 1061 → hp48.2 b = hp33.2 b := fun b p q => (fp48 b (by omega)).trans (r59 b p q)
  have r61 : ∀ b, 1061 ≤ b → b < 1863 → hp48.2 b = hp36.2 b := fun b p q => (fp48 b (by omega)).trans (r61 b p q)
  have r65 : ∀ b, 1865 ≤ b → b < 1869 → hp48.2 b = hp45.2 b := fun b p q => (fp48 b (by omega)).trans (r65 b p q)
  have hfr : ∀ b, (b < 233) → hp48.2 b = h.2 b := fun b hb => (fp48 b (by omega)).trans (hfr b hb)
  have hh := cp48
  first | refine go_aload_n (i := 0) (pc' := 193) dX14_init_192 rfl rfl rfl ?_ | refine go_aloadX_n (i := 0) (pc' := 193) dX14_init_192 rfl rfl rfl ?_ | refine go_aload_nN (i := 0) (pc' := 193) dX14_init_192 rfl rfl rfl ?_
  refine go_newK (pc' := 196) dX14_init_193 rfl nw_LandBaseModel_31 hz (fun hp49 zp49 cp49 fp49 => ?_)
  have hz := zp49
  have hh := (fp49 _ (by omega)).trans hh
  have a34 := (fp49 _ (by omega)).trans a34
  have a35 := (fp49 _ (by omega)).trans a35
  have a36 := (fp49 _ (by omega)).trans a36
  have a37 := (fp49 _ (by omega)).trans a37
  have a38 := (fp49 _ (by omega)).trans a38
  have a39 := (fp49 _ (by omega)).trans a39
  have a40 := (fp49 _ (by omega)).trans a40
  have a49 := (fp49 _ (by omega)).trans a49
  have a63 := (fp49 _ (by omega)).trans a63
  have a64 := (fp49 _ (by omega)).trans a64
  have a69 := (fp49 _ (by omega)).trans a69
  have r41 : ∀ b, 241 ≤ b → b < 245 → hp49.2 b = hp16.2 b := fun b p q => (fp49 b (by omega)).trans (r41 b p q)
  have r45 : ∀ b, 245 ≤ b → b < 249 → hp49.2 b = hp19.2 b := fun b p q => (fp49 b (by omega)).trans (r45 b p q)
  have r50 : ∀ b, 250 ≤ b → b < 253 → hp49.2 b = hp24.2 b := fun b p q => (fp49 b (by omega)).trans (r50 b p q)
  have r53 : ∀ b, 253 ≤ b → b < 256 → hp49.2 b = hp27.2 b := fun b p q => (fp49 b (by omega)).trans (r53 b p q)
  have r56 : ∀ b, 256 ≤ b → b < 259 → hp49.2 b = hp30.2 b := fun b p q => (fp49 b (by omega)).trans (r56 b p q)
  have r59 : ∀ b, 259 ≤ b → b < 1061 → hp49.2 b = hp33.2 b := fun b p q => (fp49 b (by omega)).trans (r59 b p q)
  have r61 : ∀ b, 1061 ≤ b → b < 1863 → hp49.2 b = hp36.2 b := fun b p q => (fp49 b (by omega)).trans (r61 b p q)
  have r65 : ∀ b, 1865 ≤ b → b < 1869 → hp49.2 b = hp45.2 b := fun b p q => (fp49 b (by omega)).trans (r65 b p q)
  have hfr : ∀ b, (b < 233) → hp49.2 b = h.2 b := fun b hb => (fp49 b (by omega)).trans (hfr b hb)
  have s70 := cp49
  refine go_dup (pc' := 197) dX14_init_196 rfl rfl ?_
  refine go_invIN (As := []) (pc' := 200) dX14_init_197 rfl cf_X14_init_462 rfl rfl (Nat.le_of_ble_eq_true rfl) (c_MShape_init (hz:=hz) (ha:=rfl) (hh:=s70)) (fun vp50 hp50 qp50 => ?_)
  obtain ⟨rfl, hz, s70, fp50⟩ := qp50
  have hh := (fp50 _ (by omega)).trans hh
  have a34 := (fp50 _ (by omega)).trans a34
  have a35 := (fp50 _ (by omega)).trans a35
  have a36 := (fp50 _ (by omega)).trans a36
  have a37 := (fp50 _ (by omega)).trans a37
  have a38 := (fp50 _ (by omega)).trans a38
  have a39 := (fp50 _ (by omega)).trans a39
  have a40 := (fp50 _ (by omega)).trans a40
  have a49 := (fp50 _ (by omega)).trans a49
  have a63 := (fp50 _ (by omega)).trans a63
  have a64 := (fp50 _ (by omega)).trans a64
  have a69 := (fp50 _ (by omega)).trans a69
  have r41 : ∀ b, 241 ≤ b → b < 245 → hp50.2 b = hp16.2 b := fun b p q => (fp50 b (by omega)).trans (r41 b p q)
  have r45 : ∀ b, 245 ≤ b → b < 249 → hp50.2 b = hp19.2 b := fun b p q => (fp50 b (by omega)).trans (r45 b p q)
  have r50 : ∀ b, 250 ≤ b → b < 253 → hp50.2 b = hp24.2 b := fun b p q => (fp50 b (by omega)).trans (r50 b p q)
  have r53 : ∀ b, 253 ≤ b → b < 256 → hp50.2 b = hp27.2 b := fun b p q => (fp50 b (by omega)).trans (r53 b p q)
  have r56 : ∀ b, 256 ≤ b → b < 259 → hp50.2 b = hp30.2 b := fun b p q => (fp50 b (by omega)).trans (r56 b p q)
  have r59 : ∀ b, 259 ≤ b → b < 1061 → hp50.2 b = hp33.2 b := fun b p q => (fp50 b (by omega)).trans (r59 b p q)
  have r61 : ∀ b, 1061 ≤ b → b < 1863 → hp50.2 b = hp36.2 b := fun b p q => (fp50 b (by omega)).trans (r61 b p q)
  have r65 : ∀ b, 1865 ≤ b → b < 1869 → hp50.2 b = hp45.2 b := fun b p q => (fp50 b (by omega)).trans (r65 b p q)
  have hfr : ∀ b, (b < 233) → hp50.2 b = h.2 b := fun b hb => (fp50 b (by omega)).trans (hfr b hb)
  have hz : hp50.1 = (1874, 99911) := hz
  have r70 : ∀ b, 1870 ≤ b → b < 1874 → hp50.2 b = hp50.2 b := fun _ _ _ => rfl
  refine go_putfF (pc' := 203) dX14_init_200 rfl pf_LandBaseModel_474 (fun _ => rfl) hh (by decide) rfl rfl (fun hp51 zp51 cp51 fp51 => ?_)
  have hz := zp51.trans hz
  have a34 := (fp51 _ (by omega)).trans a34
  have a35 := (fp51 _ (by omega)).trans a35
  have a36 := (fp51 _ (by omega)).trans a36
  have a37 := (fp51 _ (by omega)).trans a37
  have a38 := (fp51 _ (by omega)).trans a38
  have a39 := (fp51 _ (by omega)).trans a39
  have a40 := (fp51 _ (by omega)).trans a40
  have a49 := (fp51 _ (by omega)).trans a49
  have a63 := (fp51 _ (by omega)).trans a63
  have a64 := (fp51 _ (by omega)).trans a64
  have a69 := (fp51 _ (by omega)).trans a69
  have r41 : ∀ b, 241 ≤ b → b < 245 → hp51.2 b = hp16.2 b := fun b p q => (fp51 b (by omega)).trans (r41 b p q)
  have r45 : ∀ b, 245 ≤ b → b < 249 → hp51.2 b = hp19.2 b := fun b p q => (fp51 b (by omega)).trans (r45 b p q)
  have r50 : ∀ b, 250 ≤ b → b < 253 → hp51.2 b = hp24.2 b := fun b p q => (fp51 b (by omega)).trans (r50 b p q)
  have r53 : ∀ b, 253 ≤ b → b < 256 → hp51.2 b = hp27.2 b := fun b p q => (fp51 b (by omega)).trans (r53 b p q)
  have r56 : ∀ b, 256 ≤ b → b < 259 → hp51.2 b = hp30.2 b := fun b p q => (fp51 b (by omega)).trans (r56 b p q)
  have r59 : ∀ b, 259 ≤ b → b < 1061 → hp51.2 b = hp33.2 b := fun b p q => (fp51 b (by omega)).trans (r59 b p q)
  have r61 : ∀ b, 1061 ≤ b → b < 1863 → hp51.2 b = hp36.2 b := fun b p q => (fp51 b (by omega)).trans (r61 b p q)
  have r65 : ∀ b, 1865 ≤ b → b < 1869 → hp51.2 b = hp45.2 b := fun b p q => (fp51 b (by omega)).trans (r65 b p q)
  have r70 : ∀ b, 1870 ≤ b → b < 1874 → hp51.2 b = hp50.2 b := fun b p q => (fp51 b (by omega)).trans (r70 b p q)
  have hfr : ∀ b, (b < 233) → hp51.2 b = h.2 b := fun b hb => (fp51 b (by omega)).trans (hfr b hb)
  have hh := cp51
  first | refine go_aload_n (i := 0) (pc' := 204) dX14_init_203 rfl rfl rfl ?_ | refine go_aloadX_n (i := 0) (pc' := 204) dX14_init_203 rfl rfl rfl ?_ | refine go_aload_nN (i := 0) (pc' := 204) dX14_init_203 rfl rfl rfl ?_
  refine go_sipush (v := 200) (pc' := 207) dX14_init_204 rfl (by decide) ?_
  refine go_anewarrayK (t := 7) (N := 200) (pc' := 210) dX14_init_207 rfl (by decide) rfl wd_1018 (by decide) (by decide) (by decide) hz (fun hp52 zp52 cp52 fp52 => ?_)
  have hz := zp52
  have hh := (fp52 _ (by omega)).trans hh
  have a34 := (fp52 _ (by omega)).trans a34
  have a35 := (fp52 _ (by omega)).trans a35
  have a36 := (fp52 _ (by omega)).trans a36
  have a37 := (fp52 _ (by omega)).trans a37
  have a38 := (fp52 _ (by omega)).trans a38
  have a39 := (fp52 _ (by omega)).trans a39
  have a40 := (fp52 _ (by omega)).trans a40
  have a49 := (fp52 _ (by omega)).trans a49
  have a63 := (fp52 _ (by omega)).trans a63
  have a64 := (fp52 _ (by omega)).trans a64
  have a69 := (fp52 _ (by omega)).trans a69
  have r41 : ∀ b, 241 ≤ b → b < 245 → hp52.2 b = hp16.2 b := fun b p q => (fp52 b (by omega)).trans (r41 b p q)
  have r45 : ∀ b, 245 ≤ b → b < 249 → hp52.2 b = hp19.2 b := fun b p q => (fp52 b (by omega)).trans (r45 b p q)
  have r50 : ∀ b, 250 ≤ b → b < 253 → hp52.2 b = hp24.2 b := fun b p q => (fp52 b (by omega)).trans (r50 b p q)
  have r53 : ∀ b, 253 ≤ b → b < 256 → hp52.2 b = hp27.2 b := fun b p q => (fp52 b (by omega)).trans (r53 b p q)
  have r56 : ∀ b, 256 ≤ b → b < 259 → hp52.2 b = hp30.2 b := fun b p q => (fp52 b (by omega)).trans (r56 b p q)
  have r59 : ∀ b, 259 ≤ b → b < 1061 → hp52.2 b = hp33.2 b := fun b p q => (fp52 b (by omega)).trans (r59 b p q)
  have r61 : ∀ b, 1061 ≤ b → b < 1863 → hp52.2 b = hp36.2 b := fun b p q => (fp52 b (by omega)).trans (r61 b p q)
  have r65 : ∀ b, 1865 ≤ b → b < 1869 → hp52.2 b = hp45.2 b := fun b p q => (fp52 b (by omega)).trans (r65 b p q)
  have r70 : ∀ b, 1870 ≤ b → b < 1874 → hp52.2 b = hp50.2 b := fun b p q => (fp52 b (by omega)).trans (r70 b p q)
  have hfr : ∀ b, (b < 233) → hp52.2 b = h.2 b := fun b hb => (fp52 b (by omega)).trans (hfr b hb)
  have a74 : hp52.2 _ = some (.inl (7, 200, .inr (.inr (.inr (.inr (fun _ => none)))))) := cp52
  refine go_putfF (pc' := 213) dX14_init_210 rfl pf_LandBaseModel_477 (fun _ => rfl) hh (by decide) rfl rfl (fun hp53 zp53 cp53 fp53 => ?_)
  have hz := zp53.trans hz
  have a34 := (fp53 _ (by omega)).trans a34
  have a35 := (fp53 _ (by omega)).trans a35
  have a36 := (fp53 _ (by omega)).trans a36
  have a37 := (fp53 _ (by omega)).trans a37
  have a38 := (fp53 _ (by omega)).trans a38
  have a39 := (fp53 _ (by omega)).trans a39
  have a40 := (fp53 _ (by omega)).trans a40
  have a49 := (fp53 _ (by omega)).trans a49
  have a63 := (fp53 _ (by omega)).trans a63
  have a64 := (fp53 _ (by omega)).trans a64
  have a69 := (fp53 _ (by omega)).trans a69
  have a74 := (fp53 _ (by omega)).trans a74
  have r41 : ∀ b, 241 ≤ b → b < 245 → hp53.2 b = hp16.2 b := fun b p q => (fp53 b (by omega)).trans (r41 b p q)
  have r45 : ∀ b, 245 ≤ b → b < 249 → hp53.2 b = hp19.2 b := fun b p q => (fp53 b (by omega)).trans (r45 b p q)
  have r50 : ∀ b, 250 ≤ b → b < 253 → hp53.2 b = hp24.2 b := fun b p q => (fp53 b (by omega)).trans (r50 b p q)
  have r53 : ∀ b, 253 ≤ b → b < 256 → hp53.2 b = hp27.2 b := fun b p q => (fp53 b (by omega)).trans (r53 b p q)
  have r56 : ∀ b, 256 ≤ b → b < 259 → hp53.2 b = hp30.2 b := fun b p q => (fp53 b (by omega)).trans (r56 b p q)
  have r59 : ∀ b, 259 ≤ b → b < 1061 → hp53.2 b = hp33.2 b := fun b p q => (fp53 b (by omega)).trans (r59 b p q)
  have r61 : ∀ b, 1061 ≤ b → b < 1863 → hp53.2 b = hp36.2 b := fun b p q => (fp53 b (by omega)).trans (r61 b p q)
  have r65 : ∀ b, 1865 ≤ b → b < 1869 → hp53.2 b = hp45.2 b := fun b p q => (fp53 b (by omega)).trans (r65 b p q)
  have r70 : ∀ b, 1870 ≤ b → b < 1874 → hp53.2 b = hp50.2 b := fun b p q => (fp53 b (by omega)).trans (r70 b p q)
  have hfr : ∀ b, (b < 233) → hp53.2 b = h.2 b := fun b hb => (fp53 b (by omega)).trans (hfr b hb)
  have hh := cp53
  first | refine go_aload_n (i := 0) (pc' := 214) dX14_init_213 rfl rfl rfl ?_ | refine go_aloadX_n (i := 0) (pc' := 214) dX14_init_213 rfl rfl rfl ?_ | refine go_aload_nN (i := 0) (pc' := 214) dX14_init_213 rfl rfl rfl ?_
  refine go_sipush (v := 200) (pc' := 217) dX14_init_214 rfl (by decide) ?_
  refine go_newarrayK (t := 0) (N := 200) (pc' := 219) dX14_init_217 rfl rfl (by decide) wd_148 (by decide) (by decide) (by decide) hz (fun hp54 zp54 cp54 fp54 => ?_)
  have hz := zp54
  have hh := (fp54 _ (by omega)).trans hh
  have a34 := (fp54 _ (by omega)).trans a34
  have a35 := (fp54 _ (by omega)).trans a35
  have a36 := (fp54 _ (by omega)).trans a36
  have a37 := (fp54 _ (by omega)).trans a37
  have a38 := (fp54 _ (by omega)).trans a38
  have a39 := (fp54 _ (by omega)).trans a39
  have a40 := (fp54 _ (by omega)).trans a40
  have a49 := (fp54 _ (by omega)).trans a49
  have a63 := (fp54 _ (by omega)).trans a63
  have a64 := (fp54 _ (by omega)).trans a64
  have a69 := (fp54 _ (by omega)).trans a69
  have a74 := (fp54 _ (by omega)).trans a74
  have r41 : ∀ b, 241 ≤ b → b < 245 → hp54.2 b = hp16.2 b := fun b p q => (fp54 b (by omega)).trans (r41 b p q)
  have r45 : ∀ b, 245 ≤ b → b < 249 → hp54.2 b = hp19.2 b := fun b p q => (fp54 b (by omega)).trans (r45 b p q)
  have r50 : ∀ b, 250 ≤ b → b < 253 → hp54.2 b = hp24.2 b := fun b p q => (fp54 b (by omega)).trans (r50 b p q)
  have r53 : ∀ b, 253 ≤ b → b < 256 → hp54.2 b = hp27.2 b := fun b p q => (fp54 b (by omega)).trans (r53 b p q)
  have r56 : ∀ b, 256 ≤ b → b < 259 → hp54.2 b = hp30.2 b := fun b p q => (fp54 b (by omega)).trans (r56 b p q)
  have r59 : ∀ b, 259 ≤ b → b < 1061 → hp54.2 b = hp33.2 b := fun b p q => (fp54 b (by omega)).trans (r59 b p q)
  have r61 : ∀ b, 1061 ≤ b → b < 1863 → hp54.2 b = hp36.2 b := fun b p q => (fp54 b (by omega)).trans (r61 b p q)
  have r65 : ∀ b, 1865 ≤ b → b < 1869 → hp54.2 b = hp45.2 b := fun b p q => (fp54 b (by omega)).trans (r65 b p q)
  have r70 : ∀ b, 1870 ≤ b → b < 1874 → hp54.2 b = hp50.2 b := fun b p q => (fp54 b (by omega)).trans (r70 b p q)
  have hfr : ∀ b, (b < 233) → hp54.2 b = h.2 b := fun b hb => (fp54 b (by omega)).trans (hfr b hb)
  have a75 : hp54.2 _ = some (.inl (0, 200, .inl (fun _ => 0))) := cp54
  refine go_putfF (pc' := 222) dX14_init_219 rfl pf_LandBaseModel_481 (fun _ => rfl) hh (by decide) rfl rfl (fun hp55 zp55 cp55 fp55 => ?_)
  have hz := zp55.trans hz
  have a34 := (fp55 _ (by omega)).trans a34
  have a35 := (fp55 _ (by omega)).trans a35
  have a36 := (fp55 _ (by omega)).trans a36
  have a37 := (fp55 _ (by omega)).trans a37
  have a38 := (fp55 _ (by omega)).trans a38
  have a39 := (fp55 _ (by omega)).trans a39
  have a40 := (fp55 _ (by omega)).trans a40
  have a49 := (fp55 _ (by omega)).trans a49
  have a63 := (fp55 _ (by omega)).trans a63
  have a64 := (fp55 _ (by omega)).trans a64
  have a69 := (fp55 _ (by omega)).trans a69
  have a74 := (fp55 _ (by omega)).trans a74
  have a75 := (fp55 _ (by omega)).trans a75
  have r41 : ∀ b, 241 ≤ b → b < 245 → hp55.2 b = hp16.2 b := fun b p q => (fp55 b (by omega)).trans (r41 b p q)
  have r45 : ∀ b, 245 ≤ b → b < 249 → hp55.2 b = hp19.2 b := fun b p q => (fp55 b (by omega)).trans (r45 b p q)
  have r50 : ∀ b, 250 ≤ b → b < 253 → hp55.2 b = hp24.2 b := fun b p q => (fp55 b (by omega)).trans (r50 b p q)
  have r53 : ∀ b, 253 ≤ b → b < 256 → hp55.2 b = hp27.2 b := fun b p q => (fp55 b (by omega)).trans (r53 b p q)
  have r56 : ∀ b, 256 ≤ b → b < 259 → hp55.2 b = hp30.2 b := fun b p q => (fp55 b (by omega)).trans (r56 b p q)
  have r59 : ∀ b, 259 ≤ b → b < 1061 → hp55.2 b = hp33.2 b := fun b p q => (fp55 b (by omega)).trans (r59 b p q)
  have r61 : ∀ b, 1061 ≤ b → b < 1863 → hp55.2 b = hp36.2 b := fun b p q => (fp55 b (by omega)).trans (r61 b p q)
  have r65 : ∀ b, 1865 ≤ b → b < 1869 → hp55.2 b = hp45.2 b := fun b p q => (fp55 b (by omega)).trans (r65 b p q)
  have r70 : ∀ b, 1870 ≤ b → b < 1874 → hp55.2 b = hp50.2 b := fun b p q => (fp55 b (by omega)).trans (r70 b p q)
  have hfr : ∀ b, (b < 233) → hp55.2 b = h.2 b := fun b hb => (fp55 b (by omega)).trans (hfr b hb)
  have hh := cp55
  refine go_iconst (v := 0) (pc' := 223) dX14_init_222 rfl (by decide) ?_
  refine go_istore_n (i := 1) (pc' := 224) dX14_init_223 rfl rfl (by decide) rfl ?_
  have hz : hp55.1 = (1876, 100311) := hz
  refine g_Model_init rfl 200 0 _ _ rfl hz hh a74 (fun j hj => absurd hj (by omega)) (fun h' f' e1 e2 e3 e4 e5 => ?_)
  refine Go.ret (v := none) dX14_init_250 rfl ⟨trivial, rfl, e1, ⟨⟨_, e2, ⟨rfl, rfl, rfl, rfl, rfl, rfl, rfl, rfl, rfl, rfl, rfl, rfl, rfl, rfl, rfl, rfl, rfl, rfl, rfl, rfl, rfl, rfl⟩, ⟨rfl, rfl, rfl, rfl, rfl, rfl, rfl, rfl, rfl, rfl, rfl, rfl, rfl, rfl, rfl, rfl, rfl, rfl, rfl, rfl, rfl, rfl, rfl, rfl, rfl, rfl, rfl, rfl, rfl, rfl, rfl, rfl, rfl, rfl, rfl, rfl⟩⟩, ⟨(e5 _ (by omega)).trans a34, (e5 _ (by omega)).trans a35, (e5 _ (by omega)).trans a36, (e5 _ (by omega)).trans a37, (e5 _ (by omega)).trans a38, (e5 _ (by omega)).trans a39, (e5 _ (by omega)).trans a40⟩,
    ⟨s41.kept (fun b p q => (e5 b (by omega)).trans (r41 b (by omega) (by omega))), s45.kept (fun b p q => (e5 b (by omega)).trans (r45 b (by omega) (by omega))), (e5 _ (by omega)).trans a49, s50.kept (fun b p q => (e5 b (by omega)).trans (r50 b (by omega) (by omega))), s53.kept (fun b p q => (e5 b (by omega)).trans (r53 b (by omega) (by omega))), s56.kept (fun b p q => (e5 b (by omega)).trans (r56 b (by omega) (by omega))), s59.kept (fun b p q => (e5 b (by omega)).trans (r59 b (by omega) (by omega))), s61.kept (fun b p q => (e5 b (by omega)).trans (r61 b (by omega) (by omega)))⟩,
    ⟨(e5 _ (by omega)).trans a63, (e5 _ (by omega)).trans a64, s65.kept (fun b p q => (e5 b (by omega)).trans (r65 b (by omega) (by omega))), (e5 _ (by omega)).trans a69, s70.kept (fun b p q => (e5 b (by omega)).trans (r70 b (by omega) (by omega))), (e5 _ (by omega)).trans a75⟩, ⟨f', e3, e4⟩⟩, fun b hb => (e5 b (by omega)).trans (hfr b hb)⟩

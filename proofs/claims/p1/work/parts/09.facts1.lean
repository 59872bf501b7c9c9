theorem xin_0 : ∀ w ∈ u_ws RX0 TX0 2, w ∈ xW := by
  have h : (u_ws RX0 TX0 2).all (fun w => decide (w ∈ lw_tbl) && goodWord w) = true := by decide +kernel
  intro w hw
  have h1 := List.all_eq_true.mp h w hw
  simp only [Bool.and_eq_true, decide_eq_true_eq] at h1
  exact xW_in h1.1 h1.2
theorem xin_1 : ∀ w ∈ u_ws RX1 TX1 14, w ∈ xW := by
  have h : (u_ws RX1 TX1 14).all (fun w => decide (w ∈ lw_tbl) && goodWord w) = true := by decide +kernel
  intro w hw
  have h1 := List.all_eq_true.mp h w hw
  simp only [Bool.and_eq_true, decide_eq_true_eq] at h1
  exact xW_in h1.1 h1.2
theorem xin_2 : ∀ w ∈ u_ws RX2 TX2 3, w ∈ xW := by
  have h : (u_ws RX2 TX2 3).all (fun w => decide (w ∈ lw_tbl) && goodWord w) = true := by decide +kernel
  intro w hw
  have h1 := List.all_eq_true.mp h w hw
  simp only [Bool.and_eq_true, decide_eq_true_eq] at h1
  exact xW_in h1.1 h1.2
theorem xin_3 : ∀ w ∈ u_ws RX3 TX3 12, w ∈ xW := by
  have h : (u_ws RX3 TX3 12).all (fun w => decide (w ∈ lw_tbl) && goodWord w) = true := by decide +kernel
  intro w hw
  have h1 := List.all_eq_true.mp h w hw
  simp only [Bool.and_eq_true, decide_eq_true_eq] at h1
  exact xW_in h1.1 h1.2
theorem xin_4 : ∀ w ∈ u_ws RX5 TX5 6, w ∈ xW := by
  have h : (u_ws RX5 TX5 6).all (fun w => decide (w ∈ lw_tbl) && goodWord w) = true := by decide +kernel
  intro w hw
  have h1 := List.all_eq_true.mp h w hw
  simp only [Bool.and_eq_true, decide_eq_true_eq] at h1
  exact xW_in h1.1 h1.2
theorem xin_5 : ∀ w ∈ u_ws RX6 TX6 1, w ∈ xW := by
  have h : (u_ws RX6 TX6 1).all (fun w => decide (w ∈ lw_tbl) && goodWord w) = true := by decide +kernel
  intro w hw
  have h1 := List.all_eq_true.mp h w hw
  simp only [Bool.and_eq_true, decide_eq_true_eq] at h1
  exact xW_in h1.1 h1.2
theorem xin_6 : ∀ w ∈ u_ws RX7 TX7 13, w ∈ xW := by
  have h : (u_ws RX7 TX7 13).all (fun w => decide (w ∈ lw_tbl) && goodWord w) = true := by decide +kernel
  intro w hw
  have h1 := List.all_eq_true.mp h w hw
  simp only [Bool.and_eq_true, decide_eq_true_eq] at h1
  exact xW_in h1.1 h1.2
theorem xin_7 : ∀ w ∈ u_ws RX8 TX8 3, w ∈ xW := by
  have h : (u_ws RX8 TX8 3).all (fun w => decide (w ∈ lw_tbl) && goodWord w) = true := by decide +kernel
  intro w hw
  have h1 := List.all_eq_true.mp h w hw
  simp only [Bool.and_eq_true, decide_eq_true_eq] at h1
  exact xW_in h1.1 h1.2
theorem xin_8 : ∀ w ∈ u_ws RX9 TX9 6, w ∈ xW := by
  have h : (u_ws RX9 TX9 6).all (fun w => decide (w ∈ lw_tbl) && goodWord w) = true := by decide +kernel
  intro w hw
  have h1 := List.all_eq_true.mp h w hw
  simp only [Bool.and_eq_true, decide_eq_true_eq] at h1
  exact xW_in h1.1 h1.2
theorem xin_9 : ∀ w ∈ u_ws RX10 TX10 11, w ∈ xW := by
  have h : (u_ws RX10 TX10 11).all (fun w => decide (w ∈ lw_tbl) && goodWord w) = true := by decide +kernel
  intro w hw
  have h1 := List.all_eq_true.mp h w hw
  simp only [Bool.and_eq_true, decide_eq_true_eq] at h1
  exact xW_in h1.1 h1.2
theorem xin_10 : ∀ w ∈ u_ws RX11 TX11 2, w ∈ xW := by
  have h : (u_ws RX11 TX11 2).all (fun w => decide (w ∈ lw_tbl) && goodWord w) = true := by decide +kernel
  intro w hw
  have h1 := List.all_eq_true.mp h w hw
  simp only [Bool.and_eq_true, decide_eq_true_eq] at h1
  exact xW_in h1.1 h1.2
theorem xin_11 : ∀ w ∈ u_ws RX12 TX12 7, w ∈ xW := by
  have h : (u_ws RX12 TX12 7).all (fun w => decide (w ∈ lw_tbl) && goodWord w) = true := by decide +kernel
  intro w hw
  have h1 := List.all_eq_true.mp h w hw
  simp only [Bool.and_eq_true, decide_eq_true_eq] at h1
  exact xW_in h1.1 h1.2
theorem xin_12 : ∀ w ∈ u_ws RX13 TX13 2, w ∈ xW := by
  have h : (u_ws RX13 TX13 2).all (fun w => decide (w ∈ lw_tbl) && goodWord w) = true := by decide +kernel
  intro w hw
  have h1 := List.all_eq_true.mp h w hw
  simp only [Bool.and_eq_true, decide_eq_true_eq] at h1
  exact xW_in h1.1 h1.2
theorem xin_13 : ∀ w ∈ u_ws RX14 TX14 58, w ∈ xW := by
  have h : (u_ws RX14 TX14 58).all (fun w => decide (w ∈ lw_tbl) && goodWord w) = true := by decide +kernel
  intro w hw
  have h1 := List.all_eq_true.mp h w hw
  simp only [Bool.and_eq_true, decide_eq_true_eq] at h1
  exact xW_in h1.1 h1.2
theorem gf_LandBase_10 : xGf "LandBase" 10 9 0 := ⟨RX10, TX10, 11, rfl, by decide, xin_9, (Or.inl wd_340)⟩
theorem gf_LandBase_26 : xGf "LandBase" 26 9 2 := ⟨RX10, TX10, 11, rfl, by decide, xin_9, (Or.inl wd_342)⟩
theorem gf_LandBase_51 : xGf "LandBase" 51 9 5 := ⟨RX10, TX10, 11, rfl, by decide, xin_9, (Or.inl wd_345)⟩
theorem gf_LandBase_60 : xGf "LandBase" 60 9 7 := ⟨RX10, TX10, 11, rfl, by decide, xin_9, (Or.inl wd_347)⟩
theorem gf_LandBase_63 : xGf "LandBase" 63 9 8 := ⟨RX10, TX10, 11, rfl, by decide, xin_9, (Or.inl wd_348)⟩
theorem gf_LandBase_70 : xGf "LandBase" 70 9 10 := ⟨RX10, TX10, 11, rfl, by decide, xin_9, (Or.inl wd_350)⟩
theorem gf_LandBase_73 : xGf "LandBase" 73 8 1 := ⟨RX9, TX9, 6, rfl, by decide, xin_8, (Or.inr ⟨_, wd_38⟩)⟩
theorem gf_LandBase_80 : xGf "LandBase" 80 3 6 := ⟨RX3, TX3, 12, rfl, by decide, xin_3, (Or.inr ⟨_, wd_212⟩)⟩
theorem gf_LandBase_87 : xGf "LandBase" 87 8 2 := ⟨RX9, TX9, 6, rfl, by decide, xin_8, (Or.inr ⟨_, wd_40⟩)⟩
theorem gf_LandBase_145 : xGf "LandBase" 145 3 0 := ⟨RX3, TX3, 12, rfl, by decide, xin_3, (Or.inr ⟨_, wd_205⟩)⟩
theorem gf_LandBase_149 : xGf "LandBase" 149 7 2 := ⟨RX8, TX8, 3, rfl, by decide, xin_7, (Or.inr ⟨_, wd_194⟩)⟩
theorem gf_LandBase_154 : xGf "LandBase" 154 3 5 := ⟨RX3, TX3, 12, rfl, by decide, xin_3, (Or.inr ⟨_, wd_211⟩)⟩
theorem gf_LandBase_157 : xGf "LandBase" 157 7 0 := ⟨RX8, TX8, 3, rfl, by decide, xin_7, (Or.inr ⟨_, wd_190⟩)⟩
theorem gf_LandBase_164 : xGf "LandBase" 164 6 0 := ⟨RX7, TX7, 13, rfl, by decide, xin_6, (Or.inr ⟨_, wd_78⟩)⟩
theorem gf_LandBase_169 : xGf "LandBase" 169 6 1 := ⟨RX7, TX7, 13, rfl, by decide, xin_6, (Or.inr ⟨_, wd_86⟩)⟩
theorem gf_LandBase_170 : xGf "LandBase" 170 6 2 := ⟨RX7, TX7, 13, rfl, by decide, xin_6, (Or.inr ⟨_, wd_89⟩)⟩
theorem gf_LandBase_195 : xGf "LandBase" 195 3 8 := ⟨RX3, TX3, 12, rfl, by decide, xin_3, (Or.inr ⟨_, wd_216⟩)⟩
theorem gf_LandBase_198 : xGf "LandBase" 198 3 9 := ⟨RX3, TX3, 12, rfl, by decide, xin_3, (Or.inr ⟨_, wd_218⟩)⟩
theorem gf_LandBase_Keeper_12 : xGf "LandBase$Keeper" 12 3 0 := ⟨RX3, TX3, 12, rfl, by decide, xin_3, (Or.inl wd_204)⟩
theorem gf_LandBase_Keeper_18 : xGf "LandBase$Keeper" 18 3 1 := ⟨RX3, TX3, 12, rfl, by decide, xin_3, (Or.inl wd_206)⟩
theorem gf_LandBase_Keeper_41 : xGf "LandBase$Keeper" 41 3 5 := ⟨RX3, TX3, 12, rfl, by decide, xin_3, (Or.inl wd_210)⟩
theorem gf_LandBase_Keeper_45 : xGf "LandBase$Keeper" 45 3 7 := ⟨RX3, TX3, 12, rfl, by decide, xin_3, (Or.inl wd_214)⟩
theorem gf_LandBase_Keeper_69 : xGf "LandBase$Keeper" 69 3 8 := ⟨RX3, TX3, 12, rfl, by decide, xin_3, (Or.inl wd_215)⟩
theorem gf_LandBase_Keeper_75 : xGf "LandBase$Keeper" 75 3 6 := ⟨RX3, TX3, 12, rfl, by decide, xin_3, (Or.inl wd_213)⟩
theorem gf_LandBase_Keeper_84 : xGf "LandBase$Keeper" 84 7 2 := ⟨RX8, TX8, 3, rfl, by decide, xin_7, (Or.inr ⟨_, wd_195⟩)⟩
theorem gf_LandBase_Table_9 : xGf "LandBase$Table" 9 7 0 := ⟨RX8, TX8, 3, rfl, by decide, xin_7, (Or.inl wd_189)⟩
theorem gf_LandBase_Table_17 : xGf "LandBase$Table" 17 7 1 := ⟨RX8, TX8, 3, rfl, by decide, xin_7, (Or.inl wd_191)⟩
theorem gf_LandBase_Table_21 : xGf "LandBase$Table" 21 7 2 := ⟨RX8, TX8, 3, rfl, by decide, xin_7, (Or.inl wd_193)⟩
theorem gf_LandBase_Tape_9 : xGf "LandBase$Tape" 9 8 0 := ⟨RX9, TX9, 6, rfl, by decide, xin_8, (Or.inl wd_36)⟩
theorem gf_LandBase_Tape_15 : xGf "LandBase$Tape" 15 8 1 := ⟨RX9, TX9, 6, rfl, by decide, xin_8, (Or.inl wd_37)⟩
theorem gf_LandBase_Tape_19 : xGf "LandBase$Tape" 19 8 4 := ⟨RX9, TX9, 6, rfl, by decide, xin_8, (Or.inl wd_44)⟩
theorem gf_LandBaseModel_318 : xGf "LandBaseModel" 318 13 33 := ⟨RX14, TX14, 58, rfl, by decide, xin_13, (Or.inl wd_1089)⟩
theorem gf_LandBaseModel_321 : xGf "LandBaseModel" 321 13 32 := ⟨RX14, TX14, 58, rfl, by decide, xin_13, (Or.inl wd_1088)⟩
theorem gf_LandBaseModel_332 : xGf "LandBaseModel" 332 13 35 := ⟨RX14, TX14, 58, rfl, by decide, xin_13, (Or.inl wd_1091)⟩
theorem gf_LandBaseModel_335 : xGf "LandBaseModel" 335 13 36 := ⟨RX14, TX14, 58, rfl, by decide, xin_13, (Or.inl wd_1092)⟩
theorem gf_LandBaseModel_347 : xGf "LandBaseModel" 347 13 31 := ⟨RX14, TX14, 58, rfl, by decide, xin_13, (Or.inl wd_1087)⟩
theorem gf_LandBaseModel_351 : xGf "LandBaseModel" 351 13 30 := ⟨RX14, TX14, 58, rfl, by decide, xin_13, (Or.inl wd_1086)⟩
theorem gf_LandBaseModel_359 : xGf "LandBaseModel" 359 13 43 := ⟨RX14, TX14, 58, rfl, by decide, xin_13, (Or.inl wd_1099)⟩
theorem gf_LandBaseModel_362 : xGf "LandBaseModel" 362 13 44 := ⟨RX14, TX14, 58, rfl, by decide, xin_13, (Or.inl wd_1100)⟩
theorem gf_LandBaseModel_370 : xGf "LandBaseModel" 370 13 42 := ⟨RX14, TX14, 58, rfl, by decide, xin_13, (Or.inl wd_1098)⟩
theorem gf_LandBaseModel_373 : xGf "LandBaseModel" 373 13 40 := ⟨RX14, TX14, 58, rfl, by decide, xin_13, (Or.inl wd_1096)⟩
theorem gf_LandBaseModel_376 : xGf "LandBaseModel" 376 13 39 := ⟨RX14, TX14, 58, rfl, by decide, xin_13, (Or.inl wd_1095)⟩
theorem gf_LandBaseModel_379 : xGf "LandBaseModel" 379 13 41 := ⟨RX14, TX14, 58, rfl, by decide, xin_13, (Or.inl wd_1097)⟩
theorem gf_LandBaseModel_385 : xGf "LandBaseModel" 385 13 45 := ⟨RX14, TX14, 58, rfl, by decide, xin_13, (Or.inl wd_1101)⟩
theorem gf_LandBaseModel_477 : xGf "LandBaseModel" 477 13 54 := ⟨RX14, TX14, 58, rfl, by decide, xin_13, (Or.inl wd_1110)⟩
theorem gf_LandBaseModel_581 : xGf "LandBaseModel" 581 12 1 := ⟨RX13, TX13, 2, rfl, by decide, xin_12, (Or.inl wd_1049)⟩
theorem gf_LandBaseModel_State_11 : xGf "LandBaseModel$State" 11 12 0 := ⟨RX13, TX13, 2, rfl, by decide, xin_12, (Or.inl wd_1046)⟩
theorem gf_LandBaseModel_State_18 : xGf "LandBaseModel$State" 18 12 1 := ⟨RX13, TX13, 2, rfl, by decide, xin_12, (Or.inl wd_1048)⟩
theorem pf_LandBase_10 : xPf "LandBase" 10 9 0 (.object "LandBase$Tape") true := ⟨RX10, TX10, 11, tyX10, rfl, by decide, xin_9, tyX10_ok, nmX10, rfl, by decide +kernel, (fun _ => ⟨rfl, wd_340⟩), (Or.inl wd_340)⟩
theorem pf_LandBase_19 : xPf "LandBase" 19 9 1 (.object "LandBase$Reader") true := ⟨RX10, TX10, 11, tyX10, rfl, by decide, xin_9, tyX10_ok, nmX10, rfl, by decide +kernel, (fun _ => ⟨rfl, wd_341⟩), (Or.inl wd_341)⟩
theorem pf_LandBase_26 : xPf "LandBase" 26 9 2 (.object "LandBase$Keeper") true := ⟨RX10, TX10, 11, tyX10, rfl, by decide, xin_9, tyX10_ok, nmX10, rfl, by decide +kernel, (fun _ => ⟨rfl, wd_342⟩), (Or.inl wd_342)⟩
theorem pf_LandBase_38 : xPf "LandBase" 38 9 3 (.object "LandBase$Checker") true := ⟨RX10, TX10, 11, tyX10, rfl, by decide, xin_9, tyX10_ok, nmX10, rfl, by decide +kernel, (fun _ => ⟨rfl, wd_343⟩), (Or.inl wd_343)⟩
theorem pf_LandBase_45 : xPf "LandBase" 45 9 4 (.object "LandBase$Relations") true := ⟨RX10, TX10, 11, tyX10, rfl, by decide, xin_9, tyX10_ok, nmX10, rfl, by decide +kernel, (fun _ => ⟨rfl, wd_344⟩), (Or.inl wd_344)⟩
theorem pf_LandBase_51 : xPf "LandBase" 51 9 5 (.array (.object "LandBase$Distance")) true := ⟨RX10, TX10, 11, tyX10, rfl, by decide, xin_9, tyX10_ok, nmX10, rfl, by decide +kernel, (fun _ => ⟨rfl, wd_345⟩), (Or.inl wd_345)⟩
theorem pf_LandBase_56 : xPf "LandBase" 56 9 6 (.array .int) true := ⟨RX10, TX10, 11, tyX10, rfl, by decide, xin_9, tyX10_ok, nmX10, rfl, by decide +kernel, (fun _ => ⟨rfl, wd_346⟩), (Or.inl wd_346)⟩
theorem pf_LandBase_60 : xPf "LandBase" 60 9 7 (.array .int) true := ⟨RX10, TX10, 11, tyX10, rfl, by decide, xin_9, tyX10_ok, nmX10, rfl, by decide +kernel, (fun _ => ⟨rfl, wd_347⟩), (Or.inl wd_347)⟩
theorem pf_LandBase_63 : xPf "LandBase" 63 9 8 .int false := ⟨RX10, TX10, 11, tyX10, rfl, by decide, xin_9, tyX10_ok, nmX10, rfl, by decide +kernel, (fun h => by cases h), (Or.inl wd_348)⟩
theorem pf_LandBase_67 : xPf "LandBase" 67 9 9 .int false := ⟨RX10, TX10, 11, tyX10, rfl, by decide, xin_9, tyX10_ok, nmX10, rfl, by decide +kernel, (fun h => by cases h), (Or.inl wd_349)⟩
theorem pf_LandBase_70 : xPf "LandBase" 70 9 10 .int false := ⟨RX10, TX10, 11, tyX10, rfl, by decide, xin_9, tyX10_ok, nmX10, rfl, by decide +kernel, (fun h => by cases h), (Or.inl wd_350)⟩
theorem pf_LandBase_73 : xPf "LandBase" 73 8 1 .int false := ⟨RX9, TX9, 6, tyX9, rfl, by decide, xin_8, tyX9_ok, nmX9, rfl, by decide +kernel, (fun h => by cases h), (Or.inr ⟨_, wd_38⟩)⟩
theorem pf_LandBase_136 : xPf "LandBase" 136 3 10 .int false := ⟨RX3, TX3, 12, tyX3, rfl, by decide, xin_3, tyX3_ok, nmX3, rfl, by decide +kernel, (fun h => by cases h), (Or.inr ⟨_, wd_220⟩)⟩
theorem pf_LandBase_139 : xPf "LandBase" 139 3 11 .int false := ⟨RX3, TX3, 12, tyX3, rfl, by decide, xin_3, tyX3_ok, nmX3, rfl, by decide +kernel, (fun h => by cases h), (Or.inr ⟨_, wd_221⟩)⟩
theorem pf_LandBase_Checker_9 : xPf "LandBase$Checker" 9 0 0 (.object "LandBase$Cutter") true := ⟨RX0, TX0, 2, tyX0, rfl, by decide, xin_0, tyX0_ok, nmX0, rfl, by decide +kernel, (fun _ => ⟨rfl, wd_306⟩), (Or.inl wd_306)⟩
theorem pf_LandBase_Checker_15 : xPf "LandBase$Checker" 15 0 1 (.array .int) true := ⟨RX0, TX0, 2, tyX0, rfl, by decide, xin_0, tyX0_ok, nmX0, rfl, by decide +kernel, (fun _ => ⟨rfl, wd_307⟩), (Or.inl wd_307)⟩
theorem pf_LandBase_Cutter_12 : xPf "LandBase$Cutter" 12 1 0 (.object "LandBase$Shape") false := ⟨RX1, TX1, 14, tyX1, rfl, by decide, xin_1, tyX1_ok, nmX1, rfl, by decide +kernel, (fun h => by cases h), (Or.inl wd_256)⟩
theorem pf_LandBase_Cutter_18 : xPf "LandBase$Cutter" 18 1 7 (.array .long) true := ⟨RX1, TX1, 14, tyX1, rfl, by decide, xin_1, tyX1_ok, nmX1, rfl, by decide +kernel, (fun _ => ⟨rfl, wd_263⟩), (Or.inl wd_263)⟩
theorem pf_LandBase_Cutter_22 : xPf "LandBase$Cutter" 22 1 8 (.array .long) true := ⟨RX1, TX1, 14, tyX1, rfl, by decide, xin_1, tyX1_ok, nmX1, rfl, by decide +kernel, (fun _ => ⟨rfl, wd_264⟩), (Or.inl wd_264)⟩
theorem pf_LandBase_Cutter_25 : xPf "LandBase$Cutter" 25 1 9 (.array .int) true := ⟨RX1, TX1, 14, tyX1, rfl, by decide, xin_1, tyX1_ok, nmX1, rfl, by decide +kernel, (fun _ => ⟨rfl, wd_265⟩), (Or.inl wd_265)⟩
theorem pf_LandBase_Distance_9 : xPf "LandBase$Distance" 9 2 2 .long false := ⟨RX2, TX2, 3, tyX2, rfl, by decide, xin_2, tyX2_ok, nmX2, rfl, by decide +kernel, (fun h => by cases h), (Or.inl wd_332)⟩
theorem pf_LandBase_Keeper_12 : xPf "LandBase$Keeper" 12 3 0 (.object "LandBase$Table") true := ⟨RX3, TX3, 12, tyX3, rfl, by decide, xin_3, tyX3_ok, nmX3, rfl, by decide +kernel, (fun _ => ⟨rfl, wd_204⟩), (Or.inl wd_204)⟩
theorem pf_LandBase_Keeper_18 : xPf "LandBase$Keeper" 18 3 1 (.object "LandBase$Table") true := ⟨RX3, TX3, 12, tyX3, rfl, by decide, xin_3, tyX3_ok, nmX3, rfl, by decide +kernel, (fun _ => ⟨rfl, wd_206⟩), (Or.inl wd_206)⟩
theorem pf_LandBase_Keeper_23 : xPf "LandBase$Keeper" 23 3 2 (.array (.object "LandBase$Shape")) true := ⟨RX3, TX3, 12, tyX3, rfl, by decide, xin_3, tyX3_ok, nmX3, rfl, by decide +kernel, (fun _ => ⟨rfl, wd_207⟩), (Or.inl wd_207)⟩
theorem pf_LandBase_Keeper_27 : xPf "LandBase$Keeper" 27 3 10 .int false := ⟨RX3, TX3, 12, tyX3, rfl, by decide, xin_3, tyX3_ok, nmX3, rfl, by decide +kernel, (fun h => by cases h), (Or.inl wd_219)⟩
theorem pf_LandBase_Keeper_41 : xPf "LandBase$Keeper" 41 3 5 .boolean false := ⟨RX3, TX3, 12, tyX3, rfl, by decide, xin_3, tyX3_ok, nmX3, rfl, by decide +kernel, (fun h => by cases h), (Or.inl wd_210)⟩
theorem pf_LandBase_Keeper_75 : xPf "LandBase$Keeper" 75 3 6 .boolean false := ⟨RX3, TX3, 12, tyX3, rfl, by decide, xin_3, tyX3_ok, nmX3, rfl, by decide +kernel, (fun h => by cases h), (Or.inl wd_213)⟩
theorem pf_LandBase_Reader_11 : xPf "LandBase$Reader" 11 4 0 (.array .int) true := ⟨RX5, TX5, 6, tyX5, rfl, by decide, xin_4, tyX5_ok, nmX5, rfl, by decide +kernel, (fun _ => ⟨rfl, wd_151⟩), (Or.inl wd_151)⟩
theorem pf_LandBase_Reader_18 : xPf "LandBase$Reader" 18 4 1 (.object "LandBase$Shape") true := ⟨RX5, TX5, 6, tyX5, rfl, by decide, xin_4, tyX5_ok, nmX5, rfl, by decide +kernel, (fun _ => ⟨rfl, wd_153⟩), (Or.inl wd_153)⟩
theorem pf_LandBase_Relations_9 : xPf "LandBase$Relations" 9 5 0 (.object "LandBase$Cutter") true := ⟨RX6, TX6, 1, tyX6, rfl, by decide, xin_5, tyX6_ok, nmX6, rfl, by decide +kernel, (fun _ => ⟨rfl, wd_319⟩), (Or.inl wd_319)⟩
theorem pf_LandBase_Shape_9 : xPf "LandBase$Shape" 9 6 9 (.array .int) true := ⟨RX7, TX7, 13, tyX7, rfl, by decide, xin_6, tyX7_ok, nmX7, rfl, by decide +kernel, (fun _ => ⟨rfl, wd_102⟩), (Or.inl wd_102)⟩
theorem pf_LandBase_Shape_15 : xPf "LandBase$Shape" 15 6 10 (.array .int) true := ⟨RX7, TX7, 13, tyX7, rfl, by decide, xin_6, tyX7_ok, nmX7, rfl, by decide +kernel, (fun _ => ⟨rfl, wd_109⟩), (Or.inl wd_109)⟩
theorem pf_LandBase_Shape_18 : xPf "LandBase$Shape" 18 6 11 (.array .int) true := ⟨RX7, TX7, 13, tyX7, rfl, by decide, xin_6, tyX7_ok, nmX7, rfl, by decide +kernel, (fun _ => ⟨rfl, wd_116⟩), (Or.inl wd_116)⟩
theorem pf_LandBase_Shape_21 : xPf "LandBase$Shape" 21 6 12 (.array .boolean) true := ⟨RX7, TX7, 13, tyX7, rfl, by decide, xin_6, tyX7_ok, nmX7, rfl, by decide +kernel, (fun _ => ⟨rfl, wd_118⟩), (Or.inl wd_118)⟩
theorem pf_LandBase_Table_9 : xPf "LandBase$Table" 9 7 0 (.array .int) true := ⟨RX8, TX8, 3, tyX8, rfl, by decide, xin_7, tyX8_ok, nmX8, rfl, by decide +kernel, (fun _ => ⟨rfl, wd_189⟩), (Or.inl wd_189)⟩
theorem pf_LandBase_Table_17 : xPf "LandBase$Table" 17 7 1 (.array (.object "LandBase$Shape")) true := ⟨RX8, TX8, 3, tyX8, rfl, by decide, xin_7, tyX8_ok, nmX8, rfl, by decide +kernel, (fun _ => ⟨rfl, wd_191⟩), (Or.inl wd_191)⟩
theorem pf_LandBase_Table_21 : xPf "LandBase$Table" 21 7 2 .int false := ⟨RX8, TX8, 3, tyX8, rfl, by decide, xin_7, tyX8_ok, nmX8, rfl, by decide +kernel, (fun h => by cases h), (Or.inl wd_193)⟩
theorem pf_LandBase_Tape_9 : xPf "LandBase$Tape" 9 8 0 (.array .byte) true := ⟨RX9, TX9, 6, tyX9, rfl, by decide, xin_8, tyX9_ok, nmX9, rfl, by decide +kernel, (fun _ => ⟨rfl, wd_36⟩), (Or.inl wd_36)⟩
theorem pf_LandBase_Tape_15 : xPf "LandBase$Tape" 15 8 1 .int false := ⟨RX9, TX9, 6, tyX9, rfl, by decide, xin_8, tyX9_ok, nmX9, rfl, by decide +kernel, (fun h => by cases h), (Or.inl wd_37)⟩
theorem pf_LandBase_Tape_19 : xPf "LandBase$Tape" 19 8 4 .int false := ⟨RX9, TX9, 6, tyX9, rfl, by decide, xin_8, tyX9_ok, nmX9, rfl, by decide +kernel, (fun h => by cases h), (Or.inl wd_44)⟩
theorem pf_LandBase_Tape_25 : xPf "LandBase$Tape" 25 8 3 .int false := ⟨RX9, TX9, 6, tyX9, rfl, by decide, xin_8, tyX9_ok, nmX9, rfl, by decide +kernel, (fun h => by cases h), (Or.inl wd_43)⟩
theorem pf_LandBase_Tape_28 : xPf "LandBase$Tape" 28 8 2 .int false := ⟨RX9, TX9, 6, tyX9, rfl, by decide, xin_8, tyX9_ok, nmX9, rfl, by decide +kernel, (fun h => by cases h), (Or.inl wd_41)⟩
theorem pf_LandBaseModel_5 : xPf "LandBaseModel" 5 13 0 (.array .long) true := ⟨RX14, TX14, 58, tyX14, rfl, by decide, xin_13, tyX14_ok, nmX14, rfl, by decide +kernel, (fun _ => ⟨rfl, wd_1056⟩), (Or.inl wd_1056)⟩
theorem pf_LandBaseModel_13 : xPf "LandBaseModel" 13 13 1 (.array .long) true := ⟨RX14, TX14, 58, tyX14, rfl, by decide, xin_13, tyX14_ok, nmX14, rfl, by decide +kernel, (fun _ => ⟨rfl, wd_1057⟩), (Or.inl wd_1057)⟩
theorem pf_LandBaseModel_16 : xPf "LandBaseModel" 16 13 2 (.array .long) true := ⟨RX14, TX14, 58, tyX14, rfl, by decide, xin_13, tyX14_ok, nmX14, rfl, by decide +kernel, (fun _ => ⟨rfl, wd_1058⟩), (Or.inl wd_1058)⟩
theorem pf_LandBaseModel_23 : xPf "LandBaseModel" 23 13 3 (.array .long) true := ⟨RX14, TX14, 58, tyX14, rfl, by decide, xin_13, tyX14_ok, nmX14, rfl, by decide +kernel, (fun _ => ⟨rfl, wd_1059⟩), (Or.inl wd_1059)⟩
theorem pf_LandBaseModel_111 : xPf "LandBaseModel" 111 13 14 (.array .long) true := ⟨RX14, TX14, 58, tyX14, rfl, by decide, xin_13, tyX14_ok, nmX14, rfl, by decide +kernel, (fun _ => ⟨rfl, wd_1070⟩), (Or.inl wd_1070)⟩
theorem pf_LandBaseModel_117 : xPf "LandBaseModel" 117 13 15 (.array .long) true := ⟨RX14, TX14, 58, tyX14, rfl, by decide, xin_13, tyX14_ok, nmX14, rfl, by decide +kernel, (fun _ => ⟨rfl, wd_1071⟩), (Or.inl wd_1071)⟩
theorem pf_LandBaseModel_156 : xPf "LandBaseModel" 156 13 23 (.array .boolean) true := ⟨RX14, TX14, 58, tyX14, rfl, by decide, xin_13, tyX14_ok, nmX14, rfl, by decide +kernel, (fun _ => ⟨rfl, wd_1079⟩), (Or.inl wd_1079)⟩
theorem pf_LandBaseModel_254 : xPf "LandBaseModel" 254 13 24 (.object "LandBaseModel$Shape") true := ⟨RX14, TX14, 58, tyX14, rfl, by decide, xin_13, tyX14_ok, nmX14, rfl, by decide +kernel, (fun _ => ⟨rfl, wd_1080⟩), (Or.inl wd_1080)⟩
theorem pf_LandBaseModel_262 : xPf "LandBaseModel" 262 13 25 (.object "LandBaseModel$Shape") true := ⟨RX14, TX14, 58, tyX14, rfl, by decide, xin_13, tyX14_ok, nmX14, rfl, by decide +kernel, (fun _ => ⟨rfl, wd_1081⟩), (Or.inl wd_1081)⟩
theorem pf_LandBaseModel_265 : xPf "LandBaseModel" 265 13 26 (.array .int) true := ⟨RX14, TX14, 58, tyX14, rfl, by decide, xin_13, tyX14_ok, nmX14, rfl, by decide +kernel, (fun _ => ⟨rfl, wd_1082⟩), (Or.inl wd_1082)⟩
theorem pf_LandBaseModel_296 : xPf "LandBaseModel" 296 13 27 (.object "LandBaseModel$Distance") true := ⟨RX14, TX14, 58, tyX14, rfl, by decide, xin_13, tyX14_ok, nmX14, rfl, by decide +kernel, (fun _ => ⟨rfl, wd_1083⟩), (Or.inl wd_1083)⟩
theorem pf_LandBaseModel_318 : xPf "LandBaseModel" 318 13 33 .boolean false := ⟨RX14, TX14, 58, tyX14, rfl, by decide, xin_13, tyX14_ok, nmX14, rfl, by decide +kernel, (fun h => by cases h), (Or.inl wd_1089)⟩
theorem pf_LandBaseModel_321 : xPf "LandBaseModel" 321 13 32 .boolean false := ⟨RX14, TX14, 58, tyX14, rfl, by decide, xin_13, tyX14_ok, nmX14, rfl, by decide +kernel, (fun h => by cases h), (Or.inl wd_1088)⟩
theorem pf_LandBaseModel_323 : xPf "LandBaseModel" 323 13 37 .int false := ⟨RX14, TX14, 58, tyX14, rfl, by decide, xin_13, tyX14_ok, nmX14, rfl, by decide +kernel, (fun h => by cases h), (Or.inl wd_1093)⟩
theorem pf_LandBaseModel_326 : xPf "LandBaseModel" 326 13 38 .int false := ⟨RX14, TX14, 58, tyX14, rfl, by decide, xin_13, tyX14_ok, nmX14, rfl, by decide +kernel, (fun h => by cases h), (Or.inl wd_1094)⟩
theorem pf_LandBaseModel_338 : xPf "LandBaseModel" 338 13 34 .int false := ⟨RX14, TX14, 58, tyX14, rfl, by decide, xin_13, tyX14_ok, nmX14, rfl, by decide +kernel, (fun h => by cases h), (Or.inl wd_1090)⟩
theorem pf_LandBaseModel_347 : xPf "LandBaseModel" 347 13 31 (.object "LandBaseModel$State") true := ⟨RX14, TX14, 58, tyX14, rfl, by decide, xin_13, tyX14_ok, nmX14, rfl, by decide +kernel, (fun _ => ⟨rfl, wd_1087⟩), (Or.inl wd_1087)⟩
theorem pf_LandBaseModel_351 : xPf "LandBaseModel" 351 13 30 (.object "LandBaseModel$State") true := ⟨RX14, TX14, 58, tyX14, rfl, by decide, xin_13, tyX14_ok, nmX14, rfl, by decide +kernel, (fun _ => ⟨rfl, wd_1086⟩), (Or.inl wd_1086)⟩
theorem pf_LandBaseModel_359 : xPf "LandBaseModel" 359 13 43 (.array .int) true := ⟨RX14, TX14, 58, tyX14, rfl, by decide, xin_13, tyX14_ok, nmX14, rfl, by decide +kernel, (fun _ => ⟨rfl, wd_1099⟩), (Or.inl wd_1099)⟩
theorem pf_LandBaseModel_362 : xPf "LandBaseModel" 362 13 44 .int false := ⟨RX14, TX14, 58, tyX14, rfl, by decide, xin_13, tyX14_ok, nmX14, rfl, by decide +kernel, (fun h => by cases h), (Or.inl wd_1100)⟩
theorem pf_LandBaseModel_365 : xPf "LandBaseModel" 365 13 48 .boolean false := ⟨RX14, TX14, 58, tyX14, rfl, by decide, xin_13, tyX14_ok, nmX14, rfl, by decide +kernel, (fun h => by cases h), (Or.inl wd_1104)⟩
theorem pf_LandBaseModel_368 : xPf "LandBaseModel" 368 13 46 .int false := ⟨RX14, TX14, 58, tyX14, rfl, by decide, xin_13, tyX14_ok, nmX14, rfl, by decide +kernel, (fun h => by cases h), (Or.inl wd_1102)⟩
theorem pf_LandBaseModel_370 : xPf "LandBaseModel" 370 13 42 .int false := ⟨RX14, TX14, 58, tyX14, rfl, by decide, xin_13, tyX14_ok, nmX14, rfl, by decide +kernel, (fun h => by cases h), (Or.inl wd_1098)⟩
theorem pf_LandBaseModel_373 : xPf "LandBaseModel" 373 13 40 .int false := ⟨RX14, TX14, 58, tyX14, rfl, by decide, xin_13, tyX14_ok, nmX14, rfl, by decide +kernel, (fun h => by cases h), (Or.inl wd_1096)⟩
theorem pf_LandBaseModel_376 : xPf "LandBaseModel" 376 13 39 (.array .int) true := ⟨RX14, TX14, 58, tyX14, rfl, by decide, xin_13, tyX14_ok, nmX14, rfl, by decide +kernel, (fun _ => ⟨rfl, wd_1095⟩), (Or.inl wd_1095)⟩
theorem pf_LandBaseModel_379 : xPf "LandBaseModel" 379 13 41 .int false := ⟨RX14, TX14, 58, tyX14, rfl, by decide, xin_13, tyX14_ok, nmX14, rfl, by decide +kernel, (fun h => by cases h), (Or.inl wd_1097)⟩
theorem pf_LandBaseModel_385 : xPf "LandBaseModel" 385 13 45 .int false := ⟨RX14, TX14, 58, tyX14, rfl, by decide, xin_13, tyX14_ok, nmX14, rfl, by decide +kernel, (fun h => by cases h), (Or.inl wd_1101)⟩
theorem pf_LandBaseModel_432 : xPf "LandBaseModel" 432 13 49 (.object "LandBaseModel$Shape") true := ⟨RX14, TX14, 58, tyX14, rfl, by decide, xin_13, tyX14_ok, nmX14, rfl, by decide +kernel, (fun _ => ⟨rfl, wd_1105⟩), (Or.inl wd_1105)⟩
theorem pf_LandBaseModel_464 : xPf "LandBaseModel" 464 13 28 (.object "LandBaseModel$Distance") true := ⟨RX14, TX14, 58, tyX14, rfl, by decide, xin_13, tyX14_ok, nmX14, rfl, by decide +kernel, (fun _ => ⟨rfl, wd_1084⟩), (Or.inl wd_1084)⟩
theorem pf_LandBaseModel_467 : xPf "LandBaseModel" 467 13 29 (.object "LandBaseModel$Distance") true := ⟨RX14, TX14, 58, tyX14, rfl, by decide, xin_13, tyX14_ok, nmX14, rfl, by decide +kernel, (fun _ => ⟨rfl, wd_1085⟩), (Or.inl wd_1085)⟩
theorem pf_LandBaseModel_471 : xPf "LandBaseModel" 471 13 52 (.array .int) true := ⟨RX14, TX14, 58, tyX14, rfl, by decide, xin_13, tyX14_ok, nmX14, rfl, by decide +kernel, (fun _ => ⟨rfl, wd_1108⟩), (Or.inl wd_1108)⟩
theorem pf_LandBaseModel_474 : xPf "LandBaseModel" 474 13 53 (.object "LandBaseModel$Shape") true := ⟨RX14, TX14, 58, tyX14, rfl, by decide, xin_13, tyX14_ok, nmX14, rfl, by decide +kernel, (fun _ => ⟨rfl, wd_1109⟩), (Or.inl wd_1109)⟩
theorem pf_LandBaseModel_477 : xPf "LandBaseModel" 477 13 54 (.array (.object "LandBaseModel$Distance")) true := ⟨RX14, TX14, 58, tyX14, rfl, by decide, xin_13, tyX14_ok, nmX14, rfl, by decide +kernel, (fun _ => ⟨rfl, wd_1110⟩), (Or.inl wd_1110)⟩
theorem pf_LandBaseModel_481 : xPf "LandBaseModel" 481 13 55 (.array .int) true := ⟨RX14, TX14, 58, tyX14, rfl, by decide, xin_13, tyX14_ok, nmX14, rfl, by decide +kernel, (fun _ => ⟨rfl, wd_1111⟩), (Or.inl wd_1111)⟩
theorem pf_LandBaseModel_Distance_9 : xPf "LandBaseModel$Distance" 9 10 0 (.array .long) true := ⟨RX11, TX11, 2, tyX11, rfl, by decide, xin_10, tyX11_ok, nmX11, rfl, by decide +kernel, (fun _ => ⟨rfl, wd_1028⟩), (Or.inl wd_1028)⟩
theorem pf_LandBaseModel_Distance_15 : xPf "LandBaseModel$Distance" 15 10 1 (.array .long) true := ⟨RX11, TX11, 2, tyX11, rfl, by decide, xin_10, tyX11_ok, nmX11, rfl, by decide +kernel, (fun _ => ⟨rfl, wd_1030⟩), (Or.inl wd_1030)⟩
theorem pf_LandBaseModel_Shape_9 : xPf "LandBaseModel$Shape" 9 11 4 (.array .int) true := ⟨RX12, TX12, 7, tyX12, rfl, by decide, xin_11, tyX12_ok, nmX12, rfl, by decide +kernel, (fun _ => ⟨rfl, wd_1001⟩), (Or.inl wd_1001)⟩
theorem pf_LandBaseModel_Shape_15 : xPf "LandBaseModel$Shape" 15 11 5 (.array .int) true := ⟨RX12, TX12, 7, tyX12, rfl, by decide, xin_11, tyX12_ok, nmX12, rfl, by decide +kernel, (fun _ => ⟨rfl, wd_1003⟩), (Or.inl wd_1003)⟩
theorem pf_LandBaseModel_Shape_18 : xPf "LandBaseModel$Shape" 18 11 6 (.array .int) true := ⟨RX12, TX12, 7, tyX12, rfl, by decide, xin_11, tyX12_ok, nmX12, rfl, by decide +kernel, (fun _ => ⟨rfl, wd_1005⟩), (Or.inl wd_1005)⟩
theorem pf_LandBaseModel_State_11 : xPf "LandBaseModel$State" 11 12 0 (.array (.object "LandBaseModel$Shape")) true := ⟨RX13, TX13, 2, tyX13, rfl, by decide, xin_12, tyX13_ok, nmX13, rfl, by decide +kernel, (fun _ => ⟨rfl, wd_1046⟩), (Or.inl wd_1046)⟩
theorem pf_LandBaseModel_State_18 : xPf "LandBaseModel$State" 18 12 1 .int false := ⟨RX13, TX13, 2, tyX13, rfl, by decide, xin_12, tyX13_ok, nmX13, rfl, by decide +kernel, (fun h => by cases h), (Or.inl wd_1048)⟩
theorem nw_LandBase_7 : xNw "LandBase" 7 8 6 [.null, .int 0, .int 0, .int 0, .int 0, .int 0] := ⟨RX9, TX9, tyX9, rfl, xin_8, tyX9_ok, wd_30, wd_31, wd_2, by decide +kernel⟩
theorem nw_LandBase_16 : xNw "LandBase" 16 4 6 [.null, .null, .int 0, .int 0, .int 0, .int 0] := ⟨RX5, TX5, tyX5, rfl, xin_4, tyX5_ok, wd_61, wd_62, wd_3, by decide +kernel⟩
theorem nw_LandBase_23 : xNw "LandBase" 23 3 12 [.null, .null, .null, .int 0, .int 0, .int 0, .int 0, .int 0, .int 0, .int 0, .int 0, .int 0] := ⟨RX3, TX3, tyX3, rfl, xin_3, tyX3_ok, wd_175, wd_176, wd_5, by decide +kernel⟩
theorem nw_LandBase_30 : xNw "LandBase" 30 1 14 [.null, .int 0, .int 0, .int 0, .int 0, .int 0, .int 0, .null, .null, .null, .int 0, .int 0, .int 0, .int 0] := ⟨RX1, TX1, tyX1, rfl, xin_1, tyX1_ok, wd_248, wd_249, wd_7, by decide +kernel⟩
theorem nw_LandBase_33 : xNw "LandBase" 33 0 2 [.null, .null] := ⟨RX0, TX0, tyX0, rfl, xin_0, tyX0_ok, wd_300, wd_301, wd_8, by decide +kernel⟩
theorem nw_LandBase_42 : xNw "LandBase" 42 5 1 [.null] := ⟨RX6, TX6, tyX6, rfl, xin_5, tyX6_ok, wd_313, wd_314, wd_9, by decide +kernel⟩
theorem nw_LandBase_49 : xNw "LandBase" 49 2 3 [.long 0, .long 0, .long 0] := ⟨RX2, TX2, tyX2, rfl, xin_2, tyX2_ok, wd_323, wd_325, wd_10, by decide +kernel⟩
theorem nw_LandBase_Cutter_9 : xNw "LandBase$Cutter" 9 6 13 [.int 0, .int 0, .int 0, .int 0, .int 0, .int 0, .int 0, .int 0, .int 0, .null, .null, .null, .null] := ⟨RX7, TX7, tyX7, rfl, xin_6, tyX7_ok, wd_254, wd_68, wd_4, by decide +kernel⟩
theorem nw_LandBase_Keeper_9 : xNw "LandBase$Keeper" 9 7 3 [.null, .null, .int 0] := ⟨RX8, TX8, tyX8, rfl, xin_7, tyX8_ok, wd_181, wd_182, wd_6, by decide +kernel⟩
theorem nw_LandBase_Reader_15 : xNw "LandBase$Reader" 15 6 13 [.int 0, .int 0, .int 0, .int 0, .int 0, .int 0, .int 0, .int 0, .int 0, .null, .null, .null, .null] := ⟨RX7, TX7, tyX7, rfl, xin_6, tyX7_ok, wd_67, wd_68, wd_4, by decide +kernel⟩
theorem nw_LandBaseLaw_7 : xNw "LandBaseLaw" 7 9 11 [.null, .null, .null, .null, .null, .null, .null, .null, .int 0, .int 0, .int 0] := ⟨RX10, TX10, tyX10, rfl, xin_9, tyX10_ok, wd_22, wd_23, wd_1, by decide +kernel⟩
theorem nw_LandBaseLaw_10 : xNw "LandBaseLaw" 10 13 58 [.null, .null, .null, .null, .int 0, .int 0, .int 0, .int 0, .int 0, .int 0, .long 0, .long 0, .long 0, .int 0, .null, .null, .int 0, .int 0, .int 0, .int 0, .long 0, .long 0, .int 0, .null, .null, .null, .null, .null, .null, .null, .null, .null, .int 0, .int 0, .int 0, .int 0, .int 0, .int 0, .int 0, .null, .int 0, .int 0, .int 0, .null, .int 0, .int 0, .int 0, .int 0, .int 0, .null, .int 0, .int 0, .null, .null, .null, .null, .int 0, .int 0] := ⟨RX14, TX14, tyX14, rfl, xin_13, tyX14_ok, wd_980, wd_981, wd_11, by decide +kernel⟩
theorem nw_LandBaseModel_31 : xNw "LandBaseModel" 31 11 7 [.int 0, .int 0, .int 0, .int 0, .null, .null, .null] := ⟨RX12, TX12, tyX12, rfl, xin_11, tyX12_ok, wd_986, wd_987, wd_12, by decide +kernel⟩
theorem nw_LandBaseModel_289 : xNw "LandBaseModel" 289 10 2 [.null, .null] := ⟨RX11, TX11, tyX11, rfl, xin_10, tyX11_ok, wd_1022, wd_1023, wd_13, by decide +kernel⟩
theorem nw_LandBaseModel_355 : xNw "LandBaseModel" 355 12 2 [.null, .int 0] := ⟨RX13, TX13, tyX13, rfl, xin_12, tyX13_ok, wd_1037, wd_1038, wd_14, by decide +kernel⟩
theorem nw_LandBaseModel_State_9 : xNw "LandBaseModel$State" 9 11 7 [.int 0, .int 0, .int 0, .int 0, .null, .null, .null] := ⟨RX12, TX12, tyX12, rfl, xin_11, tyX12_ok, wd_1043, wd_987, wd_12, by decide +kernel⟩

theorem xin_0 : ∀ w ∈ u_ws RX0 TX0 2, w ∈ xW := by
  have h : (u_ws RX0 TX0 2).all (fun w => decide (w ∈ lw_tbl) && goodWord w) = true := by decide +kernel
  intro w hw
  have h1 := List.all_eq_true.mp h w hw
  simp only [Bool.and_eq_true, decide_eq_true_eq] at h1
  exact xW_in h1.1 h1.2
theorem xin_1 : ∀ w ∈ u_ws RX1 TX1 14, w ∈ xW := by
  have h : (u_ws RX1 TX1 14).all (fun w => decide (w ∈ lw_tbl) && goodWord w) = true := by decide +kernel
  intro w hw
  have h1 := List.all_eq_true.mp h w hw
  simp only [Bool.and_eq_true, decide_eq_true_eq] at h1
  exact xW_in h1.1 h1.2
theorem xin_2 : ∀ w ∈ u_ws RX2 TX2 3, w ∈ xW := by
  have h : (u_ws RX2 TX2 3).all (fun w => decide (w ∈ lw_tbl) && goodWord w) = true := by decide +kernel
  intro w hw
  have h1 := List.all_eq_true.mp h w hw
  simp only [Bool.and_eq_true, decide_eq_true_eq] at h1
  exact xW_in h1.1 h1.2
theorem xin_3 : ∀ w ∈ u_ws RX3 TX3 12, w ∈ xW := by
  have h : (u_ws RX3 TX3 12).all (fun w => decide (w ∈ lw_tbl) && goodWord w) = true := by decide +kernel
  intro w hw
  have h1 := List.all_eq_true.mp h w hw
  simp only [Bool.and_eq_true, decide_eq_true_eq] at h1
  exact xW_in h1.1 h1.2
theorem xin_4 : ∀ w ∈ u_ws RX5 TX5 6, w ∈ xW := by
  have h : (u_ws RX5 TX5 6).all (fun w => decide (w ∈ lw_tbl) && goodWord w) = true := by decide +kernel
  intro w hw
  have h1 := List.all_eq_true.mp h w hw
  simp only [Bool.and_eq_true, decide_eq_true_eq] at h1
  exact xW_in h1.1 h1.2
theorem xin_5 : ∀ w ∈ u_ws RX6 TX6 1, w ∈ xW := by
  have h : (u_ws RX6 TX6 1).all (fun w => decide (w ∈ lw_tbl) && goodWord w) = true := by decide +kernel
  intro w hw
  have h1 := List.all_eq_true.mp h w hw
  simp only [Bool.and_eq_true, decide_eq_true_eq] at h1
  exact xW_in h1.1 h1.2
theorem xin_6 : ∀ w ∈ u_ws RX7 TX7 13, w ∈ xW := by
  have h : (u_ws RX7 TX7 13).all (fun w => decide (w ∈ lw_tbl) && goodWord w) = true := by decide +kernel
  intro w hw
  have h1 := List.all_eq_true.mp h w hw
  simp only [Bool.and_eq_true, decide_eq_true_eq] at h1
  exact xW_in h1.1 h1.2
theorem xin_7 : ∀ w ∈ u_ws RX8 TX8 3, w ∈ xW := by
  have h : (u_ws RX8 TX8 3).all (fun w => decide (w ∈ lw_tbl) && goodWord w) = true := by decide +kernel
  intro w hw
  have h1 := List.all_eq_true.mp h w hw
  simp only [Bool.and_eq_true, decide_eq_true_eq] at h1
  exact xW_in h1.1 h1.2
theorem xin_8 : ∀ w ∈ u_ws RX9 TX9 6, w ∈ xW := by
  have h : (u_ws RX9 TX9 6).all (fun w => decide (w ∈ lw_tbl) && goodWord w) = true := by decide +kernel
  intro w hw
  have h1 := List.all_eq_true.mp h w hw
  simp only [Bool.and_eq_true, decide_eq_true_eq] at h1
  exact xW_in h1.1 h1.2
theorem xin_9 : ∀ w ∈ u_ws RX10 TX10 11, w ∈ xW := by
  have h : (u_ws RX10 TX10 11).all (fun w => decide (w ∈ lw_tbl) && goodWord w) = true := by decide +kernel
  intro w hw
  have h1 := List.all_eq_true.mp h w hw
  simp only [Bool.and_eq_true, decide_eq_true_eq] at h1
  exact xW_in h1.1 h1.2
theorem xin_10 : ∀ w ∈ u_ws RX11 TX11 2, w ∈ xW := by
  have h : (u_ws RX11 TX11 2).all (fun w => decide (w ∈ lw_tbl) && goodWord w) = true := by decide +kernel
  intro w hw
  have h1 := List.all_eq_true.mp h w hw
  simp only [Bool.and_eq_true, decide_eq_true_eq] at h1
  exact xW_in h1.1 h1.2
theorem xin_11 : ∀ w ∈ u_ws RX12 TX12 7, w ∈ xW := by
  have h : (u_ws RX12 TX12 7).all (fun w => decide (w ∈ lw_tbl) && goodWord w) = true := by decide +kernel
  intro w hw
  have h1 := List.all_eq_true.mp h w hw
  simp only [Bool.and_eq_true, decide_eq_true_eq] at h1
  exact xW_in h1.1 h1.2
theorem xin_12 : ∀ w ∈ u_ws RX13 TX13 2, w ∈ xW := by
  have h : (u_ws RX13 TX13 2).all (fun w => decide (w ∈ lw_tbl) && goodWord w) = true := by decide +kernel
  intro w hw
  have h1 := List.all_eq_true.mp h w hw
  simp only [Bool.and_eq_true, decide_eq_true_eq] at h1
  exact xW_in h1.1 h1.2
theorem xin_13 : ∀ w ∈ u_ws RX14 TX14 58, w ∈ xW := by
  have h : (u_ws RX14 TX14 58).all (fun w => decide (w ∈ lw_tbl) && goodWord w) = true := by decide +kernel
  intro w hw
  have h1 := List.all_eq_true.mp h w hw
  simp only [Bool.and_eq_true, decide_eq_true_eq] at h1
  exact xW_in h1.1 h1.2
theorem gf_LandBase_10 : xGf "LandBase" 10 9 0 := ⟨RX10, TX10, 11, rfl, by decide, xin_9, (Or.inl wd_339)⟩
theorem gf_LandBase_19 : xGf "LandBase" 19 9 1 := ⟨RX10, TX10, 11, rfl, by decide, xin_9, (Or.inl wd_340)⟩
theorem gf_LandBase_26 : xGf "LandBase" 26 9 2 := ⟨RX10, TX10, 11, rfl, by decide, xin_9, (Or.inl wd_341)⟩
theorem gf_LandBase_38 : xGf "LandBase" 38 9 3 := ⟨RX10, TX10, 11, rfl, by decide, xin_9, (Or.inl wd_342)⟩
theorem gf_LandBase_45 : xGf "LandBase" 45 9 4 := ⟨RX10, TX10, 11, rfl, by decide, xin_9, (Or.inl wd_343)⟩
theorem gf_LandBase_51 : xGf "LandBase" 51 9 5 := ⟨RX10, TX10, 11, rfl, by decide, xin_9, (Or.inl wd_344)⟩
theorem gf_LandBase_56 : xGf "LandBase" 56 9 6 := ⟨RX10, TX10, 11, rfl, by decide, xin_9, (Or.inl wd_345)⟩
theorem gf_LandBase_60 : xGf "LandBase" 60 9 7 := ⟨RX10, TX10, 11, rfl, by decide, xin_9, (Or.inl wd_346)⟩
theorem gf_LandBase_63 : xGf "LandBase" 63 9 8 := ⟨RX10, TX10, 11, rfl, by decide, xin_9, (Or.inl wd_347)⟩
theorem gf_LandBase_67 : xGf "LandBase" 67 9 9 := ⟨RX10, TX10, 11, rfl, by decide, xin_9, (Or.inl wd_348)⟩
theorem gf_LandBase_70 : xGf "LandBase" 70 9 10 := ⟨RX10, TX10, 11, rfl, by decide, xin_9, (Or.inl wd_349)⟩
theorem gf_LandBase_73 : xGf "LandBase" 73 8 1 := ⟨RX9, TX9, 6, rfl, by decide, xin_8, (Or.inr ⟨_, wd_37⟩)⟩
theorem gf_LandBase_80 : xGf "LandBase" 80 3 6 := ⟨RX3, TX3, 12, rfl, by decide, xin_3, (Or.inr ⟨_, wd_211⟩)⟩
theorem gf_LandBase_87 : xGf "LandBase" 87 8 2 := ⟨RX9, TX9, 6, rfl, by decide, xin_8, (Or.inr ⟨_, wd_39⟩)⟩
theorem gf_LandBase_94 : xGf "LandBase" 94 8 3 := ⟨RX9, TX9, 6, rfl, by decide, xin_8, (Or.inr ⟨_, wd_41⟩)⟩
theorem gf_LandBase_97 : xGf "LandBase" 97 4 3 := ⟨RX5, TX5, 6, rfl, by decide, xin_4, (Or.inr ⟨_, wd_156⟩)⟩
theorem gf_LandBase_145 : xGf "LandBase" 145 3 0 := ⟨RX3, TX3, 12, rfl, by decide, xin_3, (Or.inr ⟨_, wd_204⟩)⟩
theorem gf_LandBase_149 : xGf "LandBase" 149 7 2 := ⟨RX8, TX8, 3, rfl, by decide, xin_7, (Or.inr ⟨_, wd_193⟩)⟩
theorem gf_LandBase_154 : xGf "LandBase" 154 3 5 := ⟨RX3, TX3, 12, rfl, by decide, xin_3, (Or.inr ⟨_, wd_210⟩)⟩
theorem gf_LandBase_157 : xGf "LandBase" 157 7 0 := ⟨RX8, TX8, 3, rfl, by decide, xin_7, (Or.inr ⟨_, wd_189⟩)⟩
theorem gf_LandBase_164 : xGf "LandBase" 164 6 0 := ⟨RX7, TX7, 13, rfl, by decide, xin_6, (Or.inr ⟨_, wd_77⟩)⟩
theorem gf_LandBase_169 : xGf "LandBase" 169 6 1 := ⟨RX7, TX7, 13, rfl, by decide, xin_6, (Or.inr ⟨_, wd_85⟩)⟩
theorem gf_LandBase_170 : xGf "LandBase" 170 6 2 := ⟨RX7, TX7, 13, rfl, by decide, xin_6, (Or.inr ⟨_, wd_88⟩)⟩
theorem gf_LandBase_173 : xGf "LandBase" 173 6 9 := ⟨RX7, TX7, 13, rfl, by decide, xin_6, (Or.inr ⟨_, wd_107⟩)⟩
theorem gf_LandBase_176 : xGf "LandBase" 176 6 10 := ⟨RX7, TX7, 13, rfl, by decide, xin_6, (Or.inr ⟨_, wd_114⟩)⟩
theorem gf_LandBase_195 : xGf "LandBase" 195 3 8 := ⟨RX3, TX3, 12, rfl, by decide, xin_3, (Or.inr ⟨_, wd_215⟩)⟩
theorem gf_LandBase_198 : xGf "LandBase" 198 3 9 := ⟨RX3, TX3, 12, rfl, by decide, xin_3, (Or.inr ⟨_, wd_217⟩)⟩
theorem gf_LandBase_214 : xGf "LandBase" 214 4 0 := ⟨RX5, TX5, 6, rfl, by decide, xin_4, (Or.inr ⟨_, wd_151⟩)⟩
theorem gf_LandBase_217 : xGf "LandBase" 217 4 1 := ⟨RX5, TX5, 6, rfl, by decide, xin_4, (Or.inr ⟨_, wd_153⟩)⟩
theorem gf_LandBase_224 : xGf "LandBase" 224 6 3 := ⟨RX7, TX7, 13, rfl, by decide, xin_6, (Or.inr ⟨_, wd_90⟩)⟩
theorem gf_LandBase_252 : xGf "LandBase" 252 7 1 := ⟨RX8, TX8, 3, rfl, by decide, xin_7, (Or.inr ⟨_, wd_191⟩)⟩
theorem gf_LandBase_282 : xGf "LandBase" 282 4 5 := ⟨RX5, TX5, 6, rfl, by decide, xin_4, (Or.inr ⟨_, wd_160⟩)⟩
theorem gf_LandBase_299 : xGf "LandBase" 299 4 4 := ⟨RX5, TX5, 6, rfl, by decide, xin_4, (Or.inr ⟨_, wd_158⟩)⟩
theorem gf_LandBase_Checker_9 : xGf "LandBase$Checker" 9 0 0 := ⟨RX0, TX0, 2, rfl, by decide, xin_0, (Or.inl wd_305)⟩
theorem gf_LandBase_Checker_15 : xGf "LandBase$Checker" 15 0 1 := ⟨RX0, TX0, 2, rfl, by decide, xin_0, (Or.inl wd_306)⟩
theorem gf_LandBase_Checker_19 : xGf "LandBase$Checker" 19 6 0 := ⟨RX7, TX7, 13, rfl, by decide, xin_6, (Or.inr ⟨_, wd_72⟩)⟩
theorem gf_LandBase_Checker_25 : xGf "LandBase$Checker" 25 6 1 := ⟨RX7, TX7, 13, rfl, by decide, xin_6, (Or.inr ⟨_, wd_79⟩)⟩
theorem gf_LandBase_Checker_32 : xGf "LandBase$Checker" 32 6 2 := ⟨RX7, TX7, 13, rfl, by decide, xin_6, (Or.inr ⟨_, wd_87⟩)⟩
theorem gf_LandBase_Checker_39 : xGf "LandBase$Checker" 39 6 11 := ⟨RX7, TX7, 13, rfl, by decide, xin_6, (Or.inr ⟨_, wd_116⟩)⟩
theorem gf_LandBase_Checker_79 : xGf "LandBase$Checker" 79 6 9 := ⟨RX7, TX7, 13, rfl, by decide, xin_6, (Or.inr ⟨_, wd_106⟩)⟩
theorem gf_LandBase_Checker_82 : xGf "LandBase$Checker" 82 6 10 := ⟨RX7, TX7, 13, rfl, by decide, xin_6, (Or.inr ⟨_, wd_113⟩)⟩
theorem gf_LandBase_Cutter_12 : xGf "LandBase$Cutter" 12 1 0 := ⟨RX1, TX1, 14, rfl, by decide, xin_1, (Or.inl wd_255)⟩
theorem gf_LandBase_Cutter_18 : xGf "LandBase$Cutter" 18 1 7 := ⟨RX1, TX1, 14, rfl, by decide, xin_1, (Or.inl wd_262)⟩
theorem gf_LandBase_Cutter_22 : xGf "LandBase$Cutter" 22 1 8 := ⟨RX1, TX1, 14, rfl, by decide, xin_1, (Or.inl wd_263)⟩
theorem gf_LandBase_Cutter_25 : xGf "LandBase$Cutter" 25 1 9 := ⟨RX1, TX1, 14, rfl, by decide, xin_1, (Or.inl wd_264)⟩
theorem gf_LandBase_Cutter_29 : xGf "LandBase$Cutter" 29 6 1 := ⟨RX7, TX7, 13, rfl, by decide, xin_6, (Or.inr ⟨_, wd_80⟩)⟩
theorem gf_LandBase_Cutter_33 : xGf "LandBase$Cutter" 33 1 1 := ⟨RX1, TX1, 14, rfl, by decide, xin_1, (Or.inl wd_256)⟩
theorem gf_LandBase_Cutter_42 : xGf "LandBase$Cutter" 42 1 2 := ⟨RX1, TX1, 14, rfl, by decide, xin_1, (Or.inl wd_257)⟩
theorem gf_LandBase_Cutter_45 : xGf "LandBase$Cutter" 45 6 9 := ⟨RX7, TX7, 13, rfl, by decide, xin_6, (Or.inr ⟨_, wd_103⟩)⟩
theorem gf_LandBase_Cutter_48 : xGf "LandBase$Cutter" 48 1 3 := ⟨RX1, TX1, 14, rfl, by decide, xin_1, (Or.inl wd_258)⟩
theorem gf_LandBase_Cutter_51 : xGf "LandBase$Cutter" 51 1 5 := ⟨RX1, TX1, 14, rfl, by decide, xin_1, (Or.inl wd_260)⟩
theorem gf_LandBase_Cutter_54 : xGf "LandBase$Cutter" 54 6 10 := ⟨RX7, TX7, 13, rfl, by decide, xin_6, (Or.inr ⟨_, wd_111⟩)⟩
theorem gf_LandBase_Cutter_57 : xGf "LandBase$Cutter" 57 1 4 := ⟨RX1, TX1, 14, rfl, by decide, xin_1, (Or.inl wd_259)⟩
theorem gf_LandBase_Cutter_60 : xGf "LandBase$Cutter" 60 1 6 := ⟨RX1, TX1, 14, rfl, by decide, xin_1, (Or.inl wd_261)⟩
theorem gf_LandBase_Cutter_66 : xGf "LandBase$Cutter" 66 6 12 := ⟨RX7, TX7, 13, rfl, by decide, xin_6, (Or.inr ⟨_, wd_119⟩)⟩
theorem gf_LandBase_Cutter_85 : xGf "LandBase$Cutter" 85 1 13 := ⟨RX1, TX1, 14, rfl, by decide, xin_1, (Or.inl wd_268)⟩
theorem gf_LandBase_Cutter_89 : xGf "LandBase$Cutter" 89 1 10 := ⟨RX1, TX1, 14, rfl, by decide, xin_1, (Or.inl wd_265)⟩
theorem gf_LandBase_Cutter_92 : xGf "LandBase$Cutter" 92 1 11 := ⟨RX1, TX1, 14, rfl, by decide, xin_1, (Or.inl wd_266)⟩
theorem gf_LandBase_Cutter_95 : xGf "LandBase$Cutter" 95 1 12 := ⟨RX1, TX1, 14, rfl, by decide, xin_1, (Or.inl wd_267)⟩
theorem gf_LandBase_Distance_9 : xGf "LandBase$Distance" 9 2 2 := ⟨RX2, TX2, 3, rfl, by decide, xin_2, (Or.inl wd_331)⟩
theorem gf_LandBase_Distance_19 : xGf "LandBase$Distance" 19 6 0 := ⟨RX7, TX7, 13, rfl, by decide, xin_6, (Or.inr ⟨_, wd_74⟩)⟩
theorem gf_LandBase_Distance_31 : xGf "LandBase$Distance" 31 6 1 := ⟨RX7, TX7, 13, rfl, by decide, xin_6, (Or.inr ⟨_, wd_81⟩)⟩
theorem gf_LandBase_Distance_34 : xGf "LandBase$Distance" 34 6 9 := ⟨RX7, TX7, 13, rfl, by decide, xin_6, (Or.inr ⟨_, wd_104⟩)⟩
theorem gf_LandBase_Distance_38 : xGf "LandBase$Distance" 38 6 10 := ⟨RX7, TX7, 13, rfl, by decide, xin_6, (Or.inr ⟨_, wd_110⟩)⟩
theorem gf_LandBase_Distance_45 : xGf "LandBase$Distance" 45 6 12 := ⟨RX7, TX7, 13, rfl, by decide, xin_6, (Or.inr ⟨_, wd_118⟩)⟩
theorem gf_LandBase_Distance_57 : xGf "LandBase$Distance" 57 2 0 := ⟨RX2, TX2, 3, rfl, by decide, xin_2, (Or.inl wd_329)⟩
theorem gf_LandBase_Distance_60 : xGf "LandBase$Distance" 60 2 1 := ⟨RX2, TX2, 3, rfl, by decide, xin_2, (Or.inl wd_330)⟩
theorem gf_LandBase_Keeper_12 : xGf "LandBase$Keeper" 12 3 0 := ⟨RX3, TX3, 12, rfl, by decide, xin_3, (Or.inl wd_203)⟩
theorem gf_LandBase_Keeper_18 : xGf "LandBase$Keeper" 18 3 1 := ⟨RX3, TX3, 12, rfl, by decide, xin_3, (Or.inl wd_205)⟩
theorem gf_LandBase_Keeper_23 : xGf "LandBase$Keeper" 23 3 2 := ⟨RX3, TX3, 12, rfl, by decide, xin_3, (Or.inl wd_206)⟩
theorem gf_LandBase_Keeper_27 : xGf "LandBase$Keeper" 27 3 10 := ⟨RX3, TX3, 12, rfl, by decide, xin_3, (Or.inl wd_218)⟩
theorem gf_LandBase_Keeper_31 : xGf "LandBase$Keeper" 31 3 3 := ⟨RX3, TX3, 12, rfl, by decide, xin_3, (Or.inl wd_207)⟩
theorem gf_LandBase_Keeper_34 : xGf "LandBase$Keeper" 34 3 4 := ⟨RX3, TX3, 12, rfl, by decide, xin_3, (Or.inl wd_208)⟩
theorem gf_LandBase_Keeper_37 : xGf "LandBase$Keeper" 37 6 8 := ⟨RX7, TX7, 13, rfl, by decide, xin_6, (Or.inr ⟨_, wd_99⟩)⟩
theorem gf_LandBase_Keeper_41 : xGf "LandBase$Keeper" 41 3 5 := ⟨RX3, TX3, 12, rfl, by decide, xin_3, (Or.inl wd_209)⟩
theorem gf_LandBase_Keeper_45 : xGf "LandBase$Keeper" 45 3 7 := ⟨RX3, TX3, 12, rfl, by decide, xin_3, (Or.inl wd_213)⟩
theorem gf_LandBase_Keeper_69 : xGf "LandBase$Keeper" 69 3 8 := ⟨RX3, TX3, 12, rfl, by decide, xin_3, (Or.inl wd_214)⟩
theorem gf_LandBase_Keeper_72 : xGf "LandBase$Keeper" 72 3 11 := ⟨RX3, TX3, 12, rfl, by decide, xin_3, (Or.inl wd_221)⟩
theorem gf_LandBase_Keeper_75 : xGf "LandBase$Keeper" 75 3 6 := ⟨RX3, TX3, 12, rfl, by decide, xin_3, (Or.inl wd_212)⟩
theorem gf_LandBase_Keeper_78 : xGf "LandBase$Keeper" 78 3 9 := ⟨RX3, TX3, 12, rfl, by decide, xin_3, (Or.inl wd_216)⟩
theorem gf_LandBase_Keeper_84 : xGf "LandBase$Keeper" 84 7 2 := ⟨RX8, TX8, 3, rfl, by decide, xin_7, (Or.inr ⟨_, wd_194⟩)⟩
theorem gf_LandBase_Plane_9 : xGf "LandBase$Plane" 9 6 9 := ⟨RX7, TX7, 13, rfl, by decide, xin_6, (Or.inr ⟨_, wd_102⟩)⟩
theorem gf_LandBase_Plane_15 : xGf "LandBase$Plane" 15 6 10 := ⟨RX7, TX7, 13, rfl, by decide, xin_6, (Or.inr ⟨_, wd_109⟩)⟩
theorem gf_LandBase_Plane_28 : xGf "LandBase$Plane" 28 6 4 := ⟨RX7, TX7, 13, rfl, by decide, xin_6, (Or.inr ⟨_, wd_91⟩)⟩
theorem gf_LandBase_Plane_32 : xGf "LandBase$Plane" 32 6 6 := ⟨RX7, TX7, 13, rfl, by decide, xin_6, (Or.inr ⟨_, wd_95⟩)⟩
theorem gf_LandBase_Plane_35 : xGf "LandBase$Plane" 35 6 5 := ⟨RX7, TX7, 13, rfl, by decide, xin_6, (Or.inr ⟨_, wd_93⟩)⟩
theorem gf_LandBase_Plane_38 : xGf "LandBase$Plane" 38 6 7 := ⟨RX7, TX7, 13, rfl, by decide, xin_6, (Or.inr ⟨_, wd_97⟩)⟩
theorem gf_LandBase_Plane_41 : xGf "LandBase$Plane" 41 6 0 := ⟨RX7, TX7, 13, rfl, by decide, xin_6, (Or.inr ⟨_, wd_76⟩)⟩
theorem gf_LandBase_Plane_51 : xGf "LandBase$Plane" 51 6 1 := ⟨RX7, TX7, 13, rfl, by decide, xin_6, (Or.inr ⟨_, wd_83⟩)⟩
theorem gf_LandBase_Plane_61 : xGf "LandBase$Plane" 61 6 12 := ⟨RX7, TX7, 13, rfl, by decide, xin_6, (Or.inr ⟨_, wd_120⟩)⟩
theorem gf_LandBase_Reader_11 : xGf "LandBase$Reader" 11 4 0 := ⟨RX5, TX5, 6, rfl, by decide, xin_4, (Or.inl wd_150)⟩
theorem gf_LandBase_Reader_18 : xGf "LandBase$Reader" 18 4 1 := ⟨RX5, TX5, 6, rfl, by decide, xin_4, (Or.inl wd_152)⟩
theorem gf_LandBase_Reader_22 : xGf "LandBase$Reader" 22 4 2 := ⟨RX5, TX5, 6, rfl, by decide, xin_4, (Or.inl wd_154)⟩
theorem gf_LandBase_Reader_34 : xGf "LandBase$Reader" 34 4 3 := ⟨RX5, TX5, 6, rfl, by decide, xin_4, (Or.inl wd_155)⟩
theorem gf_LandBase_Reader_55 : xGf "LandBase$Reader" 55 8 2 := ⟨RX9, TX9, 6, rfl, by decide, xin_8, (Or.inr ⟨_, wd_38⟩)⟩
theorem gf_LandBase_Reader_58 : xGf "LandBase$Reader" 58 8 5 := ⟨RX9, TX9, 6, rfl, by decide, xin_8, (Or.inr ⟨_, wd_44⟩)⟩
theorem gf_LandBase_Reader_66 : xGf "LandBase$Reader" 66 4 5 := ⟨RX5, TX5, 6, rfl, by decide, xin_4, (Or.inl wd_159)⟩
theorem gf_LandBase_Reader_71 : xGf "LandBase$Reader" 71 4 4 := ⟨RX5, TX5, 6, rfl, by decide, xin_4, (Or.inl wd_157)⟩
theorem gf_LandBase_Relations_9 : xGf "LandBase$Relations" 9 5 0 := ⟨RX6, TX6, 1, rfl, by decide, xin_5, (Or.inl wd_318)⟩
theorem gf_LandBase_Relations_31 : xGf "LandBase$Relations" 31 6 0 := ⟨RX7, TX7, 13, rfl, by decide, xin_6, (Or.inr ⟨_, wd_75⟩)⟩
theorem gf_LandBase_Relations_35 : xGf "LandBase$Relations" 35 6 9 := ⟨RX7, TX7, 13, rfl, by decide, xin_6, (Or.inr ⟨_, wd_105⟩)⟩
theorem gf_LandBase_Relations_39 : xGf "LandBase$Relations" 39 6 10 := ⟨RX7, TX7, 13, rfl, by decide, xin_6, (Or.inr ⟨_, wd_112⟩)⟩
theorem gf_LandBase_Relations_53 : xGf "LandBase$Relations" 53 6 1 := ⟨RX7, TX7, 13, rfl, by decide, xin_6, (Or.inr ⟨_, wd_82⟩)⟩
theorem gf_LandBase_Shape_9 : xGf "LandBase$Shape" 9 6 9 := ⟨RX7, TX7, 13, rfl, by decide, xin_6, (Or.inl wd_101)⟩
theorem gf_LandBase_Shape_15 : xGf "LandBase$Shape" 15 6 10 := ⟨RX7, TX7, 13, rfl, by decide, xin_6, (Or.inl wd_108)⟩
theorem gf_LandBase_Shape_18 : xGf "LandBase$Shape" 18 6 11 := ⟨RX7, TX7, 13, rfl, by decide, xin_6, (Or.inl wd_115)⟩
theorem gf_LandBase_Shape_21 : xGf "LandBase$Shape" 21 6 12 := ⟨RX7, TX7, 13, rfl, by decide, xin_6, (Or.inl wd_117)⟩
theorem gf_LandBase_Shape_25 : xGf "LandBase$Shape" 25 6 0 := ⟨RX7, TX7, 13, rfl, by decide, xin_6, (Or.inl wd_73)⟩
theorem gf_LandBase_Shape_29 : xGf "LandBase$Shape" 29 6 1 := ⟨RX7, TX7, 13, rfl, by decide, xin_6, (Or.inl wd_78)⟩
theorem gf_LandBase_Shape_32 : xGf "LandBase$Shape" 32 6 2 := ⟨RX7, TX7, 13, rfl, by decide, xin_6, (Or.inl wd_86)⟩
theorem gf_LandBase_Shape_39 : xGf "LandBase$Shape" 39 6 4 := ⟨RX7, TX7, 13, rfl, by decide, xin_6, (Or.inl wd_92)⟩
theorem gf_LandBase_Shape_42 : xGf "LandBase$Shape" 42 6 6 := ⟨RX7, TX7, 13, rfl, by decide, xin_6, (Or.inl wd_96)⟩
theorem gf_LandBase_Shape_45 : xGf "LandBase$Shape" 45 6 5 := ⟨RX7, TX7, 13, rfl, by decide, xin_6, (Or.inl wd_94)⟩
theorem gf_LandBase_Shape_48 : xGf "LandBase$Shape" 48 6 7 := ⟨RX7, TX7, 13, rfl, by decide, xin_6, (Or.inl wd_98)⟩
theorem gf_LandBase_Table_9 : xGf "LandBase$Table" 9 7 0 := ⟨RX8, TX8, 3, rfl, by decide, xin_7, (Or.inl wd_188)⟩
theorem gf_LandBase_Table_17 : xGf "LandBase$Table" 17 7 1 := ⟨RX8, TX8, 3, rfl, by decide, xin_7, (Or.inl wd_190)⟩
theorem gf_LandBase_Table_21 : xGf "LandBase$Table" 21 7 2 := ⟨RX8, TX8, 3, rfl, by decide, xin_7, (Or.inl wd_192)⟩
theorem gf_LandBase_Table_29 : xGf "LandBase$Table" 29 6 8 := ⟨RX7, TX7, 13, rfl, by decide, xin_6, (Or.inr ⟨_, wd_100⟩)⟩
theorem gf_LandBase_Table_32 : xGf "LandBase$Table" 32 6 1 := ⟨RX7, TX7, 13, rfl, by decide, xin_6, (Or.inr ⟨_, wd_84⟩)⟩
theorem gf_LandBase_Tape_9 : xGf "LandBase$Tape" 9 8 0 := ⟨RX9, TX9, 6, rfl, by decide, xin_8, (Or.inl wd_35)⟩
theorem gf_LandBase_Tape_15 : xGf "LandBase$Tape" 15 8 1 := ⟨RX9, TX9, 6, rfl, by decide, xin_8, (Or.inl wd_36)⟩
theorem gf_LandBase_Tape_19 : xGf "LandBase$Tape" 19 8 4 := ⟨RX9, TX9, 6, rfl, by decide, xin_8, (Or.inl wd_43)⟩
theorem gf_LandBase_Tape_25 : xGf "LandBase$Tape" 25 8 3 := ⟨RX9, TX9, 6, rfl, by decide, xin_8, (Or.inl wd_42)⟩
theorem gf_LandBase_Tape_28 : xGf "LandBase$Tape" 28 8 2 := ⟨RX9, TX9, 6, rfl, by decide, xin_8, (Or.inl wd_40)⟩
theorem gf_LandBaseModel_5 : xGf "LandBaseModel" 5 13 0 := ⟨RX14, TX14, 58, rfl, by decide, xin_13, (Or.inl wd_1052)⟩
theorem gf_LandBaseModel_13 : xGf "LandBaseModel" 13 13 1 := ⟨RX14, TX14, 58, rfl, by decide, xin_13, (Or.inl wd_1053)⟩
theorem gf_LandBaseModel_16 : xGf "LandBaseModel" 16 13 2 := ⟨RX14, TX14, 58, rfl, by decide, xin_13, (Or.inl wd_1054)⟩
theorem gf_LandBaseModel_23 : xGf "LandBaseModel" 23 13 3 := ⟨RX14, TX14, 58, rfl, by decide, xin_13, (Or.inl wd_1055)⟩
theorem gf_LandBaseModel_30 : xGf "LandBaseModel" 30 11 5 := ⟨RX12, TX12, 7, rfl, by decide, xin_11, (Or.inl wd_1000)⟩
theorem gf_LandBaseModel_36 : xGf "LandBaseModel" 36 11 6 := ⟨RX12, TX12, 7, rfl, by decide, xin_11, (Or.inl wd_1002)⟩
theorem gf_LandBaseModel_68 : xGf "LandBaseModel" 68 11 4 := ⟨RX12, TX12, 7, rfl, by decide, xin_11, (Or.inl wd_998)⟩
theorem gf_LandBaseModel_75 : xGf "LandBaseModel" 75 11 1 := ⟨RX12, TX12, 7, rfl, by decide, xin_11, (Or.inl wd_992)⟩
theorem gf_LandBaseModel_79 : xGf "LandBaseModel" 79 11 2 := ⟨RX12, TX12, 7, rfl, by decide, xin_11, (Or.inl wd_994)⟩
theorem gf_LandBaseModel_94 : xGf "LandBaseModel" 94 13 10 := ⟨RX14, TX14, 58, rfl, by decide, xin_13, (Or.inl wd_1062)⟩
theorem gf_LandBaseModel_98 : xGf "LandBaseModel" 98 13 9 := ⟨RX14, TX14, 58, rfl, by decide, xin_13, (Or.inl wd_1061)⟩
theorem gf_LandBaseModel_102 : xGf "LandBaseModel" 102 13 8 := ⟨RX14, TX14, 58, rfl, by decide, xin_13, (Or.inl wd_1060)⟩
theorem gf_LandBaseModel_105 : xGf "LandBaseModel" 105 13 11 := ⟨RX14, TX14, 58, rfl, by decide, xin_13, (Or.inl wd_1063)⟩
theorem gf_LandBaseModel_108 : xGf "LandBaseModel" 108 13 12 := ⟨RX14, TX14, 58, rfl, by decide, xin_13, (Or.inl wd_1064)⟩
theorem gf_LandBaseModel_111 : xGf "LandBaseModel" 111 13 14 := ⟨RX14, TX14, 58, rfl, by decide, xin_13, (Or.inl wd_1066)⟩
theorem gf_LandBaseModel_114 : xGf "LandBaseModel" 114 13 13 := ⟨RX14, TX14, 58, rfl, by decide, xin_13, (Or.inl wd_1065)⟩
theorem gf_LandBaseModel_117 : xGf "LandBaseModel" 117 13 15 := ⟨RX14, TX14, 58, rfl, by decide, xin_13, (Or.inl wd_1067)⟩
theorem gf_LandBaseModel_120 : xGf "LandBaseModel" 120 13 16 := ⟨RX14, TX14, 58, rfl, by decide, xin_13, (Or.inl wd_1068)⟩
theorem gf_LandBaseModel_126 : xGf "LandBaseModel" 126 13 17 := ⟨RX14, TX14, 58, rfl, by decide, xin_13, (Or.inl wd_1069)⟩
theorem gf_LandBaseModel_129 : xGf "LandBaseModel" 129 13 18 := ⟨RX14, TX14, 58, rfl, by decide, xin_13, (Or.inl wd_1070)⟩
theorem gf_LandBaseModel_132 : xGf "LandBaseModel" 132 13 19 := ⟨RX14, TX14, 58, rfl, by decide, xin_13, (Or.inl wd_1071)⟩
theorem gf_LandBaseModel_135 : xGf "LandBaseModel" 135 13 20 := ⟨RX14, TX14, 58, rfl, by decide, xin_13, (Or.inl wd_1072)⟩
theorem gf_LandBaseModel_138 : xGf "LandBaseModel" 138 13 21 := ⟨RX14, TX14, 58, rfl, by decide, xin_13, (Or.inl wd_1073)⟩
theorem gf_LandBaseModel_141 : xGf "LandBaseModel" 141 13 22 := ⟨RX14, TX14, 58, rfl, by decide, xin_13, (Or.inl wd_1074)⟩
theorem gf_LandBaseModel_156 : xGf "LandBaseModel" 156 13 23 := ⟨RX14, TX14, 58, rfl, by decide, xin_13, (Or.inl wd_1075)⟩
theorem gf_LandBaseModel_168 : xGf "LandBaseModel" 168 13 4 := ⟨RX14, TX14, 58, rfl, by decide, xin_13, (Or.inl wd_1056)⟩
theorem gf_LandBaseModel_171 : xGf "LandBaseModel" 171 13 5 := ⟨RX14, TX14, 58, rfl, by decide, xin_13, (Or.inl wd_1057)⟩
theorem gf_LandBaseModel_174 : xGf "LandBaseModel" 174 13 6 := ⟨RX14, TX14, 58, rfl, by decide, xin_13, (Or.inl wd_1058)⟩
theorem gf_LandBaseModel_177 : xGf "LandBaseModel" 177 13 7 := ⟨RX14, TX14, 58, rfl, by decide, xin_13, (Or.inl wd_1059)⟩
theorem gf_LandBaseModel_180 : xGf "LandBaseModel" 180 11 3 := ⟨RX12, TX12, 7, rfl, by decide, xin_11, (Or.inl wd_996)⟩
theorem gf_LandBaseModel_254 : xGf "LandBaseModel" 254 13 24 := ⟨RX14, TX14, 58, rfl, by decide, xin_13, (Or.inl wd_1076)⟩
theorem gf_LandBaseModel_262 : xGf "LandBaseModel" 262 13 25 := ⟨RX14, TX14, 58, rfl, by decide, xin_13, (Or.inl wd_1077)⟩
theorem gf_LandBaseModel_265 : xGf "LandBaseModel" 265 13 26 := ⟨RX14, TX14, 58, rfl, by decide, xin_13, (Or.inl wd_1078)⟩
theorem gf_LandBaseModel_288 : xGf "LandBaseModel" 288 10 0 := ⟨RX11, TX11, 2, rfl, by decide, xin_10, (Or.inl wd_1025)⟩
theorem gf_LandBaseModel_293 : xGf "LandBaseModel" 293 10 1 := ⟨RX11, TX11, 2, rfl, by decide, xin_10, (Or.inl wd_1027)⟩
theorem gf_LandBaseModel_296 : xGf "LandBaseModel" 296 13 27 := ⟨RX14, TX14, 58, rfl, by decide, xin_13, (Or.inl wd_1079)⟩
theorem gf_LandBaseModel_318 : xGf "LandBaseModel" 318 13 33 := ⟨RX14, TX14, 58, rfl, by decide, xin_13, (Or.inl wd_1085)⟩
theorem gf_LandBaseModel_321 : xGf "LandBaseModel" 321 13 32 := ⟨RX14, TX14, 58, rfl, by decide, xin_13, (Or.inl wd_1084)⟩
theorem gf_LandBaseModel_323 : xGf "LandBaseModel" 323 13 37 := ⟨RX14, TX14, 58, rfl, by decide, xin_13, (Or.inl wd_1089)⟩
theorem gf_LandBaseModel_326 : xGf "LandBaseModel" 326 13 38 := ⟨RX14, TX14, 58, rfl, by decide, xin_13, (Or.inl wd_1090)⟩
theorem gf_LandBaseModel_332 : xGf "LandBaseModel" 332 13 35 := ⟨RX14, TX14, 58, rfl, by decide, xin_13, (Or.inl wd_1087)⟩
theorem gf_LandBaseModel_335 : xGf "LandBaseModel" 335 13 36 := ⟨RX14, TX14, 58, rfl, by decide, xin_13, (Or.inl wd_1088)⟩
theorem gf_LandBaseModel_338 : xGf "LandBaseModel" 338 13 34 := ⟨RX14, TX14, 58, rfl, by decide, xin_13, (Or.inl wd_1086)⟩
theorem gf_LandBaseModel_347 : xGf "LandBaseModel" 347 13 31 := ⟨RX14, TX14, 58, rfl, by decide, xin_13, (Or.inl wd_1083)⟩
theorem gf_LandBaseModel_351 : xGf "LandBaseModel" 351 13 30 := ⟨RX14, TX14, 58, rfl, by decide, xin_13, (Or.inl wd_1082)⟩
theorem gf_LandBaseModel_359 : xGf "LandBaseModel" 359 13 43 := ⟨RX14, TX14, 58, rfl, by decide, xin_13, (Or.inl wd_1095)⟩
theorem gf_LandBaseModel_362 : xGf "LandBaseModel" 362 13 44 := ⟨RX14, TX14, 58, rfl, by decide, xin_13, (Or.inl wd_1096)⟩
theorem gf_LandBaseModel_365 : xGf "LandBaseModel" 365 13 48 := ⟨RX14, TX14, 58, rfl, by decide, xin_13, (Or.inl wd_1100)⟩
theorem gf_LandBaseModel_368 : xGf "LandBaseModel" 368 13 46 := ⟨RX14, TX14, 58, rfl, by decide, xin_13, (Or.inl wd_1098)⟩
theorem gf_LandBaseModel_370 : xGf "LandBaseModel" 370 13 42 := ⟨RX14, TX14, 58, rfl, by decide, xin_13, (Or.inl wd_1094)⟩
theorem gf_LandBaseModel_373 : xGf "LandBaseModel" 373 13 40 := ⟨RX14, TX14, 58, rfl, by decide, xin_13, (Or.inl wd_1092)⟩
theorem gf_LandBaseModel_376 : xGf "LandBaseModel" 376 13 39 := ⟨RX14, TX14, 58, rfl, by decide, xin_13, (Or.inl wd_1091)⟩
theorem gf_LandBaseModel_379 : xGf "LandBaseModel" 379 13 41 := ⟨RX14, TX14, 58, rfl, by decide, xin_13, (Or.inl wd_1093)⟩
theorem gf_LandBaseModel_385 : xGf "LandBaseModel" 385 13 45 := ⟨RX14, TX14, 58, rfl, by decide, xin_13, (Or.inl wd_1097)⟩
theorem gf_LandBaseModel_404 : xGf "LandBaseModel" 404 13 47 := ⟨RX14, TX14, 58, rfl, by decide, xin_13, (Or.inl wd_1099)⟩
theorem gf_LandBaseModel_429 : xGf "LandBaseModel" 429 13 50 := ⟨RX14, TX14, 58, rfl, by decide, xin_13, (Or.inl wd_1102)⟩
theorem gf_LandBaseModel_432 : xGf "LandBaseModel" 432 13 49 := ⟨RX14, TX14, 58, rfl, by decide, xin_13, (Or.inl wd_1101)⟩
theorem gf_LandBaseModel_441 : xGf "LandBaseModel" 441 13 51 := ⟨RX14, TX14, 58, rfl, by decide, xin_13, (Or.inl wd_1103)⟩
theorem gf_LandBaseModel_464 : xGf "LandBaseModel" 464 13 28 := ⟨RX14, TX14, 58, rfl, by decide, xin_13, (Or.inl wd_1080)⟩
theorem gf_LandBaseModel_467 : xGf "LandBaseModel" 467 13 29 := ⟨RX14, TX14, 58, rfl, by decide, xin_13, (Or.inl wd_1081)⟩
theorem gf_LandBaseModel_471 : xGf "LandBaseModel" 471 13 52 := ⟨RX14, TX14, 58, rfl, by decide, xin_13, (Or.inl wd_1104)⟩
theorem gf_LandBaseModel_474 : xGf "LandBaseModel" 474 13 53 := ⟨RX14, TX14, 58, rfl, by decide, xin_13, (Or.inl wd_1105)⟩
theorem gf_LandBaseModel_477 : xGf "LandBaseModel" 477 13 54 := ⟨RX14, TX14, 58, rfl, by decide, xin_13, (Or.inl wd_1106)⟩
theorem gf_LandBaseModel_481 : xGf "LandBaseModel" 481 13 55 := ⟨RX14, TX14, 58, rfl, by decide, xin_13, (Or.inl wd_1107)⟩
theorem gf_LandBaseModel_581 : xGf "LandBaseModel" 581 12 1 := ⟨RX13, TX13, 2, rfl, by decide, xin_12, (Or.inl wd_1045)⟩
theorem gf_LandBaseModel_596 : xGf "LandBaseModel" 596 12 0 := ⟨RX13, TX13, 2, rfl, by decide, xin_12, (Or.inl wd_1043)⟩
theorem gf_LandBaseModel_604 : xGf "LandBaseModel" 604 13 56 := ⟨RX14, TX14, 58, rfl, by decide, xin_13, (Or.inl wd_1108)⟩
theorem gf_LandBaseModel_617 : xGf "LandBaseModel" 617 13 57 := ⟨RX14, TX14, 58, rfl, by decide, xin_13, (Or.inl wd_1109)⟩
theorem gf_LandBaseModel_627 : xGf "LandBaseModel" 627 11 0 := ⟨RX12, TX12, 7, rfl, by decide, xin_11, (Or.inl wd_990)⟩
theorem gf_LandBaseModel_Distance_9 : xGf "LandBaseModel$Distance" 9 10 0 := ⟨RX11, TX11, 2, rfl, by decide, xin_10, (Or.inl wd_1024)⟩
theorem gf_LandBaseModel_Distance_15 : xGf "LandBaseModel$Distance" 15 10 1 := ⟨RX11, TX11, 2, rfl, by decide, xin_10, (Or.inl wd_1026)⟩
theorem gf_LandBaseModel_Shape_9 : xGf "LandBaseModel$Shape" 9 11 4 := ⟨RX12, TX12, 7, rfl, by decide, xin_11, (Or.inl wd_997)⟩
theorem gf_LandBaseModel_Shape_15 : xGf "LandBaseModel$Shape" 15 11 5 := ⟨RX12, TX12, 7, rfl, by decide, xin_11, (Or.inl wd_999)⟩
theorem gf_LandBaseModel_Shape_18 : xGf "LandBaseModel$Shape" 18 11 6 := ⟨RX12, TX12, 7, rfl, by decide, xin_11, (Or.inl wd_1001)⟩
theorem gf_LandBaseModel_Shape_21 : xGf "LandBaseModel$Shape" 21 11 0 := ⟨RX12, TX12, 7, rfl, by decide, xin_11, (Or.inl wd_988)⟩
theorem gf_LandBaseModel_Shape_25 : xGf "LandBaseModel$Shape" 25 11 1 := ⟨RX12, TX12, 7, rfl, by decide, xin_11, (Or.inl wd_991)⟩
theorem gf_LandBaseModel_Shape_28 : xGf "LandBaseModel$Shape" 28 11 2 := ⟨RX12, TX12, 7, rfl, by decide, xin_11, (Or.inl wd_993)⟩
theorem gf_LandBaseModel_Shape_31 : xGf "LandBaseModel$Shape" 31 11 3 := ⟨RX12, TX12, 7, rfl, by decide, xin_11, (Or.inl wd_995)⟩
theorem gf_LandBaseModel_State_11 : xGf "LandBaseModel$State" 11 12 0 := ⟨RX13, TX13, 2, rfl, by decide, xin_12, (Or.inl wd_1042)⟩
theorem gf_LandBaseModel_State_18 : xGf "LandBaseModel$State" 18 12 1 := ⟨RX13, TX13, 2, rfl, by decide, xin_12, (Or.inl wd_1044)⟩
theorem gf_LandBaseModel_State_26 : xGf "LandBaseModel$State" 26 11 0 := ⟨RX12, TX12, 7, rfl, by decide, xin_11, (Or.inl wd_989)⟩
theorem pf_LandBase_10 : xPf "LandBase" 10 9 0 (.object "LandBase$Tape") true := ⟨RX10, TX10, 11, tyX10, rfl, by decide, xin_9, tyX10_ok, nmX10, rfl, by decide +kernel, (fun _ => ⟨rfl, wd_339⟩), (Or.inl wd_339)⟩
theorem pf_LandBase_19 : xPf "LandBase" 19 9 1 (.object "LandBase$Reader") true := ⟨RX10, TX10, 11, tyX10, rfl, by decide, xin_9, tyX10_ok, nmX10, rfl, by decide +kernel, (fun _ => ⟨rfl, wd_340⟩), (Or.inl wd_340)⟩
theorem pf_LandBase_26 : xPf "LandBase" 26 9 2 (.object "LandBase$Keeper") true := ⟨RX10, TX10, 11, tyX10, rfl, by decide, xin_9, tyX10_ok, nmX10, rfl, by decide +kernel, (fun _ => ⟨rfl, wd_341⟩), (Or.inl wd_341)⟩
theorem pf_LandBase_38 : xPf "LandBase" 38 9 3 (.object "LandBase$Checker") true := ⟨RX10, TX10, 11, tyX10, rfl, by decide, xin_9, tyX10_ok, nmX10, rfl, by decide +kernel, (fun _ => ⟨rfl, wd_342⟩), (Or.inl wd_342)⟩
theorem pf_LandBase_45 : xPf "LandBase" 45 9 4 (.object "LandBase$Relations") true := ⟨RX10, TX10, 11, tyX10, rfl, by decide, xin_9, tyX10_ok, nmX10, rfl, by decide +kernel, (fun _ => ⟨rfl, wd_343⟩), (Or.inl wd_343)⟩
theorem pf_LandBase_51 : xPf "LandBase" 51 9 5 (.array (.object "LandBase$Distance")) true := ⟨RX10, TX10, 11, tyX10, rfl, by decide, xin_9, tyX10_ok, nmX10, rfl, by decide +kernel, (fun _ => ⟨rfl, wd_344⟩), (Or.inl wd_344)⟩
theorem pf_LandBase_56 : xPf "LandBase" 56 9 6 (.array .int) true := ⟨RX10, TX10, 11, tyX10, rfl, by decide, xin_9, tyX10_ok, nmX10, rfl, by decide +kernel, (fun _ => ⟨rfl, wd_345⟩), (Or.inl wd_345)⟩
theorem pf_LandBase_60 : xPf "LandBase" 60 9 7 (.array .int) true := ⟨RX10, TX10, 11, tyX10, rfl, by decide, xin_9, tyX10_ok, nmX10, rfl, by decide +kernel, (fun _ => ⟨rfl, wd_346⟩), (Or.inl wd_346)⟩
theorem pf_LandBase_63 : xPf "LandBase" 63 9 8 .int false := ⟨RX10, TX10, 11, tyX10, rfl, by decide, xin_9, tyX10_ok, nmX10, rfl, by decide +kernel, (fun h => by cases h), (Or.inl wd_347)⟩
theorem pf_LandBase_67 : xPf "LandBase" 67 9 9 .int false := ⟨RX10, TX10, 11, tyX10, rfl, by decide, xin_9, tyX10_ok, nmX10, rfl, by decide +kernel, (fun h => by cases h), (Or.inl wd_348)⟩
theorem pf_LandBase_70 : xPf "LandBase" 70 9 10 .int false := ⟨RX10, TX10, 11, tyX10, rfl, by decide, xin_9, tyX10_ok, nmX10, rfl, by decide +kernel, (fun h => by cases h), (Or.inl wd_349)⟩
theorem pf_LandBase_73 : xPf "LandBase" 73 8 1 .int false := ⟨RX9, TX9, 6, tyX9, rfl, by decide, xin_8, tyX9_ok, nmX9, rfl, by decide +kernel, (fun h => by cases h), (Or.inr ⟨_, wd_37⟩)⟩
theorem pf_LandBase_136 : xPf "LandBase" 136 3 10 .int false := ⟨RX3, TX3, 12, tyX3, rfl, by decide, xin_3, tyX3_ok, nmX3, rfl, by decide +kernel, (fun h => by cases h), (Or.inr ⟨_, wd_219⟩)⟩
theorem pf_LandBase_139 : xPf "LandBase" 139 3 11 .int false := ⟨RX3, TX3, 12, tyX3, rfl, by decide, xin_3, tyX3_ok, nmX3, rfl, by decide +kernel, (fun h => by cases h), (Or.inr ⟨_, wd_220⟩)⟩
theorem pf_LandBase_Checker_9 : xPf "LandBase$Checker" 9 0 0 (.object "LandBase$Cutter") true := ⟨RX0, TX0, 2, tyX0, rfl, by decide, xin_0, tyX0_ok, nmX0, rfl, by decide +kernel, (fun _ => ⟨rfl, wd_305⟩), (Or.inl wd_305)⟩
theorem pf_LandBase_Checker_15 : xPf "LandBase$Checker" 15 0 1 (.array .int) true := ⟨RX0, TX0, 2, tyX0, rfl, by decide, xin_0, tyX0_ok, nmX0, rfl, by decide +kernel, (fun _ => ⟨rfl, wd_306⟩), (Or.inl wd_306)⟩
theorem pf_LandBase_Cutter_12 : xPf "LandBase$Cutter" 12 1 0 (.object "LandBase$Shape") false := ⟨RX1, TX1, 14, tyX1, rfl, by decide, xin_1, tyX1_ok, nmX1, rfl, by decide +kernel, (fun h => by cases h), (Or.inl wd_255)⟩
theorem pf_LandBase_Cutter_18 : xPf "LandBase$Cutter" 18 1 7 (.array .long) true := ⟨RX1, TX1, 14, tyX1, rfl, by decide, xin_1, tyX1_ok, nmX1, rfl, by decide +kernel, (fun _ => ⟨rfl, wd_262⟩), (Or.inl wd_262)⟩
theorem pf_LandBase_Cutter_22 : xPf "LandBase$Cutter" 22 1 8 (.array .long) true := ⟨RX1, TX1, 14, tyX1, rfl, by decide, xin_1, tyX1_ok, nmX1, rfl, by decide +kernel, (fun _ => ⟨rfl, wd_263⟩), (Or.inl wd_263)⟩
theorem pf_LandBase_Cutter_25 : xPf "LandBase$Cutter" 25 1 9 (.array .int) true := ⟨RX1, TX1, 14, tyX1, rfl, by decide, xin_1, tyX1_ok, nmX1, rfl, by decide +kernel, (fun _ => ⟨rfl, wd_264⟩), (Or.inl wd_264)⟩
theorem pf_LandBase_Cutter_33 : xPf "LandBase$Cutter" 33 1 1 .int false := ⟨RX1, TX1, 14, tyX1, rfl, by decide, xin_1, tyX1_ok, nmX1, rfl, by decide +kernel, (fun h => by cases h), (Or.inl wd_256)⟩
theorem pf_LandBase_Cutter_42 : xPf "LandBase$Cutter" 42 1 2 .int false := ⟨RX1, TX1, 14, tyX1, rfl, by decide, xin_1, tyX1_ok, nmX1, rfl, by decide +kernel, (fun h => by cases h), (Or.inl wd_257)⟩
theorem pf_LandBase_Cutter_48 : xPf "LandBase$Cutter" 48 1 3 .int false := ⟨RX1, TX1, 14, tyX1, rfl, by decide, xin_1, tyX1_ok, nmX1, rfl, by decide +kernel, (fun h => by cases h), (Or.inl wd_258)⟩
theorem pf_LandBase_Cutter_51 : xPf "LandBase$Cutter" 51 1 5 .int false := ⟨RX1, TX1, 14, tyX1, rfl, by decide, xin_1, tyX1_ok, nmX1, rfl, by decide +kernel, (fun h => by cases h), (Or.inl wd_260)⟩
theorem pf_LandBase_Cutter_57 : xPf "LandBase$Cutter" 57 1 4 .int false := ⟨RX1, TX1, 14, tyX1, rfl, by decide, xin_1, tyX1_ok, nmX1, rfl, by decide +kernel, (fun h => by cases h), (Or.inl wd_259)⟩
theorem pf_LandBase_Cutter_60 : xPf "LandBase$Cutter" 60 1 6 .int false := ⟨RX1, TX1, 14, tyX1, rfl, by decide, xin_1, tyX1_ok, nmX1, rfl, by decide +kernel, (fun h => by cases h), (Or.inl wd_261)⟩
theorem pf_LandBase_Cutter_85 : xPf "LandBase$Cutter" 85 1 13 .boolean false := ⟨RX1, TX1, 14, tyX1, rfl, by decide, xin_1, tyX1_ok, nmX1, rfl, by decide +kernel, (fun h => by cases h), (Or.inl wd_268)⟩
theorem pf_LandBase_Cutter_89 : xPf "LandBase$Cutter" 89 1 10 .int false := ⟨RX1, TX1, 14, tyX1, rfl, by decide, xin_1, tyX1_ok, nmX1, rfl, by decide +kernel, (fun h => by cases h), (Or.inl wd_265)⟩
theorem pf_LandBase_Cutter_92 : xPf "LandBase$Cutter" 92 1 11 .boolean false := ⟨RX1, TX1, 14, tyX1, rfl, by decide, xin_1, tyX1_ok, nmX1, rfl, by decide +kernel, (fun h => by cases h), (Or.inl wd_266)⟩
theorem pf_LandBase_Cutter_95 : xPf "LandBase$Cutter" 95 1 12 .int false := ⟨RX1, TX1, 14, tyX1, rfl, by decide, xin_1, tyX1_ok, nmX1, rfl, by decide +kernel, (fun h => by cases h), (Or.inl wd_267)⟩
theorem pf_LandBase_Distance_9 : xPf "LandBase$Distance" 9 2 2 .long false := ⟨RX2, TX2, 3, tyX2, rfl, by decide, xin_2, tyX2_ok, nmX2, rfl, by decide +kernel, (fun h => by cases h), (Or.inl wd_331)⟩
theorem pf_LandBase_Distance_57 : xPf "LandBase$Distance" 57 2 0 .long false := ⟨RX2, TX2, 3, tyX2, rfl, by decide, xin_2, tyX2_ok, nmX2, rfl, by decide +kernel, (fun h => by cases h), (Or.inl wd_329)⟩
theorem pf_LandBase_Distance_60 : xPf "LandBase$Distance" 60 2 1 .long false := ⟨RX2, TX2, 3, tyX2, rfl, by decide, xin_2, tyX2_ok, nmX2, rfl, by decide +kernel, (fun h => by cases h), (Or.inl wd_330)⟩
theorem pf_LandBase_Keeper_12 : xPf "LandBase$Keeper" 12 3 0 (.object "LandBase$Table") true := ⟨RX3, TX3, 12, tyX3, rfl, by decide, xin_3, tyX3_ok, nmX3, rfl, by decide +kernel, (fun _ => ⟨rfl, wd_203⟩), (Or.inl wd_203)⟩
theorem pf_LandBase_Keeper_18 : xPf "LandBase$Keeper" 18 3 1 (.object "LandBase$Table") true := ⟨RX3, TX3, 12, tyX3, rfl, by decide, xin_3, tyX3_ok, nmX3, rfl, by decide +kernel, (fun _ => ⟨rfl, wd_205⟩), (Or.inl wd_205)⟩
theorem pf_LandBase_Keeper_23 : xPf "LandBase$Keeper" 23 3 2 (.array (.object "LandBase$Shape")) true := ⟨RX3, TX3, 12, tyX3, rfl, by decide, xin_3, tyX3_ok, nmX3, rfl, by decide +kernel, (fun _ => ⟨rfl, wd_206⟩), (Or.inl wd_206)⟩
theorem pf_LandBase_Keeper_27 : xPf "LandBase$Keeper" 27 3 10 .int false := ⟨RX3, TX3, 12, tyX3, rfl, by decide, xin_3, tyX3_ok, nmX3, rfl, by decide +kernel, (fun h => by cases h), (Or.inl wd_218)⟩
theorem pf_LandBase_Keeper_31 : xPf "LandBase$Keeper" 31 3 3 .int false := ⟨RX3, TX3, 12, tyX3, rfl, by decide, xin_3, tyX3_ok, nmX3, rfl, by decide +kernel, (fun h => by cases h), (Or.inl wd_207)⟩
theorem pf_LandBase_Keeper_34 : xPf "LandBase$Keeper" 34 3 4 .int false := ⟨RX3, TX3, 12, tyX3, rfl, by decide, xin_3, tyX3_ok, nmX3, rfl, by decide +kernel, (fun h => by cases h), (Or.inl wd_208)⟩
theorem pf_LandBase_Keeper_41 : xPf "LandBase$Keeper" 41 3 5 .boolean false := ⟨RX3, TX3, 12, tyX3, rfl, by decide, xin_3, tyX3_ok, nmX3, rfl, by decide +kernel, (fun h => by cases h), (Or.inl wd_209)⟩
theorem pf_LandBase_Keeper_45 : xPf "LandBase$Keeper" 45 3 7 .int false := ⟨RX3, TX3, 12, tyX3, rfl, by decide, xin_3, tyX3_ok, nmX3, rfl, by decide +kernel, (fun h => by cases h), (Or.inl wd_213)⟩
theorem pf_LandBase_Keeper_69 : xPf "LandBase$Keeper" 69 3 8 .int false := ⟨RX3, TX3, 12, tyX3, rfl, by decide, xin_3, tyX3_ok, nmX3, rfl, by decide +kernel, (fun h => by cases h), (Or.inl wd_214)⟩
theorem pf_LandBase_Keeper_72 : xPf "LandBase$Keeper" 72 3 11 .int false := ⟨RX3, TX3, 12, tyX3, rfl, by decide, xin_3, tyX3_ok, nmX3, rfl, by decide +kernel, (fun h => by cases h), (Or.inl wd_221)⟩
theorem pf_LandBase_Keeper_75 : xPf "LandBase$Keeper" 75 3 6 .boolean false := ⟨RX3, TX3, 12, tyX3, rfl, by decide, xin_3, tyX3_ok, nmX3, rfl, by decide +kernel, (fun h => by cases h), (Or.inl wd_212)⟩
theorem pf_LandBase_Keeper_78 : xPf "LandBase$Keeper" 78 3 9 .int false := ⟨RX3, TX3, 12, tyX3, rfl, by decide, xin_3, tyX3_ok, nmX3, rfl, by decide +kernel, (fun h => by cases h), (Or.inl wd_216)⟩
theorem pf_LandBase_Reader_11 : xPf "LandBase$Reader" 11 4 0 (.array .int) true := ⟨RX5, TX5, 6, tyX5, rfl, by decide, xin_4, tyX5_ok, nmX5, rfl, by decide +kernel, (fun _ => ⟨rfl, wd_150⟩), (Or.inl wd_150)⟩
theorem pf_LandBase_Reader_18 : xPf "LandBase$Reader" 18 4 1 (.object "LandBase$Shape") true := ⟨RX5, TX5, 6, tyX5, rfl, by decide, xin_4, tyX5_ok, nmX5, rfl, by decide +kernel, (fun _ => ⟨rfl, wd_152⟩), (Or.inl wd_152)⟩
theorem pf_LandBase_Reader_22 : xPf "LandBase$Reader" 22 4 2 .int false := ⟨RX5, TX5, 6, tyX5, rfl, by decide, xin_4, tyX5_ok, nmX5, rfl, by decide +kernel, (fun h => by cases h), (Or.inl wd_154)⟩
theorem pf_LandBase_Reader_34 : xPf "LandBase$Reader" 34 4 3 .int false := ⟨RX5, TX5, 6, tyX5, rfl, by decide, xin_4, tyX5_ok, nmX5, rfl, by decide +kernel, (fun h => by cases h), (Or.inl wd_155)⟩
theorem pf_LandBase_Reader_66 : xPf "LandBase$Reader" 66 4 5 .int false := ⟨RX5, TX5, 6, tyX5, rfl, by decide, xin_4, tyX5_ok, nmX5, rfl, by decide +kernel, (fun h => by cases h), (Or.inl wd_159)⟩
theorem pf_LandBase_Reader_71 : xPf "LandBase$Reader" 71 4 4 .int false := ⟨RX5, TX5, 6, tyX5, rfl, by decide, xin_4, tyX5_ok, nmX5, rfl, by decide +kernel, (fun h => by cases h), (Or.inl wd_157)⟩
theorem pf_LandBase_Relations_9 : xPf "LandBase$Relations" 9 5 0 (.object "LandBase$Cutter") true := ⟨RX6, TX6, 1, tyX6, rfl, by decide, xin_5, tyX6_ok, nmX6, rfl, by decide +kernel, (fun _ => ⟨rfl, wd_318⟩), (Or.inl wd_318)⟩
theorem pf_LandBase_Shape_9 : xPf "LandBase$Shape" 9 6 9 (.array .int) true := ⟨RX7, TX7, 13, tyX7, rfl, by decide, xin_6, tyX7_ok, nmX7, rfl, by decide +kernel, (fun _ => ⟨rfl, wd_101⟩), (Or.inl wd_101)⟩
theorem pf_LandBase_Shape_15 : xPf "LandBase$Shape" 15 6 10 (.array .int) true := ⟨RX7, TX7, 13, tyX7, rfl, by decide, xin_6, tyX7_ok, nmX7, rfl, by decide +kernel, (fun _ => ⟨rfl, wd_108⟩), (Or.inl wd_108)⟩
theorem pf_LandBase_Shape_18 : xPf "LandBase$Shape" 18 6 11 (.array .int) true := ⟨RX7, TX7, 13, tyX7, rfl, by decide, xin_6, tyX7_ok, nmX7, rfl, by decide +kernel, (fun _ => ⟨rfl, wd_115⟩), (Or.inl wd_115)⟩
theorem pf_LandBase_Shape_21 : xPf "LandBase$Shape" 21 6 12 (.array .boolean) true := ⟨RX7, TX7, 13, tyX7, rfl, by decide, xin_6, tyX7_ok, nmX7, rfl, by decide +kernel, (fun _ => ⟨rfl, wd_117⟩), (Or.inl wd_117)⟩
theorem pf_LandBase_Shape_25 : xPf "LandBase$Shape" 25 6 0 .int false := ⟨RX7, TX7, 13, tyX7, rfl, by decide, xin_6, tyX7_ok, nmX7, rfl, by decide +kernel, (fun h => by cases h), (Or.inl wd_73)⟩
theorem pf_LandBase_Shape_29 : xPf "LandBase$Shape" 29 6 1 .int false := ⟨RX7, TX7, 13, tyX7, rfl, by decide, xin_6, tyX7_ok, nmX7, rfl, by decide +kernel, (fun h => by cases h), (Or.inl wd_78)⟩
theorem pf_LandBase_Shape_32 : xPf "LandBase$Shape" 32 6 2 .int false := ⟨RX7, TX7, 13, tyX7, rfl, by decide, xin_6, tyX7_ok, nmX7, rfl, by decide +kernel, (fun h => by cases h), (Or.inl wd_86)⟩
theorem pf_LandBase_Shape_35 : xPf "LandBase$Shape" 35 6 3 .boolean false := ⟨RX7, TX7, 13, tyX7, rfl, by decide, xin_6, tyX7_ok, nmX7, rfl, by decide +kernel, (fun h => by cases h), (Or.inl wd_89)⟩
theorem pf_LandBase_Shape_39 : xPf "LandBase$Shape" 39 6 4 .int false := ⟨RX7, TX7, 13, tyX7, rfl, by decide, xin_6, tyX7_ok, nmX7, rfl, by decide +kernel, (fun h => by cases h), (Or.inl wd_92)⟩
theorem pf_LandBase_Shape_42 : xPf "LandBase$Shape" 42 6 6 .int false := ⟨RX7, TX7, 13, tyX7, rfl, by decide, xin_6, tyX7_ok, nmX7, rfl, by decide +kernel, (fun h => by cases h), (Or.inl wd_96)⟩
theorem pf_LandBase_Shape_45 : xPf "LandBase$Shape" 45 6 5 .int false := ⟨RX7, TX7, 13, tyX7, rfl, by decide, xin_6, tyX7_ok, nmX7, rfl, by decide +kernel, (fun h => by cases h), (Or.inl wd_94)⟩
theorem pf_LandBase_Shape_48 : xPf "LandBase$Shape" 48 6 7 .int false := ⟨RX7, TX7, 13, tyX7, rfl, by decide, xin_6, tyX7_ok, nmX7, rfl, by decide +kernel, (fun h => by cases h), (Or.inl wd_98)⟩
theorem pf_LandBase_Table_9 : xPf "LandBase$Table" 9 7 0 (.array .int) true := ⟨RX8, TX8, 3, tyX8, rfl, by decide, xin_7, tyX8_ok, nmX8, rfl, by decide +kernel, (fun _ => ⟨rfl, wd_188⟩), (Or.inl wd_188)⟩
theorem pf_LandBase_Table_17 : xPf "LandBase$Table" 17 7 1 (.array (.object "LandBase$Shape")) true := ⟨RX8, TX8, 3, tyX8, rfl, by decide, xin_7, tyX8_ok, nmX8, rfl, by decide +kernel, (fun _ => ⟨rfl, wd_190⟩), (Or.inl wd_190)⟩
theorem pf_LandBase_Table_21 : xPf "LandBase$Table" 21 7 2 .int false := ⟨RX8, TX8, 3, tyX8, rfl, by decide, xin_7, tyX8_ok, nmX8, rfl, by decide +kernel, (fun h => by cases h), (Or.inl wd_192)⟩
theorem pf_LandBase_Table_29 : xPf "LandBase$Table" 29 6 8 .int false := ⟨RX7, TX7, 13, tyX7, rfl, by decide, xin_6, tyX7_ok, nmX7, rfl, by decide +kernel, (fun h => by cases h), (Or.inr ⟨_, wd_100⟩)⟩
theorem pf_LandBase_Tape_9 : xPf "LandBase$Tape" 9 8 0 (.array .byte) true := ⟨RX9, TX9, 6, tyX9, rfl, by decide, xin_8, tyX9_ok, nmX9, rfl, by decide +kernel, (fun _ => ⟨rfl, wd_35⟩), (Or.inl wd_35)⟩
theorem pf_LandBase_Tape_15 : xPf "LandBase$Tape" 15 8 1 .int false := ⟨RX9, TX9, 6, tyX9, rfl, by decide, xin_8, tyX9_ok, nmX9, rfl, by decide +kernel, (fun h => by cases h), (Or.inl wd_36)⟩
theorem pf_LandBase_Tape_19 : xPf "LandBase$Tape" 19 8 4 .int false := ⟨RX9, TX9, 6, tyX9, rfl, by decide, xin_8, tyX9_ok, nmX9, rfl, by decide +kernel, (fun h => by cases h), (Or.inl wd_43)⟩
theorem pf_LandBase_Tape_25 : xPf "LandBase$Tape" 25 8 3 .int false := ⟨RX9, TX9, 6, tyX9, rfl, by decide, xin_8, tyX9_ok, nmX9, rfl, by decide +kernel, (fun h => by cases h), (Or.inl wd_42)⟩
theorem pf_LandBase_Tape_28 : xPf "LandBase$Tape" 28 8 2 .int false := ⟨RX9, TX9, 6, tyX9, rfl, by decide, xin_8, tyX9_ok, nmX9, rfl, by decide +kernel, (fun h => by cases h), (Or.inl wd_40)⟩
theorem pf_LandBase_Tape_41 : xPf "LandBase$Tape" 41 8 5 .int false := ⟨RX9, TX9, 6, tyX9, rfl, by decide, xin_8, tyX9_ok, nmX9, rfl, by decide +kernel, (fun h => by cases h), (Or.inl wd_45)⟩
theorem pf_LandBaseModel_5 : xPf "LandBaseModel" 5 13 0 (.array .long) true := ⟨RX14, TX14, 58, tyX14, rfl, by decide, xin_13, tyX14_ok, nmX14, rfl, by decide +kernel, (fun _ => ⟨rfl, wd_1052⟩), (Or.inl wd_1052)⟩
theorem pf_LandBaseModel_13 : xPf "LandBaseModel" 13 13 1 (.array .long) true := ⟨RX14, TX14, 58, tyX14, rfl, by decide, xin_13, tyX14_ok, nmX14, rfl, by decide +kernel, (fun _ => ⟨rfl, wd_1053⟩), (Or.inl wd_1053)⟩
theorem pf_LandBaseModel_16 : xPf "LandBaseModel" 16 13 2 (.array .long) true := ⟨RX14, TX14, 58, tyX14, rfl, by decide, xin_13, tyX14_ok, nmX14, rfl, by decide +kernel, (fun _ => ⟨rfl, wd_1054⟩), (Or.inl wd_1054)⟩
theorem pf_LandBaseModel_23 : xPf "LandBaseModel" 23 13 3 (.array .long) true := ⟨RX14, TX14, 58, tyX14, rfl, by decide, xin_13, tyX14_ok, nmX14, rfl, by decide +kernel, (fun _ => ⟨rfl, wd_1055⟩), (Or.inl wd_1055)⟩
theorem pf_LandBaseModel_94 : xPf "LandBaseModel" 94 13 10 .long false := ⟨RX14, TX14, 58, tyX14, rfl, by decide, xin_13, tyX14_ok, nmX14, rfl, by decide +kernel, (fun h => by cases h), (Or.inl wd_1062)⟩
theorem pf_LandBaseModel_98 : xPf "LandBaseModel" 98 13 9 .boolean false := ⟨RX14, TX14, 58, tyX14, rfl, by decide, xin_13, tyX14_ok, nmX14, rfl, by decide +kernel, (fun h => by cases h), (Or.inl wd_1061)⟩
theorem pf_LandBaseModel_102 : xPf "LandBaseModel" 102 13 8 .boolean false := ⟨RX14, TX14, 58, tyX14, rfl, by decide, xin_13, tyX14_ok, nmX14, rfl, by decide +kernel, (fun h => by cases h), (Or.inl wd_1060)⟩
theorem pf_LandBaseModel_105 : xPf "LandBaseModel" 105 13 11 .long false := ⟨RX14, TX14, 58, tyX14, rfl, by decide, xin_13, tyX14_ok, nmX14, rfl, by decide +kernel, (fun h => by cases h), (Or.inl wd_1063)⟩
theorem pf_LandBaseModel_108 : xPf "LandBaseModel" 108 13 12 .long false := ⟨RX14, TX14, 58, tyX14, rfl, by decide, xin_13, tyX14_ok, nmX14, rfl, by decide +kernel, (fun h => by cases h), (Or.inl wd_1064)⟩
theorem pf_LandBaseModel_111 : xPf "LandBaseModel" 111 13 14 (.array .long) true := ⟨RX14, TX14, 58, tyX14, rfl, by decide, xin_13, tyX14_ok, nmX14, rfl, by decide +kernel, (fun _ => ⟨rfl, wd_1066⟩), (Or.inl wd_1066)⟩
theorem pf_LandBaseModel_114 : xPf "LandBaseModel" 114 13 13 .int false := ⟨RX14, TX14, 58, tyX14, rfl, by decide, xin_13, tyX14_ok, nmX14, rfl, by decide +kernel, (fun h => by cases h), (Or.inl wd_1065)⟩
theorem pf_LandBaseModel_117 : xPf "LandBaseModel" 117 13 15 (.array .long) true := ⟨RX14, TX14, 58, tyX14, rfl, by decide, xin_13, tyX14_ok, nmX14, rfl, by decide +kernel, (fun _ => ⟨rfl, wd_1067⟩), (Or.inl wd_1067)⟩
theorem pf_LandBaseModel_120 : xPf "LandBaseModel" 120 13 16 .boolean false := ⟨RX14, TX14, 58, tyX14, rfl, by decide, xin_13, tyX14_ok, nmX14, rfl, by decide +kernel, (fun h => by cases h), (Or.inl wd_1068)⟩
theorem pf_LandBaseModel_126 : xPf "LandBaseModel" 126 13 17 .boolean false := ⟨RX14, TX14, 58, tyX14, rfl, by decide, xin_13, tyX14_ok, nmX14, rfl, by decide +kernel, (fun h => by cases h), (Or.inl wd_1069)⟩
theorem pf_LandBaseModel_129 : xPf "LandBaseModel" 129 13 18 .boolean false := ⟨RX14, TX14, 58, tyX14, rfl, by decide, xin_13, tyX14_ok, nmX14, rfl, by decide +kernel, (fun h => by cases h), (Or.inl wd_1070)⟩
theorem pf_LandBaseModel_132 : xPf "LandBaseModel" 132 13 19 .int false := ⟨RX14, TX14, 58, tyX14, rfl, by decide, xin_13, tyX14_ok, nmX14, rfl, by decide +kernel, (fun h => by cases h), (Or.inl wd_1071)⟩
theorem pf_LandBaseModel_135 : xPf "LandBaseModel" 135 13 20 .long false := ⟨RX14, TX14, 58, tyX14, rfl, by decide, xin_13, tyX14_ok, nmX14, rfl, by decide +kernel, (fun h => by cases h), (Or.inl wd_1072)⟩
theorem pf_LandBaseModel_138 : xPf "LandBaseModel" 138 13 21 .long false := ⟨RX14, TX14, 58, tyX14, rfl, by decide, xin_13, tyX14_ok, nmX14, rfl, by decide +kernel, (fun h => by cases h), (Or.inl wd_1073)⟩
theorem pf_LandBaseModel_141 : xPf "LandBaseModel" 141 13 22 .boolean false := ⟨RX14, TX14, 58, tyX14, rfl, by decide, xin_13, tyX14_ok, nmX14, rfl, by decide +kernel, (fun h => by cases h), (Or.inl wd_1074)⟩
theorem pf_LandBaseModel_156 : xPf "LandBaseModel" 156 13 23 (.array .boolean) true := ⟨RX14, TX14, 58, tyX14, rfl, by decide, xin_13, tyX14_ok, nmX14, rfl, by decide +kernel, (fun _ => ⟨rfl, wd_1075⟩), (Or.inl wd_1075)⟩
theorem pf_LandBaseModel_168 : xPf "LandBaseModel" 168 13 4 .boolean false := ⟨RX14, TX14, 58, tyX14, rfl, by decide, xin_13, tyX14_ok, nmX14, rfl, by decide +kernel, (fun h => by cases h), (Or.inl wd_1056)⟩
theorem pf_LandBaseModel_171 : xPf "LandBaseModel" 171 13 5 .boolean false := ⟨RX14, TX14, 58, tyX14, rfl, by decide, xin_13, tyX14_ok, nmX14, rfl, by decide +kernel, (fun h => by cases h), (Or.inl wd_1057)⟩
theorem pf_LandBaseModel_174 : xPf "LandBaseModel" 174 13 6 .boolean false := ⟨RX14, TX14, 58, tyX14, rfl, by decide, xin_13, tyX14_ok, nmX14, rfl, by decide +kernel, (fun h => by cases h), (Or.inl wd_1058)⟩
theorem pf_LandBaseModel_177 : xPf "LandBaseModel" 177 13 7 .boolean false := ⟨RX14, TX14, 58, tyX14, rfl, by decide, xin_13, tyX14_ok, nmX14, rfl, by decide +kernel, (fun h => by cases h), (Or.inl wd_1059)⟩
theorem pf_LandBaseModel_254 : xPf "LandBaseModel" 254 13 24 (.object "LandBaseModel$Shape") true := ⟨RX14, TX14, 58, tyX14, rfl, by decide, xin_13, tyX14_ok, nmX14, rfl, by decide +kernel, (fun _ => ⟨rfl, wd_1076⟩), (Or.inl wd_1076)⟩
theorem pf_LandBaseModel_262 : xPf "LandBaseModel" 262 13 25 (.object "LandBaseModel$Shape") true := ⟨RX14, TX14, 58, tyX14, rfl, by decide, xin_13, tyX14_ok, nmX14, rfl, by decide +kernel, (fun _ => ⟨rfl, wd_1077⟩), (Or.inl wd_1077)⟩
theorem pf_LandBaseModel_265 : xPf "LandBaseModel" 265 13 26 (.array .int) true := ⟨RX14, TX14, 58, tyX14, rfl, by decide, xin_13, tyX14_ok, nmX14, rfl, by decide +kernel, (fun _ => ⟨rfl, wd_1078⟩), (Or.inl wd_1078)⟩
theorem pf_LandBaseModel_296 : xPf "LandBaseModel" 296 13 27 (.object "LandBaseModel$Distance") true := ⟨RX14, TX14, 58, tyX14, rfl, by decide, xin_13, tyX14_ok, nmX14, rfl, by decide +kernel, (fun _ => ⟨rfl, wd_1079⟩), (Or.inl wd_1079)⟩
theorem pf_LandBaseModel_318 : xPf "LandBaseModel" 318 13 33 .boolean false := ⟨RX14, TX14, 58, tyX14, rfl, by decide, xin_13, tyX14_ok, nmX14, rfl, by decide +kernel, (fun h => by cases h), (Or.inl wd_1085)⟩
theorem pf_LandBaseModel_321 : xPf "LandBaseModel" 321 13 32 .boolean false := ⟨RX14, TX14, 58, tyX14, rfl, by decide, xin_13, tyX14_ok, nmX14, rfl, by decide +kernel, (fun h => by cases h), (Or.inl wd_1084)⟩
theorem pf_LandBaseModel_323 : xPf "LandBaseModel" 323 13 37 .int false := ⟨RX14, TX14, 58, tyX14, rfl, by decide, xin_13, tyX14_ok, nmX14, rfl, by decide +kernel, (fun h => by cases h), (Or.inl wd_1089)⟩
theorem pf_LandBaseModel_326 : xPf "LandBaseModel" 326 13 38 .int false := ⟨RX14, TX14, 58, tyX14, rfl, by decide, xin_13, tyX14_ok, nmX14, rfl, by decide +kernel, (fun h => by cases h), (Or.inl wd_1090)⟩
theorem pf_LandBaseModel_332 : xPf "LandBaseModel" 332 13 35 .int false := ⟨RX14, TX14, 58, tyX14, rfl, by decide, xin_13, tyX14_ok, nmX14, rfl, by decide +kernel, (fun h => by cases h), (Or.inl wd_1087)⟩
theorem pf_LandBaseModel_335 : xPf "LandBaseModel" 335 13 36 .int false := ⟨RX14, TX14, 58, tyX14, rfl, by decide, xin_13, tyX14_ok, nmX14, rfl, by decide +kernel, (fun h => by cases h), (Or.inl wd_1088)⟩
theorem pf_LandBaseModel_338 : xPf "LandBaseModel" 338 13 34 .int false := ⟨RX14, TX14, 58, tyX14, rfl, by decide, xin_13, tyX14_ok, nmX14, rfl, by decide +kernel, (fun h => by cases h), (Or.inl wd_1086)⟩
theorem pf_LandBaseModel_347 : xPf "LandBaseModel" 347 13 31 (.object "LandBaseModel$State") true := ⟨RX14, TX14, 58, tyX14, rfl, by decide, xin_13, tyX14_ok, nmX14, rfl, by decide +kernel, (fun _ => ⟨rfl, wd_1083⟩), (Or.inl wd_1083)⟩
theorem pf_LandBaseModel_351 : xPf "LandBaseModel" 351 13 30 (.object "LandBaseModel$State") true := ⟨RX14, TX14, 58, tyX14, rfl, by decide, xin_13, tyX14_ok, nmX14, rfl, by decide +kernel, (fun _ => ⟨rfl, wd_1082⟩), (Or.inl wd_1082)⟩
theorem pf_LandBaseModel_359 : xPf "LandBaseModel" 359 13 43 (.array .int) true := ⟨RX14, TX14, 58, tyX14, rfl, by decide, xin_13, tyX14_ok, nmX14, rfl, by decide +kernel, (fun _ => ⟨rfl, wd_1095⟩), (Or.inl wd_1095)⟩
theorem pf_LandBaseModel_362 : xPf "LandBaseModel" 362 13 44 .int false := ⟨RX14, TX14, 58, tyX14, rfl, by decide, xin_13, tyX14_ok, nmX14, rfl, by decide +kernel, (fun h => by cases h), (Or.inl wd_1096)⟩
theorem pf_LandBaseModel_365 : xPf "LandBaseModel" 365 13 48 .boolean false := ⟨RX14, TX14, 58, tyX14, rfl, by decide, xin_13, tyX14_ok, nmX14, rfl, by decide +kernel, (fun h => by cases h), (Or.inl wd_1100)⟩
theorem pf_LandBaseModel_368 : xPf "LandBaseModel" 368 13 46 .int false := ⟨RX14, TX14, 58, tyX14, rfl, by decide, xin_13, tyX14_ok, nmX14, rfl, by decide +kernel, (fun h => by cases h), (Or.inl wd_1098)⟩
theorem pf_LandBaseModel_370 : xPf "LandBaseModel" 370 13 42 .int false := ⟨RX14, TX14, 58, tyX14, rfl, by decide, xin_13, tyX14_ok, nmX14, rfl, by decide +kernel, (fun h => by cases h), (Or.inl wd_1094)⟩
theorem pf_LandBaseModel_373 : xPf "LandBaseModel" 373 13 40 .int false := ⟨RX14, TX14, 58, tyX14, rfl, by decide, xin_13, tyX14_ok, nmX14, rfl, by decide +kernel, (fun h => by cases h), (Or.inl wd_1092)⟩
theorem pf_LandBaseModel_376 : xPf "LandBaseModel" 376 13 39 (.array .int) true := ⟨RX14, TX14, 58, tyX14, rfl, by decide, xin_13, tyX14_ok, nmX14, rfl, by decide +kernel, (fun _ => ⟨rfl, wd_1091⟩), (Or.inl wd_1091)⟩
theorem pf_LandBaseModel_379 : xPf "LandBaseModel" 379 13 41 .int false := ⟨RX14, TX14, 58, tyX14, rfl, by decide, xin_13, tyX14_ok, nmX14, rfl, by decide +kernel, (fun h => by cases h), (Or.inl wd_1093)⟩
theorem pf_LandBaseModel_385 : xPf "LandBaseModel" 385 13 45 .int false := ⟨RX14, TX14, 58, tyX14, rfl, by decide, xin_13, tyX14_ok, nmX14, rfl, by decide +kernel, (fun h => by cases h), (Or.inl wd_1097)⟩
theorem pf_LandBaseModel_404 : xPf "LandBaseModel" 404 13 47 .int false := ⟨RX14, TX14, 58, tyX14, rfl, by decide, xin_13, tyX14_ok, nmX14, rfl, by decide +kernel, (fun h => by cases h), (Or.inl wd_1099)⟩
theorem pf_LandBaseModel_429 : xPf "LandBaseModel" 429 13 50 .int false := ⟨RX14, TX14, 58, tyX14, rfl, by decide, xin_13, tyX14_ok, nmX14, rfl, by decide +kernel, (fun h => by cases h), (Or.inl wd_1102)⟩
theorem pf_LandBaseModel_432 : xPf "LandBaseModel" 432 13 49 (.object "LandBaseModel$Shape") true := ⟨RX14, TX14, 58, tyX14, rfl, by decide, xin_13, tyX14_ok, nmX14, rfl, by decide +kernel, (fun _ => ⟨rfl, wd_1101⟩), (Or.inl wd_1101)⟩
theorem pf_LandBaseModel_441 : xPf "LandBaseModel" 441 13 51 .int false := ⟨RX14, TX14, 58, tyX14, rfl, by decide, xin_13, tyX14_ok, nmX14, rfl, by decide +kernel, (fun h => by cases h), (Or.inl wd_1103)⟩
theorem pf_LandBaseModel_464 : xPf "LandBaseModel" 464 13 28 (.object "LandBaseModel$Distance") true := ⟨RX14, TX14, 58, tyX14, rfl, by decide, xin_13, tyX14_ok, nmX14, rfl, by decide +kernel, (fun _ => ⟨rfl, wd_1080⟩), (Or.inl wd_1080)⟩
theorem pf_LandBaseModel_467 : xPf "LandBaseModel" 467 13 29 (.object "LandBaseModel$Distance") true := ⟨RX14, TX14, 58, tyX14, rfl, by decide, xin_13, tyX14_ok, nmX14, rfl, by decide +kernel, (fun _ => ⟨rfl, wd_1081⟩), (Or.inl wd_1081)⟩
theorem pf_LandBaseModel_471 : xPf "LandBaseModel" 471 13 52 (.array .int) true := ⟨RX14, TX14, 58, tyX14, rfl, by decide, xin_13, tyX14_ok, nmX14, rfl, by decide +kernel, (fun _ => ⟨rfl, wd_1104⟩), (Or.inl wd_1104)⟩
theorem pf_LandBaseModel_474 : xPf "LandBaseModel" 474 13 53 (.object "LandBaseModel$Shape") true := ⟨RX14, TX14, 58, tyX14, rfl, by decide, xin_13, tyX14_ok, nmX14, rfl, by decide +kernel, (fun _ => ⟨rfl, wd_1105⟩), (Or.inl wd_1105)⟩
theorem pf_LandBaseModel_477 : xPf "LandBaseModel" 477 13 54 (.array (.object "LandBaseModel$Distance")) true := ⟨RX14, TX14, 58, tyX14, rfl, by decide, xin_13, tyX14_ok, nmX14, rfl, by decide +kernel, (fun _ => ⟨rfl, wd_1106⟩), (Or.inl wd_1106)⟩
theorem pf_LandBaseModel_481 : xPf "LandBaseModel" 481 13 55 (.array .int) true := ⟨RX14, TX14, 58, tyX14, rfl, by decide, xin_13, tyX14_ok, nmX14, rfl, by decide +kernel, (fun _ => ⟨rfl, wd_1107⟩), (Or.inl wd_1107)⟩
theorem pf_LandBaseModel_604 : xPf "LandBaseModel" 604 13 56 .int false := ⟨RX14, TX14, 58, tyX14, rfl, by decide, xin_13, tyX14_ok, nmX14, rfl, by decide +kernel, (fun h => by cases h), (Or.inl wd_1108)⟩
theorem pf_LandBaseModel_617 : xPf "LandBaseModel" 617 13 57 .int false := ⟨RX14, TX14, 58, tyX14, rfl, by decide, xin_13, tyX14_ok, nmX14, rfl, by decide +kernel, (fun h => by cases h), (Or.inl wd_1109)⟩
theorem pf_LandBaseModel_Distance_9 : xPf "LandBaseModel$Distance" 9 10 0 (.array .long) true := ⟨RX11, TX11, 2, tyX11, rfl, by decide, xin_10, tyX11_ok, nmX11, rfl, by decide +kernel, (fun _ => ⟨rfl, wd_1024⟩), (Or.inl wd_1024)⟩
theorem pf_LandBaseModel_Distance_15 : xPf "LandBaseModel$Distance" 15 10 1 (.array .long) true := ⟨RX11, TX11, 2, tyX11, rfl, by decide, xin_10, tyX11_ok, nmX11, rfl, by decide +kernel, (fun _ => ⟨rfl, wd_1026⟩), (Or.inl wd_1026)⟩
theorem pf_LandBaseModel_Shape_9 : xPf "LandBaseModel$Shape" 9 11 4 (.array .int) true := ⟨RX12, TX12, 7, tyX12, rfl, by decide, xin_11, tyX12_ok, nmX12, rfl, by decide +kernel, (fun _ => ⟨rfl, wd_997⟩), (Or.inl wd_997)⟩
theorem pf_LandBaseModel_Shape_15 : xPf "LandBaseModel$Shape" 15 11 5 (.array .int) true := ⟨RX12, TX12, 7, tyX12, rfl, by decide, xin_11, tyX12_ok, nmX12, rfl, by decide +kernel, (fun _ => ⟨rfl, wd_999⟩), (Or.inl wd_999)⟩
theorem pf_LandBaseModel_Shape_18 : xPf "LandBaseModel$Shape" 18 11 6 (.array .int) true := ⟨RX12, TX12, 7, tyX12, rfl, by decide, xin_11, tyX12_ok, nmX12, rfl, by decide +kernel, (fun _ => ⟨rfl, wd_1001⟩), (Or.inl wd_1001)⟩
theorem pf_LandBaseModel_Shape_21 : xPf "LandBaseModel$Shape" 21 11 0 .int false := ⟨RX12, TX12, 7, tyX12, rfl, by decide, xin_11, tyX12_ok, nmX12, rfl, by decide +kernel, (fun h => by cases h), (Or.inl wd_988)⟩
theorem pf_LandBaseModel_Shape_25 : xPf "LandBaseModel$Shape" 25 11 1 .int false := ⟨RX12, TX12, 7, tyX12, rfl, by decide, xin_11, tyX12_ok, nmX12, rfl, by decide +kernel, (fun h => by cases h), (Or.inl wd_991)⟩
theorem pf_LandBaseModel_Shape_28 : xPf "LandBaseModel$Shape" 28 11 2 .int false := ⟨RX12, TX12, 7, tyX12, rfl, by decide, xin_11, tyX12_ok, nmX12, rfl, by decide +kernel, (fun h => by cases h), (Or.inl wd_993)⟩
theorem pf_LandBaseModel_Shape_31 : xPf "LandBaseModel$Shape" 31 11 3 .int false := ⟨RX12, TX12, 7, tyX12, rfl, by decide, xin_11, tyX12_ok, nmX12, rfl, by decide +kernel, (fun h => by cases h), (Or.inl wd_995)⟩
theorem pf_LandBaseModel_State_11 : xPf "LandBaseModel$State" 11 12 0 (.array (.object "LandBaseModel$Shape")) true := ⟨RX13, TX13, 2, tyX13, rfl, by decide, xin_12, tyX13_ok, nmX13, rfl, by decide +kernel, (fun _ => ⟨rfl, wd_1042⟩), (Or.inl wd_1042)⟩
theorem pf_LandBaseModel_State_18 : xPf "LandBaseModel$State" 18 12 1 .int false := ⟨RX13, TX13, 2, tyX13, rfl, by decide, xin_12, tyX13_ok, nmX13, rfl, by decide +kernel, (fun h => by cases h), (Or.inl wd_1044)⟩
theorem pf_LandBaseModel_State_26 : xPf "LandBaseModel$State" 26 11 0 .int false := ⟨RX12, TX12, 7, tyX12, rfl, by decide, xin_11, tyX12_ok, nmX12, rfl, by decide +kernel, (fun h => by cases h), (Or.inl wd_989)⟩
theorem nw_LandBase_7 : xNw "LandBase" 7 8 6 [.null, .int 0, .int 0, .int 0, .int 0, .int 0] := ⟨RX9, TX9, tyX9, rfl, xin_8, tyX9_ok, wd_29, wd_30, wd_2, by decide +kernel⟩
theorem nw_LandBase_16 : xNw "LandBase" 16 4 6 [.null, .null, .int 0, .int 0, .int 0, .int 0] := ⟨RX5, TX5, tyX5, rfl, xin_4, tyX5_ok, wd_60, wd_61, wd_3, by decide +kernel⟩
theorem nw_LandBase_23 : xNw "LandBase" 23 3 12 [.null, .null, .null, .int 0, .int 0, .int 0, .int 0, .int 0, .int 0, .int 0, .int 0, .int 0] := ⟨RX3, TX3, tyX3, rfl, xin_3, tyX3_ok, wd_174, wd_175, wd_5, by decide +kernel⟩
theorem nw_LandBase_30 : xNw "LandBase" 30 1 14 [.null, .int 0, .int 0, .int 0, .int 0, .int 0, .int 0, .null, .null, .null, .int 0, .int 0, .int 0, .int 0] := ⟨RX1, TX1, tyX1, rfl, xin_1, tyX1_ok, wd_247, wd_248, wd_7, by decide +kernel⟩
theorem nw_LandBase_33 : xNw "LandBase" 33 0 2 [.null, .null] := ⟨RX0, TX0, tyX0, rfl, xin_0, tyX0_ok, wd_299, wd_300, wd_8, by decide +kernel⟩
theorem nw_LandBase_42 : xNw "LandBase" 42 5 1 [.null] := ⟨RX6, TX6, tyX6, rfl, xin_5, tyX6_ok, wd_312, wd_313, wd_9, by decide +kernel⟩
theorem nw_LandBase_49 : xNw "LandBase" 49 2 3 [.long 0, .long 0, .long 0] := ⟨RX2, TX2, tyX2, rfl, xin_2, tyX2_ok, wd_322, wd_324, wd_10, by decide +kernel⟩
theorem nw_LandBase_Cutter_9 : xNw "LandBase$Cutter" 9 6 13 [.int 0, .int 0, .int 0, .int 0, .int 0, .int 0, .int 0, .int 0, .int 0, .null, .null, .null, .null] := ⟨RX7, TX7, tyX7, rfl, xin_6, tyX7_ok, wd_253, wd_67, wd_4, by decide +kernel⟩
theorem nw_LandBase_Keeper_9 : xNw "LandBase$Keeper" 9 7 3 [.null, .null, .int 0] := ⟨RX8, TX8, tyX8, rfl, xin_7, tyX8_ok, wd_180, wd_181, wd_6, by decide +kernel⟩
theorem nw_LandBase_Keeper_21 : xNw "LandBase$Keeper" 21 6 13 [.int 0, .int 0, .int 0, .int 0, .int 0, .int 0, .int 0, .int 0, .int 0, .null, .null, .null, .null] := ⟨RX7, TX7, tyX7, rfl, xin_6, tyX7_ok, wd_202, wd_67, wd_4, by decide +kernel⟩
theorem nw_LandBase_Reader_15 : xNw "LandBase$Reader" 15 6 13 [.int 0, .int 0, .int 0, .int 0, .int 0, .int 0, .int 0, .int 0, .int 0, .null, .null, .null, .null] := ⟨RX7, TX7, tyX7, rfl, xin_6, tyX7_ok, wd_66, wd_67, wd_4, by decide +kernel⟩
theorem nw_LandBaseLaw_7 : xNw "LandBaseLaw" 7 9 11 [.null, .null, .null, .null, .null, .null, .null, .null, .int 0, .int 0, .int 0] := ⟨RX10, TX10, tyX10, rfl, xin_9, tyX10_ok, wd_21, wd_22, wd_1, by decide +kernel⟩
theorem nw_LandBaseLaw_10 : xNw "LandBaseLaw" 10 13 58 [.null, .null, .null, .null, .int 0, .int 0, .int 0, .int 0, .int 0, .int 0, .long 0, .long 0, .long 0, .int 0, .null, .null, .int 0, .int 0, .int 0, .int 0, .long 0, .long 0, .int 0, .null, .null, .null, .null, .null, .null, .null, .null, .null, .int 0, .int 0, .int 0, .int 0, .int 0, .int 0, .int 0, .null, .int 0, .int 0, .int 0, .null, .int 0, .int 0, .int 0, .int 0, .int 0, .null, .int 0, .int 0, .null, .null, .null, .null, .int 0, .int 0] := ⟨RX14, TX14, tyX14, rfl, xin_13, tyX14_ok, wd_976, wd_977, wd_11, by decide +kernel⟩
theorem nw_LandBaseModel_31 : xNw "LandBaseModel" 31 11 7 [.int 0, .int 0, .int 0, .int 0, .null, .null, .null] := ⟨RX12, TX12, tyX12, rfl, xin_11, tyX12_ok, wd_982, wd_983, wd_12, by decide +kernel⟩
theorem nw_LandBaseModel_289 : xNw "LandBaseModel" 289 10 2 [.null, .null] := ⟨RX11, TX11, tyX11, rfl, xin_10, tyX11_ok, wd_1018, wd_1019, wd_13, by decide +kernel⟩
theorem nw_LandBaseModel_355 : xNw "LandBaseModel" 355 12 2 [.null, .int 0] := ⟨RX13, TX13, tyX13, rfl, xin_12, tyX13_ok, wd_1033, wd_1034, wd_14, by decide +kernel⟩
theorem nw_LandBaseModel_State_9 : xNw "LandBaseModel$State" 9 11 7 [.int 0, .int 0, .int 0, .int 0, .null, .null, .null] := ⟨RX12, TX12, tyX12, rfl, xin_11, tyX12_ok, wd_1039, wd_983, wd_12, by decide +kernel⟩

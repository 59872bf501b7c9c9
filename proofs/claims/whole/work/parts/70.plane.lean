/-! Points and ways of the system's shapes -/
def cSide (xs ys : Nat → Int32) (i : Nat) (px py : Int64) : Int64 := ((xs (i + 1)).toInt64 - (xs i).toInt64) * (py - (ys i).toInt64) - ((ys (i + 1)).toInt64 - (ys i).toInt64) * (px - (xs i).toInt64)
set_option maxRecDepth 100000 in
theorem c_sideOf {G : xG} {h : xH} {a i : Nat} {kind size rc tl x0 y0 x1 y1 ho : Int32} {xs ys rs il : Nat → Int32} {px py : Int64} (hS : CSh h a kind size rc tl x0 y0 x1 y1 ho xs ys rs il) (hi : i + 1 < 40) : Ca G mX4_sideOf [.ref a, .int (nI i), .long px, .long py] h (fun v h' => v = some (.long (cSide xs ys i px py)) ∧ h' = h) := by
  obtain ⟨kS, kx, ky, kr, kl⟩ := hS
  refine Ca.of rfl (Nat.le_of_ble_eq_true rfl) ?_
  have n0 : vp_in (nI i) 40 := vp_in_nI (by omega) (by omega)
  have c0 : (nI i).toNatClampNeg = i := nI_clamp (by omega)
  have e1 : nI i + 1 = nI (i + 1) := nI_1 i
  have n1 : vp_in (nI i + 1) 40 := by rw [e1]; exact vp_in_nI (by omega) (by omega)
  have c1 : (nI i + 1).toNatClampNeg = i + 1 := by rw [e1]; exact nI_clamp (by omega)
  first | refine go_aload_n (i := 0) (pc' := 1) dX4_sideOf_0 rfl rfl rfl ?_ | refine go_aloadX_n (i := 0) (pc' := 1) dX4_sideOf_0 rfl rfl rfl ?_ | refine go_aload_nN (i := 0) (pc' := 1) dX4_sideOf_0 rfl rfl rfl ?_
  refine go_getf (pc' := 4) dX4_sideOf_1 rfl gf_LandBase_Plane_9 kS rfl ?_
  refine go_iload_n (i := 1) (pc' := 5) dX4_sideOf_4 rfl rfl rfl ?_
  refine go_iaload (pc' := 6) dX4_sideOf_5 rfl kx n0 ?_
  refine go_i2l (pc' := 7) dX4_sideOf_6 rfl rfl ?_
  refine go_lstore (pc' := 9) dX4_sideOf_7 rfl (by decide) rfl ?_
  first | refine go_aload_n (i := 0) (pc' := 10) dX4_sideOf_9 rfl rfl rfl ?_ | refine go_aloadX_n (i := 0) (pc' := 10) dX4_sideOf_9 rfl rfl rfl ?_ | refine go_aload_nN (i := 0) (pc' := 10) dX4_sideOf_9 rfl rfl rfl ?_
  refine go_getf (pc' := 13) dX4_sideOf_10 rfl gf_LandBase_Plane_15 kS rfl ?_
  refine go_iload_n (i := 1) (pc' := 14) dX4_sideOf_13 rfl rfl rfl ?_
  refine go_iaload (pc' := 15) dX4_sideOf_14 rfl ky n0 ?_
  refine go_i2l (pc' := 16) dX4_sideOf_15 rfl rfl ?_
  refine go_lstore (pc' := 18) dX4_sideOf_16 rfl (by decide) rfl ?_
  first | refine go_aload_n (i := 0) (pc' := 19) dX4_sideOf_18 rfl rfl rfl ?_ | refine go_aloadX_n (i := 0) (pc' := 19) dX4_sideOf_18 rfl rfl rfl ?_ | refine go_aload_nN (i := 0) (pc' := 19) dX4_sideOf_18 rfl rfl rfl ?_
  refine go_getf (pc' := 22) dX4_sideOf_19 rfl gf_LandBase_Plane_9 kS rfl ?_
  refine go_iload_n (i := 1) (pc' := 23) dX4_sideOf_22 rfl rfl rfl ?_
  refine go_iconst (v := 1) (pc' := 24) dX4_sideOf_23 rfl (by decide) ?_
  refine go_iadd (pc' := 25) dX4_sideOf_24 rfl ?_
  refine go_iaload (pc' := 26) dX4_sideOf_25 rfl kx n1 ?_
  refine go_i2l (pc' := 27) dX4_sideOf_26 rfl rfl ?_
  refine go_lload (pc' := 29) dX4_sideOf_27 rfl rfl ?_
  refine go_lsub (pc' := 30) dX4_sideOf_29 rfl ?_
  refine go_lload (pc' := 32) dX4_sideOf_30 rfl rfl ?_
  refine go_lload (pc' := 34) dX4_sideOf_32 rfl rfl ?_
  refine go_lsub (pc' := 35) dX4_sideOf_34 rfl ?_
  refine go_lmul (pc' := 36) dX4_sideOf_35 rfl ?_
  first | refine go_aload_n (i := 0) (pc' := 37) dX4_sideOf_36 rfl rfl rfl ?_ | refine go_aloadX_n (i := 0) (pc' := 37) dX4_sideOf_36 rfl rfl rfl ?_ | refine go_aload_nN (i := 0) (pc' := 37) dX4_sideOf_36 rfl rfl rfl ?_
  refine go_getf (pc' := 40) dX4_sideOf_37 rfl gf_LandBase_Plane_15 kS rfl ?_
  refine go_iload_n (i := 1) (pc' := 41) dX4_sideOf_40 rfl rfl rfl ?_
  refine go_iconst (v := 1) (pc' := 42) dX4_sideOf_41 rfl (by decide) ?_
  refine go_iadd (pc' := 43) dX4_sideOf_42 rfl ?_
  refine go_iaload (pc' := 44) dX4_sideOf_43 rfl ky n1 ?_
  refine go_i2l (pc' := 45) dX4_sideOf_44 rfl rfl ?_
  refine go_lload (pc' := 47) dX4_sideOf_45 rfl rfl ?_
  refine go_lsub (pc' := 48) dX4_sideOf_47 rfl ?_
  refine go_lload_n (i := 2) (pc' := 49) dX4_sideOf_48 rfl rfl rfl ?_
  refine go_lload (pc' := 51) dX4_sideOf_49 rfl rfl ?_
  refine go_lsub (pc' := 52) dX4_sideOf_51 rfl ?_
  refine go_lmul (pc' := 53) dX4_sideOf_52 rfl ?_
  refine go_lsub (pc' := 54) dX4_sideOf_53 rfl ?_
  rw [c0, c1]
  exact Go.ret (v := some (.long _)) dX4_sideOf_54 ⟨_, rfl⟩ ⟨trivial,rfl,rfl⟩
/-- 1 or 0 -/
abbrev b01 (P : Prop) [Decidable P] : Int32 := if P then 1 else 0
theorem b01_ok (P : Prop) [Decidable P] : narrow .boolean (.int (b01 P)) = .int (b01 P) := by
  by_cases h : P
  · simp only [b01, if_pos h]; decide
  · simp only [b01, if_neg h]; decide
def cBox (xs ys : Nat → Int32) (i : Nat) (px py : Int32) : Prop := imin (xs i) (xs (i + 1)) ≤ px ∧ px ≤ imax (xs i) (xs (i + 1)) ∧ imin (ys i) (ys (i + 1)) ≤ py ∧ py ≤ imax (ys i) (ys (i + 1))
def cBoxB (xs ys : Nat → Int32) (i : Nat) (px py : Int32) : Int32 := if px < imin (xs i) (xs (i + 1)) then 0 else if imax (xs i) (xs (i + 1)) < px then 0 else if py < imin (ys i) (ys (i + 1)) then 0 else if imax (ys i) (ys (i + 1)) < py then 0 else 1
theorem cBoxB_01 (xs ys : Nat → Int32) (i : Nat) (px py : Int32) : cBoxB xs ys i px py = 0 ∨ cBoxB xs ys i px py = 1 := by
  unfold cBoxB
  repeat' split
  all_goals simp
set_option maxRecDepth 100000 in
theorem c_isInBoxOf {G : xG} {h : xH} {a i : Nat} {kind size rc tl x0 y0 x1 y1 ho px py : Int32} {xs ys rs il : Nat → Int32} (hS : CSh h a kind size rc tl x0 y0 x1 y1 ho xs ys rs il) (hi : i + 1 < 40) : Ca G mX4_isInBoxOf [.ref a, .int (nI i), .int px, .int py] h (fun v h' => v = some (.int (cBoxB xs ys i px py)) ∧ h' = h) := by
  obtain ⟨kS, kx, ky, kr, kl⟩ := hS
  refine Ca.of rfl (Nat.le_of_ble_eq_true rfl) ?_
  have n0 : vp_in (nI i) 40 := vp_in_nI (by omega) (by omega)
  have c0 : (nI i).toNatClampNeg = i := nI_clamp (by omega)
  have e1 : nI i + 1 = nI (i + 1) := nI_1 i
  have n1 : vp_in (nI i + 1) 40 := by rw [e1]; exact vp_in_nI (by omega) (by omega)
  have c1 : (nI i + 1).toNatClampNeg = i + 1 := by rw [e1]; exact nI_clamp (by omega)
  refine go_iload_n (i := 2) (pc' := 1) dX4_isInBoxOf_0 rfl rfl rfl ?_
  first | refine go_aload_n (i := 0) (pc' := 2) dX4_isInBoxOf_1 rfl rfl rfl ?_ | refine go_aloadX_n (i := 0) (pc' := 2) dX4_isInBoxOf_1 rfl rfl rfl ?_ | refine go_aload_nN (i := 0) (pc' := 2) dX4_isInBoxOf_1 rfl rfl rfl ?_
  refine go_getf (pc' := 5) dX4_isInBoxOf_2 rfl gf_LandBase_Plane_9 kS rfl ?_
  refine go_iload_n (i := 1) (pc' := 6) dX4_isInBoxOf_5 rfl rfl rfl ?_
  refine go_iaload (pc' := 7) dX4_isInBoxOf_6 rfl kx n0 ?_
  first | refine go_aload_n (i := 0) (pc' := 8) dX4_isInBoxOf_7 rfl rfl rfl ?_ | refine go_aloadX_n (i := 0) (pc' := 8) dX4_isInBoxOf_7 rfl rfl rfl ?_ | refine go_aload_nN (i := 0) (pc' := 8) dX4_isInBoxOf_7 rfl rfl rfl ?_
  refine go_getf (pc' := 11) dX4_isInBoxOf_8 rfl gf_LandBase_Plane_9 kS rfl ?_
  refine go_iload_n (i := 1) (pc' := 12) dX4_isInBoxOf_11 rfl rfl rfl ?_
  refine go_iconst (v := 1) (pc' := 13) dX4_isInBoxOf_12 rfl (by decide) ?_
  refine go_iadd (pc' := 14) dX4_isInBoxOf_13 rfl ?_
  refine go_iaload (pc' := 15) dX4_isInBoxOf_14 rfl kx n1 ?_
  refine go_mmin (pc' := 18) dX4_isInBoxOf_15 rfl cf_X4_isInBoxOf_18 (Nat.le_of_ble_eq_true rfl) ?_
  rw [c0, c1]
  refine go_icmp_lt (pc' := 21) (tgt := 88) dX4_isInBoxOf_18 (by decide) rfl (fun b1 => ?_) (fun b1 => ?_)
  · refine go_iconst (v := 0) (pc' := 89) dX4_isInBoxOf_88 rfl (by decide) ?_
    rw [cBoxB, if_pos b1]
    exact Go.ret (v := some (.int _)) dX4_isInBoxOf_89 ⟨_, rfl⟩ ⟨(bool_ok (by decide)),rfl,rfl⟩
  · refine go_iload_n (i := 2) (pc' := 22) dX4_isInBoxOf_21 rfl rfl rfl ?_
    first | refine go_aload_n (i := 0) (pc' := 23) dX4_isInBoxOf_22 rfl rfl rfl ?_ | refine go_aloadX_n (i := 0) (pc' := 23) dX4_isInBoxOf_22 rfl rfl rfl ?_ | refine go_aload_nN (i := 0) (pc' := 23) dX4_isInBoxOf_22 rfl rfl rfl ?_
    refine go_getf (pc' := 26) dX4_isInBoxOf_23 rfl gf_LandBase_Plane_9 kS rfl ?_
    refine go_iload_n (i := 1) (pc' := 27) dX4_isInBoxOf_26 rfl rfl rfl ?_
    refine go_iaload (pc' := 28) dX4_isInBoxOf_27 rfl kx n0 ?_
    first | refine go_aload_n (i := 0) (pc' := 29) dX4_isInBoxOf_28 rfl rfl rfl ?_ | refine go_aloadX_n (i := 0) (pc' := 29) dX4_isInBoxOf_28 rfl rfl rfl ?_ | refine go_aload_nN (i := 0) (pc' := 29) dX4_isInBoxOf_28 rfl rfl rfl ?_
    refine go_getf (pc' := 32) dX4_isInBoxOf_29 rfl gf_LandBase_Plane_9 kS rfl ?_
    refine go_iload_n (i := 1) (pc' := 33) dX4_isInBoxOf_32 rfl rfl rfl ?_
    refine go_iconst (v := 1) (pc' := 34) dX4_isInBoxOf_33 rfl (by decide) ?_
    refine go_iadd (pc' := 35) dX4_isInBoxOf_34 rfl ?_
    refine go_iaload (pc' := 36) dX4_isInBoxOf_35 rfl kx n1 ?_
    refine go_mmax (pc' := 39) dX4_isInBoxOf_36 rfl cf_X4_isInBoxOf_24 (Nat.le_of_ble_eq_true rfl) ?_
    rw [c0, c1]
    refine go_icmp_gt (pc' := 42) (tgt := 88) dX4_isInBoxOf_39 (by decide) rfl (fun b2 => ?_) (fun b2 => ?_)
    · refine go_iconst (v := 0) (pc' := 89) dX4_isInBoxOf_88 rfl (by decide) ?_
      rw [cBoxB, if_neg b1, if_pos b2]
      exact Go.ret (v := some (.int _)) dX4_isInBoxOf_89 ⟨_, rfl⟩ ⟨(bool_ok (by decide)),rfl,rfl⟩
    · refine go_iload_n (i := 3) (pc' := 43) dX4_isInBoxOf_42 rfl rfl rfl ?_
      first | refine go_aload_n (i := 0) (pc' := 44) dX4_isInBoxOf_43 rfl rfl rfl ?_ | refine go_aloadX_n (i := 0) (pc' := 44) dX4_isInBoxOf_43 rfl rfl rfl ?_ | refine go_aload_nN (i := 0) (pc' := 44) dX4_isInBoxOf_43 rfl rfl rfl ?_
      refine go_getf (pc' := 47) dX4_isInBoxOf_44 rfl gf_LandBase_Plane_15 kS rfl ?_
      refine go_iload_n (i := 1) (pc' := 48) dX4_isInBoxOf_47 rfl rfl rfl ?_
      refine go_iaload (pc' := 49) dX4_isInBoxOf_48 rfl ky n0 ?_
      first | refine go_aload_n (i := 0) (pc' := 50) dX4_isInBoxOf_49 rfl rfl rfl ?_ | refine go_aloadX_n (i := 0) (pc' := 50) dX4_isInBoxOf_49 rfl rfl rfl ?_ | refine go_aload_nN (i := 0) (pc' := 50) dX4_isInBoxOf_49 rfl rfl rfl ?_
      refine go_getf (pc' := 53) dX4_isInBoxOf_50 rfl gf_LandBase_Plane_15 kS rfl ?_
      refine go_iload_n (i := 1) (pc' := 54) dX4_isInBoxOf_53 rfl rfl rfl ?_
      refine go_iconst (v := 1) (pc' := 55) dX4_isInBoxOf_54 rfl (by decide) ?_
      refine go_iadd (pc' := 56) dX4_isInBoxOf_55 rfl ?_
      refine go_iaload (pc' := 57) dX4_isInBoxOf_56 rfl ky n1 ?_
      refine go_mmin (pc' := 60) dX4_isInBoxOf_57 rfl cf_X4_isInBoxOf_18 (Nat.le_of_ble_eq_true rfl) ?_
      rw [c0, c1]
      refine go_icmp_lt (pc' := 63) (tgt := 88) dX4_isInBoxOf_60 (by decide) rfl (fun b3 => ?_) (fun b3 => ?_)
      · refine go_iconst (v := 0) (pc' := 89) dX4_isInBoxOf_88 rfl (by decide) ?_
        rw [cBoxB, if_neg b1, if_neg b2, if_pos b3]
        exact Go.ret (v := some (.int _)) dX4_isInBoxOf_89 ⟨_, rfl⟩ ⟨(bool_ok (by decide)),rfl,rfl⟩
      · refine go_iload_n (i := 3) (pc' := 64) dX4_isInBoxOf_63 rfl rfl rfl ?_
        first | refine go_aload_n (i := 0) (pc' := 65) dX4_isInBoxOf_64 rfl rfl rfl ?_ | refine go_aloadX_n (i := 0) (pc' := 65) dX4_isInBoxOf_64 rfl rfl rfl ?_ | refine go_aload_nN (i := 0) (pc' := 65) dX4_isInBoxOf_64 rfl rfl rfl ?_
        refine go_getf (pc' := 68) dX4_isInBoxOf_65 rfl gf_LandBase_Plane_15 kS rfl ?_
        refine go_iload_n (i := 1) (pc' := 69) dX4_isInBoxOf_68 rfl rfl rfl ?_
        refine go_iaload (pc' := 70) dX4_isInBoxOf_69 rfl ky n0 ?_
        first | refine go_aload_n (i := 0) (pc' := 71) dX4_isInBoxOf_70 rfl rfl rfl ?_ | refine go_aloadX_n (i := 0) (pc' := 71) dX4_isInBoxOf_70 rfl rfl rfl ?_ | refine go_aload_nN (i := 0) (pc' := 71) dX4_isInBoxOf_70 rfl rfl rfl ?_
        refine go_getf (pc' := 74) dX4_isInBoxOf_71 rfl gf_LandBase_Plane_15 kS rfl ?_
        refine go_iload_n (i := 1) (pc' := 75) dX4_isInBoxOf_74 rfl rfl rfl ?_
        refine go_iconst (v := 1) (pc' := 76) dX4_isInBoxOf_75 rfl (by decide) ?_
        refine go_iadd (pc' := 77) dX4_isInBoxOf_76 rfl ?_
        refine go_iaload (pc' := 78) dX4_isInBoxOf_77 rfl ky n1 ?_
        refine go_mmax (pc' := 81) dX4_isInBoxOf_78 rfl cf_X4_isInBoxOf_24 (Nat.le_of_ble_eq_true rfl) ?_
        rw [c0, c1]
        refine go_icmp_gt (pc' := 84) (tgt := 88) dX4_isInBoxOf_81 (by decide) rfl (fun b4 => ?_) (fun b4 => ?_)
        · refine go_iconst (v := 0) (pc' := 89) dX4_isInBoxOf_88 rfl (by decide) ?_
          rw [cBoxB, if_neg b1, if_neg b2, if_neg b3, if_pos b4]
          exact Go.ret (v := some (.int _)) dX4_isInBoxOf_89 ⟨_, rfl⟩ ⟨(bool_ok (by decide)),rfl,rfl⟩
        · refine go_iconst (v := 1) (pc' := 85) dX4_isInBoxOf_84 rfl (by decide) ?_
          refine go_goto (pc' := 0) (tgt := 89) dX4_isInBoxOf_85 (by decide) ?_
          rw [cBoxB, if_neg b1, if_neg b2, if_neg b3, if_neg b4]
          exact Go.ret (v := some (.int _)) dX4_isInBoxOf_89 ⟨_, rfl⟩ ⟨(bool_ok (by decide)),rfl,rfl⟩
def cOnB (xs ys : Nat → Int32) (i : Nat) (px py : Int32) : Int32 := if cBoxB xs ys i px py = 0 then 0 else if cSide xs ys i px.toInt64 py.toInt64 = 0 then 1 else 0
set_option maxRecDepth 100000 in
theorem c_isOnWay {G : xG} {h : xH} {a i : Nat} {kind size rc tl x0 y0 x1 y1 ho px py : Int32} {xs ys rs il : Nat → Int32} (hS : CSh h a kind size rc tl x0 y0 x1 y1 ho xs ys rs il) (hi : i + 1 < 40) : Ca G mX4_isOnWay [.ref a, .int (nI i), .int px, .int py] h (fun v h' => v = some (.int (cOnB xs ys i px py)) ∧ h' = h) := by
  refine Ca.of rfl (Nat.le_of_ble_eq_true rfl) ?_
  first | refine go_aload_n (i := 0) (pc' := 1) dX4_isOnWay_0 rfl rfl rfl ?_ | refine go_aloadX_n (i := 0) (pc' := 1) dX4_isOnWay_0 rfl rfl rfl ?_ | refine go_aload_nN (i := 0) (pc' := 1) dX4_isOnWay_0 rfl rfl rfl ?_
  refine go_iload_n (i := 1) (pc' := 2) dX4_isOnWay_1 rfl rfl rfl ?_
  refine go_iload_n (i := 2) (pc' := 3) dX4_isOnWay_2 rfl rfl rfl ?_
  refine go_iload_n (i := 3) (pc' := 4) dX4_isOnWay_3 rfl rfl rfl ?_
  refine go_invS (As := [_, _, _, _]) (pc' := 7) dX4_isOnWay_4 rfl cf_X4_isOnWay_27 rfl rfl (Nat.le_of_ble_eq_true rfl) (c_isInBoxOf hS hi) (fun v1 h1 q1 => ?_)
  obtain ⟨rfl, rfl⟩ := q1
  refine go_if_eq (pc' := 10) (tgt := 28) dX4_isOnWay_7 (by decide) rfl (fun b1 => ?_) (fun b1 => ?_)
  · refine go_iconst (v := 0) (pc' := 29) dX4_isOnWay_28 rfl (by decide) ?_
    rw [cOnB, if_pos b1]
    exact Go.ret (v := some (.int _)) dX4_isOnWay_29 ⟨_, rfl⟩ ⟨(bool_ok (by decide)),rfl,rfl⟩
  · first | refine go_aload_n (i := 0) (pc' := 11) dX4_isOnWay_10 rfl rfl rfl ?_ | refine go_aloadX_n (i := 0) (pc' := 11) dX4_isOnWay_10 rfl rfl rfl ?_ | refine go_aload_nN (i := 0) (pc' := 11) dX4_isOnWay_10 rfl rfl rfl ?_
    refine go_iload_n (i := 1) (pc' := 12) dX4_isOnWay_11 rfl rfl rfl ?_
    refine go_iload_n (i := 2) (pc' := 13) dX4_isOnWay_12 rfl rfl rfl ?_
    refine go_i2l (pc' := 14) dX4_isOnWay_13 rfl rfl ?_
    refine go_iload_n (i := 3) (pc' := 15) dX4_isOnWay_14 rfl rfl rfl ?_
    refine go_i2l (pc' := 16) dX4_isOnWay_15 rfl rfl ?_
    refine go_invS (As := [_, _, _, _]) (pc' := 19) dX4_isOnWay_16 rfl cf_X4_isOnWay_33 rfl rfl (Nat.le_of_ble_eq_true rfl) (c_sideOf hS hi) (fun v1 h1 q1 => ?_)
    obtain ⟨rfl, rfl⟩ := q1
    refine go_lconst (v := 0) (pc' := 20) dX4_isOnWay_19 rfl (by decide) ?_
    refine go_lcmp (pc' := 21) dX4_isOnWay_20 rfl ?_
    refine go_if_ne (pc' := 24) (tgt := 28) dX4_isOnWay_21 (by decide) rfl (fun b2 => ?_) (fun b2 => ?_)
    · refine go_iconst (v := 0) (pc' := 29) dX4_isOnWay_28 rfl (by decide) ?_
      rw [cOnB, if_neg b1, if_neg (fun q => b2 (lgc_eq.mpr q))]
      exact Go.ret (v := some (.int _)) dX4_isOnWay_29 ⟨_, rfl⟩ ⟨(bool_ok (by decide)),rfl,rfl⟩
    · refine go_iconst (v := 1) (pc' := 25) dX4_isOnWay_24 rfl (by decide) ?_
      refine go_goto (pc' := 0) (tgt := 29) dX4_isOnWay_25 (by decide) ?_
      rw [cOnB, if_neg b1, if_pos (lgc_eq.mp b2)]
      exact Go.ret (v := some (.int _)) dX4_isOnWay_29 ⟨_, rfl⟩ ⟨(bool_ok (by decide)),rfl,rfl⟩
def cAlB (xs ys : Nat → Int32) (i j : Nat) : Int32 := if xs i = xs j then (if ys i = ys j then 1 else 0) else 0
set_option maxRecDepth 100000 in
theorem c_isAlike {G : xG} {h : xH} {a i j : Nat} {kind size rc tl x0 y0 x1 y1 ho : Int32} {xs ys rs il : Nat → Int32} (hS : CSh h a kind size rc tl x0 y0 x1 y1 ho xs ys rs il) (hi : i < 40) (hj : j < 40) : Ca G mX7_isAlike [.ref a, .int (nI i), .int (nI j)] h (fun v h' => v = some (.int (cAlB xs ys i j)) ∧ h' = h) := by
  obtain ⟨kS, kx, ky, kr, kl⟩ := hS
  refine Ca.of rfl (Nat.le_of_ble_eq_true rfl) ?_
  have n0 : vp_in (nI i) 40 := vp_in_nI (by omega) (by omega)
  have c0 : (nI i).toNatClampNeg = i := nI_clamp (by omega)
  have n1 : vp_in (nI j) 40 := vp_in_nI (by omega) (by omega)
  have c1 : (nI j).toNatClampNeg = j := nI_clamp (by omega)
  first | refine go_aload_n (i := 0) (pc' := 1) dX7_isAlike_0 rfl rfl rfl ?_ | refine go_aloadX_n (i := 0) (pc' := 1) dX7_isAlike_0 rfl rfl rfl ?_ | refine go_aload_nN (i := 0) (pc' := 1) dX7_isAlike_0 rfl rfl rfl ?_
  refine go_getf (pc' := 4) dX7_isAlike_1 rfl gf_LandBase_Shape_9 kS rfl ?_
  refine go_iload_n (i := 1) (pc' := 5) dX7_isAlike_4 rfl rfl rfl ?_
  refine go_iaload (pc' := 6) dX7_isAlike_5 rfl kx n0 ?_
  first | refine go_aload_n (i := 0) (pc' := 7) dX7_isAlike_6 rfl rfl rfl ?_ | refine go_aloadX_n (i := 0) (pc' := 7) dX7_isAlike_6 rfl rfl rfl ?_ | refine go_aload_nN (i := 0) (pc' := 7) dX7_isAlike_6 rfl rfl rfl ?_
  refine go_getf (pc' := 10) dX7_isAlike_7 rfl gf_LandBase_Shape_9 kS rfl ?_
  refine go_iload_n (i := 2) (pc' := 11) dX7_isAlike_10 rfl rfl rfl ?_
  refine go_iaload (pc' := 12) dX7_isAlike_11 rfl kx n1 ?_
  rw [c0, c1]
  refine go_icmp_ne (pc' := 15) (tgt := 34) dX7_isAlike_12 (by decide) rfl (fun b1 => ?_) (fun b1 => ?_)
  · refine go_iconst (v := 0) (pc' := 35) dX7_isAlike_34 rfl (by decide) ?_
    rw [cAlB, if_neg b1]
    exact Go.ret (v := some (.int _)) dX7_isAlike_35 ⟨_, rfl⟩ ⟨(bool_ok (by decide)),rfl,rfl⟩
  · first | refine go_aload_n (i := 0) (pc' := 16) dX7_isAlike_15 rfl rfl rfl ?_ | refine go_aloadX_n (i := 0) (pc' := 16) dX7_isAlike_15 rfl rfl rfl ?_ | refine go_aload_nN (i := 0) (pc' := 16) dX7_isAlike_15 rfl rfl rfl ?_
    refine go_getf (pc' := 19) dX7_isAlike_16 rfl gf_LandBase_Shape_15 kS rfl ?_
    refine go_iload_n (i := 1) (pc' := 20) dX7_isAlike_19 rfl rfl rfl ?_
    refine go_iaload (pc' := 21) dX7_isAlike_20 rfl ky n0 ?_
    first | refine go_aload_n (i := 0) (pc' := 22) dX7_isAlike_21 rfl rfl rfl ?_ | refine go_aloadX_n (i := 0) (pc' := 22) dX7_isAlike_21 rfl rfl rfl ?_ | refine go_aload_nN (i := 0) (pc' := 22) dX7_isAlike_21 rfl rfl rfl ?_
    refine go_getf (pc' := 25) dX7_isAlike_22 rfl gf_LandBase_Shape_15 kS rfl ?_
    refine go_iload_n (i := 2) (pc' := 26) dX7_isAlike_25 rfl rfl rfl ?_
    refine go_iaload (pc' := 27) dX7_isAlike_26 rfl ky n1 ?_
    rw [c0, c1]
    refine go_icmp_ne (pc' := 30) (tgt := 34) dX7_isAlike_27 (by decide) rfl (fun b2 => ?_) (fun b2 => ?_)
    · refine go_iconst (v := 0) (pc' := 35) dX7_isAlike_34 rfl (by decide) ?_
      rw [cAlB, if_pos b1, if_neg b2]
      exact Go.ret (v := some (.int _)) dX7_isAlike_35 ⟨_, rfl⟩ ⟨(bool_ok (by decide)),rfl,rfl⟩
    · refine go_iconst (v := 1) (pc' := 31) dX7_isAlike_30 rfl (by decide) ?_
      refine go_goto (pc' := 0) (tgt := 35) dX7_isAlike_31 (by decide) ?_
      rw [cAlB, if_pos b1, if_pos b2]
      exact Go.ret (v := some (.int _)) dX7_isAlike_35 ⟨_, rfl⟩ ⟨(bool_ok (by decide)),rfl,rfl⟩
set_option maxRecDepth 100000 in
theorem c_ringStart {G : xG} {h : xH} {a r rc : Nat} {kind size tl x0 y0 x1 y1 ho : Int32} {xs ys rs il : Nat → Int32} (hS : CSh h a kind size (nI rc) tl x0 y0 x1 y1 ho xs ys rs il) (hc : rc ≤ 8) (hr : r ≤ rc) : Ca G mX7_ringStart [.ref a, .int (nI r)] h (fun v h' => v = some (.int (if r = 0 then 0 else rs (r - 1))) ∧ h' = h) := by
  obtain ⟨kS, kx, ky, kr, kl⟩ := hS
  refine Ca.of rfl (Nat.le_of_ble_eq_true rfl) ?_
  refine go_iload_n (i := 1) (pc' := 1) dX7_ringStart_0 rfl rfl rfl ?_
  refine go_iconst (v := 1) (pc' := 2) dX7_ringStart_1 rfl (by decide) ?_
  refine go_icmp_lt (pc' := 5) (tgt := 13) dX7_ringStart_2 (by decide) rfl (fun b1 => ?_) (fun b1 => ?_)
  · have e : r = 0 := by
      have := (nI_ltI (a := r) (b := 1) (by omega) (by omega)).mp b1
      omega
    refine go_iconst (v := 0) (pc' := 14) dX7_ringStart_13 rfl (by decide) ?_
    refine go_goto (pc' := 0) (tgt := 25) dX7_ringStart_14 (by decide) ?_
    rw [if_pos e]
    exact Go.ret (v := some (.int _)) dX7_ringStart_25 ⟨_, rfl⟩ ⟨rfl,rfl,rfl⟩
  · have e : r ≠ 0 := fun q => b1 (by subst q; decide)
    have e1 : nI r - 1 = nI (r - 1) := by
      obtain ⟨q, rfl⟩ : ∃ q, r = q + 1 := ⟨r - 1, by omega⟩
      exact nI_pred q
    have n1 : vp_in (nI r - 1) 8 := by rw [e1]; exact vp_in_nI (by omega) (by omega)
    have c1 : (nI r - 1).toNatClampNeg = r - 1 := by rw [e1]; exact nI_clamp (by omega)
    refine go_iload_n (i := 1) (pc' := 6) dX7_ringStart_5 rfl rfl rfl ?_
    first | refine go_aload_n (i := 0) (pc' := 7) dX7_ringStart_6 rfl rfl rfl ?_ | refine go_aloadX_n (i := 0) (pc' := 7) dX7_ringStart_6 rfl rfl rfl ?_ | refine go_aload_nN (i := 0) (pc' := 7) dX7_ringStart_6 rfl rfl rfl ?_
    refine go_getf (pc' := 10) dX7_ringStart_7 rfl gf_LandBase_Shape_32 kS rfl ?_
    refine go_icmp_le (pc' := 13) (tgt := 17) dX7_ringStart_10 (by decide) rfl (fun b2 => ?_) (fun b2 => ?_)
    · first | refine go_aload_n (i := 0) (pc' := 18) dX7_ringStart_17 rfl rfl rfl ?_ | refine go_aloadX_n (i := 0) (pc' := 18) dX7_ringStart_17 rfl rfl rfl ?_ | refine go_aload_nN (i := 0) (pc' := 18) dX7_ringStart_17 rfl rfl rfl ?_
      refine go_getf (pc' := 21) dX7_ringStart_18 rfl gf_LandBase_Shape_18 kS rfl ?_
      refine go_iload_n (i := 1) (pc' := 22) dX7_ringStart_21 rfl rfl rfl ?_
      refine go_iconst (v := 1) (pc' := 23) dX7_ringStart_22 rfl (by decide) ?_
      refine go_isub (pc' := 24) dX7_ringStart_23 rfl ?_
      refine go_iaload (pc' := 25) dX7_ringStart_24 rfl kr n1 ?_
      rw [c1, if_neg e]
      exact Go.ret (v := some (.int _)) dX7_ringStart_25 ⟨_, rfl⟩ ⟨rfl,rfl,rfl⟩
    · exact absurd (nI_le hr (by omega)) b2

/-! LOOP-FREE METHODS OF THE REFERENCE, walked by program (gen/auto.py, gen/autor.py) -/
def rCross (ax : Int64) (ay : Int64) (bx : Int64) (by_ : Int64) : Int64 := (ax * by_) - (ay * bx)
set_option maxRecDepth 100000 in
set_option maxHeartbeats 4000000 in
theorem r_cross {G : xG} {h : xH} {ax : Int64} {ay : Int64} {bx : Int64} {by_ : Int64}   : Ca G mX14_cross [.long ax, .long ay, .long bx, .long by_] h (fun v h' => v = some (.long (rCross ax ay bx by_)) ∧ h' = h) := by
  refine Ca.of rfl (Nat.le_of_ble_eq_true rfl) ?_
  refine go_lload_n (i := 0) (pc' := 1) dX14_cross_0 rfl rfl rfl ?_
  refine go_lload (pc' := 3) dX14_cross_1 rfl rfl ?_
  refine go_lmul (pc' := 4) dX14_cross_3 rfl ?_
  refine go_lload_n (i := 2) (pc' := 5) dX14_cross_4 rfl rfl rfl ?_
  refine go_lload (pc' := 7) dX14_cross_5 rfl rfl ?_
  refine go_lmul (pc' := 8) dX14_cross_7 rfl ?_
  refine go_lsub (pc' := 9) dX14_cross_8 rfl ?_
  rw [rCross]
  exact Go.ret (v := some (.long _)) dX14_cross_9 ⟨_, rfl⟩ ⟨trivial, rfl, rfl⟩
def rDot (ax : Int64) (ay : Int64) (bx : Int64) (by_ : Int64) : Int64 := (ax * bx) + (ay * by_)
set_option maxRecDepth 100000 in
set_option maxHeartbeats 4000000 in
theorem r_dot {G : xG} {h : xH} {ax : Int64} {ay : Int64} {bx : Int64} {by_ : Int64}   : Ca G mX14_dot [.long ax, .long ay, .long bx, .long by_] h (fun v h' => v = some (.long (rDot ax ay bx by_)) ∧ h' = h) := by
  refine Ca.of rfl (Nat.le_of_ble_eq_true rfl) ?_
  refine go_lload_n (i := 0) (pc' := 1) dX14_dot_0 rfl rfl rfl ?_
  refine go_lload (pc' := 3) dX14_dot_1 rfl rfl ?_
  refine go_lmul (pc' := 4) dX14_dot_3 rfl ?_
  refine go_lload_n (i := 2) (pc' := 5) dX14_dot_4 rfl rfl rfl ?_
  refine go_lload (pc' := 7) dX14_dot_5 rfl rfl ?_
  refine go_lmul (pc' := 8) dX14_dot_7 rfl ?_
  refine go_ladd (pc' := 9) dX14_dot_8 rfl ?_
  rw [rDot]
  exact Go.ret (v := some (.long _)) dX14_dot_9 ⟨_, rfl⟩ ⟨trivial, rfl, rfl⟩
def rSign (z : Int64) : Int32 := if (lg_cmp z ((0 : Int64))) ≤ 0 then if 0 ≤ (lg_cmp z ((0 : Int64))) then nI 0 else (-1) else nI 1
set_option maxRecDepth 100000 in
set_option maxHeartbeats 4000000 in
theorem r_sign {G : xG} {h : xH} {z : Int64}   : Ca G mX14_sign [.long z] h (fun v h' => v = some (.int (rSign z)) ∧ h' = h) := by
  refine Ca.of rfl (Nat.le_of_ble_eq_true rfl) ?_
  refine go_lload_n (i := 0) (pc' := 1) dX14_sign_0 rfl rfl rfl ?_
  refine go_lconst (v := 0) (pc' := 2) dX14_sign_1 rfl (by decide) ?_
  refine go_lcmp (pc' := 3) dX14_sign_2 rfl ?_
  refine go_if_le (pc' := 6) (tgt := 10) dX14_sign_3 (by decide) rfl (fun b1 => ?_) (fun b1 => ?_)
  · refine go_lload_n (i := 0) (pc' := 11) dX14_sign_10 rfl rfl rfl ?_
    refine go_lconst (v := 0) (pc' := 12) dX14_sign_11 rfl (by decide) ?_
    refine go_lcmp (pc' := 13) dX14_sign_12 rfl ?_
    refine go_if_ge (pc' := 16) (tgt := 20) dX14_sign_13 (by decide) rfl (fun b2 => ?_) (fun b2 => ?_)
    · refine go_iconst (v := nI 0) (pc' := 21) dX14_sign_20 rfl (by decide) ?_
      rw [rSign, if_pos b1, if_pos b2]
      exact Go.ret (v := some (.int _)) dX14_sign_21 ⟨_, rfl⟩ ⟨rfl, rfl, rfl⟩
    · refine go_iconst (v := (-1)) (pc' := 17) dX14_sign_16 rfl (by decide) ?_
      refine go_goto (pc' := 0) (tgt := 21) dX14_sign_17 (by decide) ?_
      rw [rSign, if_pos b1, if_neg b2]
      exact Go.ret (v := some (.int _)) dX14_sign_21 ⟨_, rfl⟩ ⟨rfl, rfl, rfl⟩
  · refine go_iconst (v := nI 1) (pc' := 7) dX14_sign_6 rfl (by decide) ?_
    refine go_goto (pc' := 0) (tgt := 21) dX14_sign_7 (by decide) ?_
    rw [rSign, if_neg b1]
    exact Go.ret (v := some (.int _)) dX14_sign_21 ⟨_, rfl⟩ ⟨rfl, rfl, rfl⟩
def rSide (xsA : Nat → Int32) (ysA : Nat → Int32) (i : Nat) (x : Int32) (y : Int32) : Int32 := rSign (rCross (((xsA (i + 1)).toInt64) - ((xsA i).toInt64)) (((ysA (i + 1)).toInt64) - ((ysA i).toInt64)) ((x.toInt64) - ((xsA i).toInt64)) ((y.toInt64) - ((ysA i).toInt64)))
set_option maxRecDepth 100000 in
set_option maxHeartbeats 4000000 in
theorem r_side {G : xG} {h : xH} {a : Nat} {idA kdA plA riA : Int32} {enA xsA ysA : Nat → Int32} {i : Nat} {x : Int32} {y : Int32} (hSA : MSh h a idA kdA plA riA enA xsA ysA) (hi : i + 1 < 40) : Ca G mX14_side [.ref a, .int (nI i), .int x, .int y] h (fun v h' => v = some (.int (rSide xsA ysA i x y)) ∧ h' = h) := by
  obtain ⟨kSA, keA, kxA, kyA⟩ := id hSA
  refine Ca.of rfl (Nat.le_of_ble_eq_true rfl) ?_
  refine go_aload_n (i := 0) (pc' := 1) dX14_side_0 rfl rfl rfl ?_
  refine go_getf (pc' := 4) dX14_side_1 rfl gf_LandBaseModel_30 kSA rfl ?_
  refine go_iload_n (i := 1) (pc' := 5) dX14_side_4 rfl rfl rfl ?_
  refine go_iconst (v := nI 1) (pc' := 6) dX14_side_5 rfl (by decide) ?_
  refine go_iaddN (pc' := 7) dX14_side_6 rfl ?_
  refine go_ialoadN (pc' := 8) dX14_side_7 rfl kxA (by decide) (by omega) ?_
  refine go_i2l (pc' := 9) dX14_side_8 rfl rfl ?_
  refine go_aload_n (i := 0) (pc' := 10) dX14_side_9 rfl rfl rfl ?_
  refine go_getf (pc' := 13) dX14_side_10 rfl gf_LandBaseModel_30 kSA rfl ?_
  refine go_iload_n (i := 1) (pc' := 14) dX14_side_13 rfl rfl rfl ?_
  refine go_ialoadN (pc' := 15) dX14_side_14 rfl kxA (by decide) (by omega) ?_
  refine go_i2l (pc' := 16) dX14_side_15 rfl rfl ?_
  refine go_lsub (pc' := 17) dX14_side_16 rfl ?_
  refine go_aload_n (i := 0) (pc' := 18) dX14_side_17 rfl rfl rfl ?_
  refine go_getf (pc' := 21) dX14_side_18 rfl gf_LandBaseModel_36 kSA rfl ?_
  refine go_iload_n (i := 1) (pc' := 22) dX14_side_21 rfl rfl rfl ?_
  refine go_iconst (v := nI 1) (pc' := 23) dX14_side_22 rfl (by decide) ?_
  refine go_iaddN (pc' := 24) dX14_side_23 rfl ?_
  refine go_ialoadN (pc' := 25) dX14_side_24 rfl kyA (by decide) (by omega) ?_
  refine go_i2l (pc' := 26) dX14_side_25 rfl rfl ?_
  refine go_aload_n (i := 0) (pc' := 27) dX14_side_26 rfl rfl rfl ?_
  refine go_getf (pc' := 30) dX14_side_27 rfl gf_LandBaseModel_36 kSA rfl ?_
  refine go_iload_n (i := 1) (pc' := 31) dX14_side_30 rfl rfl rfl ?_
  refine go_ialoadN (pc' := 32) dX14_side_31 rfl kyA (by decide) (by omega) ?_
  refine go_i2l (pc' := 33) dX14_side_32 rfl rfl ?_
  refine go_lsub (pc' := 34) dX14_side_33 rfl ?_
  refine go_iload_n (i := 2) (pc' := 35) dX14_side_34 rfl rfl rfl ?_
  refine go_i2l (pc' := 36) dX14_side_35 rfl rfl ?_
  refine go_aload_n (i := 0) (pc' := 37) dX14_side_36 rfl rfl rfl ?_
  refine go_getf (pc' := 40) dX14_side_37 rfl gf_LandBaseModel_30 kSA rfl ?_
  refine go_iload_n (i := 1) (pc' := 41) dX14_side_40 rfl rfl rfl ?_
  refine go_ialoadN (pc' := 42) dX14_side_41 rfl kxA (by decide) (by omega) ?_
  refine go_i2l (pc' := 43) dX14_side_42 rfl rfl ?_
  refine go_lsub (pc' := 44) dX14_side_43 rfl ?_
  refine go_iload_n (i := 3) (pc' := 45) dX14_side_44 rfl rfl rfl ?_
  refine go_i2l (pc' := 46) dX14_side_45 rfl rfl ?_
  refine go_aload_n (i := 0) (pc' := 47) dX14_side_46 rfl rfl rfl ?_
  refine go_getf (pc' := 50) dX14_side_47 rfl gf_LandBaseModel_36 kSA rfl ?_
  refine go_iload_n (i := 1) (pc' := 51) dX14_side_50 rfl rfl rfl ?_
  refine go_ialoadN (pc' := 52) dX14_side_51 rfl kyA (by decide) (by omega) ?_
  refine go_i2l (pc' := 53) dX14_side_52 rfl rfl ?_
  refine go_lsub (pc' := 54) dX14_side_53 rfl ?_
  refine go_invS (As := [_, _, _, _]) (pc' := 57) dX14_side_54 rfl cf_X14_side_39 rfl rfl (Nat.le_of_ble_eq_true rfl) (r_cross) (fun vv1 hh1 qq1 => ?_)
  obtain ⟨rfl, rfl⟩ := qq1
  refine go_invS (As := [_]) (pc' := 60) dX14_side_57 rfl cf_X14_side_43 rfl rfl (Nat.le_of_ble_eq_true rfl) (r_sign) (fun vv2 hh2 qq2 => ?_)
  obtain ⟨rfl, rfl⟩ := qq2
  rw [rSide]
  exact Go.ret (v := some (.int _)) dX14_side_60 ⟨_, rfl⟩ ⟨rfl, rfl, rfl⟩
def rBetw (z : Int32) (x : Int32) (y : Int32) : Int32 := if z < (imin x y) then nI 0 else if (imax x y) < z then nI 0 else nI 1
set_option maxRecDepth 100000 in
set_option maxHeartbeats 4000000 in
theorem r_isBetween {G : xG} {h : xH} {z : Int32} {x : Int32} {y : Int32}   : Ca G mX14_isBetween [.int z, .int x, .int y] h (fun v h' => v = some (.int (rBetw z x y)) ∧ h' = h) := by
  refine Ca.of rfl (Nat.le_of_ble_eq_true rfl) ?_
  refine go_iload_n (i := 0) (pc' := 1) dX14_isBetween_0 rfl rfl rfl ?_
  refine go_iload_n (i := 1) (pc' := 2) dX14_isBetween_1 rfl rfl rfl ?_
  refine go_iload_n (i := 2) (pc' := 3) dX14_isBetween_2 rfl rfl rfl ?_
  refine go_mmin (pc' := 6) dX14_isBetween_3 rfl cf_X14_isBetween_47 (Nat.le_of_ble_eq_true rfl) ?_
  refine go_icmp_lt (pc' := 9) (tgt := 22) dX14_isBetween_6 (by decide) rfl (fun b1 => ?_) (fun b1 => ?_)
  · refine go_iconst (v := nI 0) (pc' := 23) dX14_isBetween_22 rfl (by decide) ?_
    rw [rBetw, if_pos b1]
    exact Go.ret (v := some (.int _)) dX14_isBetween_23 ⟨_, rfl⟩ ⟨(bool_ok (by decide)), rfl, rfl⟩
  · refine go_iload_n (i := 0) (pc' := 10) dX14_isBetween_9 rfl rfl rfl ?_
    refine go_iload_n (i := 1) (pc' := 11) dX14_isBetween_10 rfl rfl rfl ?_
    refine go_iload_n (i := 2) (pc' := 12) dX14_isBetween_11 rfl rfl rfl ?_
    refine go_mmax (pc' := 15) dX14_isBetween_12 rfl cf_X14_isBetween_53 (Nat.le_of_ble_eq_true rfl) ?_
    refine go_icmp_gt (pc' := 18) (tgt := 22) dX14_isBetween_15 (by decide) rfl (fun b2 => ?_) (fun b2 => ?_)
    · refine go_iconst (v := nI 0) (pc' := 23) dX14_isBetween_22 rfl (by decide) ?_
      rw [rBetw, if_neg b1, if_pos b2]
      exact Go.ret (v := some (.int _)) dX14_isBetween_23 ⟨_, rfl⟩ ⟨(bool_ok (by decide)), rfl, rfl⟩
    · refine go_iconst (v := nI 1) (pc' := 19) dX14_isBetween_18 rfl (by decide) ?_
      refine go_goto (pc' := 0) (tgt := 23) dX14_isBetween_19 (by decide) ?_
      rw [rBetw, if_neg b1, if_neg b2]
      exact Go.ret (v := some (.int _)) dX14_isBetween_23 ⟨_, rfl⟩ ⟨(bool_ok (by decide)), rfl, rfl⟩
theorem rBetw_01 {z} {x} {y} : rBetw z x y = 0 ∨ rBetw z x y = 1 := by
  unfold rBetw
  repeat' split
  all_goals first | exact Or.inl rfl | exact Or.inr rfl
def rOn (xsA : Nat → Int32) (ysA : Nat → Int32) (i : Nat) (x : Int32) (y : Int32) : Int32 := if (rBetw x (xsA i) (xsA (i + 1))) = 0 then nI 0 else if (rBetw y (ysA i) (ysA (i + 1))) = 0 then nI 0 else if (rSide xsA ysA i x y) = 0 then nI 1 else nI 0
set_option maxRecDepth 100000 in
set_option maxHeartbeats 4000000 in
theorem r_isOn {G : xG} {h : xH} {a : Nat} {idA kdA plA riA : Int32} {enA xsA ysA : Nat → Int32} {i : Nat} {x : Int32} {y : Int32} (hSA : MSh h a idA kdA plA riA enA xsA ysA) (hi : i + 1 < 40) : Ca G mX14_isOn [.ref a, .int (nI i), .int x, .int y] h (fun v h' => v = some (.int (rOn xsA ysA i x y)) ∧ h' = h) := by
  obtain ⟨kSA, keA, kxA, kyA⟩ := id hSA
  refine Ca.of rfl (Nat.le_of_ble_eq_true rfl) ?_
  refine go_iload_n (i := 2) (pc' := 1) dX14_isOn_0 rfl rfl rfl ?_
  refine go_aload_n (i := 0) (pc' := 2) dX14_isOn_1 rfl rfl rfl ?_
  refine go_getf (pc' := 5) dX14_isOn_2 rfl gf_LandBaseModel_30 kSA rfl ?_
  refine go_iload_n (i := 1) (pc' := 6) dX14_isOn_5 rfl rfl rfl ?_
  refine go_ialoadN (pc' := 7) dX14_isOn_6 rfl kxA (by decide) (by omega) ?_
  refine go_aload_n (i := 0) (pc' := 8) dX14_isOn_7 rfl rfl rfl ?_
  refine go_getf (pc' := 11) dX14_isOn_8 rfl gf_LandBaseModel_30 kSA rfl ?_
  refine go_iload_n (i := 1) (pc' := 12) dX14_isOn_11 rfl rfl rfl ?_
  refine go_iconst (v := nI 1) (pc' := 13) dX14_isOn_12 rfl (by decide) ?_
  refine go_iaddN (pc' := 14) dX14_isOn_13 rfl ?_
  refine go_ialoadN (pc' := 15) dX14_isOn_14 rfl kxA (by decide) (by omega) ?_
  refine go_invS (As := [_, _, _]) (pc' := 18) dX14_isOn_15 rfl cf_X14_isOn_56 rfl rfl (Nat.le_of_ble_eq_true rfl) (r_isBetween) (fun vv1 hh1 qq1 => ?_)
  obtain ⟨rfl, rfl⟩ := qq1
  refine go_if_eq (pc' := 21) (tgt := 56) dX14_isOn_18 (by decide) rfl (fun b2 => ?_) (fun b2 => ?_)
  · refine go_iconst (v := nI 0) (pc' := 57) dX14_isOn_56 rfl (by decide) ?_
    rw [rOn, if_pos b2]
    exact Go.ret (v := some (.int _)) dX14_isOn_57 ⟨_, rfl⟩ ⟨(bool_ok (by decide)), rfl, rfl⟩
  · refine go_iload_n (i := 3) (pc' := 22) dX14_isOn_21 rfl rfl rfl ?_
    refine go_aload_n (i := 0) (pc' := 23) dX14_isOn_22 rfl rfl rfl ?_
    refine go_getf (pc' := 26) dX14_isOn_23 rfl gf_LandBaseModel_36 kSA rfl ?_
    refine go_iload_n (i := 1) (pc' := 27) dX14_isOn_26 rfl rfl rfl ?_
    refine go_ialoadN (pc' := 28) dX14_isOn_27 rfl kyA (by decide) (by omega) ?_
    refine go_aload_n (i := 0) (pc' := 29) dX14_isOn_28 rfl rfl rfl ?_
    refine go_getf (pc' := 32) dX14_isOn_29 rfl gf_LandBaseModel_36 kSA rfl ?_
    refine go_iload_n (i := 1) (pc' := 33) dX14_isOn_32 rfl rfl rfl ?_
    refine go_iconst (v := nI 1) (pc' := 34) dX14_isOn_33 rfl (by decide) ?_
    refine go_iaddN (pc' := 35) dX14_isOn_34 rfl ?_
    refine go_ialoadN (pc' := 36) dX14_isOn_35 rfl kyA (by decide) (by omega) ?_
    refine go_invS (As := [_, _, _]) (pc' := 39) dX14_isOn_36 rfl cf_X14_isOn_56 rfl rfl (Nat.le_of_ble_eq_true rfl) (r_isBetween) (fun vv3 hh3 qq3 => ?_)
    obtain ⟨rfl, rfl⟩ := qq3
    refine go_if_eq (pc' := 42) (tgt := 56) dX14_isOn_39 (by decide) rfl (fun b4 => ?_) (fun b4 => ?_)
    · refine go_iconst (v := nI 0) (pc' := 57) dX14_isOn_56 rfl (by decide) ?_
      rw [rOn, if_neg b2, if_pos b4]
      exact Go.ret (v := some (.int _)) dX14_isOn_57 ⟨_, rfl⟩ ⟨(bool_ok (by decide)), rfl, rfl⟩
    · refine go_aload_n (i := 0) (pc' := 43) dX14_isOn_42 rfl rfl rfl ?_
      refine go_iload_n (i := 1) (pc' := 44) dX14_isOn_43 rfl rfl rfl ?_
      refine go_iload_n (i := 2) (pc' := 45) dX14_isOn_44 rfl rfl rfl ?_
      refine go_iload_n (i := 3) (pc' := 46) dX14_isOn_45 rfl rfl rfl ?_
      refine go_invS (As := [_, _, _, _]) (pc' := 49) dX14_isOn_46 rfl cf_X14_isOn_60 rfl rfl (Nat.le_of_ble_eq_true rfl) (r_side hSA (by omega)) (fun vv5 hh5 qq5 => ?_)
      obtain ⟨rfl, rfl⟩ := qq5
      refine go_if_ne (pc' := 52) (tgt := 56) dX14_isOn_49 (by decide) rfl (fun b6 => ?_) (fun b6 => ?_)
      · refine go_iconst (v := nI 0) (pc' := 57) dX14_isOn_56 rfl (by decide) ?_
        rw [rOn, if_neg b2, if_neg b4, if_neg b6]
        exact Go.ret (v := some (.int _)) dX14_isOn_57 ⟨_, rfl⟩ ⟨(bool_ok (by decide)), rfl, rfl⟩
      · refine go_iconst (v := nI 1) (pc' := 53) dX14_isOn_52 rfl (by decide) ?_
        refine go_goto (pc' := 0) (tgt := 57) dX14_isOn_53 (by decide) ?_
        rw [rOn, if_neg b2, if_neg b4, if_pos b6]
        exact Go.ret (v := some (.int _)) dX14_isOn_57 ⟨_, rfl⟩ ⟨(bool_ok (by decide)), rfl, rfl⟩
theorem rOn_01 {xsA} {ysA} {i} {x} {y} : rOn xsA ysA i x y = 0 ∨ rOn xsA ysA i x y = 1 := by
  unfold rOn
  repeat' split
  all_goals first | exact Or.inl rfl | exact Or.inr rfl
def rMeet (xsA : Nat → Int32) (ysA : Nat → Int32) (i : Nat) (xsB : Nat → Int32) (ysB : Nat → Int32) (j : Nat) : Int32 := if 0 ≤ ((rSide xsA ysA i (xsB j) (ysB j)) * (rSide xsA ysA i (xsB (j + 1)) (ysB (j + 1)))) then if (rOn xsA ysA i (xsB j) (ysB j)) = 0 then if (rOn xsA ysA i (xsB (j + 1)) (ysB (j + 1))) = 0 then if (rOn xsB ysB j (xsA i) (ysA i)) = 0 then if (rOn xsB ysB j (xsA (i + 1)) (ysA (i + 1))) = 0 then nI 0 else nI 1 else nI 1 else nI 1 else nI 1 else if 0 ≤ ((rSide xsB ysB j (xsA i) (ysA i)) * (rSide xsB ysB j (xsA (i + 1)) (ysA (i + 1)))) then if (rOn xsA ysA i (xsB j) (ysB j)) = 0 then if (rOn xsA ysA i (xsB (j + 1)) (ysB (j + 1))) = 0 then if (rOn xsB ysB j (xsA i) (ysA i)) = 0 then if (rOn xsB ysB j (xsA (i + 1)) (ysA (i + 1))) = 0 then nI 0 else nI 1 else nI 1 else nI 1 else nI 1 else nI 1
set_option maxRecDepth 100000 in
set_option maxHeartbeats 4000000 in
theorem r_meet {G : xG} {h : xH} {a : Nat} {idA kdA plA riA : Int32} {enA xsA ysA : Nat → Int32} {i : Nat} {b : Nat} {idB kdB plB riB : Int32} {enB xsB ysB : Nat → Int32} {j : Nat} (hSA : MSh h a idA kdA plA riA enA xsA ysA) (hSB : MSh h b idB kdB plB riB enB xsB ysB) (hi : i + 1 < 40) (hj : j + 1 < 40) : Ca G mX14_meet [.ref a, .int (nI i), .ref b, .int (nI j)] h (fun v h' => v = some (.int (rMeet xsA ysA i xsB ysB j)) ∧ h' = h) := by
  obtain ⟨kSA, keA, kxA, kyA⟩ := id hSA
  obtain ⟨kSB, keB, kxB, kyB⟩ := id hSB
  refine Ca.of rfl (Nat.le_of_ble_eq_true rfl) ?_
  refine go_aload_n (i := 0) (pc' := 1) dX14_meet_0 rfl rfl rfl ?_
  refine go_iload_n (i := 1) (pc' := 2) dX14_meet_1 rfl rfl rfl ?_
  refine go_aload_n (i := 2) (pc' := 3) dX14_meet_2 rfl rfl rfl ?_
  refine go_getf (pc' := 6) dX14_meet_3 rfl gf_LandBaseModel_30 kSB rfl ?_
  refine go_iload_n (i := 3) (pc' := 7) dX14_meet_6 rfl rfl rfl ?_
  refine go_ialoadN (pc' := 8) dX14_meet_7 rfl kxB (by decide) (by omega) ?_
  refine go_aload_n (i := 2) (pc' := 9) dX14_meet_8 rfl rfl rfl ?_
  refine go_getf (pc' := 12) dX14_meet_9 rfl gf_LandBaseModel_36 kSB rfl ?_
  refine go_iload_n (i := 3) (pc' := 13) dX14_meet_12 rfl rfl rfl ?_
  refine go_ialoadN (pc' := 14) dX14_meet_13 rfl kyB (by decide) (by omega) ?_
  refine go_invS (As := [_, _, _, _]) (pc' := 17) dX14_meet_14 rfl cf_X14_meet_60 rfl rfl (Nat.le_of_ble_eq_true rfl) (r_side hSA (by omega)) (fun vv1 hh1 qq1 => ?_)
  obtain ⟨rfl, rfl⟩ := qq1
  refine go_istore (pc' := 19) dX14_meet_17 rfl (by decide) rfl ?_
  refine go_aload_n (i := 0) (pc' := 20) dX14_meet_19 rfl rfl rfl ?_
  refine go_iload_n (i := 1) (pc' := 21) dX14_meet_20 rfl rfl rfl ?_
  refine go_aload_n (i := 2) (pc' := 22) dX14_meet_21 rfl rfl rfl ?_
  refine go_getf (pc' := 25) dX14_meet_22 rfl gf_LandBaseModel_30 kSB rfl ?_
  refine go_iload_n (i := 3) (pc' := 26) dX14_meet_25 rfl rfl rfl ?_
  refine go_iconst (v := nI 1) (pc' := 27) dX14_meet_26 rfl (by decide) ?_
  refine go_iaddN (pc' := 28) dX14_meet_27 rfl ?_
  refine go_ialoadN (pc' := 29) dX14_meet_28 rfl kxB (by decide) (by omega) ?_
  refine go_aload_n (i := 2) (pc' := 30) dX14_meet_29 rfl rfl rfl ?_
  refine go_getf (pc' := 33) dX14_meet_30 rfl gf_LandBaseModel_36 kSB rfl ?_
  refine go_iload_n (i := 3) (pc' := 34) dX14_meet_33 rfl rfl rfl ?_
  refine go_iconst (v := nI 1) (pc' := 35) dX14_meet_34 rfl (by decide) ?_
  refine go_iaddN (pc' := 36) dX14_meet_35 rfl ?_
  refine go_ialoadN (pc' := 37) dX14_meet_36 rfl kyB (by decide) (by omega) ?_
  refine go_invS (As := [_, _, _, _]) (pc' := 40) dX14_meet_37 rfl cf_X14_meet_60 rfl rfl (Nat.le_of_ble_eq_true rfl) (r_side hSA (by omega)) (fun vv2 hh2 qq2 => ?_)
  obtain ⟨rfl, rfl⟩ := qq2
  refine go_istore (pc' := 42) dX14_meet_40 rfl (by decide) rfl ?_
  refine go_aload_n (i := 2) (pc' := 43) dX14_meet_42 rfl rfl rfl ?_
  refine go_iload_n (i := 3) (pc' := 44) dX14_meet_43 rfl rfl rfl ?_
  refine go_aload_n (i := 0) (pc' := 45) dX14_meet_44 rfl rfl rfl ?_
  refine go_getf (pc' := 48) dX14_meet_45 rfl gf_LandBaseModel_30 kSA rfl ?_
  refine go_iload_n (i := 1) (pc' := 49) dX14_meet_48 rfl rfl rfl ?_
  refine go_ialoadN (pc' := 50) dX14_meet_49 rfl kxA (by decide) (by omega) ?_
  refine go_aload_n (i := 0) (pc' := 51) dX14_meet_50 rfl rfl rfl ?_
  refine go_getf (pc' := 54) dX14_meet_51 rfl gf_LandBaseModel_36 kSA rfl ?_
  refine go_iload_n (i := 1) (pc' := 55) dX14_meet_54 rfl rfl rfl ?_
  refine go_ialoadN (pc' := 56) dX14_meet_55 rfl kyA (by decide) (by omega) ?_
  refine go_invS (As := [_, _, _, _]) (pc' := 59) dX14_meet_56 rfl cf_X14_meet_60 rfl rfl (Nat.le_of_ble_eq_true rfl) (r_side hSB (by omega)) (fun vv3 hh3 qq3 => ?_)
  obtain ⟨rfl, rfl⟩ := qq3
  refine go_istore (pc' := 61) dX14_meet_59 rfl (by decide) rfl ?_
  refine go_aload_n (i := 2) (pc' := 62) dX14_meet_61 rfl rfl rfl ?_
  refine go_iload_n (i := 3) (pc' := 63) dX14_meet_62 rfl rfl rfl ?_
  refine go_aload_n (i := 0) (pc' := 64) dX14_meet_63 rfl rfl rfl ?_
  refine go_getf (pc' := 67) dX14_meet_64 rfl gf_LandBaseModel_30 kSA rfl ?_
  refine go_iload_n (i := 1) (pc' := 68) dX14_meet_67 rfl rfl rfl ?_
  refine go_iconst (v := nI 1) (pc' := 69) dX14_meet_68 rfl (by decide) ?_
  refine go_iaddN (pc' := 70) dX14_meet_69 rfl ?_
  refine go_ialoadN (pc' := 71) dX14_meet_70 rfl kxA (by decide) (by omega) ?_
  refine go_aload_n (i := 0) (pc' := 72) dX14_meet_71 rfl rfl rfl ?_
  refine go_getf (pc' := 75) dX14_meet_72 rfl gf_LandBaseModel_36 kSA rfl ?_
  refine go_iload_n (i := 1) (pc' := 76) dX14_meet_75 rfl rfl rfl ?_
  refine go_iconst (v := nI 1) (pc' := 77) dX14_meet_76 rfl (by decide) ?_
  refine go_iaddN (pc' := 78) dX14_meet_77 rfl ?_
  refine go_ialoadN (pc' := 79) dX14_meet_78 rfl kyA (by decide) (by omega) ?_
  refine go_invS (As := [_, _, _, _]) (pc' := 82) dX14_meet_79 rfl cf_X14_meet_60 rfl rfl (Nat.le_of_ble_eq_true rfl) (r_side hSB (by omega)) (fun vv4 hh4 qq4 => ?_)
  obtain ⟨rfl, rfl⟩ := qq4
  refine go_istore (pc' := 84) dX14_meet_82 rfl (by decide) rfl ?_
  refine go_iload (pc' := 86) dX14_meet_84 rfl rfl ?_
  refine go_iload (pc' := 88) dX14_meet_86 rfl rfl ?_
  refine go_imul (pc' := 89) dX14_meet_88 rfl ?_
  refine go_if_ge (pc' := 92) (tgt := 102) dX14_meet_89 (by decide) rfl (fun b5 => ?_) (fun b5 => ?_)
  · refine go_aload_n (i := 0) (pc' := 103) dX14_meet_102 rfl rfl rfl ?_
    refine go_iload_n (i := 1) (pc' := 104) dX14_meet_103 rfl rfl rfl ?_
    refine go_aload_n (i := 2) (pc' := 105) dX14_meet_104 rfl rfl rfl ?_
    refine go_getf (pc' := 108) dX14_meet_105 rfl gf_LandBaseModel_30 kSB rfl ?_
    refine go_iload_n (i := 3) (pc' := 109) dX14_meet_108 rfl rfl rfl ?_
    refine go_ialoadN (pc' := 110) dX14_meet_109 rfl kxB (by decide) (by omega) ?_
    refine go_aload_n (i := 2) (pc' := 111) dX14_meet_110 rfl rfl rfl ?_
    refine go_getf (pc' := 114) dX14_meet_111 rfl gf_LandBaseModel_36 kSB rfl ?_
    refine go_iload_n (i := 3) (pc' := 115) dX14_meet_114 rfl rfl rfl ?_
    refine go_ialoadN (pc' := 116) dX14_meet_115 rfl kyB (by decide) (by omega) ?_
    refine go_invS (As := [_, _, _, _]) (pc' := 119) dX14_meet_116 rfl cf_X14_meet_71 rfl rfl (Nat.le_of_ble_eq_true rfl) (r_isOn hSA (by omega)) (fun vv6 hh6 qq6 => ?_)
    obtain ⟨rfl, rfl⟩ := qq6
    refine go_if_ne (pc' := 122) (tgt := 190) dX14_meet_119 (by decide) rfl (fun b7 => ?_) (fun b7 => ?_)
    · refine go_iconst (v := nI 1) (pc' := 191) dX14_meet_190 rfl (by decide) ?_
      refine go_goto (pc' := 0) (tgt := 195) dX14_meet_191 (by decide) ?_
      rw [rMeet, if_pos b5, if_neg b7]
      exact Go.ret (v := some (.int _)) dX14_meet_195 ⟨_, rfl⟩ ⟨(bool_ok (by decide)), rfl, rfl⟩
    · refine go_aload_n (i := 0) (pc' := 123) dX14_meet_122 rfl rfl rfl ?_
      refine go_iload_n (i := 1) (pc' := 124) dX14_meet_123 rfl rfl rfl ?_
      refine go_aload_n (i := 2) (pc' := 125) dX14_meet_124 rfl rfl rfl ?_
      refine go_getf (pc' := 128) dX14_meet_125 rfl gf_LandBaseModel_30 kSB rfl ?_
      refine go_iload_n (i := 3) (pc' := 129) dX14_meet_128 rfl rfl rfl ?_
      refine go_iconst (v := nI 1) (pc' := 130) dX14_meet_129 rfl (by decide) ?_
      refine go_iaddN (pc' := 131) dX14_meet_130 rfl ?_
      refine go_ialoadN (pc' := 132) dX14_meet_131 rfl kxB (by decide) (by omega) ?_
      refine go_aload_n (i := 2) (pc' := 133) dX14_meet_132 rfl rfl rfl ?_
      refine go_getf (pc' := 136) dX14_meet_133 rfl gf_LandBaseModel_36 kSB rfl ?_
      refine go_iload_n (i := 3) (pc' := 137) dX14_meet_136 rfl rfl rfl ?_
      refine go_iconst (v := nI 1) (pc' := 138) dX14_meet_137 rfl (by decide) ?_
      refine go_iaddN (pc' := 139) dX14_meet_138 rfl ?_
      refine go_ialoadN (pc' := 140) dX14_meet_139 rfl kyB (by decide) (by omega) ?_
      refine go_invS (As := [_, _, _, _]) (pc' := 143) dX14_meet_140 rfl cf_X14_meet_71 rfl rfl (Nat.le_of_ble_eq_true rfl) (r_isOn hSA (by omega)) (fun vv8 hh8 qq8 => ?_)
      obtain ⟨rfl, rfl⟩ := qq8
      refine go_if_ne (pc' := 146) (tgt := 190) dX14_meet_143 (by decide) rfl (fun b9 => ?_) (fun b9 => ?_)
      · refine go_iconst (v := nI 1) (pc' := 191) dX14_meet_190 rfl (by decide) ?_
        refine go_goto (pc' := 0) (tgt := 195) dX14_meet_191 (by decide) ?_
        rw [rMeet, if_pos b5, if_pos b7, if_neg b9]
        exact Go.ret (v := some (.int _)) dX14_meet_195 ⟨_, rfl⟩ ⟨(bool_ok (by decide)), rfl, rfl⟩
      · refine go_aload_n (i := 2) (pc' := 147) dX14_meet_146 rfl rfl rfl ?_
        refine go_iload_n (i := 3) (pc' := 148) dX14_meet_147 rfl rfl rfl ?_
        refine go_aload_n (i := 0) (pc' := 149) dX14_meet_148 rfl rfl rfl ?_
        refine go_getf (pc' := 152) dX14_meet_149 rfl gf_LandBaseModel_30 kSA rfl ?_
        refine go_iload_n (i := 1) (pc' := 153) dX14_meet_152 rfl rfl rfl ?_
        refine go_ialoadN (pc' := 154) dX14_meet_153 rfl kxA (by decide) (by omega) ?_
        refine go_aload_n (i := 0) (pc' := 155) dX14_meet_154 rfl rfl rfl ?_
        refine go_getf (pc' := 158) dX14_meet_155 rfl gf_LandBaseModel_36 kSA rfl ?_
        refine go_iload_n (i := 1) (pc' := 159) dX14_meet_158 rfl rfl rfl ?_
        refine go_ialoadN (pc' := 160) dX14_meet_159 rfl kyA (by decide) (by omega) ?_
        refine go_invS (As := [_, _, _, _]) (pc' := 163) dX14_meet_160 rfl cf_X14_meet_71 rfl rfl (Nat.le_of_ble_eq_true rfl) (r_isOn hSB (by omega)) (fun vv10 hh10 qq10 => ?_)
        obtain ⟨rfl, rfl⟩ := qq10
        refine go_if_ne (pc' := 166) (tgt := 190) dX14_meet_163 (by decide) rfl (fun b11 => ?_) (fun b11 => ?_)
        · refine go_iconst (v := nI 1) (pc' := 191) dX14_meet_190 rfl (by decide) ?_
          refine go_goto (pc' := 0) (tgt := 195) dX14_meet_191 (by decide) ?_
          rw [rMeet, if_pos b5, if_pos b7, if_pos b9, if_neg b11]
          exact Go.ret (v := some (.int _)) dX14_meet_195 ⟨_, rfl⟩ ⟨(bool_ok (by decide)), rfl, rfl⟩
        · refine go_aload_n (i := 2) (pc' := 167) dX14_meet_166 rfl rfl rfl ?_
          refine go_iload_n (i := 3) (pc' := 168) dX14_meet_167 rfl rfl rfl ?_
          refine go_aload_n (i := 0) (pc' := 169) dX14_meet_168 rfl rfl rfl ?_
          refine go_getf (pc' := 172) dX14_meet_169 rfl gf_LandBaseModel_30 kSA rfl ?_
          refine go_iload_n (i := 1) (pc' := 173) dX14_meet_172 rfl rfl rfl ?_
          refine go_iconst (v := nI 1) (pc' := 174) dX14_meet_173 rfl (by decide) ?_
          refine go_iaddN (pc' := 175) dX14_meet_174 rfl ?_
          refine go_ialoadN (pc' := 176) dX14_meet_175 rfl kxA (by decide) (by omega) ?_
          refine go_aload_n (i := 0) (pc' := 177) dX14_meet_176 rfl rfl rfl ?_
          refine go_getf (pc' := 180) dX14_meet_177 rfl gf_LandBaseModel_36 kSA rfl ?_
          refine go_iload_n (i := 1) (pc' := 181) dX14_meet_180 rfl rfl rfl ?_
          refine go_iconst (v := nI 1) (pc' := 182) dX14_meet_181 rfl (by decide) ?_
          refine go_iaddN (pc' := 183) dX14_meet_182 rfl ?_
          refine go_ialoadN (pc' := 184) dX14_meet_183 rfl kyA (by decide) (by omega) ?_
          refine go_invS (As := [_, _, _, _]) (pc' := 187) dX14_meet_184 rfl cf_X14_meet_71 rfl rfl (Nat.le_of_ble_eq_true rfl) (r_isOn hSB (by omega)) (fun vv12 hh12 qq12 => ?_)
          obtain ⟨rfl, rfl⟩ := qq12
          refine go_if_eq (pc' := 190) (tgt := 194) dX14_meet_187 (by decide) rfl (fun b13 => ?_) (fun b13 => ?_)
          · refine go_iconst (v := nI 0) (pc' := 195) dX14_meet_194 rfl (by decide) ?_
            rw [rMeet, if_pos b5, if_pos b7, if_pos b9, if_pos b11, if_pos b13]
            exact Go.ret (v := some (.int _)) dX14_meet_195 ⟨_, rfl⟩ ⟨(bool_ok (by decide)), rfl, rfl⟩
          · refine go_iconst (v := nI 1) (pc' := 191) dX14_meet_190 rfl (by decide) ?_
            refine go_goto (pc' := 0) (tgt := 195) dX14_meet_191 (by decide) ?_
            rw [rMeet, if_pos b5, if_pos b7, if_pos b9, if_pos b11, if_neg b13]
            exact Go.ret (v := some (.int _)) dX14_meet_195 ⟨_, rfl⟩ ⟨(bool_ok (by decide)), rfl, rfl⟩
  · refine go_iload (pc' := 94) dX14_meet_92 rfl rfl ?_
    refine go_iload (pc' := 96) dX14_meet_94 rfl rfl ?_
    refine go_imul (pc' := 97) dX14_meet_96 rfl ?_
    refine go_if_ge (pc' := 100) (tgt := 102) dX14_meet_97 (by decide) rfl (fun b14 => ?_) (fun b14 => ?_)
    · refine go_aload_n (i := 0) (pc' := 103) dX14_meet_102 rfl rfl rfl ?_
      refine go_iload_n (i := 1) (pc' := 104) dX14_meet_103 rfl rfl rfl ?_
      refine go_aload_n (i := 2) (pc' := 105) dX14_meet_104 rfl rfl rfl ?_
      refine go_getf (pc' := 108) dX14_meet_105 rfl gf_LandBaseModel_30 kSB rfl ?_
      refine go_iload_n (i := 3) (pc' := 109) dX14_meet_108 rfl rfl rfl ?_
      refine go_ialoadN (pc' := 110) dX14_meet_109 rfl kxB (by decide) (by omega) ?_
      refine go_aload_n (i := 2) (pc' := 111) dX14_meet_110 rfl rfl rfl ?_
      refine go_getf (pc' := 114) dX14_meet_111 rfl gf_LandBaseModel_36 kSB rfl ?_
      refine go_iload_n (i := 3) (pc' := 115) dX14_meet_114 rfl rfl rfl ?_
      refine go_ialoadN (pc' := 116) dX14_meet_115 rfl kyB (by decide) (by omega) ?_
      refine go_invS (As := [_, _, _, _]) (pc' := 119) dX14_meet_116 rfl cf_X14_meet_71 rfl rfl (Nat.le_of_ble_eq_true rfl) (r_isOn hSA (by omega)) (fun vv15 hh15 qq15 => ?_)
      obtain ⟨rfl, rfl⟩ := qq15
      refine go_if_ne (pc' := 122) (tgt := 190) dX14_meet_119 (by decide) rfl (fun b16 => ?_) (fun b16 => ?_)
      · refine go_iconst (v := nI 1) (pc' := 191) dX14_meet_190 rfl (by decide) ?_
        refine go_goto (pc' := 0) (tgt := 195) dX14_meet_191 (by decide) ?_
        rw [rMeet, if_neg b5, if_pos b14, if_neg b16]
        exact Go.ret (v := some (.int _)) dX14_meet_195 ⟨_, rfl⟩ ⟨(bool_ok (by decide)), rfl, rfl⟩
      · refine go_aload_n (i := 0) (pc' := 123) dX14_meet_122 rfl rfl rfl ?_
        refine go_iload_n (i := 1) (pc' := 124) dX14_meet_123 rfl rfl rfl ?_
        refine go_aload_n (i := 2) (pc' := 125) dX14_meet_124 rfl rfl rfl ?_
        refine go_getf (pc' := 128) dX14_meet_125 rfl gf_LandBaseModel_30 kSB rfl ?_
        refine go_iload_n (i := 3) (pc' := 129) dX14_meet_128 rfl rfl rfl ?_
        refine go_iconst (v := nI 1) (pc' := 130) dX14_meet_129 rfl (by decide) ?_
        refine go_iaddN (pc' := 131) dX14_meet_130 rfl ?_
        refine go_ialoadN (pc' := 132) dX14_meet_131 rfl kxB (by decide) (by omega) ?_
        refine go_aload_n (i := 2) (pc' := 133) dX14_meet_132 rfl rfl rfl ?_
        refine go_getf (pc' := 136) dX14_meet_133 rfl gf_LandBaseModel_36 kSB rfl ?_
        refine go_iload_n (i := 3) (pc' := 137) dX14_meet_136 rfl rfl rfl ?_
        refine go_iconst (v := nI 1) (pc' := 138) dX14_meet_137 rfl (by decide) ?_
        refine go_iaddN (pc' := 139) dX14_meet_138 rfl ?_
        refine go_ialoadN (pc' := 140) dX14_meet_139 rfl kyB (by decide) (by omega) ?_
        refine go_invS (As := [_, _, _, _]) (pc' := 143) dX14_meet_140 rfl cf_X14_meet_71 rfl rfl (Nat.le_of_ble_eq_true rfl) (r_isOn hSA (by omega)) (fun vv17 hh17 qq17 => ?_)
        obtain ⟨rfl, rfl⟩ := qq17
        refine go_if_ne (pc' := 146) (tgt := 190) dX14_meet_143 (by decide) rfl (fun b18 => ?_) (fun b18 => ?_)
        · refine go_iconst (v := nI 1) (pc' := 191) dX14_meet_190 rfl (by decide) ?_
          refine go_goto (pc' := 0) (tgt := 195) dX14_meet_191 (by decide) ?_
          rw [rMeet, if_neg b5, if_pos b14, if_pos b16, if_neg b18]
          exact Go.ret (v := some (.int _)) dX14_meet_195 ⟨_, rfl⟩ ⟨(bool_ok (by decide)), rfl, rfl⟩
        · refine go_aload_n (i := 2) (pc' := 147) dX14_meet_146 rfl rfl rfl ?_
          refine go_iload_n (i := 3) (pc' := 148) dX14_meet_147 rfl rfl rfl ?_
          refine go_aload_n (i := 0) (pc' := 149) dX14_meet_148 rfl rfl rfl ?_
          refine go_getf (pc' := 152) dX14_meet_149 rfl gf_LandBaseModel_30 kSA rfl ?_
          refine go_iload_n (i := 1) (pc' := 153) dX14_meet_152 rfl rfl rfl ?_
          refine go_ialoadN (pc' := 154) dX14_meet_153 rfl kxA (by decide) (by omega) ?_
          refine go_aload_n (i := 0) (pc' := 155) dX14_meet_154 rfl rfl rfl ?_
          refine go_getf (pc' := 158) dX14_meet_155 rfl gf_LandBaseModel_36 kSA rfl ?_
          refine go_iload_n (i := 1) (pc' := 159) dX14_meet_158 rfl rfl rfl ?_
          refine go_ialoadN (pc' := 160) dX14_meet_159 rfl kyA (by decide) (by omega) ?_
          refine go_invS (As := [_, _, _, _]) (pc' := 163) dX14_meet_160 rfl cf_X14_meet_71 rfl rfl (Nat.le_of_ble_eq_true rfl) (r_isOn hSB (by omega)) (fun vv19 hh19 qq19 => ?_)
          obtain ⟨rfl, rfl⟩ := qq19
          refine go_if_ne (pc' := 166) (tgt := 190) dX14_meet_163 (by decide) rfl (fun b20 => ?_) (fun b20 => ?_)
          · refine go_iconst (v := nI 1) (pc' := 191) dX14_meet_190 rfl (by decide) ?_
            refine go_goto (pc' := 0) (tgt := 195) dX14_meet_191 (by decide) ?_
            rw [rMeet, if_neg b5, if_pos b14, if_pos b16, if_pos b18, if_neg b20]
            exact Go.ret (v := some (.int _)) dX14_meet_195 ⟨_, rfl⟩ ⟨(bool_ok (by decide)), rfl, rfl⟩
          · refine go_aload_n (i := 2) (pc' := 167) dX14_meet_166 rfl rfl rfl ?_
            refine go_iload_n (i := 3) (pc' := 168) dX14_meet_167 rfl rfl rfl ?_
            refine go_aload_n (i := 0) (pc' := 169) dX14_meet_168 rfl rfl rfl ?_
            refine go_getf (pc' := 172) dX14_meet_169 rfl gf_LandBaseModel_30 kSA rfl ?_
            refine go_iload_n (i := 1) (pc' := 173) dX14_meet_172 rfl rfl rfl ?_
            refine go_iconst (v := nI 1) (pc' := 174) dX14_meet_173 rfl (by decide) ?_
            refine go_iaddN (pc' := 175) dX14_meet_174 rfl ?_
            refine go_ialoadN (pc' := 176) dX14_meet_175 rfl kxA (by decide) (by omega) ?_
            refine go_aload_n (i := 0) (pc' := 177) dX14_meet_176 rfl rfl rfl ?_
            refine go_getf (pc' := 180) dX14_meet_177 rfl gf_LandBaseModel_36 kSA rfl ?_
            refine go_iload_n (i := 1) (pc' := 181) dX14_meet_180 rfl rfl rfl ?_
            refine go_iconst (v := nI 1) (pc' := 182) dX14_meet_181 rfl (by decide) ?_
            refine go_iaddN (pc' := 183) dX14_meet_182 rfl ?_
            refine go_ialoadN (pc' := 184) dX14_meet_183 rfl kyA (by decide) (by omega) ?_
            refine go_invS (As := [_, _, _, _]) (pc' := 187) dX14_meet_184 rfl cf_X14_meet_71 rfl rfl (Nat.le_of_ble_eq_true rfl) (r_isOn hSB (by omega)) (fun vv21 hh21 qq21 => ?_)
            obtain ⟨rfl, rfl⟩ := qq21
            refine go_if_eq (pc' := 190) (tgt := 194) dX14_meet_187 (by decide) rfl (fun b22 => ?_) (fun b22 => ?_)
            · refine go_iconst (v := nI 0) (pc' := 195) dX14_meet_194 rfl (by decide) ?_
              rw [rMeet, if_neg b5, if_pos b14, if_pos b16, if_pos b18, if_pos b20, if_pos b22]
              exact Go.ret (v := some (.int _)) dX14_meet_195 ⟨_, rfl⟩ ⟨(bool_ok (by decide)), rfl, rfl⟩
            · refine go_iconst (v := nI 1) (pc' := 191) dX14_meet_190 rfl (by decide) ?_
              refine go_goto (pc' := 0) (tgt := 195) dX14_meet_191 (by decide) ?_
              rw [rMeet, if_neg b5, if_pos b14, if_pos b16, if_pos b18, if_pos b20, if_neg b22]
              exact Go.ret (v := some (.int _)) dX14_meet_195 ⟨_, rfl⟩ ⟨(bool_ok (by decide)), rfl, rfl⟩
    · refine go_iconst (v := nI 1) (pc' := 101) dX14_meet_100 rfl (by decide) ?_
      rw [rMeet, if_neg b5, if_neg b14]
      exact Go.ret (v := some (.int _)) dX14_meet_101 ⟨_, rfl⟩ ⟨(bool_ok (by decide)), rfl, rfl⟩
theorem rMeet_01 {xsA} {ysA} {i} {xsB} {ysB} {j} : rMeet xsA ysA i xsB ysB j = 0 ∨ rMeet xsA ysA i xsB ysB j = 1 := by
  unfold rMeet
  repeat' split
  all_goals first | exact Or.inl rfl | exact Or.inr rfl
def rLike (xsA : Nat → Int32) (ysA : Nat → Int32) (i : Nat) (j : Nat) : Int32 := if (xsA i) = (xsA j) then if (ysA i) = (ysA j) then nI 1 else nI 0 else nI 0
set_option maxRecDepth 100000 in
set_option maxHeartbeats 4000000 in
theorem r_isLike {G : xG} {h : xH} {a : Nat} {idA kdA plA riA : Int32} {enA xsA ysA : Nat → Int32} {i : Nat} {j : Nat} (hSA : MSh h a idA kdA plA riA enA xsA ysA) (hi : i < 40) (hj : j < 40) : Ca G mX12_isLike [.ref a, .int (nI i), .int (nI j)] h (fun v h' => v = some (.int (rLike xsA ysA i j)) ∧ h' = h) := by
  obtain ⟨kSA, keA, kxA, kyA⟩ := id hSA
  refine Ca.of rfl (Nat.le_of_ble_eq_true rfl) ?_
  refine go_aload_n (i := 0) (pc' := 1) dX12_isLike_0 rfl rfl rfl ?_
  refine go_getf (pc' := 4) dX12_isLike_1 rfl gf_LandBaseModel_Shape_15 kSA rfl ?_
  refine go_iload_n (i := 1) (pc' := 5) dX12_isLike_4 rfl rfl rfl ?_
  refine go_ialoadN (pc' := 6) dX12_isLike_5 rfl kxA (by decide) (by omega) ?_
  refine go_aload_n (i := 0) (pc' := 7) dX12_isLike_6 rfl rfl rfl ?_
  refine go_getf (pc' := 10) dX12_isLike_7 rfl gf_LandBaseModel_Shape_15 kSA rfl ?_
  refine go_iload_n (i := 2) (pc' := 11) dX12_isLike_10 rfl rfl rfl ?_
  refine go_ialoadN (pc' := 12) dX12_isLike_11 rfl kxA (by decide) (by omega) ?_
  refine go_icmp_ne (pc' := 15) (tgt := 34) dX12_isLike_12 (by decide) rfl (fun b1 => ?_) (fun b1 => ?_)
  · refine go_iconst (v := nI 0) (pc' := 35) dX12_isLike_34 rfl (by decide) ?_
    rw [rLike, if_neg b1]
    exact Go.ret (v := some (.int _)) dX12_isLike_35 ⟨_, rfl⟩ ⟨(bool_ok (by decide)), rfl, rfl⟩
  · refine go_aload_n (i := 0) (pc' := 16) dX12_isLike_15 rfl rfl rfl ?_
    refine go_getf (pc' := 19) dX12_isLike_16 rfl gf_LandBaseModel_Shape_18 kSA rfl ?_
    refine go_iload_n (i := 1) (pc' := 20) dX12_isLike_19 rfl rfl rfl ?_
    refine go_ialoadN (pc' := 21) dX12_isLike_20 rfl kyA (by decide) (by omega) ?_
    refine go_aload_n (i := 0) (pc' := 22) dX12_isLike_21 rfl rfl rfl ?_
    refine go_getf (pc' := 25) dX12_isLike_22 rfl gf_LandBaseModel_Shape_18 kSA rfl ?_
    refine go_iload_n (i := 2) (pc' := 26) dX12_isLike_25 rfl rfl rfl ?_
    refine go_ialoadN (pc' := 27) dX12_isLike_26 rfl kyA (by decide) (by omega) ?_
    refine go_icmp_ne (pc' := 30) (tgt := 34) dX12_isLike_27 (by decide) rfl (fun b2 => ?_) (fun b2 => ?_)
    · refine go_iconst (v := nI 0) (pc' := 35) dX12_isLike_34 rfl (by decide) ?_
      rw [rLike, if_pos b1, if_neg b2]
      exact Go.ret (v := some (.int _)) dX12_isLike_35 ⟨_, rfl⟩ ⟨(bool_ok (by decide)), rfl, rfl⟩
    · refine go_iconst (v := nI 1) (pc' := 31) dX12_isLike_30 rfl (by decide) ?_
      refine go_goto (pc' := 0) (tgt := 35) dX12_isLike_31 (by decide) ?_
      rw [rLike, if_pos b1, if_pos b2]
      exact Go.ret (v := some (.int _)) dX12_isLike_35 ⟨_, rfl⟩ ⟨(bool_ok (by decide)), rfl, rfl⟩
theorem rLike_01 {xsA} {ysA} {i} {j} : rLike xsA ysA i j = 0 ∨ rLike xsA ysA i j = 1 := by
  unfold rLike
  repeat' split
  all_goals first | exact Or.inl rfl | exact Or.inr rfl
def rNumb (z : Int64) : Int32 := if (lg_cmp z ((-1073741823))) < 0 then nI 0 else if 0 < (lg_cmp z ((1073741823))) then nI 0 else nI 1
set_option maxRecDepth 100000 in
set_option maxHeartbeats 4000000 in
theorem r_isNumber {G : xG} {h : xH} {z : Int64}   : Ca G mX14_isNumber [.long z] h (fun v h' => v = some (.int (rNumb z)) ∧ h' = h) := by
  refine Ca.of rfl (Nat.le_of_ble_eq_true rfl) ?_
  refine go_lload_n (i := 0) (pc' := 1) dX14_isNumber_0 rfl rfl rfl ?_
  refine go_ldc2 (pc' := 4) dX14_isNumber_1 rfl wd_1516 ?_
  refine go_lcmp (pc' := 5) dX14_isNumber_4 rfl ?_
  refine go_if_lt (pc' := 8) (tgt := 20) dX14_isNumber_5 (by decide) rfl (fun b1 => ?_) (fun b1 => ?_)
  · refine go_iconst (v := nI 0) (pc' := 21) dX14_isNumber_20 rfl (by decide) ?_
    rw [rNumb, if_pos b1]
    exact Go.ret (v := some (.int _)) dX14_isNumber_21 ⟨_, rfl⟩ ⟨(bool_ok (by decide)), rfl, rfl⟩
  · refine go_lload_n (i := 0) (pc' := 9) dX14_isNumber_8 rfl rfl rfl ?_
    refine go_ldc2 (pc' := 12) dX14_isNumber_9 rfl wd_1266 ?_
    refine go_lcmp (pc' := 13) dX14_isNumber_12 rfl ?_
    refine go_if_gt (pc' := 16) (tgt := 20) dX14_isNumber_13 (by decide) rfl (fun b2 => ?_) (fun b2 => ?_)
    · refine go_iconst (v := nI 0) (pc' := 21) dX14_isNumber_20 rfl (by decide) ?_
      rw [rNumb, if_neg b1, if_pos b2]
      exact Go.ret (v := some (.int _)) dX14_isNumber_21 ⟨_, rfl⟩ ⟨(bool_ok (by decide)), rfl, rfl⟩
    · refine go_iconst (v := nI 1) (pc' := 17) dX14_isNumber_16 rfl (by decide) ?_
      refine go_goto (pc' := 0) (tgt := 21) dX14_isNumber_17 (by decide) ?_
      rw [rNumb, if_neg b1, if_neg b2]
      exact Go.ret (v := some (.int _)) dX14_isNumber_21 ⟨_, rfl⟩ ⟨(bool_ok (by decide)), rfl, rfl⟩
theorem rNumb_01 {z} : rNumb z = 0 ∨ rNumb z = 1 := by
  unfold rNumb
  repeat' split
  all_goals first | exact Or.inl rfl | exact Or.inr rfl

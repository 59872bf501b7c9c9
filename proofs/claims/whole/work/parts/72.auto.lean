/-! LOOP-FREE METHODS, walked by program (gen/auto.py, gen/autos.py) -/
def apartB (xsA : Nat → Int32) (ysA : Nat → Int32) (i : Nat) (xsB : Nat → Int32) (ysB : Nat → Int32) (j : Nat) : Int32 := if (imax (xsA i) (xsA (i + 1))) < (imin (xsB j) (xsB (j + 1))) then nI 1 else if (imax (xsB j) (xsB (j + 1))) < (imin (xsA i) (xsA (i + 1))) then nI 1 else if (imax (ysA i) (ysA (i + 1))) < (imin (ysB j) (ysB (j + 1))) then nI 1 else if (imin (ysA i) (ysA (i + 1))) ≤ (imax (ysB j) (ysB (j + 1))) then nI 0 else nI 1
set_option maxRecDepth 100000 in
set_option maxHeartbeats 4000000 in
theorem c_areBoxesApart {G : xG} {h : xH} {a : Nat} {kdA szA rcA tlA mnxA mnyA mxxA mxyA hoA : Int32} {xsA ysA rsA ilA : Nat → Int32} {i : Nat} {b : Nat} {kdB szB rcB tlB mnxB mnyB mxxB mxyB hoB : Int32} {xsB ysB rsB ilB : Nat → Int32} {j : Nat} (hSA : CSh h a kdA szA rcA tlA mnxA mnyA mxxA mxyA hoA xsA ysA rsA ilA) (hSB : CSh h b kdB szB rcB tlB mnxB mnyB mxxB mxyB hoB xsB ysB rsB ilB) (hi : i + 1 < 40) (hj : j + 1 < 40) : Ca G mX4_areBoxesApart [.ref a, .int (nI i), .ref b, .int (nI j)] h (fun v h' => v = some (.int (apartB xsA ysA i xsB ysB j)) ∧ h' = h) := by
  obtain ⟨kSA, kxA, kyA, krA, klA⟩ := id hSA
  obtain ⟨kSB, kxB, kyB, krB, klB⟩ := id hSB
  refine Ca.of rfl (Nat.le_of_ble_eq_true rfl) ?_
  refine go_aload_n (i := 0) (pc' := 1) dX4_areBoxesApart_0 rfl rfl rfl ?_
  refine go_getf (pc' := 4) dX4_areBoxesApart_1 rfl gf_LandBase_Plane_9 kSA rfl ?_
  refine go_iload_n (i := 1) (pc' := 5) dX4_areBoxesApart_4 rfl rfl rfl ?_
  refine go_ialoadN (pc' := 6) dX4_areBoxesApart_5 rfl kxA (by decide) (by omega) ?_
  refine go_aload_n (i := 0) (pc' := 7) dX4_areBoxesApart_6 rfl rfl rfl ?_
  refine go_getf (pc' := 10) dX4_areBoxesApart_7 rfl gf_LandBase_Plane_9 kSA rfl ?_
  refine go_iload_n (i := 1) (pc' := 11) dX4_areBoxesApart_10 rfl rfl rfl ?_
  refine go_iconst (v := nI 1) (pc' := 12) dX4_areBoxesApart_11 rfl (by decide) ?_
  refine go_iaddN (pc' := 13) dX4_areBoxesApart_12 rfl ?_
  refine go_ialoadN (pc' := 14) dX4_areBoxesApart_13 rfl kxA (by decide) (by omega) ?_
  refine go_mmax (pc' := 17) dX4_areBoxesApart_14 rfl cf_X4_areBoxesApart_24 (Nat.le_of_ble_eq_true rfl) ?_
  refine go_aload_n (i := 2) (pc' := 18) dX4_areBoxesApart_17 rfl rfl rfl ?_
  refine go_getf (pc' := 21) dX4_areBoxesApart_18 rfl gf_LandBase_Plane_9 kSB rfl ?_
  refine go_iload_n (i := 3) (pc' := 22) dX4_areBoxesApart_21 rfl rfl rfl ?_
  refine go_ialoadN (pc' := 23) dX4_areBoxesApart_22 rfl kxB (by decide) (by omega) ?_
  refine go_aload_n (i := 2) (pc' := 24) dX4_areBoxesApart_23 rfl rfl rfl ?_
  refine go_getf (pc' := 27) dX4_areBoxesApart_24 rfl gf_LandBase_Plane_9 kSB rfl ?_
  refine go_iload_n (i := 3) (pc' := 28) dX4_areBoxesApart_27 rfl rfl rfl ?_
  refine go_iconst (v := nI 1) (pc' := 29) dX4_areBoxesApart_28 rfl (by decide) ?_
  refine go_iaddN (pc' := 30) dX4_areBoxesApart_29 rfl ?_
  refine go_ialoadN (pc' := 31) dX4_areBoxesApart_30 rfl kxB (by decide) (by omega) ?_
  refine go_mmin (pc' := 34) dX4_areBoxesApart_31 rfl cf_X4_areBoxesApart_18 (Nat.le_of_ble_eq_true rfl) ?_
  refine go_icmp_lt (pc' := 37) (tgt := 148) dX4_areBoxesApart_34 (by decide) rfl (fun b1 => ?_) (fun b1 => ?_)
  · refine go_iconst (v := nI 1) (pc' := 149) dX4_areBoxesApart_148 rfl (by decide) ?_
    refine go_goto (pc' := 0) (tgt := 153) dX4_areBoxesApart_149 (by decide) ?_
    rw [apartB, if_pos b1]
    exact Go.ret (v := some (.int _)) dX4_areBoxesApart_153 ⟨_, rfl⟩ ⟨(bool_ok (by decide)), rfl, rfl⟩
  · refine go_aload_n (i := 2) (pc' := 38) dX4_areBoxesApart_37 rfl rfl rfl ?_
    refine go_getf (pc' := 41) dX4_areBoxesApart_38 rfl gf_LandBase_Plane_9 kSB rfl ?_
    refine go_iload_n (i := 3) (pc' := 42) dX4_areBoxesApart_41 rfl rfl rfl ?_
    refine go_ialoadN (pc' := 43) dX4_areBoxesApart_42 rfl kxB (by decide) (by omega) ?_
    refine go_aload_n (i := 2) (pc' := 44) dX4_areBoxesApart_43 rfl rfl rfl ?_
    refine go_getf (pc' := 47) dX4_areBoxesApart_44 rfl gf_LandBase_Plane_9 kSB rfl ?_
    refine go_iload_n (i := 3) (pc' := 48) dX4_areBoxesApart_47 rfl rfl rfl ?_
    refine go_iconst (v := nI 1) (pc' := 49) dX4_areBoxesApart_48 rfl (by decide) ?_
    refine go_iaddN (pc' := 50) dX4_areBoxesApart_49 rfl ?_
    refine go_ialoadN (pc' := 51) dX4_areBoxesApart_50 rfl kxB (by decide) (by omega) ?_
    refine go_mmax (pc' := 54) dX4_areBoxesApart_51 rfl cf_X4_areBoxesApart_24 (Nat.le_of_ble_eq_true rfl) ?_
    refine go_aload_n (i := 0) (pc' := 55) dX4_areBoxesApart_54 rfl rfl rfl ?_
    refine go_getf (pc' := 58) dX4_areBoxesApart_55 rfl gf_LandBase_Plane_9 kSA rfl ?_
    refine go_iload_n (i := 1) (pc' := 59) dX4_areBoxesApart_58 rfl rfl rfl ?_
    refine go_ialoadN (pc' := 60) dX4_areBoxesApart_59 rfl kxA (by decide) (by omega) ?_
    refine go_aload_n (i := 0) (pc' := 61) dX4_areBoxesApart_60 rfl rfl rfl ?_
    refine go_getf (pc' := 64) dX4_areBoxesApart_61 rfl gf_LandBase_Plane_9 kSA rfl ?_
    refine go_iload_n (i := 1) (pc' := 65) dX4_areBoxesApart_64 rfl rfl rfl ?_
    refine go_iconst (v := nI 1) (pc' := 66) dX4_areBoxesApart_65 rfl (by decide) ?_
    refine go_iaddN (pc' := 67) dX4_areBoxesApart_66 rfl ?_
    refine go_ialoadN (pc' := 68) dX4_areBoxesApart_67 rfl kxA (by decide) (by omega) ?_
    refine go_mmin (pc' := 71) dX4_areBoxesApart_68 rfl cf_X4_areBoxesApart_18 (Nat.le_of_ble_eq_true rfl) ?_
    refine go_icmp_lt (pc' := 74) (tgt := 148) dX4_areBoxesApart_71 (by decide) rfl (fun b2 => ?_) (fun b2 => ?_)
    · refine go_iconst (v := nI 1) (pc' := 149) dX4_areBoxesApart_148 rfl (by decide) ?_
      refine go_goto (pc' := 0) (tgt := 153) dX4_areBoxesApart_149 (by decide) ?_
      rw [apartB, if_neg b1, if_pos b2]
      exact Go.ret (v := some (.int _)) dX4_areBoxesApart_153 ⟨_, rfl⟩ ⟨(bool_ok (by decide)), rfl, rfl⟩
    · refine go_aload_n (i := 0) (pc' := 75) dX4_areBoxesApart_74 rfl rfl rfl ?_
      refine go_getf (pc' := 78) dX4_areBoxesApart_75 rfl gf_LandBase_Plane_15 kSA rfl ?_
      refine go_iload_n (i := 1) (pc' := 79) dX4_areBoxesApart_78 rfl rfl rfl ?_
      refine go_ialoadN (pc' := 80) dX4_areBoxesApart_79 rfl kyA (by decide) (by omega) ?_
      refine go_aload_n (i := 0) (pc' := 81) dX4_areBoxesApart_80 rfl rfl rfl ?_
      refine go_getf (pc' := 84) dX4_areBoxesApart_81 rfl gf_LandBase_Plane_15 kSA rfl ?_
      refine go_iload_n (i := 1) (pc' := 85) dX4_areBoxesApart_84 rfl rfl rfl ?_
      refine go_iconst (v := nI 1) (pc' := 86) dX4_areBoxesApart_85 rfl (by decide) ?_
      refine go_iaddN (pc' := 87) dX4_areBoxesApart_86 rfl ?_
      refine go_ialoadN (pc' := 88) dX4_areBoxesApart_87 rfl kyA (by decide) (by omega) ?_
      refine go_mmax (pc' := 91) dX4_areBoxesApart_88 rfl cf_X4_areBoxesApart_24 (Nat.le_of_ble_eq_true rfl) ?_
      refine go_aload_n (i := 2) (pc' := 92) dX4_areBoxesApart_91 rfl rfl rfl ?_
      refine go_getf (pc' := 95) dX4_areBoxesApart_92 rfl gf_LandBase_Plane_15 kSB rfl ?_
      refine go_iload_n (i := 3) (pc' := 96) dX4_areBoxesApart_95 rfl rfl rfl ?_
      refine go_ialoadN (pc' := 97) dX4_areBoxesApart_96 rfl kyB (by decide) (by omega) ?_
      refine go_aload_n (i := 2) (pc' := 98) dX4_areBoxesApart_97 rfl rfl rfl ?_
      refine go_getf (pc' := 101) dX4_areBoxesApart_98 rfl gf_LandBase_Plane_15 kSB rfl ?_
      refine go_iload_n (i := 3) (pc' := 102) dX4_areBoxesApart_101 rfl rfl rfl ?_
      refine go_iconst (v := nI 1) (pc' := 103) dX4_areBoxesApart_102 rfl (by decide) ?_
      refine go_iaddN (pc' := 104) dX4_areBoxesApart_103 rfl ?_
      refine go_ialoadN (pc' := 105) dX4_areBoxesApart_104 rfl kyB (by decide) (by omega) ?_
      refine go_mmin (pc' := 108) dX4_areBoxesApart_105 rfl cf_X4_areBoxesApart_18 (Nat.le_of_ble_eq_true rfl) ?_
      refine go_icmp_lt (pc' := 111) (tgt := 148) dX4_areBoxesApart_108 (by decide) rfl (fun b3 => ?_) (fun b3 => ?_)
      · refine go_iconst (v := nI 1) (pc' := 149) dX4_areBoxesApart_148 rfl (by decide) ?_
        refine go_goto (pc' := 0) (tgt := 153) dX4_areBoxesApart_149 (by decide) ?_
        rw [apartB, if_neg b1, if_neg b2, if_pos b3]
        exact Go.ret (v := some (.int _)) dX4_areBoxesApart_153 ⟨_, rfl⟩ ⟨(bool_ok (by decide)), rfl, rfl⟩
      · refine go_aload_n (i := 2) (pc' := 112) dX4_areBoxesApart_111 rfl rfl rfl ?_
        refine go_getf (pc' := 115) dX4_areBoxesApart_112 rfl gf_LandBase_Plane_15 kSB rfl ?_
        refine go_iload_n (i := 3) (pc' := 116) dX4_areBoxesApart_115 rfl rfl rfl ?_
        refine go_ialoadN (pc' := 117) dX4_areBoxesApart_116 rfl kyB (by decide) (by omega) ?_
        refine go_aload_n (i := 2) (pc' := 118) dX4_areBoxesApart_117 rfl rfl rfl ?_
        refine go_getf (pc' := 121) dX4_areBoxesApart_118 rfl gf_LandBase_Plane_15 kSB rfl ?_
        refine go_iload_n (i := 3) (pc' := 122) dX4_areBoxesApart_121 rfl rfl rfl ?_
        refine go_iconst (v := nI 1) (pc' := 123) dX4_areBoxesApart_122 rfl (by decide) ?_
        refine go_iaddN (pc' := 124) dX4_areBoxesApart_123 rfl ?_
        refine go_ialoadN (pc' := 125) dX4_areBoxesApart_124 rfl kyB (by decide) (by omega) ?_
        refine go_mmax (pc' := 128) dX4_areBoxesApart_125 rfl cf_X4_areBoxesApart_24 (Nat.le_of_ble_eq_true rfl) ?_
        refine go_aload_n (i := 0) (pc' := 129) dX4_areBoxesApart_128 rfl rfl rfl ?_
        refine go_getf (pc' := 132) dX4_areBoxesApart_129 rfl gf_LandBase_Plane_15 kSA rfl ?_
        refine go_iload_n (i := 1) (pc' := 133) dX4_areBoxesApart_132 rfl rfl rfl ?_
        refine go_ialoadN (pc' := 134) dX4_areBoxesApart_133 rfl kyA (by decide) (by omega) ?_
        refine go_aload_n (i := 0) (pc' := 135) dX4_areBoxesApart_134 rfl rfl rfl ?_
        refine go_getf (pc' := 138) dX4_areBoxesApart_135 rfl gf_LandBase_Plane_15 kSA rfl ?_
        refine go_iload_n (i := 1) (pc' := 139) dX4_areBoxesApart_138 rfl rfl rfl ?_
        refine go_iconst (v := nI 1) (pc' := 140) dX4_areBoxesApart_139 rfl (by decide) ?_
        refine go_iaddN (pc' := 141) dX4_areBoxesApart_140 rfl ?_
        refine go_ialoadN (pc' := 142) dX4_areBoxesApart_141 rfl kyA (by decide) (by omega) ?_
        refine go_mmin (pc' := 145) dX4_areBoxesApart_142 rfl cf_X4_areBoxesApart_18 (Nat.le_of_ble_eq_true rfl) ?_
        refine go_icmp_ge (pc' := 148) (tgt := 152) dX4_areBoxesApart_145 (by decide) rfl (fun b4 => ?_) (fun b4 => ?_)
        · refine go_iconst (v := nI 0) (pc' := 153) dX4_areBoxesApart_152 rfl (by decide) ?_
          rw [apartB, if_neg b1, if_neg b2, if_neg b3, if_pos b4]
          exact Go.ret (v := some (.int _)) dX4_areBoxesApart_153 ⟨_, rfl⟩ ⟨(bool_ok (by decide)), rfl, rfl⟩
        · refine go_iconst (v := nI 1) (pc' := 149) dX4_areBoxesApart_148 rfl (by decide) ?_
          refine go_goto (pc' := 0) (tgt := 153) dX4_areBoxesApart_149 (by decide) ?_
          rw [apartB, if_neg b1, if_neg b2, if_neg b3, if_neg b4]
          exact Go.ret (v := some (.int _)) dX4_areBoxesApart_153 ⟨_, rfl⟩ ⟨(bool_ok (by decide)), rfl, rfl⟩
def onLine (xsA : Nat → Int32) (ysA : Nat → Int32) (i : Nat) (xsB : Nat → Int32) (ysB : Nat → Int32) (j : Nat) : Int32 := if (xsA i) = (xsA (i + 1)) then if (imax (imin (ysA i) (ysA (i + 1))) (imin (ysB j) (ysB (j + 1)))) ≤ (imin (imax (ysA i) (ysA (i + 1))) (imax (ysB j) (ysB (j + 1)))) then if (imax (imin (ysA i) (ysA (i + 1))) (imin (ysB j) (ysB (j + 1)))) = (imin (imax (ysA i) (ysA (i + 1))) (imax (ysB j) (ysB (j + 1)))) then nI 1 else nI 2 else nI 0 else if (imax (imin (xsA i) (xsA (i + 1))) (imin (xsB j) (xsB (j + 1)))) ≤ (imin (imax (xsA i) (xsA (i + 1))) (imax (xsB j) (xsB (j + 1)))) then if (imax (imin (xsA i) (xsA (i + 1))) (imin (xsB j) (xsB (j + 1)))) = (imin (imax (xsA i) (xsA (i + 1))) (imax (xsB j) (xsB (j + 1)))) then nI 1 else nI 2 else nI 0
set_option maxRecDepth 100000 in
set_option maxHeartbeats 4000000 in
theorem c_countOnLine {G : xG} {h : xH} {a : Nat} {kdA szA rcA tlA mnxA mnyA mxxA mxyA hoA : Int32} {xsA ysA rsA ilA : Nat → Int32} {i : Nat} {b : Nat} {kdB szB rcB tlB mnxB mnyB mxxB mxyB hoB : Int32} {xsB ysB rsB ilB : Nat → Int32} {j : Nat} (hSA : CSh h a kdA szA rcA tlA mnxA mnyA mxxA mxyA hoA xsA ysA rsA ilA) (hSB : CSh h b kdB szB rcB tlB mnxB mnyB mxxB mxyB hoB xsB ysB rsB ilB) (hi : i + 1 < 40) (hj : j + 1 < 40) : Ca G mX4_countOnLine [.ref a, .int (nI i), .ref b, .int (nI j)] h (fun v h' => v = some (.int (onLine xsA ysA i xsB ysB j)) ∧ h' = h) := by
  obtain ⟨kSA, kxA, kyA, krA, klA⟩ := id hSA
  obtain ⟨kSB, kxB, kyB, krB, klB⟩ := id hSB
  refine Ca.of rfl (Nat.le_of_ble_eq_true rfl) ?_
  refine go_aload_n (i := 0) (pc' := 1) dX4_countOnLine_0 rfl rfl rfl ?_
  refine go_getf (pc' := 4) dX4_countOnLine_1 rfl gf_LandBase_Plane_9 kSA rfl ?_
  refine go_iload_n (i := 1) (pc' := 5) dX4_countOnLine_4 rfl rfl rfl ?_
  refine go_ialoadN (pc' := 6) dX4_countOnLine_5 rfl kxA (by decide) (by omega) ?_
  refine go_aload_n (i := 0) (pc' := 7) dX4_countOnLine_6 rfl rfl rfl ?_
  refine go_getf (pc' := 10) dX4_countOnLine_7 rfl gf_LandBase_Plane_9 kSA rfl ?_
  refine go_iload_n (i := 1) (pc' := 11) dX4_countOnLine_10 rfl rfl rfl ?_
  refine go_iconst (v := nI 1) (pc' := 12) dX4_countOnLine_11 rfl (by decide) ?_
  refine go_iaddN (pc' := 13) dX4_countOnLine_12 rfl ?_
  refine go_ialoadN (pc' := 14) dX4_countOnLine_13 rfl kxA (by decide) (by omega) ?_
  refine go_icmp_eq (pc' := 17) (tgt := 21) dX4_countOnLine_14 (by decide) rfl (fun b1 => ?_) (fun b1 => ?_)
  · refine go_iconst (v := nI 0) (pc' := 22) dX4_countOnLine_21 rfl (by decide) ?_
    refine go_istore (pc' := 24) dX4_countOnLine_22 rfl (by decide) rfl ?_
    refine go_iload (pc' := 26) dX4_countOnLine_24 rfl rfl ?_
    refine go_if_eq (pc' := 29) (tgt := 36) dX4_countOnLine_26 (by decide) rfl (fun b2 => ?_) (fun b2 => ?_)
    · refine go_aload_n (i := 0) (pc' := 37) dX4_countOnLine_36 rfl rfl rfl ?_
      refine go_getf (pc' := 40) dX4_countOnLine_37 rfl gf_LandBase_Plane_15 kSA rfl ?_
      refine go_astore (pc' := 42) dX4_countOnLine_40 rfl (by decide) rfl ?_
      refine go_iload (pc' := 44) dX4_countOnLine_42 rfl rfl ?_
      refine go_if_eq (pc' := 47) (tgt := 54) dX4_countOnLine_44 (by decide) rfl (fun b3 => ?_) (fun b3 => ?_)
      · refine go_aload_n (i := 2) (pc' := 55) dX4_countOnLine_54 rfl rfl rfl ?_
        refine go_getf (pc' := 58) dX4_countOnLine_55 rfl gf_LandBase_Plane_15 kSB rfl ?_
        refine go_astore (pc' := 60) dX4_countOnLine_58 rfl (by decide) rfl ?_
        refine go_aload (pc' := 62) dX4_countOnLine_60 rfl rfl ?_
        refine go_iload_n (i := 1) (pc' := 63) dX4_countOnLine_62 rfl rfl rfl ?_
        refine go_ialoadN (pc' := 64) dX4_countOnLine_63 rfl kyA (by decide) (by omega) ?_
        refine go_aload (pc' := 66) dX4_countOnLine_64 rfl rfl ?_
        refine go_iload_n (i := 1) (pc' := 67) dX4_countOnLine_66 rfl rfl rfl ?_
        refine go_iconst (v := nI 1) (pc' := 68) dX4_countOnLine_67 rfl (by decide) ?_
        refine go_iaddN (pc' := 69) dX4_countOnLine_68 rfl ?_
        refine go_ialoadN (pc' := 70) dX4_countOnLine_69 rfl kyA (by decide) (by omega) ?_
        refine go_mmin (pc' := 73) dX4_countOnLine_70 rfl cf_X4_countOnLine_18 (Nat.le_of_ble_eq_true rfl) ?_
        refine go_aload (pc' := 75) dX4_countOnLine_73 rfl rfl ?_
        refine go_iload_n (i := 3) (pc' := 76) dX4_countOnLine_75 rfl rfl rfl ?_
        refine go_ialoadN (pc' := 77) dX4_countOnLine_76 rfl kyB (by decide) (by omega) ?_
        refine go_aload (pc' := 79) dX4_countOnLine_77 rfl rfl ?_
        refine go_iload_n (i := 3) (pc' := 80) dX4_countOnLine_79 rfl rfl rfl ?_
        refine go_iconst (v := nI 1) (pc' := 81) dX4_countOnLine_80 rfl (by decide) ?_
        refine go_iaddN (pc' := 82) dX4_countOnLine_81 rfl ?_
        refine go_ialoadN (pc' := 83) dX4_countOnLine_82 rfl kyB (by decide) (by omega) ?_
        refine go_mmin (pc' := 86) dX4_countOnLine_83 rfl cf_X4_countOnLine_18 (Nat.le_of_ble_eq_true rfl) ?_
        refine go_mmax (pc' := 89) dX4_countOnLine_86 rfl cf_X4_countOnLine_24 (Nat.le_of_ble_eq_true rfl) ?_
        refine go_istore (pc' := 91) dX4_countOnLine_89 rfl (by decide) rfl ?_
        refine go_aload (pc' := 93) dX4_countOnLine_91 rfl rfl ?_
        refine go_iload_n (i := 1) (pc' := 94) dX4_countOnLine_93 rfl rfl rfl ?_
        refine go_ialoadN (pc' := 95) dX4_countOnLine_94 rfl kyA (by decide) (by omega) ?_
        refine go_aload (pc' := 97) dX4_countOnLine_95 rfl rfl ?_
        refine go_iload_n (i := 1) (pc' := 98) dX4_countOnLine_97 rfl rfl rfl ?_
        refine go_iconst (v := nI 1) (pc' := 99) dX4_countOnLine_98 rfl (by decide) ?_
        refine go_iaddN (pc' := 100) dX4_countOnLine_99 rfl ?_
        refine go_ialoadN (pc' := 101) dX4_countOnLine_100 rfl kyA (by decide) (by omega) ?_
        refine go_mmax (pc' := 104) dX4_countOnLine_101 rfl cf_X4_countOnLine_24 (Nat.le_of_ble_eq_true rfl) ?_
        refine go_aload (pc' := 106) dX4_countOnLine_104 rfl rfl ?_
        refine go_iload_n (i := 3) (pc' := 107) dX4_countOnLine_106 rfl rfl rfl ?_
        refine go_ialoadN (pc' := 108) dX4_countOnLine_107 rfl kyB (by decide) (by omega) ?_
        refine go_aload (pc' := 110) dX4_countOnLine_108 rfl rfl ?_
        refine go_iload_n (i := 3) (pc' := 111) dX4_countOnLine_110 rfl rfl rfl ?_
        refine go_iconst (v := nI 1) (pc' := 112) dX4_countOnLine_111 rfl (by decide) ?_
        refine go_iaddN (pc' := 113) dX4_countOnLine_112 rfl ?_
        refine go_ialoadN (pc' := 114) dX4_countOnLine_113 rfl kyB (by decide) (by omega) ?_
        refine go_mmax (pc' := 117) dX4_countOnLine_114 rfl cf_X4_countOnLine_24 (Nat.le_of_ble_eq_true rfl) ?_
        refine go_mmin (pc' := 120) dX4_countOnLine_117 rfl cf_X4_countOnLine_18 (Nat.le_of_ble_eq_true rfl) ?_
        refine go_istore (pc' := 122) dX4_countOnLine_120 rfl (by decide) rfl ?_
        refine go_iload (pc' := 124) dX4_countOnLine_122 rfl rfl ?_
        refine go_iload (pc' := 126) dX4_countOnLine_124 rfl rfl ?_
        refine go_icmp_le (pc' := 129) (tgt := 131) dX4_countOnLine_126 (by decide) rfl (fun b4 => ?_) (fun b4 => ?_)
        · refine go_iload (pc' := 133) dX4_countOnLine_131 rfl rfl ?_
          refine go_iload (pc' := 135) dX4_countOnLine_133 rfl rfl ?_
          refine go_icmp_ne (pc' := 138) (tgt := 142) dX4_countOnLine_135 (by decide) rfl (fun b5 => ?_) (fun b5 => ?_)
          · refine go_iconst (v := nI 2) (pc' := 143) dX4_countOnLine_142 rfl (by decide) ?_
            rw [onLine, if_pos b1, if_pos b4, if_neg b5]
            exact Go.ret (v := some (.int _)) dX4_countOnLine_143 ⟨_, rfl⟩ ⟨rfl, rfl, rfl⟩
          · refine go_iconst (v := nI 1) (pc' := 139) dX4_countOnLine_138 rfl (by decide) ?_
            refine go_goto (pc' := 0) (tgt := 143) dX4_countOnLine_139 (by decide) ?_
            rw [onLine, if_pos b1, if_pos b4, if_pos b5]
            exact Go.ret (v := some (.int _)) dX4_countOnLine_143 ⟨_, rfl⟩ ⟨rfl, rfl, rfl⟩
        · refine go_iconst (v := nI 0) (pc' := 130) dX4_countOnLine_129 rfl (by decide) ?_
          rw [onLine, if_pos b1, if_neg b4]
          exact Go.ret (v := some (.int _)) dX4_countOnLine_130 ⟨_, rfl⟩ ⟨rfl, rfl, rfl⟩
      · exact absurd (by decide) b3
    · exact absurd (by decide) b2
  · refine go_iconst (v := nI 1) (pc' := 18) dX4_countOnLine_17 rfl (by decide) ?_
    refine go_goto (pc' := 0) (tgt := 22) dX4_countOnLine_18 (by decide) ?_
    refine go_istore (pc' := 24) dX4_countOnLine_22 rfl (by decide) rfl ?_
    refine go_iload (pc' := 26) dX4_countOnLine_24 rfl rfl ?_
    refine go_if_eq (pc' := 29) (tgt := 36) dX4_countOnLine_26 (by decide) rfl (fun b6 => ?_) (fun b6 => ?_)
    · exact absurd b6 (by decide)
    · refine go_aload_n (i := 0) (pc' := 30) dX4_countOnLine_29 rfl rfl rfl ?_
      refine go_getf (pc' := 33) dX4_countOnLine_30 rfl gf_LandBase_Plane_9 kSA rfl ?_
      refine go_goto (pc' := 0) (tgt := 40) dX4_countOnLine_33 (by decide) ?_
      refine go_astore (pc' := 42) dX4_countOnLine_40 rfl (by decide) rfl ?_
      refine go_iload (pc' := 44) dX4_countOnLine_42 rfl rfl ?_
      refine go_if_eq (pc' := 47) (tgt := 54) dX4_countOnLine_44 (by decide) rfl (fun b7 => ?_) (fun b7 => ?_)
      · exact absurd b7 (by decide)
      · refine go_aload_n (i := 2) (pc' := 48) dX4_countOnLine_47 rfl rfl rfl ?_
        refine go_getf (pc' := 51) dX4_countOnLine_48 rfl gf_LandBase_Plane_9 kSB rfl ?_
        refine go_goto (pc' := 0) (tgt := 58) dX4_countOnLine_51 (by decide) ?_
        refine go_astore (pc' := 60) dX4_countOnLine_58 rfl (by decide) rfl ?_
        refine go_aload (pc' := 62) dX4_countOnLine_60 rfl rfl ?_
        refine go_iload_n (i := 1) (pc' := 63) dX4_countOnLine_62 rfl rfl rfl ?_
        refine go_ialoadN (pc' := 64) dX4_countOnLine_63 rfl kxA (by decide) (by omega) ?_
        refine go_aload (pc' := 66) dX4_countOnLine_64 rfl rfl ?_
        refine go_iload_n (i := 1) (pc' := 67) dX4_countOnLine_66 rfl rfl rfl ?_
        refine go_iconst (v := nI 1) (pc' := 68) dX4_countOnLine_67 rfl (by decide) ?_
        refine go_iaddN (pc' := 69) dX4_countOnLine_68 rfl ?_
        refine go_ialoadN (pc' := 70) dX4_countOnLine_69 rfl kxA (by decide) (by omega) ?_
        refine go_mmin (pc' := 73) dX4_countOnLine_70 rfl cf_X4_countOnLine_18 (Nat.le_of_ble_eq_true rfl) ?_
        refine go_aload (pc' := 75) dX4_countOnLine_73 rfl rfl ?_
        refine go_iload_n (i := 3) (pc' := 76) dX4_countOnLine_75 rfl rfl rfl ?_
        refine go_ialoadN (pc' := 77) dX4_countOnLine_76 rfl kxB (by decide) (by omega) ?_
        refine go_aload (pc' := 79) dX4_countOnLine_77 rfl rfl ?_
        refine go_iload_n (i := 3) (pc' := 80) dX4_countOnLine_79 rfl rfl rfl ?_
        refine go_iconst (v := nI 1) (pc' := 81) dX4_countOnLine_80 rfl (by decide) ?_
        refine go_iaddN (pc' := 82) dX4_countOnLine_81 rfl ?_
        refine go_ialoadN (pc' := 83) dX4_countOnLine_82 rfl kxB (by decide) (by omega) ?_
        refine go_mmin (pc' := 86) dX4_countOnLine_83 rfl cf_X4_countOnLine_18 (Nat.le_of_ble_eq_true rfl) ?_
        refine go_mmax (pc' := 89) dX4_countOnLine_86 rfl cf_X4_countOnLine_24 (Nat.le_of_ble_eq_true rfl) ?_
        refine go_istore (pc' := 91) dX4_countOnLine_89 rfl (by decide) rfl ?_
        refine go_aload (pc' := 93) dX4_countOnLine_91 rfl rfl ?_
        refine go_iload_n (i := 1) (pc' := 94) dX4_countOnLine_93 rfl rfl rfl ?_
        refine go_ialoadN (pc' := 95) dX4_countOnLine_94 rfl kxA (by decide) (by omega) ?_
        refine go_aload (pc' := 97) dX4_countOnLine_95 rfl rfl ?_
        refine go_iload_n (i := 1) (pc' := 98) dX4_countOnLine_97 rfl rfl rfl ?_
        refine go_iconst (v := nI 1) (pc' := 99) dX4_countOnLine_98 rfl (by decide) ?_
        refine go_iaddN (pc' := 100) dX4_countOnLine_99 rfl ?_
        refine go_ialoadN (pc' := 101) dX4_countOnLine_100 rfl kxA (by decide) (by omega) ?_
        refine go_mmax (pc' := 104) dX4_countOnLine_101 rfl cf_X4_countOnLine_24 (Nat.le_of_ble_eq_true rfl) ?_
        refine go_aload (pc' := 106) dX4_countOnLine_104 rfl rfl ?_
        refine go_iload_n (i := 3) (pc' := 107) dX4_countOnLine_106 rfl rfl rfl ?_
        refine go_ialoadN (pc' := 108) dX4_countOnLine_107 rfl kxB (by decide) (by omega) ?_
        refine go_aload (pc' := 110) dX4_countOnLine_108 rfl rfl ?_
        refine go_iload_n (i := 3) (pc' := 111) dX4_countOnLine_110 rfl rfl rfl ?_
        refine go_iconst (v := nI 1) (pc' := 112) dX4_countOnLine_111 rfl (by decide) ?_
        refine go_iaddN (pc' := 113) dX4_countOnLine_112 rfl ?_
        refine go_ialoadN (pc' := 114) dX4_countOnLine_113 rfl kxB (by decide) (by omega) ?_
        refine go_mmax (pc' := 117) dX4_countOnLine_114 rfl cf_X4_countOnLine_24 (Nat.le_of_ble_eq_true rfl) ?_
        refine go_mmin (pc' := 120) dX4_countOnLine_117 rfl cf_X4_countOnLine_18 (Nat.le_of_ble_eq_true rfl) ?_
        refine go_istore (pc' := 122) dX4_countOnLine_120 rfl (by decide) rfl ?_
        refine go_iload (pc' := 124) dX4_countOnLine_122 rfl rfl ?_
        refine go_iload (pc' := 126) dX4_countOnLine_124 rfl rfl ?_
        refine go_icmp_le (pc' := 129) (tgt := 131) dX4_countOnLine_126 (by decide) rfl (fun b8 => ?_) (fun b8 => ?_)
        · refine go_iload (pc' := 133) dX4_countOnLine_131 rfl rfl ?_
          refine go_iload (pc' := 135) dX4_countOnLine_133 rfl rfl ?_
          refine go_icmp_ne (pc' := 138) (tgt := 142) dX4_countOnLine_135 (by decide) rfl (fun b9 => ?_) (fun b9 => ?_)
          · refine go_iconst (v := nI 2) (pc' := 143) dX4_countOnLine_142 rfl (by decide) ?_
            rw [onLine, if_neg b1, if_pos b8, if_neg b9]
            exact Go.ret (v := some (.int _)) dX4_countOnLine_143 ⟨_, rfl⟩ ⟨rfl, rfl, rfl⟩
          · refine go_iconst (v := nI 1) (pc' := 139) dX4_countOnLine_138 rfl (by decide) ?_
            refine go_goto (pc' := 0) (tgt := 143) dX4_countOnLine_139 (by decide) ?_
            rw [onLine, if_neg b1, if_pos b8, if_pos b9]
            exact Go.ret (v := some (.int _)) dX4_countOnLine_143 ⟨_, rfl⟩ ⟨rfl, rfl, rfl⟩
        · refine go_iconst (v := nI 0) (pc' := 130) dX4_countOnLine_129 rfl (by decide) ?_
          rw [onLine, if_neg b1, if_neg b8]
          exact Go.ret (v := some (.int _)) dX4_countOnLine_130 ⟨_, rfl⟩ ⟨rfl, rfl, rfl⟩
def common (xsA : Nat → Int32) (ysA : Nat → Int32) (i : Nat) (xsB : Nat → Int32) (ysB : Nat → Int32) (j : Nat) : Int32 := if (apartB xsA ysA i xsB ysB j) = 0 then if (lg_cmp (cSide xsA ysA i ((xsB j).toInt64) ((ysB j).toInt64)) ((0 : Int64))) = 0 then if (lg_cmp (cSide xsA ysA i ((xsB (j + 1)).toInt64) ((ysB (j + 1)).toInt64)) ((0 : Int64))) = 0 then onLine xsA ysA i xsB ysB j else if (lg_cmp (cSide xsA ysA i ((xsB j).toInt64) ((ysB j).toInt64)) ((0 : Int64))) ≤ 0 then if 0 ≤ (lg_cmp (cSide xsA ysA i ((xsB j).toInt64) ((ysB j).toInt64)) ((0 : Int64))) then if (lg_cmp (cSide xsB ysB j ((xsA i).toInt64) ((ysA i).toInt64)) ((0 : Int64))) ≤ 0 then if 0 ≤ (lg_cmp (cSide xsB ysB j ((xsA i).toInt64) ((ysA i).toInt64)) ((0 : Int64))) then nI 1 else if 0 ≤ (lg_cmp (cSide xsB ysB j ((xsA (i + 1)).toInt64) ((ysA (i + 1)).toInt64)) ((0 : Int64))) then nI 1 else nI 0 else if 0 < (lg_cmp (cSide xsB ysB j ((xsA (i + 1)).toInt64) ((ysA (i + 1)).toInt64)) ((0 : Int64))) then nI 0 else if 0 ≤ (lg_cmp (cSide xsB ysB j ((xsA i).toInt64) ((ysA i).toInt64)) ((0 : Int64))) then nI 1 else if 0 ≤ (lg_cmp (cSide xsB ysB j ((xsA (i + 1)).toInt64) ((ysA (i + 1)).toInt64)) ((0 : Int64))) then nI 1 else nI 0 else if 0 ≤ (lg_cmp (cSide xsA ysA i ((xsB (j + 1)).toInt64) ((ysB (j + 1)).toInt64)) ((0 : Int64))) then if (lg_cmp (cSide xsB ysB j ((xsA i).toInt64) ((ysA i).toInt64)) ((0 : Int64))) ≤ 0 then if 0 ≤ (lg_cmp (cSide xsB ysB j ((xsA i).toInt64) ((ysA i).toInt64)) ((0 : Int64))) then nI 1 else if 0 ≤ (lg_cmp (cSide xsB ysB j ((xsA (i + 1)).toInt64) ((ysA (i + 1)).toInt64)) ((0 : Int64))) then nI 1 else nI 0 else if 0 < (lg_cmp (cSide xsB ysB j ((xsA (i + 1)).toInt64) ((ysA (i + 1)).toInt64)) ((0 : Int64))) then nI 0 else if 0 ≤ (lg_cmp (cSide xsB ysB j ((xsA i).toInt64) ((ysA i).toInt64)) ((0 : Int64))) then nI 1 else if 0 ≤ (lg_cmp (cSide xsB ysB j ((xsA (i + 1)).toInt64) ((ysA (i + 1)).toInt64)) ((0 : Int64))) then nI 1 else nI 0 else nI 0 else if 0 < (lg_cmp (cSide xsA ysA i ((xsB (j + 1)).toInt64) ((ysB (j + 1)).toInt64)) ((0 : Int64))) then nI 0 else if 0 ≤ (lg_cmp (cSide xsA ysA i ((xsB j).toInt64) ((ysB j).toInt64)) ((0 : Int64))) then if (lg_cmp (cSide xsB ysB j ((xsA i).toInt64) ((ysA i).toInt64)) ((0 : Int64))) ≤ 0 then if 0 ≤ (lg_cmp (cSide xsB ysB j ((xsA i).toInt64) ((ysA i).toInt64)) ((0 : Int64))) then nI 1 else if 0 ≤ (lg_cmp (cSide xsB ysB j ((xsA (i + 1)).toInt64) ((ysA (i + 1)).toInt64)) ((0 : Int64))) then nI 1 else nI 0 else if 0 < (lg_cmp (cSide xsB ysB j ((xsA (i + 1)).toInt64) ((ysA (i + 1)).toInt64)) ((0 : Int64))) then nI 0 else if 0 ≤ (lg_cmp (cSide xsB ysB j ((xsA i).toInt64) ((ysA i).toInt64)) ((0 : Int64))) then nI 1 else if 0 ≤ (lg_cmp (cSide xsB ysB j ((xsA (i + 1)).toInt64) ((ysA (i + 1)).toInt64)) ((0 : Int64))) then nI 1 else nI 0 else if 0 ≤ (lg_cmp (cSide xsA ysA i ((xsB (j + 1)).toInt64) ((ysB (j + 1)).toInt64)) ((0 : Int64))) then if (lg_cmp (cSide xsB ysB j ((xsA i).toInt64) ((ysA i).toInt64)) ((0 : Int64))) ≤ 0 then if 0 ≤ (lg_cmp (cSide xsB ysB j ((xsA i).toInt64) ((ysA i).toInt64)) ((0 : Int64))) then nI 1 else if 0 ≤ (lg_cmp (cSide xsB ysB j ((xsA (i + 1)).toInt64) ((ysA (i + 1)).toInt64)) ((0 : Int64))) then nI 1 else nI 0 else if 0 < (lg_cmp (cSide xsB ysB j ((xsA (i + 1)).toInt64) ((ysA (i + 1)).toInt64)) ((0 : Int64))) then nI 0 else if 0 ≤ (lg_cmp (cSide xsB ysB j ((xsA i).toInt64) ((ysA i).toInt64)) ((0 : Int64))) then nI 1 else if 0 ≤ (lg_cmp (cSide xsB ysB j ((xsA (i + 1)).toInt64) ((ysA (i + 1)).toInt64)) ((0 : Int64))) then nI 1 else nI 0 else nI 0 else if (lg_cmp (cSide xsA ysA i ((xsB j).toInt64) ((ysB j).toInt64)) ((0 : Int64))) ≤ 0 then if 0 ≤ (lg_cmp (cSide xsA ysA i ((xsB j).toInt64) ((ysB j).toInt64)) ((0 : Int64))) then if (lg_cmp (cSide xsB ysB j ((xsA i).toInt64) ((ysA i).toInt64)) ((0 : Int64))) ≤ 0 then if 0 ≤ (lg_cmp (cSide xsB ysB j ((xsA i).toInt64) ((ysA i).toInt64)) ((0 : Int64))) then nI 1 else if 0 ≤ (lg_cmp (cSide xsB ysB j ((xsA (i + 1)).toInt64) ((ysA (i + 1)).toInt64)) ((0 : Int64))) then nI 1 else nI 0 else if 0 < (lg_cmp (cSide xsB ysB j ((xsA (i + 1)).toInt64) ((ysA (i + 1)).toInt64)) ((0 : Int64))) then nI 0 else if 0 ≤ (lg_cmp (cSide xsB ysB j ((xsA i).toInt64) ((ysA i).toInt64)) ((0 : Int64))) then nI 1 else if 0 ≤ (lg_cmp (cSide xsB ysB j ((xsA (i + 1)).toInt64) ((ysA (i + 1)).toInt64)) ((0 : Int64))) then nI 1 else nI 0 else if 0 ≤ (lg_cmp (cSide xsA ysA i ((xsB (j + 1)).toInt64) ((ysB (j + 1)).toInt64)) ((0 : Int64))) then if (lg_cmp (cSide xsB ysB j ((xsA i).toInt64) ((ysA i).toInt64)) ((0 : Int64))) ≤ 0 then if 0 ≤ (lg_cmp (cSide xsB ysB j ((xsA i).toInt64) ((ysA i).toInt64)) ((0 : Int64))) then nI 1 else if 0 ≤ (lg_cmp (cSide xsB ysB j ((xsA (i + 1)).toInt64) ((ysA (i + 1)).toInt64)) ((0 : Int64))) then nI 1 else nI 0 else if 0 < (lg_cmp (cSide xsB ysB j ((xsA (i + 1)).toInt64) ((ysA (i + 1)).toInt64)) ((0 : Int64))) then nI 0 else if 0 ≤ (lg_cmp (cSide xsB ysB j ((xsA i).toInt64) ((ysA i).toInt64)) ((0 : Int64))) then nI 1 else if 0 ≤ (lg_cmp (cSide xsB ysB j ((xsA (i + 1)).toInt64) ((ysA (i + 1)).toInt64)) ((0 : Int64))) then nI 1 else nI 0 else nI 0 else if 0 < (lg_cmp (cSide xsA ysA i ((xsB (j + 1)).toInt64) ((ysB (j + 1)).toInt64)) ((0 : Int64))) then nI 0 else if 0 ≤ (lg_cmp (cSide xsA ysA i ((xsB j).toInt64) ((ysB j).toInt64)) ((0 : Int64))) then if (lg_cmp (cSide xsB ysB j ((xsA i).toInt64) ((ysA i).toInt64)) ((0 : Int64))) ≤ 0 then if 0 ≤ (lg_cmp (cSide xsB ysB j ((xsA i).toInt64) ((ysA i).toInt64)) ((0 : Int64))) then nI 1 else if 0 ≤ (lg_cmp (cSide xsB ysB j ((xsA (i + 1)).toInt64) ((ysA (i + 1)).toInt64)) ((0 : Int64))) then nI 1 else nI 0 else if 0 < (lg_cmp (cSide xsB ysB j ((xsA (i + 1)).toInt64) ((ysA (i + 1)).toInt64)) ((0 : Int64))) then nI 0 else if 0 ≤ (lg_cmp (cSide xsB ysB j ((xsA i).toInt64) ((ysA i).toInt64)) ((0 : Int64))) then nI 1 else if 0 ≤ (lg_cmp (cSide xsB ysB j ((xsA (i + 1)).toInt64) ((ysA (i + 1)).toInt64)) ((0 : Int64))) then nI 1 else nI 0 else if 0 ≤ (lg_cmp (cSide xsA ysA i ((xsB (j + 1)).toInt64) ((ysB (j + 1)).toInt64)) ((0 : Int64))) then if (lg_cmp (cSide xsB ysB j ((xsA i).toInt64) ((ysA i).toInt64)) ((0 : Int64))) ≤ 0 then if 0 ≤ (lg_cmp (cSide xsB ysB j ((xsA i).toInt64) ((ysA i).toInt64)) ((0 : Int64))) then nI 1 else if 0 ≤ (lg_cmp (cSide xsB ysB j ((xsA (i + 1)).toInt64) ((ysA (i + 1)).toInt64)) ((0 : Int64))) then nI 1 else nI 0 else if 0 < (lg_cmp (cSide xsB ysB j ((xsA (i + 1)).toInt64) ((ysA (i + 1)).toInt64)) ((0 : Int64))) then nI 0 else if 0 ≤ (lg_cmp (cSide xsB ysB j ((xsA i).toInt64) ((ysA i).toInt64)) ((0 : Int64))) then nI 1 else if 0 ≤ (lg_cmp (cSide xsB ysB j ((xsA (i + 1)).toInt64) ((ysA (i + 1)).toInt64)) ((0 : Int64))) then nI 1 else nI 0 else nI 0 else nI 0
set_option maxRecDepth 100000 in
set_option maxHeartbeats 4000000 in
theorem c_countCommon {G : xG} {h : xH} {a : Nat} {kdA szA rcA tlA mnxA mnyA mxxA mxyA hoA : Int32} {xsA ysA rsA ilA : Nat → Int32} {i : Nat} {b : Nat} {kdB szB rcB tlB mnxB mnyB mxxB mxyB hoB : Int32} {xsB ysB rsB ilB : Nat → Int32} {j : Nat} (hSA : CSh h a kdA szA rcA tlA mnxA mnyA mxxA mxyA hoA xsA ysA rsA ilA) (hSB : CSh h b kdB szB rcB tlB mnxB mnyB mxxB mxyB hoB xsB ysB rsB ilB) (hi : i + 1 < 40) (hj : j + 1 < 40) : Ca G mX4_countCommon [.ref a, .int (nI i), .ref b, .int (nI j)] h (fun v h' => v = some (.int (common xsA ysA i xsB ysB j)) ∧ h' = h) := by
  obtain ⟨kSA, kxA, kyA, krA, klA⟩ := id hSA
  obtain ⟨kSB, kxB, kyB, krB, klB⟩ := id hSB
  refine Ca.of rfl (Nat.le_of_ble_eq_true rfl) ?_
  refine go_aload_n (i := 0) (pc' := 1) dX4_countCommon_0 rfl rfl rfl ?_
  refine go_iload_n (i := 1) (pc' := 2) dX4_countCommon_1 rfl rfl rfl ?_
  refine go_aload_n (i := 2) (pc' := 3) dX4_countCommon_2 rfl rfl rfl ?_
  refine go_iload_n (i := 3) (pc' := 4) dX4_countCommon_3 rfl rfl rfl ?_
  refine go_invS (As := [_, _, _, _]) (pc' := 7) dX4_countCommon_4 rfl cf_X4_countCommon_74 rfl rfl (Nat.le_of_ble_eq_true rfl) (c_areBoxesApart hSA hSB (by omega) (by omega)) (fun vv1 hh1 qq1 => ?_)
  obtain ⟨rfl, rfl⟩ := qq1
  refine go_if_eq (pc' := 10) (tgt := 12) dX4_countCommon_7 (by decide) rfl (fun b2 => ?_) (fun b2 => ?_)
  · refine go_aload_n (i := 0) (pc' := 13) dX4_countCommon_12 rfl rfl rfl ?_
    refine go_iload_n (i := 1) (pc' := 14) dX4_countCommon_13 rfl rfl rfl ?_
    refine go_aload_n (i := 2) (pc' := 15) dX4_countCommon_14 rfl rfl rfl ?_
    refine go_getf (pc' := 18) dX4_countCommon_15 rfl gf_LandBase_Plane_9 kSB rfl ?_
    refine go_iload_n (i := 3) (pc' := 19) dX4_countCommon_18 rfl rfl rfl ?_
    refine go_ialoadN (pc' := 20) dX4_countCommon_19 rfl kxB (by decide) (by omega) ?_
    refine go_i2l (pc' := 21) dX4_countCommon_20 rfl rfl ?_
    refine go_aload_n (i := 2) (pc' := 22) dX4_countCommon_21 rfl rfl rfl ?_
    refine go_getf (pc' := 25) dX4_countCommon_22 rfl gf_LandBase_Plane_15 kSB rfl ?_
    refine go_iload_n (i := 3) (pc' := 26) dX4_countCommon_25 rfl rfl rfl ?_
    refine go_ialoadN (pc' := 27) dX4_countCommon_26 rfl kyB (by decide) (by omega) ?_
    refine go_i2l (pc' := 28) dX4_countCommon_27 rfl rfl ?_
    refine go_invS (As := [_, _, _, _]) (pc' := 31) dX4_countCommon_28 rfl cf_X4_countCommon_33 rfl rfl (Nat.le_of_ble_eq_true rfl) (c_sideOf hSA (by omega)) (fun vv3 hh3 qq3 => ?_)
    obtain ⟨rfl, rfl⟩ := qq3
    refine go_lstore (pc' := 33) dX4_countCommon_31 rfl (by decide) rfl ?_
    refine go_aload_n (i := 0) (pc' := 34) dX4_countCommon_33 rfl rfl rfl ?_
    refine go_iload_n (i := 1) (pc' := 35) dX4_countCommon_34 rfl rfl rfl ?_
    refine go_aload_n (i := 2) (pc' := 36) dX4_countCommon_35 rfl rfl rfl ?_
    refine go_getf (pc' := 39) dX4_countCommon_36 rfl gf_LandBase_Plane_9 kSB rfl ?_
    refine go_iload_n (i := 3) (pc' := 40) dX4_countCommon_39 rfl rfl rfl ?_
    refine go_iconst (v := nI 1) (pc' := 41) dX4_countCommon_40 rfl (by decide) ?_
    refine go_iaddN (pc' := 42) dX4_countCommon_41 rfl ?_
    refine go_ialoadN (pc' := 43) dX4_countCommon_42 rfl kxB (by decide) (by omega) ?_
    refine go_i2l (pc' := 44) dX4_countCommon_43 rfl rfl ?_
    refine go_aload_n (i := 2) (pc' := 45) dX4_countCommon_44 rfl rfl rfl ?_
    refine go_getf (pc' := 48) dX4_countCommon_45 rfl gf_LandBase_Plane_15 kSB rfl ?_
    refine go_iload_n (i := 3) (pc' := 49) dX4_countCommon_48 rfl rfl rfl ?_
    refine go_iconst (v := nI 1) (pc' := 50) dX4_countCommon_49 rfl (by decide) ?_
    refine go_iaddN (pc' := 51) dX4_countCommon_50 rfl ?_
    refine go_ialoadN (pc' := 52) dX4_countCommon_51 rfl kyB (by decide) (by omega) ?_
    refine go_i2l (pc' := 53) dX4_countCommon_52 rfl rfl ?_
    refine go_invS (As := [_, _, _, _]) (pc' := 56) dX4_countCommon_53 rfl cf_X4_countCommon_33 rfl rfl (Nat.le_of_ble_eq_true rfl) (c_sideOf hSA (by omega)) (fun vv4 hh4 qq4 => ?_)
    obtain ⟨rfl, rfl⟩ := qq4
    refine go_lstore (pc' := 58) dX4_countCommon_56 rfl (by decide) rfl ?_
    refine go_lload (pc' := 60) dX4_countCommon_58 rfl rfl ?_
    refine go_lconst (v := 0) (pc' := 61) dX4_countCommon_60 rfl (by decide) ?_
    refine go_lcmp (pc' := 62) dX4_countCommon_61 rfl ?_
    refine go_if_ne (pc' := 65) (tgt := 80) dX4_countCommon_62 (by decide) rfl (fun b5 => ?_) (fun b5 => ?_)
    · refine go_lload (pc' := 82) dX4_countCommon_80 rfl rfl ?_
      refine go_lconst (v := 0) (pc' := 83) dX4_countCommon_82 rfl (by decide) ?_
      refine go_lcmp (pc' := 84) dX4_countCommon_83 rfl ?_
      refine go_if_le (pc' := 87) (tgt := 94) dX4_countCommon_84 (by decide) rfl (fun b6 => ?_) (fun b6 => ?_)
      · refine go_lload (pc' := 96) dX4_countCommon_94 rfl rfl ?_
        refine go_lconst (v := 0) (pc' := 97) dX4_countCommon_96 rfl (by decide) ?_
        refine go_lcmp (pc' := 98) dX4_countCommon_97 rfl ?_
        refine go_if_ge (pc' := 101) (tgt := 110) dX4_countCommon_98 (by decide) rfl (fun b7 => ?_) (fun b7 => ?_)
        · refine go_aload_n (i := 2) (pc' := 111) dX4_countCommon_110 rfl rfl rfl ?_
          refine go_iload_n (i := 3) (pc' := 112) dX4_countCommon_111 rfl rfl rfl ?_
          refine go_aload_n (i := 0) (pc' := 113) dX4_countCommon_112 rfl rfl rfl ?_
          refine go_getf (pc' := 116) dX4_countCommon_113 rfl gf_LandBase_Plane_9 kSA rfl ?_
          refine go_iload_n (i := 1) (pc' := 117) dX4_countCommon_116 rfl rfl rfl ?_
          refine go_ialoadN (pc' := 118) dX4_countCommon_117 rfl kxA (by decide) (by omega) ?_
          refine go_i2l (pc' := 119) dX4_countCommon_118 rfl rfl ?_
          refine go_aload_n (i := 0) (pc' := 120) dX4_countCommon_119 rfl rfl rfl ?_
          refine go_getf (pc' := 123) dX4_countCommon_120 rfl gf_LandBase_Plane_15 kSA rfl ?_
          refine go_iload_n (i := 1) (pc' := 124) dX4_countCommon_123 rfl rfl rfl ?_
          refine go_ialoadN (pc' := 125) dX4_countCommon_124 rfl kyA (by decide) (by omega) ?_
          refine go_i2l (pc' := 126) dX4_countCommon_125 rfl rfl ?_
          refine go_invS (As := [_, _, _, _]) (pc' := 129) dX4_countCommon_126 rfl cf_X4_countCommon_33 rfl rfl (Nat.le_of_ble_eq_true rfl) (c_sideOf hSB (by omega)) (fun vv8 hh8 qq8 => ?_)
          obtain ⟨rfl, rfl⟩ := qq8
          refine go_lstore (pc' := 131) dX4_countCommon_129 rfl (by decide) rfl ?_
          refine go_aload_n (i := 2) (pc' := 132) dX4_countCommon_131 rfl rfl rfl ?_
          refine go_iload_n (i := 3) (pc' := 133) dX4_countCommon_132 rfl rfl rfl ?_
          refine go_aload_n (i := 0) (pc' := 134) dX4_countCommon_133 rfl rfl rfl ?_
          refine go_getf (pc' := 137) dX4_countCommon_134 rfl gf_LandBase_Plane_9 kSA rfl ?_
          refine go_iload_n (i := 1) (pc' := 138) dX4_countCommon_137 rfl rfl rfl ?_
          refine go_iconst (v := nI 1) (pc' := 139) dX4_countCommon_138 rfl (by decide) ?_
          refine go_iaddN (pc' := 140) dX4_countCommon_139 rfl ?_
          refine go_ialoadN (pc' := 141) dX4_countCommon_140 rfl kxA (by decide) (by omega) ?_
          refine go_i2l (pc' := 142) dX4_countCommon_141 rfl rfl ?_
          refine go_aload_n (i := 0) (pc' := 143) dX4_countCommon_142 rfl rfl rfl ?_
          refine go_getf (pc' := 146) dX4_countCommon_143 rfl gf_LandBase_Plane_15 kSA rfl ?_
          refine go_iload_n (i := 1) (pc' := 147) dX4_countCommon_146 rfl rfl rfl ?_
          refine go_iconst (v := nI 1) (pc' := 148) dX4_countCommon_147 rfl (by decide) ?_
          refine go_iaddN (pc' := 149) dX4_countCommon_148 rfl ?_
          refine go_ialoadN (pc' := 150) dX4_countCommon_149 rfl kyA (by decide) (by omega) ?_
          refine go_i2l (pc' := 151) dX4_countCommon_150 rfl rfl ?_
          refine go_invS (As := [_, _, _, _]) (pc' := 154) dX4_countCommon_151 rfl cf_X4_countCommon_33 rfl rfl (Nat.le_of_ble_eq_true rfl) (c_sideOf hSB (by omega)) (fun vv9 hh9 qq9 => ?_)
          obtain ⟨rfl, rfl⟩ := qq9
          refine go_lstore (pc' := 156) dX4_countCommon_154 rfl (by decide) rfl ?_
          refine go_lload (pc' := 158) dX4_countCommon_156 rfl rfl ?_
          refine go_lconst (v := 0) (pc' := 159) dX4_countCommon_158 rfl (by decide) ?_
          refine go_lcmp (pc' := 160) dX4_countCommon_159 rfl ?_
          refine go_if_le (pc' := 163) (tgt := 170) dX4_countCommon_160 (by decide) rfl (fun b10 => ?_) (fun b10 => ?_)
          · refine go_lload (pc' := 172) dX4_countCommon_170 rfl rfl ?_
            refine go_lconst (v := 0) (pc' := 173) dX4_countCommon_172 rfl (by decide) ?_
            refine go_lcmp (pc' := 174) dX4_countCommon_173 rfl ?_
            refine go_if_ge (pc' := 177) (tgt := 188) dX4_countCommon_174 (by decide) rfl (fun b11 => ?_) (fun b11 => ?_)
            · refine go_iconst (v := nI 1) (pc' := 189) dX4_countCommon_188 rfl (by decide) ?_
              rw [common, if_pos b2, if_neg b5, if_pos b6, if_pos b7, if_pos b10, if_pos b11]
              exact Go.ret (v := some (.int _)) dX4_countCommon_189 ⟨_, rfl⟩ ⟨rfl, rfl, rfl⟩
            · refine go_lload (pc' := 179) dX4_countCommon_177 rfl rfl ?_
              refine go_lconst (v := 0) (pc' := 180) dX4_countCommon_179 rfl (by decide) ?_
              refine go_lcmp (pc' := 181) dX4_countCommon_180 rfl ?_
              refine go_if_ge (pc' := 184) (tgt := 188) dX4_countCommon_181 (by decide) rfl (fun b12 => ?_) (fun b12 => ?_)
              · refine go_iconst (v := nI 1) (pc' := 189) dX4_countCommon_188 rfl (by decide) ?_
                rw [common, if_pos b2, if_neg b5, if_pos b6, if_pos b7, if_pos b10, if_neg b11, if_pos b12]
                exact Go.ret (v := some (.int _)) dX4_countCommon_189 ⟨_, rfl⟩ ⟨rfl, rfl, rfl⟩
              · refine go_iconst (v := nI 0) (pc' := 185) dX4_countCommon_184 rfl (by decide) ?_
                refine go_goto (pc' := 0) (tgt := 189) dX4_countCommon_185 (by decide) ?_
                rw [common, if_pos b2, if_neg b5, if_pos b6, if_pos b7, if_pos b10, if_neg b11, if_neg b12]
                exact Go.ret (v := some (.int _)) dX4_countCommon_189 ⟨_, rfl⟩ ⟨rfl, rfl, rfl⟩
          · refine go_lload (pc' := 165) dX4_countCommon_163 rfl rfl ?_
            refine go_lconst (v := 0) (pc' := 166) dX4_countCommon_165 rfl (by decide) ?_
            refine go_lcmp (pc' := 167) dX4_countCommon_166 rfl ?_
            refine go_if_gt (pc' := 170) (tgt := 184) dX4_countCommon_167 (by decide) rfl (fun b13 => ?_) (fun b13 => ?_)
            · refine go_iconst (v := nI 0) (pc' := 185) dX4_countCommon_184 rfl (by decide) ?_
              refine go_goto (pc' := 0) (tgt := 189) dX4_countCommon_185 (by decide) ?_
              rw [common, if_pos b2, if_neg b5, if_pos b6, if_pos b7, if_neg b10, if_pos b13]
              exact Go.ret (v := some (.int _)) dX4_countCommon_189 ⟨_, rfl⟩ ⟨rfl, rfl, rfl⟩
            · refine go_lload (pc' := 172) dX4_countCommon_170 rfl rfl ?_
              refine go_lconst (v := 0) (pc' := 173) dX4_countCommon_172 rfl (by decide) ?_
              refine go_lcmp (pc' := 174) dX4_countCommon_173 rfl ?_
              refine go_if_ge (pc' := 177) (tgt := 188) dX4_countCommon_174 (by decide) rfl (fun b14 => ?_) (fun b14 => ?_)
              · refine go_iconst (v := nI 1) (pc' := 189) dX4_countCommon_188 rfl (by decide) ?_
                rw [common, if_pos b2, if_neg b5, if_pos b6, if_pos b7, if_neg b10, if_neg b13, if_pos b14]
                exact Go.ret (v := some (.int _)) dX4_countCommon_189 ⟨_, rfl⟩ ⟨rfl, rfl, rfl⟩
              · refine go_lload (pc' := 179) dX4_countCommon_177 rfl rfl ?_
                refine go_lconst (v := 0) (pc' := 180) dX4_countCommon_179 rfl (by decide) ?_
                refine go_lcmp (pc' := 181) dX4_countCommon_180 rfl ?_
                refine go_if_ge (pc' := 184) (tgt := 188) dX4_countCommon_181 (by decide) rfl (fun b15 => ?_) (fun b15 => ?_)
                · refine go_iconst (v := nI 1) (pc' := 189) dX4_countCommon_188 rfl (by decide) ?_
                  rw [common, if_pos b2, if_neg b5, if_pos b6, if_pos b7, if_neg b10, if_neg b13, if_neg b14, if_pos b15]
                  exact Go.ret (v := some (.int _)) dX4_countCommon_189 ⟨_, rfl⟩ ⟨rfl, rfl, rfl⟩
                · refine go_iconst (v := nI 0) (pc' := 185) dX4_countCommon_184 rfl (by decide) ?_
                  refine go_goto (pc' := 0) (tgt := 189) dX4_countCommon_185 (by decide) ?_
                  rw [common, if_pos b2, if_neg b5, if_pos b6, if_pos b7, if_neg b10, if_neg b13, if_neg b14, if_neg b15]
                  exact Go.ret (v := some (.int _)) dX4_countCommon_189 ⟨_, rfl⟩ ⟨rfl, rfl, rfl⟩
        · refine go_lload (pc' := 103) dX4_countCommon_101 rfl rfl ?_
          refine go_lconst (v := 0) (pc' := 104) dX4_countCommon_103 rfl (by decide) ?_
          refine go_lcmp (pc' := 105) dX4_countCommon_104 rfl ?_
          refine go_if_ge (pc' := 108) (tgt := 110) dX4_countCommon_105 (by decide) rfl (fun b16 => ?_) (fun b16 => ?_)
          · refine go_aload_n (i := 2) (pc' := 111) dX4_countCommon_110 rfl rfl rfl ?_
            refine go_iload_n (i := 3) (pc' := 112) dX4_countCommon_111 rfl rfl rfl ?_
            refine go_aload_n (i := 0) (pc' := 113) dX4_countCommon_112 rfl rfl rfl ?_
            refine go_getf (pc' := 116) dX4_countCommon_113 rfl gf_LandBase_Plane_9 kSA rfl ?_
            refine go_iload_n (i := 1) (pc' := 117) dX4_countCommon_116 rfl rfl rfl ?_
            refine go_ialoadN (pc' := 118) dX4_countCommon_117 rfl kxA (by decide) (by omega) ?_
            refine go_i2l (pc' := 119) dX4_countCommon_118 rfl rfl ?_
            refine go_aload_n (i := 0) (pc' := 120) dX4_countCommon_119 rfl rfl rfl ?_
            refine go_getf (pc' := 123) dX4_countCommon_120 rfl gf_LandBase_Plane_15 kSA rfl ?_
            refine go_iload_n (i := 1) (pc' := 124) dX4_countCommon_123 rfl rfl rfl ?_
            refine go_ialoadN (pc' := 125) dX4_countCommon_124 rfl kyA (by decide) (by omega) ?_
            refine go_i2l (pc' := 126) dX4_countCommon_125 rfl rfl ?_
            refine go_invS (As := [_, _, _, _]) (pc' := 129) dX4_countCommon_126 rfl cf_X4_countCommon_33 rfl rfl (Nat.le_of_ble_eq_true rfl) (c_sideOf hSB (by omega)) (fun vv17 hh17 qq17 => ?_)
            obtain ⟨rfl, rfl⟩ := qq17
            refine go_lstore (pc' := 131) dX4_countCommon_129 rfl (by decide) rfl ?_
            refine go_aload_n (i := 2) (pc' := 132) dX4_countCommon_131 rfl rfl rfl ?_
            refine go_iload_n (i := 3) (pc' := 133) dX4_countCommon_132 rfl rfl rfl ?_
            refine go_aload_n (i := 0) (pc' := 134) dX4_countCommon_133 rfl rfl rfl ?_
            refine go_getf (pc' := 137) dX4_countCommon_134 rfl gf_LandBase_Plane_9 kSA rfl ?_
            refine go_iload_n (i := 1) (pc' := 138) dX4_countCommon_137 rfl rfl rfl ?_
            refine go_iconst (v := nI 1) (pc' := 139) dX4_countCommon_138 rfl (by decide) ?_
            refine go_iaddN (pc' := 140) dX4_countCommon_139 rfl ?_
            refine go_ialoadN (pc' := 141) dX4_countCommon_140 rfl kxA (by decide) (by omega) ?_
            refine go_i2l (pc' := 142) dX4_countCommon_141 rfl rfl ?_
            refine go_aload_n (i := 0) (pc' := 143) dX4_countCommon_142 rfl rfl rfl ?_
            refine go_getf (pc' := 146) dX4_countCommon_143 rfl gf_LandBase_Plane_15 kSA rfl ?_
            refine go_iload_n (i := 1) (pc' := 147) dX4_countCommon_146 rfl rfl rfl ?_
            refine go_iconst (v := nI 1) (pc' := 148) dX4_countCommon_147 rfl (by decide) ?_
            refine go_iaddN (pc' := 149) dX4_countCommon_148 rfl ?_
            refine go_ialoadN (pc' := 150) dX4_countCommon_149 rfl kyA (by decide) (by omega) ?_
            refine go_i2l (pc' := 151) dX4_countCommon_150 rfl rfl ?_
            refine go_invS (As := [_, _, _, _]) (pc' := 154) dX4_countCommon_151 rfl cf_X4_countCommon_33 rfl rfl (Nat.le_of_ble_eq_true rfl) (c_sideOf hSB (by omega)) (fun vv18 hh18 qq18 => ?_)
            obtain ⟨rfl, rfl⟩ := qq18
            refine go_lstore (pc' := 156) dX4_countCommon_154 rfl (by decide) rfl ?_
            refine go_lload (pc' := 158) dX4_countCommon_156 rfl rfl ?_
            refine go_lconst (v := 0) (pc' := 159) dX4_countCommon_158 rfl (by decide) ?_
            refine go_lcmp (pc' := 160) dX4_countCommon_159 rfl ?_
            refine go_if_le (pc' := 163) (tgt := 170) dX4_countCommon_160 (by decide) rfl (fun b19 => ?_) (fun b19 => ?_)
            · refine go_lload (pc' := 172) dX4_countCommon_170 rfl rfl ?_
              refine go_lconst (v := 0) (pc' := 173) dX4_countCommon_172 rfl (by decide) ?_
              refine go_lcmp (pc' := 174) dX4_countCommon_173 rfl ?_
              refine go_if_ge (pc' := 177) (tgt := 188) dX4_countCommon_174 (by decide) rfl (fun b20 => ?_) (fun b20 => ?_)
              · refine go_iconst (v := nI 1) (pc' := 189) dX4_countCommon_188 rfl (by decide) ?_
                rw [common, if_pos b2, if_neg b5, if_pos b6, if_neg b7, if_pos b16, if_pos b19, if_pos b20]
                exact Go.ret (v := some (.int _)) dX4_countCommon_189 ⟨_, rfl⟩ ⟨rfl, rfl, rfl⟩
              · refine go_lload (pc' := 179) dX4_countCommon_177 rfl rfl ?_
                refine go_lconst (v := 0) (pc' := 180) dX4_countCommon_179 rfl (by decide) ?_
                refine go_lcmp (pc' := 181) dX4_countCommon_180 rfl ?_
                refine go_if_ge (pc' := 184) (tgt := 188) dX4_countCommon_181 (by decide) rfl (fun b21 => ?_) (fun b21 => ?_)
                · refine go_iconst (v := nI 1) (pc' := 189) dX4_countCommon_188 rfl (by decide) ?_
                  rw [common, if_pos b2, if_neg b5, if_pos b6, if_neg b7, if_pos b16, if_pos b19, if_neg b20, if_pos b21]
                  exact Go.ret (v := some (.int _)) dX4_countCommon_189 ⟨_, rfl⟩ ⟨rfl, rfl, rfl⟩
                · refine go_iconst (v := nI 0) (pc' := 185) dX4_countCommon_184 rfl (by decide) ?_
                  refine go_goto (pc' := 0) (tgt := 189) dX4_countCommon_185 (by decide) ?_
                  rw [common, if_pos b2, if_neg b5, if_pos b6, if_neg b7, if_pos b16, if_pos b19, if_neg b20, if_neg b21]
                  exact Go.ret (v := some (.int _)) dX4_countCommon_189 ⟨_, rfl⟩ ⟨rfl, rfl, rfl⟩
            · refine go_lload (pc' := 165) dX4_countCommon_163 rfl rfl ?_
              refine go_lconst (v := 0) (pc' := 166) dX4_countCommon_165 rfl (by decide) ?_
              refine go_lcmp (pc' := 167) dX4_countCommon_166 rfl ?_
              refine go_if_gt (pc' := 170) (tgt := 184) dX4_countCommon_167 (by decide) rfl (fun b22 => ?_) (fun b22 => ?_)
              · refine go_iconst (v := nI 0) (pc' := 185) dX4_countCommon_184 rfl (by decide) ?_
                refine go_goto (pc' := 0) (tgt := 189) dX4_countCommon_185 (by decide) ?_
                rw [common, if_pos b2, if_neg b5, if_pos b6, if_neg b7, if_pos b16, if_neg b19, if_pos b22]
                exact Go.ret (v := some (.int _)) dX4_countCommon_189 ⟨_, rfl⟩ ⟨rfl, rfl, rfl⟩
              · refine go_lload (pc' := 172) dX4_countCommon_170 rfl rfl ?_
                refine go_lconst (v := 0) (pc' := 173) dX4_countCommon_172 rfl (by decide) ?_
                refine go_lcmp (pc' := 174) dX4_countCommon_173 rfl ?_
                refine go_if_ge (pc' := 177) (tgt := 188) dX4_countCommon_174 (by decide) rfl (fun b23 => ?_) (fun b23 => ?_)
                · refine go_iconst (v := nI 1) (pc' := 189) dX4_countCommon_188 rfl (by decide) ?_
                  rw [common, if_pos b2, if_neg b5, if_pos b6, if_neg b7, if_pos b16, if_neg b19, if_neg b22, if_pos b23]
                  exact Go.ret (v := some (.int _)) dX4_countCommon_189 ⟨_, rfl⟩ ⟨rfl, rfl, rfl⟩
                · refine go_lload (pc' := 179) dX4_countCommon_177 rfl rfl ?_
                  refine go_lconst (v := 0) (pc' := 180) dX4_countCommon_179 rfl (by decide) ?_
                  refine go_lcmp (pc' := 181) dX4_countCommon_180 rfl ?_
                  refine go_if_ge (pc' := 184) (tgt := 188) dX4_countCommon_181 (by decide) rfl (fun b24 => ?_) (fun b24 => ?_)
                  · refine go_iconst (v := nI 1) (pc' := 189) dX4_countCommon_188 rfl (by decide) ?_
                    rw [common, if_pos b2, if_neg b5, if_pos b6, if_neg b7, if_pos b16, if_neg b19, if_neg b22, if_neg b23, if_pos b24]
                    exact Go.ret (v := some (.int _)) dX4_countCommon_189 ⟨_, rfl⟩ ⟨rfl, rfl, rfl⟩
                  · refine go_iconst (v := nI 0) (pc' := 185) dX4_countCommon_184 rfl (by decide) ?_
                    refine go_goto (pc' := 0) (tgt := 189) dX4_countCommon_185 (by decide) ?_
                    rw [common, if_pos b2, if_neg b5, if_pos b6, if_neg b7, if_pos b16, if_neg b19, if_neg b22, if_neg b23, if_neg b24]
                    exact Go.ret (v := some (.int _)) dX4_countCommon_189 ⟨_, rfl⟩ ⟨rfl, rfl, rfl⟩
          · refine go_iconst (v := nI 0) (pc' := 109) dX4_countCommon_108 rfl (by decide) ?_
            rw [common, if_pos b2, if_neg b5, if_pos b6, if_neg b7, if_neg b16]
            exact Go.ret (v := some (.int _)) dX4_countCommon_109 ⟨_, rfl⟩ ⟨rfl, rfl, rfl⟩
      · refine go_lload (pc' := 89) dX4_countCommon_87 rfl rfl ?_
        refine go_lconst (v := 0) (pc' := 90) dX4_countCommon_89 rfl (by decide) ?_
        refine go_lcmp (pc' := 91) dX4_countCommon_90 rfl ?_
        refine go_if_gt (pc' := 94) (tgt := 108) dX4_countCommon_91 (by decide) rfl (fun b25 => ?_) (fun b25 => ?_)
        · refine go_iconst (v := nI 0) (pc' := 109) dX4_countCommon_108 rfl (by decide) ?_
          rw [common, if_pos b2, if_neg b5, if_neg b6, if_pos b25]
          exact Go.ret (v := some (.int _)) dX4_countCommon_109 ⟨_, rfl⟩ ⟨rfl, rfl, rfl⟩
        · refine go_lload (pc' := 96) dX4_countCommon_94 rfl rfl ?_
          refine go_lconst (v := 0) (pc' := 97) dX4_countCommon_96 rfl (by decide) ?_
          refine go_lcmp (pc' := 98) dX4_countCommon_97 rfl ?_
          refine go_if_ge (pc' := 101) (tgt := 110) dX4_countCommon_98 (by decide) rfl (fun b26 => ?_) (fun b26 => ?_)
          · refine go_aload_n (i := 2) (pc' := 111) dX4_countCommon_110 rfl rfl rfl ?_
            refine go_iload_n (i := 3) (pc' := 112) dX4_countCommon_111 rfl rfl rfl ?_
            refine go_aload_n (i := 0) (pc' := 113) dX4_countCommon_112 rfl rfl rfl ?_
            refine go_getf (pc' := 116) dX4_countCommon_113 rfl gf_LandBase_Plane_9 kSA rfl ?_
            refine go_iload_n (i := 1) (pc' := 117) dX4_countCommon_116 rfl rfl rfl ?_
            refine go_ialoadN (pc' := 118) dX4_countCommon_117 rfl kxA (by decide) (by omega) ?_
            refine go_i2l (pc' := 119) dX4_countCommon_118 rfl rfl ?_
            refine go_aload_n (i := 0) (pc' := 120) dX4_countCommon_119 rfl rfl rfl ?_
            refine go_getf (pc' := 123) dX4_countCommon_120 rfl gf_LandBase_Plane_15 kSA rfl ?_
            refine go_iload_n (i := 1) (pc' := 124) dX4_countCommon_123 rfl rfl rfl ?_
            refine go_ialoadN (pc' := 125) dX4_countCommon_124 rfl kyA (by decide) (by omega) ?_
            refine go_i2l (pc' := 126) dX4_countCommon_125 rfl rfl ?_
            refine go_invS (As := [_, _, _, _]) (pc' := 129) dX4_countCommon_126 rfl cf_X4_countCommon_33 rfl rfl (Nat.le_of_ble_eq_true rfl) (c_sideOf hSB (by omega)) (fun vv27 hh27 qq27 => ?_)
            obtain ⟨rfl, rfl⟩ := qq27
            refine go_lstore (pc' := 131) dX4_countCommon_129 rfl (by decide) rfl ?_
            refine go_aload_n (i := 2) (pc' := 132) dX4_countCommon_131 rfl rfl rfl ?_
            refine go_iload_n (i := 3) (pc' := 133) dX4_countCommon_132 rfl rfl rfl ?_
            refine go_aload_n (i := 0) (pc' := 134) dX4_countCommon_133 rfl rfl rfl ?_
            refine go_getf (pc' := 137) dX4_countCommon_134 rfl gf_LandBase_Plane_9 kSA rfl ?_
            refine go_iload_n (i := 1) (pc' := 138) dX4_countCommon_137 rfl rfl rfl ?_
            refine go_iconst (v := nI 1) (pc' := 139) dX4_countCommon_138 rfl (by decide) ?_
            refine go_iaddN (pc' := 140) dX4_countCommon_139 rfl ?_
            refine go_ialoadN (pc' := 141) dX4_countCommon_140 rfl kxA (by decide) (by omega) ?_
            refine go_i2l (pc' := 142) dX4_countCommon_141 rfl rfl ?_
            refine go_aload_n (i := 0) (pc' := 143) dX4_countCommon_142 rfl rfl rfl ?_
            refine go_getf (pc' := 146) dX4_countCommon_143 rfl gf_LandBase_Plane_15 kSA rfl ?_
            refine go_iload_n (i := 1) (pc' := 147) dX4_countCommon_146 rfl rfl rfl ?_
            refine go_iconst (v := nI 1) (pc' := 148) dX4_countCommon_147 rfl (by decide) ?_
            refine go_iaddN (pc' := 149) dX4_countCommon_148 rfl ?_
            refine go_ialoadN (pc' := 150) dX4_countCommon_149 rfl kyA (by decide) (by omega) ?_
            refine go_i2l (pc' := 151) dX4_countCommon_150 rfl rfl ?_
            refine go_invS (As := [_, _, _, _]) (pc' := 154) dX4_countCommon_151 rfl cf_X4_countCommon_33 rfl rfl (Nat.le_of_ble_eq_true rfl) (c_sideOf hSB (by omega)) (fun vv28 hh28 qq28 => ?_)
            obtain ⟨rfl, rfl⟩ := qq28
            refine go_lstore (pc' := 156) dX4_countCommon_154 rfl (by decide) rfl ?_
            refine go_lload (pc' := 158) dX4_countCommon_156 rfl rfl ?_
            refine go_lconst (v := 0) (pc' := 159) dX4_countCommon_158 rfl (by decide) ?_
            refine go_lcmp (pc' := 160) dX4_countCommon_159 rfl ?_
            refine go_if_le (pc' := 163) (tgt := 170) dX4_countCommon_160 (by decide) rfl (fun b29 => ?_) (fun b29 => ?_)
            · refine go_lload (pc' := 172) dX4_countCommon_170 rfl rfl ?_
              refine go_lconst (v := 0) (pc' := 173) dX4_countCommon_172 rfl (by decide) ?_
              refine go_lcmp (pc' := 174) dX4_countCommon_173 rfl ?_
              refine go_if_ge (pc' := 177) (tgt := 188) dX4_countCommon_174 (by decide) rfl (fun b30 => ?_) (fun b30 => ?_)
              · refine go_iconst (v := nI 1) (pc' := 189) dX4_countCommon_188 rfl (by decide) ?_
                rw [common, if_pos b2, if_neg b5, if_neg b6, if_neg b25, if_pos b26, if_pos b29, if_pos b30]
                exact Go.ret (v := some (.int _)) dX4_countCommon_189 ⟨_, rfl⟩ ⟨rfl, rfl, rfl⟩
              · refine go_lload (pc' := 179) dX4_countCommon_177 rfl rfl ?_
                refine go_lconst (v := 0) (pc' := 180) dX4_countCommon_179 rfl (by decide) ?_
                refine go_lcmp (pc' := 181) dX4_countCommon_180 rfl ?_
                refine go_if_ge (pc' := 184) (tgt := 188) dX4_countCommon_181 (by decide) rfl (fun b31 => ?_) (fun b31 => ?_)
                · refine go_iconst (v := nI 1) (pc' := 189) dX4_countCommon_188 rfl (by decide) ?_
                  rw [common, if_pos b2, if_neg b5, if_neg b6, if_neg b25, if_pos b26, if_pos b29, if_neg b30, if_pos b31]
                  exact Go.ret (v := some (.int _)) dX4_countCommon_189 ⟨_, rfl⟩ ⟨rfl, rfl, rfl⟩
                · refine go_iconst (v := nI 0) (pc' := 185) dX4_countCommon_184 rfl (by decide) ?_
                  refine go_goto (pc' := 0) (tgt := 189) dX4_countCommon_185 (by decide) ?_
                  rw [common, if_pos b2, if_neg b5, if_neg b6, if_neg b25, if_pos b26, if_pos b29, if_neg b30, if_neg b31]
                  exact Go.ret (v := some (.int _)) dX4_countCommon_189 ⟨_, rfl⟩ ⟨rfl, rfl, rfl⟩
            · refine go_lload (pc' := 165) dX4_countCommon_163 rfl rfl ?_
              refine go_lconst (v := 0) (pc' := 166) dX4_countCommon_165 rfl (by decide) ?_
              refine go_lcmp (pc' := 167) dX4_countCommon_166 rfl ?_
              refine go_if_gt (pc' := 170) (tgt := 184) dX4_countCommon_167 (by decide) rfl (fun b32 => ?_) (fun b32 => ?_)
              · refine go_iconst (v := nI 0) (pc' := 185) dX4_countCommon_184 rfl (by decide) ?_
                refine go_goto (pc' := 0) (tgt := 189) dX4_countCommon_185 (by decide) ?_
                rw [common, if_pos b2, if_neg b5, if_neg b6, if_neg b25, if_pos b26, if_neg b29, if_pos b32]
                exact Go.ret (v := some (.int _)) dX4_countCommon_189 ⟨_, rfl⟩ ⟨rfl, rfl, rfl⟩
              · refine go_lload (pc' := 172) dX4_countCommon_170 rfl rfl ?_
                refine go_lconst (v := 0) (pc' := 173) dX4_countCommon_172 rfl (by decide) ?_
                refine go_lcmp (pc' := 174) dX4_countCommon_173 rfl ?_
                refine go_if_ge (pc' := 177) (tgt := 188) dX4_countCommon_174 (by decide) rfl (fun b33 => ?_) (fun b33 => ?_)
                · refine go_iconst (v := nI 1) (pc' := 189) dX4_countCommon_188 rfl (by decide) ?_
                  rw [common, if_pos b2, if_neg b5, if_neg b6, if_neg b25, if_pos b26, if_neg b29, if_neg b32, if_pos b33]
                  exact Go.ret (v := some (.int _)) dX4_countCommon_189 ⟨_, rfl⟩ ⟨rfl, rfl, rfl⟩
                · refine go_lload (pc' := 179) dX4_countCommon_177 rfl rfl ?_
                  refine go_lconst (v := 0) (pc' := 180) dX4_countCommon_179 rfl (by decide) ?_
                  refine go_lcmp (pc' := 181) dX4_countCommon_180 rfl ?_
                  refine go_if_ge (pc' := 184) (tgt := 188) dX4_countCommon_181 (by decide) rfl (fun b34 => ?_) (fun b34 => ?_)
                  · refine go_iconst (v := nI 1) (pc' := 189) dX4_countCommon_188 rfl (by decide) ?_
                    rw [common, if_pos b2, if_neg b5, if_neg b6, if_neg b25, if_pos b26, if_neg b29, if_neg b32, if_neg b33, if_pos b34]
                    exact Go.ret (v := some (.int _)) dX4_countCommon_189 ⟨_, rfl⟩ ⟨rfl, rfl, rfl⟩
                  · refine go_iconst (v := nI 0) (pc' := 185) dX4_countCommon_184 rfl (by decide) ?_
                    refine go_goto (pc' := 0) (tgt := 189) dX4_countCommon_185 (by decide) ?_
                    rw [common, if_pos b2, if_neg b5, if_neg b6, if_neg b25, if_pos b26, if_neg b29, if_neg b32, if_neg b33, if_neg b34]
                    exact Go.ret (v := some (.int _)) dX4_countCommon_189 ⟨_, rfl⟩ ⟨rfl, rfl, rfl⟩
          · refine go_lload (pc' := 103) dX4_countCommon_101 rfl rfl ?_
            refine go_lconst (v := 0) (pc' := 104) dX4_countCommon_103 rfl (by decide) ?_
            refine go_lcmp (pc' := 105) dX4_countCommon_104 rfl ?_
            refine go_if_ge (pc' := 108) (tgt := 110) dX4_countCommon_105 (by decide) rfl (fun b35 => ?_) (fun b35 => ?_)
            · refine go_aload_n (i := 2) (pc' := 111) dX4_countCommon_110 rfl rfl rfl ?_
              refine go_iload_n (i := 3) (pc' := 112) dX4_countCommon_111 rfl rfl rfl ?_
              refine go_aload_n (i := 0) (pc' := 113) dX4_countCommon_112 rfl rfl rfl ?_
              refine go_getf (pc' := 116) dX4_countCommon_113 rfl gf_LandBase_Plane_9 kSA rfl ?_
              refine go_iload_n (i := 1) (pc' := 117) dX4_countCommon_116 rfl rfl rfl ?_
              refine go_ialoadN (pc' := 118) dX4_countCommon_117 rfl kxA (by decide) (by omega) ?_
              refine go_i2l (pc' := 119) dX4_countCommon_118 rfl rfl ?_
              refine go_aload_n (i := 0) (pc' := 120) dX4_countCommon_119 rfl rfl rfl ?_
              refine go_getf (pc' := 123) dX4_countCommon_120 rfl gf_LandBase_Plane_15 kSA rfl ?_
              refine go_iload_n (i := 1) (pc' := 124) dX4_countCommon_123 rfl rfl rfl ?_
              refine go_ialoadN (pc' := 125) dX4_countCommon_124 rfl kyA (by decide) (by omega) ?_
              refine go_i2l (pc' := 126) dX4_countCommon_125 rfl rfl ?_
              refine go_invS (As := [_, _, _, _]) (pc' := 129) dX4_countCommon_126 rfl cf_X4_countCommon_33 rfl rfl (Nat.le_of_ble_eq_true rfl) (c_sideOf hSB (by omega)) (fun vv36 hh36 qq36 => ?_)
              obtain ⟨rfl, rfl⟩ := qq36
              refine go_lstore (pc' := 131) dX4_countCommon_129 rfl (by decide) rfl ?_
              refine go_aload_n (i := 2) (pc' := 132) dX4_countCommon_131 rfl rfl rfl ?_
              refine go_iload_n (i := 3) (pc' := 133) dX4_countCommon_132 rfl rfl rfl ?_
              refine go_aload_n (i := 0) (pc' := 134) dX4_countCommon_133 rfl rfl rfl ?_
              refine go_getf (pc' := 137) dX4_countCommon_134 rfl gf_LandBase_Plane_9 kSA rfl ?_
              refine go_iload_n (i := 1) (pc' := 138) dX4_countCommon_137 rfl rfl rfl ?_
              refine go_iconst (v := nI 1) (pc' := 139) dX4_countCommon_138 rfl (by decide) ?_
              refine go_iaddN (pc' := 140) dX4_countCommon_139 rfl ?_
              refine go_ialoadN (pc' := 141) dX4_countCommon_140 rfl kxA (by decide) (by omega) ?_
              refine go_i2l (pc' := 142) dX4_countCommon_141 rfl rfl ?_
              refine go_aload_n (i := 0) (pc' := 143) dX4_countCommon_142 rfl rfl rfl ?_
              refine go_getf (pc' := 146) dX4_countCommon_143 rfl gf_LandBase_Plane_15 kSA rfl ?_
              refine go_iload_n (i := 1) (pc' := 147) dX4_countCommon_146 rfl rfl rfl ?_
              refine go_iconst (v := nI 1) (pc' := 148) dX4_countCommon_147 rfl (by decide) ?_
              refine go_iaddN (pc' := 149) dX4_countCommon_148 rfl ?_
              refine go_ialoadN (pc' := 150) dX4_countCommon_149 rfl kyA (by decide) (by omega) ?_
              refine go_i2l (pc' := 151) dX4_countCommon_150 rfl rfl ?_
              refine go_invS (As := [_, _, _, _]) (pc' := 154) dX4_countCommon_151 rfl cf_X4_countCommon_33 rfl rfl (Nat.le_of_ble_eq_true rfl) (c_sideOf hSB (by omega)) (fun vv37 hh37 qq37 => ?_)
              obtain ⟨rfl, rfl⟩ := qq37
              refine go_lstore (pc' := 156) dX4_countCommon_154 rfl (by decide) rfl ?_
              refine go_lload (pc' := 158) dX4_countCommon_156 rfl rfl ?_
              refine go_lconst (v := 0) (pc' := 159) dX4_countCommon_158 rfl (by decide) ?_
              refine go_lcmp (pc' := 160) dX4_countCommon_159 rfl ?_
              refine go_if_le (pc' := 163) (tgt := 170) dX4_countCommon_160 (by decide) rfl (fun b38 => ?_) (fun b38 => ?_)
              · refine go_lload (pc' := 172) dX4_countCommon_170 rfl rfl ?_
                refine go_lconst (v := 0) (pc' := 173) dX4_countCommon_172 rfl (by decide) ?_
                refine go_lcmp (pc' := 174) dX4_countCommon_173 rfl ?_
                refine go_if_ge (pc' := 177) (tgt := 188) dX4_countCommon_174 (by decide) rfl (fun b39 => ?_) (fun b39 => ?_)
                · refine go_iconst (v := nI 1) (pc' := 189) dX4_countCommon_188 rfl (by decide) ?_
                  rw [common, if_pos b2, if_neg b5, if_neg b6, if_neg b25, if_neg b26, if_pos b35, if_pos b38, if_pos b39]
                  exact Go.ret (v := some (.int _)) dX4_countCommon_189 ⟨_, rfl⟩ ⟨rfl, rfl, rfl⟩
                · refine go_lload (pc' := 179) dX4_countCommon_177 rfl rfl ?_
                  refine go_lconst (v := 0) (pc' := 180) dX4_countCommon_179 rfl (by decide) ?_
                  refine go_lcmp (pc' := 181) dX4_countCommon_180 rfl ?_
                  refine go_if_ge (pc' := 184) (tgt := 188) dX4_countCommon_181 (by decide) rfl (fun b40 => ?_) (fun b40 => ?_)
                  · refine go_iconst (v := nI 1) (pc' := 189) dX4_countCommon_188 rfl (by decide) ?_
                    rw [common, if_pos b2, if_neg b5, if_neg b6, if_neg b25, if_neg b26, if_pos b35, if_pos b38, if_neg b39, if_pos b40]
                    exact Go.ret (v := some (.int _)) dX4_countCommon_189 ⟨_, rfl⟩ ⟨rfl, rfl, rfl⟩
                  · refine go_iconst (v := nI 0) (pc' := 185) dX4_countCommon_184 rfl (by decide) ?_
                    refine go_goto (pc' := 0) (tgt := 189) dX4_countCommon_185 (by decide) ?_
                    rw [common, if_pos b2, if_neg b5, if_neg b6, if_neg b25, if_neg b26, if_pos b35, if_pos b38, if_neg b39, if_neg b40]
                    exact Go.ret (v := some (.int _)) dX4_countCommon_189 ⟨_, rfl⟩ ⟨rfl, rfl, rfl⟩
              · refine go_lload (pc' := 165) dX4_countCommon_163 rfl rfl ?_
                refine go_lconst (v := 0) (pc' := 166) dX4_countCommon_165 rfl (by decide) ?_
                refine go_lcmp (pc' := 167) dX4_countCommon_166 rfl ?_
                refine go_if_gt (pc' := 170) (tgt := 184) dX4_countCommon_167 (by decide) rfl (fun b41 => ?_) (fun b41 => ?_)
                · refine go_iconst (v := nI 0) (pc' := 185) dX4_countCommon_184 rfl (by decide) ?_
                  refine go_goto (pc' := 0) (tgt := 189) dX4_countCommon_185 (by decide) ?_
                  rw [common, if_pos b2, if_neg b5, if_neg b6, if_neg b25, if_neg b26, if_pos b35, if_neg b38, if_pos b41]
                  exact Go.ret (v := some (.int _)) dX4_countCommon_189 ⟨_, rfl⟩ ⟨rfl, rfl, rfl⟩
                · refine go_lload (pc' := 172) dX4_countCommon_170 rfl rfl ?_
                  refine go_lconst (v := 0) (pc' := 173) dX4_countCommon_172 rfl (by decide) ?_
                  refine go_lcmp (pc' := 174) dX4_countCommon_173 rfl ?_
                  refine go_if_ge (pc' := 177) (tgt := 188) dX4_countCommon_174 (by decide) rfl (fun b42 => ?_) (fun b42 => ?_)
                  · refine go_iconst (v := nI 1) (pc' := 189) dX4_countCommon_188 rfl (by decide) ?_
                    rw [common, if_pos b2, if_neg b5, if_neg b6, if_neg b25, if_neg b26, if_pos b35, if_neg b38, if_neg b41, if_pos b42]
                    exact Go.ret (v := some (.int _)) dX4_countCommon_189 ⟨_, rfl⟩ ⟨rfl, rfl, rfl⟩
                  · refine go_lload (pc' := 179) dX4_countCommon_177 rfl rfl ?_
                    refine go_lconst (v := 0) (pc' := 180) dX4_countCommon_179 rfl (by decide) ?_
                    refine go_lcmp (pc' := 181) dX4_countCommon_180 rfl ?_
                    refine go_if_ge (pc' := 184) (tgt := 188) dX4_countCommon_181 (by decide) rfl (fun b43 => ?_) (fun b43 => ?_)
                    · refine go_iconst (v := nI 1) (pc' := 189) dX4_countCommon_188 rfl (by decide) ?_
                      rw [common, if_pos b2, if_neg b5, if_neg b6, if_neg b25, if_neg b26, if_pos b35, if_neg b38, if_neg b41, if_neg b42, if_pos b43]
                      exact Go.ret (v := some (.int _)) dX4_countCommon_189 ⟨_, rfl⟩ ⟨rfl, rfl, rfl⟩
                    · refine go_iconst (v := nI 0) (pc' := 185) dX4_countCommon_184 rfl (by decide) ?_
                      refine go_goto (pc' := 0) (tgt := 189) dX4_countCommon_185 (by decide) ?_
                      rw [common, if_pos b2, if_neg b5, if_neg b6, if_neg b25, if_neg b26, if_pos b35, if_neg b38, if_neg b41, if_neg b42, if_neg b43]
                      exact Go.ret (v := some (.int _)) dX4_countCommon_189 ⟨_, rfl⟩ ⟨rfl, rfl, rfl⟩
            · refine go_iconst (v := nI 0) (pc' := 109) dX4_countCommon_108 rfl (by decide) ?_
              rw [common, if_pos b2, if_neg b5, if_neg b6, if_neg b25, if_neg b26, if_neg b35]
              exact Go.ret (v := some (.int _)) dX4_countCommon_109 ⟨_, rfl⟩ ⟨rfl, rfl, rfl⟩
    · refine go_lload (pc' := 67) dX4_countCommon_65 rfl rfl ?_
      refine go_lconst (v := 0) (pc' := 68) dX4_countCommon_67 rfl (by decide) ?_
      refine go_lcmp (pc' := 69) dX4_countCommon_68 rfl ?_
      refine go_if_ne (pc' := 72) (tgt := 80) dX4_countCommon_69 (by decide) rfl (fun b44 => ?_) (fun b44 => ?_)
      · refine go_lload (pc' := 82) dX4_countCommon_80 rfl rfl ?_
        refine go_lconst (v := 0) (pc' := 83) dX4_countCommon_82 rfl (by decide) ?_
        refine go_lcmp (pc' := 84) dX4_countCommon_83 rfl ?_
        refine go_if_le (pc' := 87) (tgt := 94) dX4_countCommon_84 (by decide) rfl (fun b45 => ?_) (fun b45 => ?_)
        · refine go_lload (pc' := 96) dX4_countCommon_94 rfl rfl ?_
          refine go_lconst (v := 0) (pc' := 97) dX4_countCommon_96 rfl (by decide) ?_
          refine go_lcmp (pc' := 98) dX4_countCommon_97 rfl ?_
          refine go_if_ge (pc' := 101) (tgt := 110) dX4_countCommon_98 (by decide) rfl (fun b46 => ?_) (fun b46 => ?_)
          · refine go_aload_n (i := 2) (pc' := 111) dX4_countCommon_110 rfl rfl rfl ?_
            refine go_iload_n (i := 3) (pc' := 112) dX4_countCommon_111 rfl rfl rfl ?_
            refine go_aload_n (i := 0) (pc' := 113) dX4_countCommon_112 rfl rfl rfl ?_
            refine go_getf (pc' := 116) dX4_countCommon_113 rfl gf_LandBase_Plane_9 kSA rfl ?_
            refine go_iload_n (i := 1) (pc' := 117) dX4_countCommon_116 rfl rfl rfl ?_
            refine go_ialoadN (pc' := 118) dX4_countCommon_117 rfl kxA (by decide) (by omega) ?_
            refine go_i2l (pc' := 119) dX4_countCommon_118 rfl rfl ?_
            refine go_aload_n (i := 0) (pc' := 120) dX4_countCommon_119 rfl rfl rfl ?_
            refine go_getf (pc' := 123) dX4_countCommon_120 rfl gf_LandBase_Plane_15 kSA rfl ?_
            refine go_iload_n (i := 1) (pc' := 124) dX4_countCommon_123 rfl rfl rfl ?_
            refine go_ialoadN (pc' := 125) dX4_countCommon_124 rfl kyA (by decide) (by omega) ?_
            refine go_i2l (pc' := 126) dX4_countCommon_125 rfl rfl ?_
            refine go_invS (As := [_, _, _, _]) (pc' := 129) dX4_countCommon_126 rfl cf_X4_countCommon_33 rfl rfl (Nat.le_of_ble_eq_true rfl) (c_sideOf hSB (by omega)) (fun vv47 hh47 qq47 => ?_)
            obtain ⟨rfl, rfl⟩ := qq47
            refine go_lstore (pc' := 131) dX4_countCommon_129 rfl (by decide) rfl ?_
            refine go_aload_n (i := 2) (pc' := 132) dX4_countCommon_131 rfl rfl rfl ?_
            refine go_iload_n (i := 3) (pc' := 133) dX4_countCommon_132 rfl rfl rfl ?_
            refine go_aload_n (i := 0) (pc' := 134) dX4_countCommon_133 rfl rfl rfl ?_
            refine go_getf (pc' := 137) dX4_countCommon_134 rfl gf_LandBase_Plane_9 kSA rfl ?_
            refine go_iload_n (i := 1) (pc' := 138) dX4_countCommon_137 rfl rfl rfl ?_
            refine go_iconst (v := nI 1) (pc' := 139) dX4_countCommon_138 rfl (by decide) ?_
            refine go_iaddN (pc' := 140) dX4_countCommon_139 rfl ?_
            refine go_ialoadN (pc' := 141) dX4_countCommon_140 rfl kxA (by decide) (by omega) ?_
            refine go_i2l (pc' := 142) dX4_countCommon_141 rfl rfl ?_
            refine go_aload_n (i := 0) (pc' := 143) dX4_countCommon_142 rfl rfl rfl ?_
            refine go_getf (pc' := 146) dX4_countCommon_143 rfl gf_LandBase_Plane_15 kSA rfl ?_
            refine go_iload_n (i := 1) (pc' := 147) dX4_countCommon_146 rfl rfl rfl ?_
            refine go_iconst (v := nI 1) (pc' := 148) dX4_countCommon_147 rfl (by decide) ?_
            refine go_iaddN (pc' := 149) dX4_countCommon_148 rfl ?_
            refine go_ialoadN (pc' := 150) dX4_countCommon_149 rfl kyA (by decide) (by omega) ?_
            refine go_i2l (pc' := 151) dX4_countCommon_150 rfl rfl ?_
            refine go_invS (As := [_, _, _, _]) (pc' := 154) dX4_countCommon_151 rfl cf_X4_countCommon_33 rfl rfl (Nat.le_of_ble_eq_true rfl) (c_sideOf hSB (by omega)) (fun vv48 hh48 qq48 => ?_)
            obtain ⟨rfl, rfl⟩ := qq48
            refine go_lstore (pc' := 156) dX4_countCommon_154 rfl (by decide) rfl ?_
            refine go_lload (pc' := 158) dX4_countCommon_156 rfl rfl ?_
            refine go_lconst (v := 0) (pc' := 159) dX4_countCommon_158 rfl (by decide) ?_
            refine go_lcmp (pc' := 160) dX4_countCommon_159 rfl ?_
            refine go_if_le (pc' := 163) (tgt := 170) dX4_countCommon_160 (by decide) rfl (fun b49 => ?_) (fun b49 => ?_)
            · refine go_lload (pc' := 172) dX4_countCommon_170 rfl rfl ?_
              refine go_lconst (v := 0) (pc' := 173) dX4_countCommon_172 rfl (by decide) ?_
              refine go_lcmp (pc' := 174) dX4_countCommon_173 rfl ?_
              refine go_if_ge (pc' := 177) (tgt := 188) dX4_countCommon_174 (by decide) rfl (fun b50 => ?_) (fun b50 => ?_)
              · refine go_iconst (v := nI 1) (pc' := 189) dX4_countCommon_188 rfl (by decide) ?_
                rw [common, if_pos b2, if_pos b5, if_neg b44, if_pos b45, if_pos b46, if_pos b49, if_pos b50]
                exact Go.ret (v := some (.int _)) dX4_countCommon_189 ⟨_, rfl⟩ ⟨rfl, rfl, rfl⟩
              · refine go_lload (pc' := 179) dX4_countCommon_177 rfl rfl ?_
                refine go_lconst (v := 0) (pc' := 180) dX4_countCommon_179 rfl (by decide) ?_
                refine go_lcmp (pc' := 181) dX4_countCommon_180 rfl ?_
                refine go_if_ge (pc' := 184) (tgt := 188) dX4_countCommon_181 (by decide) rfl (fun b51 => ?_) (fun b51 => ?_)
                · refine go_iconst (v := nI 1) (pc' := 189) dX4_countCommon_188 rfl (by decide) ?_
                  rw [common, if_pos b2, if_pos b5, if_neg b44, if_pos b45, if_pos b46, if_pos b49, if_neg b50, if_pos b51]
                  exact Go.ret (v := some (.int _)) dX4_countCommon_189 ⟨_, rfl⟩ ⟨rfl, rfl, rfl⟩
                · refine go_iconst (v := nI 0) (pc' := 185) dX4_countCommon_184 rfl (by decide) ?_
                  refine go_goto (pc' := 0) (tgt := 189) dX4_countCommon_185 (by decide) ?_
                  rw [common, if_pos b2, if_pos b5, if_neg b44, if_pos b45, if_pos b46, if_pos b49, if_neg b50, if_neg b51]
                  exact Go.ret (v := some (.int _)) dX4_countCommon_189 ⟨_, rfl⟩ ⟨rfl, rfl, rfl⟩
            · refine go_lload (pc' := 165) dX4_countCommon_163 rfl rfl ?_
              refine go_lconst (v := 0) (pc' := 166) dX4_countCommon_165 rfl (by decide) ?_
              refine go_lcmp (pc' := 167) dX4_countCommon_166 rfl ?_
              refine go_if_gt (pc' := 170) (tgt := 184) dX4_countCommon_167 (by decide) rfl (fun b52 => ?_) (fun b52 => ?_)
              · refine go_iconst (v := nI 0) (pc' := 185) dX4_countCommon_184 rfl (by decide) ?_
                refine go_goto (pc' := 0) (tgt := 189) dX4_countCommon_185 (by decide) ?_
                rw [common, if_pos b2, if_pos b5, if_neg b44, if_pos b45, if_pos b46, if_neg b49, if_pos b52]
                exact Go.ret (v := some (.int _)) dX4_countCommon_189 ⟨_, rfl⟩ ⟨rfl, rfl, rfl⟩
              · refine go_lload (pc' := 172) dX4_countCommon_170 rfl rfl ?_
                refine go_lconst (v := 0) (pc' := 173) dX4_countCommon_172 rfl (by decide) ?_
                refine go_lcmp (pc' := 174) dX4_countCommon_173 rfl ?_
                refine go_if_ge (pc' := 177) (tgt := 188) dX4_countCommon_174 (by decide) rfl (fun b53 => ?_) (fun b53 => ?_)
                · refine go_iconst (v := nI 1) (pc' := 189) dX4_countCommon_188 rfl (by decide) ?_
                  rw [common, if_pos b2, if_pos b5, if_neg b44, if_pos b45, if_pos b46, if_neg b49, if_neg b52, if_pos b53]
                  exact Go.ret (v := some (.int _)) dX4_countCommon_189 ⟨_, rfl⟩ ⟨rfl, rfl, rfl⟩
                · refine go_lload (pc' := 179) dX4_countCommon_177 rfl rfl ?_
                  refine go_lconst (v := 0) (pc' := 180) dX4_countCommon_179 rfl (by decide) ?_
                  refine go_lcmp (pc' := 181) dX4_countCommon_180 rfl ?_
                  refine go_if_ge (pc' := 184) (tgt := 188) dX4_countCommon_181 (by decide) rfl (fun b54 => ?_) (fun b54 => ?_)
                  · refine go_iconst (v := nI 1) (pc' := 189) dX4_countCommon_188 rfl (by decide) ?_
                    rw [common, if_pos b2, if_pos b5, if_neg b44, if_pos b45, if_pos b46, if_neg b49, if_neg b52, if_neg b53, if_pos b54]
                    exact Go.ret (v := some (.int _)) dX4_countCommon_189 ⟨_, rfl⟩ ⟨rfl, rfl, rfl⟩
                  · refine go_iconst (v := nI 0) (pc' := 185) dX4_countCommon_184 rfl (by decide) ?_
                    refine go_goto (pc' := 0) (tgt := 189) dX4_countCommon_185 (by decide) ?_
                    rw [common, if_pos b2, if_pos b5, if_neg b44, if_pos b45, if_pos b46, if_neg b49, if_neg b52, if_neg b53, if_neg b54]
                    exact Go.ret (v := some (.int _)) dX4_countCommon_189 ⟨_, rfl⟩ ⟨rfl, rfl, rfl⟩
          · refine go_lload (pc' := 103) dX4_countCommon_101 rfl rfl ?_
            refine go_lconst (v := 0) (pc' := 104) dX4_countCommon_103 rfl (by decide) ?_
            refine go_lcmp (pc' := 105) dX4_countCommon_104 rfl ?_
            refine go_if_ge (pc' := 108) (tgt := 110) dX4_countCommon_105 (by decide) rfl (fun b55 => ?_) (fun b55 => ?_)
            · refine go_aload_n (i := 2) (pc' := 111) dX4_countCommon_110 rfl rfl rfl ?_
              refine go_iload_n (i := 3) (pc' := 112) dX4_countCommon_111 rfl rfl rfl ?_
              refine go_aload_n (i := 0) (pc' := 113) dX4_countCommon_112 rfl rfl rfl ?_
              refine go_getf (pc' := 116) dX4_countCommon_113 rfl gf_LandBase_Plane_9 kSA rfl ?_
              refine go_iload_n (i := 1) (pc' := 117) dX4_countCommon_116 rfl rfl rfl ?_
              refine go_ialoadN (pc' := 118) dX4_countCommon_117 rfl kxA (by decide) (by omega) ?_
              refine go_i2l (pc' := 119) dX4_countCommon_118 rfl rfl ?_
              refine go_aload_n (i := 0) (pc' := 120) dX4_countCommon_119 rfl rfl rfl ?_
              refine go_getf (pc' := 123) dX4_countCommon_120 rfl gf_LandBase_Plane_15 kSA rfl ?_
              refine go_iload_n (i := 1) (pc' := 124) dX4_countCommon_123 rfl rfl rfl ?_
              refine go_ialoadN (pc' := 125) dX4_countCommon_124 rfl kyA (by decide) (by omega) ?_
              refine go_i2l (pc' := 126) dX4_countCommon_125 rfl rfl ?_
              refine go_invS (As := [_, _, _, _]) (pc' := 129) dX4_countCommon_126 rfl cf_X4_countCommon_33 rfl rfl (Nat.le_of_ble_eq_true rfl) (c_sideOf hSB (by omega)) (fun vv56 hh56 qq56 => ?_)
              obtain ⟨rfl, rfl⟩ := qq56
              refine go_lstore (pc' := 131) dX4_countCommon_129 rfl (by decide) rfl ?_
              refine go_aload_n (i := 2) (pc' := 132) dX4_countCommon_131 rfl rfl rfl ?_
              refine go_iload_n (i := 3) (pc' := 133) dX4_countCommon_132 rfl rfl rfl ?_
              refine go_aload_n (i := 0) (pc' := 134) dX4_countCommon_133 rfl rfl rfl ?_
              refine go_getf (pc' := 137) dX4_countCommon_134 rfl gf_LandBase_Plane_9 kSA rfl ?_
              refine go_iload_n (i := 1) (pc' := 138) dX4_countCommon_137 rfl rfl rfl ?_
              refine go_iconst (v := nI 1) (pc' := 139) dX4_countCommon_138 rfl (by decide) ?_
              refine go_iaddN (pc' := 140) dX4_countCommon_139 rfl ?_
              refine go_ialoadN (pc' := 141) dX4_countCommon_140 rfl kxA (by decide) (by omega) ?_
              refine go_i2l (pc' := 142) dX4_countCommon_141 rfl rfl ?_
              refine go_aload_n (i := 0) (pc' := 143) dX4_countCommon_142 rfl rfl rfl ?_
              refine go_getf (pc' := 146) dX4_countCommon_143 rfl gf_LandBase_Plane_15 kSA rfl ?_
              refine go_iload_n (i := 1) (pc' := 147) dX4_countCommon_146 rfl rfl rfl ?_
              refine go_iconst (v := nI 1) (pc' := 148) dX4_countCommon_147 rfl (by decide) ?_
              refine go_iaddN (pc' := 149) dX4_countCommon_148 rfl ?_
              refine go_ialoadN (pc' := 150) dX4_countCommon_149 rfl kyA (by decide) (by omega) ?_
              refine go_i2l (pc' := 151) dX4_countCommon_150 rfl rfl ?_
              refine go_invS (As := [_, _, _, _]) (pc' := 154) dX4_countCommon_151 rfl cf_X4_countCommon_33 rfl rfl (Nat.le_of_ble_eq_true rfl) (c_sideOf hSB (by omega)) (fun vv57 hh57 qq57 => ?_)
              obtain ⟨rfl, rfl⟩ := qq57
              refine go_lstore (pc' := 156) dX4_countCommon_154 rfl (by decide) rfl ?_
              refine go_lload (pc' := 158) dX4_countCommon_156 rfl rfl ?_
              refine go_lconst (v := 0) (pc' := 159) dX4_countCommon_158 rfl (by decide) ?_
              refine go_lcmp (pc' := 160) dX4_countCommon_159 rfl ?_
              refine go_if_le (pc' := 163) (tgt := 170) dX4_countCommon_160 (by decide) rfl (fun b58 => ?_) (fun b58 => ?_)
              · refine go_lload (pc' := 172) dX4_countCommon_170 rfl rfl ?_
                refine go_lconst (v := 0) (pc' := 173) dX4_countCommon_172 rfl (by decide) ?_
                refine go_lcmp (pc' := 174) dX4_countCommon_173 rfl ?_
                refine go_if_ge (pc' := 177) (tgt := 188) dX4_countCommon_174 (by decide) rfl (fun b59 => ?_) (fun b59 => ?_)
                · refine go_iconst (v := nI 1) (pc' := 189) dX4_countCommon_188 rfl (by decide) ?_
                  rw [common, if_pos b2, if_pos b5, if_neg b44, if_pos b45, if_neg b46, if_pos b55, if_pos b58, if_pos b59]
                  exact Go.ret (v := some (.int _)) dX4_countCommon_189 ⟨_, rfl⟩ ⟨rfl, rfl, rfl⟩
                · refine go_lload (pc' := 179) dX4_countCommon_177 rfl rfl ?_
                  refine go_lconst (v := 0) (pc' := 180) dX4_countCommon_179 rfl (by decide) ?_
                  refine go_lcmp (pc' := 181) dX4_countCommon_180 rfl ?_
                  refine go_if_ge (pc' := 184) (tgt := 188) dX4_countCommon_181 (by decide) rfl (fun b60 => ?_) (fun b60 => ?_)
                  · refine go_iconst (v := nI 1) (pc' := 189) dX4_countCommon_188 rfl (by decide) ?_
                    rw [common, if_pos b2, if_pos b5, if_neg b44, if_pos b45, if_neg b46, if_pos b55, if_pos b58, if_neg b59, if_pos b60]
                    exact Go.ret (v := some (.int _)) dX4_countCommon_189 ⟨_, rfl⟩ ⟨rfl, rfl, rfl⟩
                  · refine go_iconst (v := nI 0) (pc' := 185) dX4_countCommon_184 rfl (by decide) ?_
                    refine go_goto (pc' := 0) (tgt := 189) dX4_countCommon_185 (by decide) ?_
                    rw [common, if_pos b2, if_pos b5, if_neg b44, if_pos b45, if_neg b46, if_pos b55, if_pos b58, if_neg b59, if_neg b60]
                    exact Go.ret (v := some (.int _)) dX4_countCommon_189 ⟨_, rfl⟩ ⟨rfl, rfl, rfl⟩
              · refine go_lload (pc' := 165) dX4_countCommon_163 rfl rfl ?_
                refine go_lconst (v := 0) (pc' := 166) dX4_countCommon_165 rfl (by decide) ?_
                refine go_lcmp (pc' := 167) dX4_countCommon_166 rfl ?_
                refine go_if_gt (pc' := 170) (tgt := 184) dX4_countCommon_167 (by decide) rfl (fun b61 => ?_) (fun b61 => ?_)
                · refine go_iconst (v := nI 0) (pc' := 185) dX4_countCommon_184 rfl (by decide) ?_
                  refine go_goto (pc' := 0) (tgt := 189) dX4_countCommon_185 (by decide) ?_
                  rw [common, if_pos b2, if_pos b5, if_neg b44, if_pos b45, if_neg b46, if_pos b55, if_neg b58, if_pos b61]
                  exact Go.ret (v := some (.int _)) dX4_countCommon_189 ⟨_, rfl⟩ ⟨rfl, rfl, rfl⟩
                · refine go_lload (pc' := 172) dX4_countCommon_170 rfl rfl ?_
                  refine go_lconst (v := 0) (pc' := 173) dX4_countCommon_172 rfl (by decide) ?_
                  refine go_lcmp (pc' := 174) dX4_countCommon_173 rfl ?_
                  refine go_if_ge (pc' := 177) (tgt := 188) dX4_countCommon_174 (by decide) rfl (fun b62 => ?_) (fun b62 => ?_)
                  · refine go_iconst (v := nI 1) (pc' := 189) dX4_countCommon_188 rfl (by decide) ?_
                    rw [common, if_pos b2, if_pos b5, if_neg b44, if_pos b45, if_neg b46, if_pos b55, if_neg b58, if_neg b61, if_pos b62]
                    exact Go.ret (v := some (.int _)) dX4_countCommon_189 ⟨_, rfl⟩ ⟨rfl, rfl, rfl⟩
                  · refine go_lload (pc' := 179) dX4_countCommon_177 rfl rfl ?_
                    refine go_lconst (v := 0) (pc' := 180) dX4_countCommon_179 rfl (by decide) ?_
                    refine go_lcmp (pc' := 181) dX4_countCommon_180 rfl ?_
                    refine go_if_ge (pc' := 184) (tgt := 188) dX4_countCommon_181 (by decide) rfl (fun b63 => ?_) (fun b63 => ?_)
                    · refine go_iconst (v := nI 1) (pc' := 189) dX4_countCommon_188 rfl (by decide) ?_
                      rw [common, if_pos b2, if_pos b5, if_neg b44, if_pos b45, if_neg b46, if_pos b55, if_neg b58, if_neg b61, if_neg b62, if_pos b63]
                      exact Go.ret (v := some (.int _)) dX4_countCommon_189 ⟨_, rfl⟩ ⟨rfl, rfl, rfl⟩
                    · refine go_iconst (v := nI 0) (pc' := 185) dX4_countCommon_184 rfl (by decide) ?_
                      refine go_goto (pc' := 0) (tgt := 189) dX4_countCommon_185 (by decide) ?_
                      rw [common, if_pos b2, if_pos b5, if_neg b44, if_pos b45, if_neg b46, if_pos b55, if_neg b58, if_neg b61, if_neg b62, if_neg b63]
                      exact Go.ret (v := some (.int _)) dX4_countCommon_189 ⟨_, rfl⟩ ⟨rfl, rfl, rfl⟩
            · refine go_iconst (v := nI 0) (pc' := 109) dX4_countCommon_108 rfl (by decide) ?_
              rw [common, if_pos b2, if_pos b5, if_neg b44, if_pos b45, if_neg b46, if_neg b55]
              exact Go.ret (v := some (.int _)) dX4_countCommon_109 ⟨_, rfl⟩ ⟨rfl, rfl, rfl⟩
        · refine go_lload (pc' := 89) dX4_countCommon_87 rfl rfl ?_
          refine go_lconst (v := 0) (pc' := 90) dX4_countCommon_89 rfl (by decide) ?_
          refine go_lcmp (pc' := 91) dX4_countCommon_90 rfl ?_
          refine go_if_gt (pc' := 94) (tgt := 108) dX4_countCommon_91 (by decide) rfl (fun b64 => ?_) (fun b64 => ?_)
          · refine go_iconst (v := nI 0) (pc' := 109) dX4_countCommon_108 rfl (by decide) ?_
            rw [common, if_pos b2, if_pos b5, if_neg b44, if_neg b45, if_pos b64]
            exact Go.ret (v := some (.int _)) dX4_countCommon_109 ⟨_, rfl⟩ ⟨rfl, rfl, rfl⟩
          · refine go_lload (pc' := 96) dX4_countCommon_94 rfl rfl ?_
            refine go_lconst (v := 0) (pc' := 97) dX4_countCommon_96 rfl (by decide) ?_
            refine go_lcmp (pc' := 98) dX4_countCommon_97 rfl ?_
            refine go_if_ge (pc' := 101) (tgt := 110) dX4_countCommon_98 (by decide) rfl (fun b65 => ?_) (fun b65 => ?_)
            · refine go_aload_n (i := 2) (pc' := 111) dX4_countCommon_110 rfl rfl rfl ?_
              refine go_iload_n (i := 3) (pc' := 112) dX4_countCommon_111 rfl rfl rfl ?_
              refine go_aload_n (i := 0) (pc' := 113) dX4_countCommon_112 rfl rfl rfl ?_
              refine go_getf (pc' := 116) dX4_countCommon_113 rfl gf_LandBase_Plane_9 kSA rfl ?_
              refine go_iload_n (i := 1) (pc' := 117) dX4_countCommon_116 rfl rfl rfl ?_
              refine go_ialoadN (pc' := 118) dX4_countCommon_117 rfl kxA (by decide) (by omega) ?_
              refine go_i2l (pc' := 119) dX4_countCommon_118 rfl rfl ?_
              refine go_aload_n (i := 0) (pc' := 120) dX4_countCommon_119 rfl rfl rfl ?_
              refine go_getf (pc' := 123) dX4_countCommon_120 rfl gf_LandBase_Plane_15 kSA rfl ?_
              refine go_iload_n (i := 1) (pc' := 124) dX4_countCommon_123 rfl rfl rfl ?_
              refine go_ialoadN (pc' := 125) dX4_countCommon_124 rfl kyA (by decide) (by omega) ?_
              refine go_i2l (pc' := 126) dX4_countCommon_125 rfl rfl ?_
              refine go_invS (As := [_, _, _, _]) (pc' := 129) dX4_countCommon_126 rfl cf_X4_countCommon_33 rfl rfl (Nat.le_of_ble_eq_true rfl) (c_sideOf hSB (by omega)) (fun vv66 hh66 qq66 => ?_)
              obtain ⟨rfl, rfl⟩ := qq66
              refine go_lstore (pc' := 131) dX4_countCommon_129 rfl (by decide) rfl ?_
              refine go_aload_n (i := 2) (pc' := 132) dX4_countCommon_131 rfl rfl rfl ?_
              refine go_iload_n (i := 3) (pc' := 133) dX4_countCommon_132 rfl rfl rfl ?_
              refine go_aload_n (i := 0) (pc' := 134) dX4_countCommon_133 rfl rfl rfl ?_
              refine go_getf (pc' := 137) dX4_countCommon_134 rfl gf_LandBase_Plane_9 kSA rfl ?_
              refine go_iload_n (i := 1) (pc' := 138) dX4_countCommon_137 rfl rfl rfl ?_
              refine go_iconst (v := nI 1) (pc' := 139) dX4_countCommon_138 rfl (by decide) ?_
              refine go_iaddN (pc' := 140) dX4_countCommon_139 rfl ?_
              refine go_ialoadN (pc' := 141) dX4_countCommon_140 rfl kxA (by decide) (by omega) ?_
              refine go_i2l (pc' := 142) dX4_countCommon_141 rfl rfl ?_
              refine go_aload_n (i := 0) (pc' := 143) dX4_countCommon_142 rfl rfl rfl ?_
              refine go_getf (pc' := 146) dX4_countCommon_143 rfl gf_LandBase_Plane_15 kSA rfl ?_
              refine go_iload_n (i := 1) (pc' := 147) dX4_countCommon_146 rfl rfl rfl ?_
              refine go_iconst (v := nI 1) (pc' := 148) dX4_countCommon_147 rfl (by decide) ?_
              refine go_iaddN (pc' := 149) dX4_countCommon_148 rfl ?_
              refine go_ialoadN (pc' := 150) dX4_countCommon_149 rfl kyA (by decide) (by omega) ?_
              refine go_i2l (pc' := 151) dX4_countCommon_150 rfl rfl ?_
              refine go_invS (As := [_, _, _, _]) (pc' := 154) dX4_countCommon_151 rfl cf_X4_countCommon_33 rfl rfl (Nat.le_of_ble_eq_true rfl) (c_sideOf hSB (by omega)) (fun vv67 hh67 qq67 => ?_)
              obtain ⟨rfl, rfl⟩ := qq67
              refine go_lstore (pc' := 156) dX4_countCommon_154 rfl (by decide) rfl ?_
              refine go_lload (pc' := 158) dX4_countCommon_156 rfl rfl ?_
              refine go_lconst (v := 0) (pc' := 159) dX4_countCommon_158 rfl (by decide) ?_
              refine go_lcmp (pc' := 160) dX4_countCommon_159 rfl ?_
              refine go_if_le (pc' := 163) (tgt := 170) dX4_countCommon_160 (by decide) rfl (fun b68 => ?_) (fun b68 => ?_)
              · refine go_lload (pc' := 172) dX4_countCommon_170 rfl rfl ?_
                refine go_lconst (v := 0) (pc' := 173) dX4_countCommon_172 rfl (by decide) ?_
                refine go_lcmp (pc' := 174) dX4_countCommon_173 rfl ?_
                refine go_if_ge (pc' := 177) (tgt := 188) dX4_countCommon_174 (by decide) rfl (fun b69 => ?_) (fun b69 => ?_)
                · refine go_iconst (v := nI 1) (pc' := 189) dX4_countCommon_188 rfl (by decide) ?_
                  rw [common, if_pos b2, if_pos b5, if_neg b44, if_neg b45, if_neg b64, if_pos b65, if_pos b68, if_pos b69]
                  exact Go.ret (v := some (.int _)) dX4_countCommon_189 ⟨_, rfl⟩ ⟨rfl, rfl, rfl⟩
                · refine go_lload (pc' := 179) dX4_countCommon_177 rfl rfl ?_
                  refine go_lconst (v := 0) (pc' := 180) dX4_countCommon_179 rfl (by decide) ?_
                  refine go_lcmp (pc' := 181) dX4_countCommon_180 rfl ?_
                  refine go_if_ge (pc' := 184) (tgt := 188) dX4_countCommon_181 (by decide) rfl (fun b70 => ?_) (fun b70 => ?_)
                  · refine go_iconst (v := nI 1) (pc' := 189) dX4_countCommon_188 rfl (by decide) ?_
                    rw [common, if_pos b2, if_pos b5, if_neg b44, if_neg b45, if_neg b64, if_pos b65, if_pos b68, if_neg b69, if_pos b70]
                    exact Go.ret (v := some (.int _)) dX4_countCommon_189 ⟨_, rfl⟩ ⟨rfl, rfl, rfl⟩
                  · refine go_iconst (v := nI 0) (pc' := 185) dX4_countCommon_184 rfl (by decide) ?_
                    refine go_goto (pc' := 0) (tgt := 189) dX4_countCommon_185 (by decide) ?_
                    rw [common, if_pos b2, if_pos b5, if_neg b44, if_neg b45, if_neg b64, if_pos b65, if_pos b68, if_neg b69, if_neg b70]
                    exact Go.ret (v := some (.int _)) dX4_countCommon_189 ⟨_, rfl⟩ ⟨rfl, rfl, rfl⟩
              · refine go_lload (pc' := 165) dX4_countCommon_163 rfl rfl ?_
                refine go_lconst (v := 0) (pc' := 166) dX4_countCommon_165 rfl (by decide) ?_
                refine go_lcmp (pc' := 167) dX4_countCommon_166 rfl ?_
                refine go_if_gt (pc' := 170) (tgt := 184) dX4_countCommon_167 (by decide) rfl (fun b71 => ?_) (fun b71 => ?_)
                · refine go_iconst (v := nI 0) (pc' := 185) dX4_countCommon_184 rfl (by decide) ?_
                  refine go_goto (pc' := 0) (tgt := 189) dX4_countCommon_185 (by decide) ?_
                  rw [common, if_pos b2, if_pos b5, if_neg b44, if_neg b45, if_neg b64, if_pos b65, if_neg b68, if_pos b71]
                  exact Go.ret (v := some (.int _)) dX4_countCommon_189 ⟨_, rfl⟩ ⟨rfl, rfl, rfl⟩
                · refine go_lload (pc' := 172) dX4_countCommon_170 rfl rfl ?_
                  refine go_lconst (v := 0) (pc' := 173) dX4_countCommon_172 rfl (by decide) ?_
                  refine go_lcmp (pc' := 174) dX4_countCommon_173 rfl ?_
                  refine go_if_ge (pc' := 177) (tgt := 188) dX4_countCommon_174 (by decide) rfl (fun b72 => ?_) (fun b72 => ?_)
                  · refine go_iconst (v := nI 1) (pc' := 189) dX4_countCommon_188 rfl (by decide) ?_
                    rw [common, if_pos b2, if_pos b5, if_neg b44, if_neg b45, if_neg b64, if_pos b65, if_neg b68, if_neg b71, if_pos b72]
                    exact Go.ret (v := some (.int _)) dX4_countCommon_189 ⟨_, rfl⟩ ⟨rfl, rfl, rfl⟩
                  · refine go_lload (pc' := 179) dX4_countCommon_177 rfl rfl ?_
                    refine go_lconst (v := 0) (pc' := 180) dX4_countCommon_179 rfl (by decide) ?_
                    refine go_lcmp (pc' := 181) dX4_countCommon_180 rfl ?_
                    refine go_if_ge (pc' := 184) (tgt := 188) dX4_countCommon_181 (by decide) rfl (fun b73 => ?_) (fun b73 => ?_)
                    · refine go_iconst (v := nI 1) (pc' := 189) dX4_countCommon_188 rfl (by decide) ?_
                      rw [common, if_pos b2, if_pos b5, if_neg b44, if_neg b45, if_neg b64, if_pos b65, if_neg b68, if_neg b71, if_neg b72, if_pos b73]
                      exact Go.ret (v := some (.int _)) dX4_countCommon_189 ⟨_, rfl⟩ ⟨rfl, rfl, rfl⟩
                    · refine go_iconst (v := nI 0) (pc' := 185) dX4_countCommon_184 rfl (by decide) ?_
                      refine go_goto (pc' := 0) (tgt := 189) dX4_countCommon_185 (by decide) ?_
                      rw [common, if_pos b2, if_pos b5, if_neg b44, if_neg b45, if_neg b64, if_pos b65, if_neg b68, if_neg b71, if_neg b72, if_neg b73]
                      exact Go.ret (v := some (.int _)) dX4_countCommon_189 ⟨_, rfl⟩ ⟨rfl, rfl, rfl⟩
            · refine go_lload (pc' := 103) dX4_countCommon_101 rfl rfl ?_
              refine go_lconst (v := 0) (pc' := 104) dX4_countCommon_103 rfl (by decide) ?_
              refine go_lcmp (pc' := 105) dX4_countCommon_104 rfl ?_
              refine go_if_ge (pc' := 108) (tgt := 110) dX4_countCommon_105 (by decide) rfl (fun b74 => ?_) (fun b74 => ?_)
              · refine go_aload_n (i := 2) (pc' := 111) dX4_countCommon_110 rfl rfl rfl ?_
                refine go_iload_n (i := 3) (pc' := 112) dX4_countCommon_111 rfl rfl rfl ?_
                refine go_aload_n (i := 0) (pc' := 113) dX4_countCommon_112 rfl rfl rfl ?_
                refine go_getf (pc' := 116) dX4_countCommon_113 rfl gf_LandBase_Plane_9 kSA rfl ?_
                refine go_iload_n (i := 1) (pc' := 117) dX4_countCommon_116 rfl rfl rfl ?_
                refine go_ialoadN (pc' := 118) dX4_countCommon_117 rfl kxA (by decide) (by omega) ?_
                refine go_i2l (pc' := 119) dX4_countCommon_118 rfl rfl ?_
                refine go_aload_n (i := 0) (pc' := 120) dX4_countCommon_119 rfl rfl rfl ?_
                refine go_getf (pc' := 123) dX4_countCommon_120 rfl gf_LandBase_Plane_15 kSA rfl ?_
                refine go_iload_n (i := 1) (pc' := 124) dX4_countCommon_123 rfl rfl rfl ?_
                refine go_ialoadN (pc' := 125) dX4_countCommon_124 rfl kyA (by decide) (by omega) ?_
                refine go_i2l (pc' := 126) dX4_countCommon_125 rfl rfl ?_
                refine go_invS (As := [_, _, _, _]) (pc' := 129) dX4_countCommon_126 rfl cf_X4_countCommon_33 rfl rfl (Nat.le_of_ble_eq_true rfl) (c_sideOf hSB (by omega)) (fun vv75 hh75 qq75 => ?_)
                obtain ⟨rfl, rfl⟩ := qq75
                refine go_lstore (pc' := 131) dX4_countCommon_129 rfl (by decide) rfl ?_
                refine go_aload_n (i := 2) (pc' := 132) dX4_countCommon_131 rfl rfl rfl ?_
                refine go_iload_n (i := 3) (pc' := 133) dX4_countCommon_132 rfl rfl rfl ?_
                refine go_aload_n (i := 0) (pc' := 134) dX4_countCommon_133 rfl rfl rfl ?_
                refine go_getf (pc' := 137) dX4_countCommon_134 rfl gf_LandBase_Plane_9 kSA rfl ?_
                refine go_iload_n (i := 1) (pc' := 138) dX4_countCommon_137 rfl rfl rfl ?_
                refine go_iconst (v := nI 1) (pc' := 139) dX4_countCommon_138 rfl (by decide) ?_
                refine go_iaddN (pc' := 140) dX4_countCommon_139 rfl ?_
                refine go_ialoadN (pc' := 141) dX4_countCommon_140 rfl kxA (by decide) (by omega) ?_
                refine go_i2l (pc' := 142) dX4_countCommon_141 rfl rfl ?_
                refine go_aload_n (i := 0) (pc' := 143) dX4_countCommon_142 rfl rfl rfl ?_
                refine go_getf (pc' := 146) dX4_countCommon_143 rfl gf_LandBase_Plane_15 kSA rfl ?_
                refine go_iload_n (i := 1) (pc' := 147) dX4_countCommon_146 rfl rfl rfl ?_
                refine go_iconst (v := nI 1) (pc' := 148) dX4_countCommon_147 rfl (by decide) ?_
                refine go_iaddN (pc' := 149) dX4_countCommon_148 rfl ?_
                refine go_ialoadN (pc' := 150) dX4_countCommon_149 rfl kyA (by decide) (by omega) ?_
                refine go_i2l (pc' := 151) dX4_countCommon_150 rfl rfl ?_
                refine go_invS (As := [_, _, _, _]) (pc' := 154) dX4_countCommon_151 rfl cf_X4_countCommon_33 rfl rfl (Nat.le_of_ble_eq_true rfl) (c_sideOf hSB (by omega)) (fun vv76 hh76 qq76 => ?_)
                obtain ⟨rfl, rfl⟩ := qq76
                refine go_lstore (pc' := 156) dX4_countCommon_154 rfl (by decide) rfl ?_
                refine go_lload (pc' := 158) dX4_countCommon_156 rfl rfl ?_
                refine go_lconst (v := 0) (pc' := 159) dX4_countCommon_158 rfl (by decide) ?_
                refine go_lcmp (pc' := 160) dX4_countCommon_159 rfl ?_
                refine go_if_le (pc' := 163) (tgt := 170) dX4_countCommon_160 (by decide) rfl (fun b77 => ?_) (fun b77 => ?_)
                · refine go_lload (pc' := 172) dX4_countCommon_170 rfl rfl ?_
                  refine go_lconst (v := 0) (pc' := 173) dX4_countCommon_172 rfl (by decide) ?_
                  refine go_lcmp (pc' := 174) dX4_countCommon_173 rfl ?_
                  refine go_if_ge (pc' := 177) (tgt := 188) dX4_countCommon_174 (by decide) rfl (fun b78 => ?_) (fun b78 => ?_)
                  · refine go_iconst (v := nI 1) (pc' := 189) dX4_countCommon_188 rfl (by decide) ?_
                    rw [common, if_pos b2, if_pos b5, if_neg b44, if_neg b45, if_neg b64, if_neg b65, if_pos b74, if_pos b77, if_pos b78]
                    exact Go.ret (v := some (.int _)) dX4_countCommon_189 ⟨_, rfl⟩ ⟨rfl, rfl, rfl⟩
                  · refine go_lload (pc' := 179) dX4_countCommon_177 rfl rfl ?_
                    refine go_lconst (v := 0) (pc' := 180) dX4_countCommon_179 rfl (by decide) ?_
                    refine go_lcmp (pc' := 181) dX4_countCommon_180 rfl ?_
                    refine go_if_ge (pc' := 184) (tgt := 188) dX4_countCommon_181 (by decide) rfl (fun b79 => ?_) (fun b79 => ?_)
                    · refine go_iconst (v := nI 1) (pc' := 189) dX4_countCommon_188 rfl (by decide) ?_
                      rw [common, if_pos b2, if_pos b5, if_neg b44, if_neg b45, if_neg b64, if_neg b65, if_pos b74, if_pos b77, if_neg b78, if_pos b79]
                      exact Go.ret (v := some (.int _)) dX4_countCommon_189 ⟨_, rfl⟩ ⟨rfl, rfl, rfl⟩
                    · refine go_iconst (v := nI 0) (pc' := 185) dX4_countCommon_184 rfl (by decide) ?_
                      refine go_goto (pc' := 0) (tgt := 189) dX4_countCommon_185 (by decide) ?_
                      rw [common, if_pos b2, if_pos b5, if_neg b44, if_neg b45, if_neg b64, if_neg b65, if_pos b74, if_pos b77, if_neg b78, if_neg b79]
                      exact Go.ret (v := some (.int _)) dX4_countCommon_189 ⟨_, rfl⟩ ⟨rfl, rfl, rfl⟩
                · refine go_lload (pc' := 165) dX4_countCommon_163 rfl rfl ?_
                  refine go_lconst (v := 0) (pc' := 166) dX4_countCommon_165 rfl (by decide) ?_
                  refine go_lcmp (pc' := 167) dX4_countCommon_166 rfl ?_
                  refine go_if_gt (pc' := 170) (tgt := 184) dX4_countCommon_167 (by decide) rfl (fun b80 => ?_) (fun b80 => ?_)
                  · refine go_iconst (v := nI 0) (pc' := 185) dX4_countCommon_184 rfl (by decide) ?_
                    refine go_goto (pc' := 0) (tgt := 189) dX4_countCommon_185 (by decide) ?_
                    rw [common, if_pos b2, if_pos b5, if_neg b44, if_neg b45, if_neg b64, if_neg b65, if_pos b74, if_neg b77, if_pos b80]
                    exact Go.ret (v := some (.int _)) dX4_countCommon_189 ⟨_, rfl⟩ ⟨rfl, rfl, rfl⟩
                  · refine go_lload (pc' := 172) dX4_countCommon_170 rfl rfl ?_
                    refine go_lconst (v := 0) (pc' := 173) dX4_countCommon_172 rfl (by decide) ?_
                    refine go_lcmp (pc' := 174) dX4_countCommon_173 rfl ?_
                    refine go_if_ge (pc' := 177) (tgt := 188) dX4_countCommon_174 (by decide) rfl (fun b81 => ?_) (fun b81 => ?_)
                    · refine go_iconst (v := nI 1) (pc' := 189) dX4_countCommon_188 rfl (by decide) ?_
                      rw [common, if_pos b2, if_pos b5, if_neg b44, if_neg b45, if_neg b64, if_neg b65, if_pos b74, if_neg b77, if_neg b80, if_pos b81]
                      exact Go.ret (v := some (.int _)) dX4_countCommon_189 ⟨_, rfl⟩ ⟨rfl, rfl, rfl⟩
                    · refine go_lload (pc' := 179) dX4_countCommon_177 rfl rfl ?_
                      refine go_lconst (v := 0) (pc' := 180) dX4_countCommon_179 rfl (by decide) ?_
                      refine go_lcmp (pc' := 181) dX4_countCommon_180 rfl ?_
                      refine go_if_ge (pc' := 184) (tgt := 188) dX4_countCommon_181 (by decide) rfl (fun b82 => ?_) (fun b82 => ?_)
                      · refine go_iconst (v := nI 1) (pc' := 189) dX4_countCommon_188 rfl (by decide) ?_
                        rw [common, if_pos b2, if_pos b5, if_neg b44, if_neg b45, if_neg b64, if_neg b65, if_pos b74, if_neg b77, if_neg b80, if_neg b81, if_pos b82]
                        exact Go.ret (v := some (.int _)) dX4_countCommon_189 ⟨_, rfl⟩ ⟨rfl, rfl, rfl⟩
                      · refine go_iconst (v := nI 0) (pc' := 185) dX4_countCommon_184 rfl (by decide) ?_
                        refine go_goto (pc' := 0) (tgt := 189) dX4_countCommon_185 (by decide) ?_
                        rw [common, if_pos b2, if_pos b5, if_neg b44, if_neg b45, if_neg b64, if_neg b65, if_pos b74, if_neg b77, if_neg b80, if_neg b81, if_neg b82]
                        exact Go.ret (v := some (.int _)) dX4_countCommon_189 ⟨_, rfl⟩ ⟨rfl, rfl, rfl⟩
              · refine go_iconst (v := nI 0) (pc' := 109) dX4_countCommon_108 rfl (by decide) ?_
                rw [common, if_pos b2, if_pos b5, if_neg b44, if_neg b45, if_neg b64, if_neg b65, if_neg b74]
                exact Go.ret (v := some (.int _)) dX4_countCommon_109 ⟨_, rfl⟩ ⟨rfl, rfl, rfl⟩
      · refine go_aload_n (i := 0) (pc' := 73) dX4_countCommon_72 rfl rfl rfl ?_
        refine go_iload_n (i := 1) (pc' := 74) dX4_countCommon_73 rfl rfl rfl ?_
        refine go_aload_n (i := 2) (pc' := 75) dX4_countCommon_74 rfl rfl rfl ?_
        refine go_iload_n (i := 3) (pc' := 76) dX4_countCommon_75 rfl rfl rfl ?_
        refine go_invS (As := [_, _, _, _]) (pc' := 79) dX4_countCommon_76 rfl cf_X4_countCommon_78 rfl rfl (Nat.le_of_ble_eq_true rfl) (c_countOnLine hSA hSB (by omega) (by omega)) (fun vv83 hh83 qq83 => ?_)
        obtain ⟨rfl, rfl⟩ := qq83
        rw [common, if_pos b2, if_pos b5, if_pos b44]
        exact Go.ret (v := some (.int _)) dX4_countCommon_79 ⟨_, rfl⟩ ⟨rfl, rfl, rfl⟩
  · refine go_iconst (v := nI 0) (pc' := 11) dX4_countCommon_10 rfl (by decide) ?_
    rw [common, if_neg b2]
    exact Go.ret (v := some (.int _)) dX4_countCommon_11 ⟨_, rfl⟩ ⟨rfl, rfl, rfl⟩
def boxApart (mnxA : Int32) (mnyA : Int32) (mxxA : Int32) (mxyA : Int32) (mnxB : Int32) (mnyB : Int32) (mxxB : Int32) (mxyB : Int32) : Int32 := if mxxA < mnxB then nI 1 else if mxxB < mnxA then nI 1 else if mxyA < mnyB then nI 1 else if mnyA ≤ mxyB then nI 0 else nI 1
set_option maxRecDepth 100000 in
set_option maxHeartbeats 4000000 in
theorem c_isBoxApart {G : xG} {h : xH} {a : Nat} {kdA szA rcA tlA mnxA mnyA mxxA mxyA hoA : Int32} {xsA ysA rsA ilA : Nat → Int32} {b : Nat} {kdB szB rcB tlB mnxB mnyB mxxB mxyB hoB : Int32} {xsB ysB rsB ilB : Nat → Int32} (hSA : CSh h a kdA szA rcA tlA mnxA mnyA mxxA mxyA hoA xsA ysA rsA ilA) (hSB : CSh h b kdB szB rcB tlB mnxB mnyB mxxB mxyB hoB xsB ysB rsB ilB)  : Ca G mX7_isBoxApart [.ref a, .ref b] h (fun v h' => v = some (.int (boxApart mnxA mnyA mxxA mxyA mnxB mnyB mxxB mxyB)) ∧ h' = h) := by
  obtain ⟨kSA, kxA, kyA, krA, klA⟩ := id hSA
  obtain ⟨kSB, kxB, kyB, krB, klB⟩ := id hSB
  refine Ca.of rfl (Nat.le_of_ble_eq_true rfl) ?_
  refine go_aload_n (i := 0) (pc' := 1) dX7_isBoxApart_0 rfl rfl rfl ?_
  refine go_getf (pc' := 4) dX7_isBoxApart_1 rfl gf_LandBase_Shape_42 kSA rfl ?_
  refine go_aload_n (i := 1) (pc' := 5) dX7_isBoxApart_4 rfl rfl rfl ?_
  refine go_getf (pc' := 8) dX7_isBoxApart_5 rfl gf_LandBase_Shape_39 kSB rfl ?_
  refine go_icmp_lt (pc' := 11) (tgt := 44) dX7_isBoxApart_8 (by decide) rfl (fun b1 => ?_) (fun b1 => ?_)
  · refine go_iconst (v := nI 1) (pc' := 45) dX7_isBoxApart_44 rfl (by decide) ?_
    refine go_goto (pc' := 0) (tgt := 49) dX7_isBoxApart_45 (by decide) ?_
    rw [boxApart, if_pos b1]
    exact Go.ret (v := some (.int _)) dX7_isBoxApart_49 ⟨_, rfl⟩ ⟨(bool_ok (by decide)), rfl, rfl⟩
  · refine go_aload_n (i := 1) (pc' := 12) dX7_isBoxApart_11 rfl rfl rfl ?_
    refine go_getf (pc' := 15) dX7_isBoxApart_12 rfl gf_LandBase_Shape_42 kSB rfl ?_
    refine go_aload_n (i := 0) (pc' := 16) dX7_isBoxApart_15 rfl rfl rfl ?_
    refine go_getf (pc' := 19) dX7_isBoxApart_16 rfl gf_LandBase_Shape_39 kSA rfl ?_
    refine go_icmp_lt (pc' := 22) (tgt := 44) dX7_isBoxApart_19 (by decide) rfl (fun b2 => ?_) (fun b2 => ?_)
    · refine go_iconst (v := nI 1) (pc' := 45) dX7_isBoxApart_44 rfl (by decide) ?_
      refine go_goto (pc' := 0) (tgt := 49) dX7_isBoxApart_45 (by decide) ?_
      rw [boxApart, if_neg b1, if_pos b2]
      exact Go.ret (v := some (.int _)) dX7_isBoxApart_49 ⟨_, rfl⟩ ⟨(bool_ok (by decide)), rfl, rfl⟩
    · refine go_aload_n (i := 0) (pc' := 23) dX7_isBoxApart_22 rfl rfl rfl ?_
      refine go_getf (pc' := 26) dX7_isBoxApart_23 rfl gf_LandBase_Shape_48 kSA rfl ?_
      refine go_aload_n (i := 1) (pc' := 27) dX7_isBoxApart_26 rfl rfl rfl ?_
      refine go_getf (pc' := 30) dX7_isBoxApart_27 rfl gf_LandBase_Shape_45 kSB rfl ?_
      refine go_icmp_lt (pc' := 33) (tgt := 44) dX7_isBoxApart_30 (by decide) rfl (fun b3 => ?_) (fun b3 => ?_)
      · refine go_iconst (v := nI 1) (pc' := 45) dX7_isBoxApart_44 rfl (by decide) ?_
        refine go_goto (pc' := 0) (tgt := 49) dX7_isBoxApart_45 (by decide) ?_
        rw [boxApart, if_neg b1, if_neg b2, if_pos b3]
        exact Go.ret (v := some (.int _)) dX7_isBoxApart_49 ⟨_, rfl⟩ ⟨(bool_ok (by decide)), rfl, rfl⟩
      · refine go_aload_n (i := 1) (pc' := 34) dX7_isBoxApart_33 rfl rfl rfl ?_
        refine go_getf (pc' := 37) dX7_isBoxApart_34 rfl gf_LandBase_Shape_48 kSB rfl ?_
        refine go_aload_n (i := 0) (pc' := 38) dX7_isBoxApart_37 rfl rfl rfl ?_
        refine go_getf (pc' := 41) dX7_isBoxApart_38 rfl gf_LandBase_Shape_45 kSA rfl ?_
        refine go_icmp_ge (pc' := 44) (tgt := 48) dX7_isBoxApart_41 (by decide) rfl (fun b4 => ?_) (fun b4 => ?_)
        · refine go_iconst (v := nI 0) (pc' := 49) dX7_isBoxApart_48 rfl (by decide) ?_
          rw [boxApart, if_neg b1, if_neg b2, if_neg b3, if_pos b4]
          exact Go.ret (v := some (.int _)) dX7_isBoxApart_49 ⟨_, rfl⟩ ⟨(bool_ok (by decide)), rfl, rfl⟩
        · refine go_iconst (v := nI 1) (pc' := 45) dX7_isBoxApart_44 rfl (by decide) ?_
          refine go_goto (pc' := 0) (tgt := 49) dX7_isBoxApart_45 (by decide) ?_
          rw [boxApart, if_neg b1, if_neg b2, if_neg b3, if_neg b4]
          exact Go.ret (v := some (.int _)) dX7_isBoxApart_49 ⟨_, rfl⟩ ⟨(bool_ok (by decide)), rfl, rfl⟩
def boxWithin (mnxA : Int32) (mnyA : Int32) (mxxA : Int32) (mxyA : Int32) (mnxB : Int32) (mnyB : Int32) (mxxB : Int32) (mxyB : Int32) : Int32 := if mnxA < mnxB then nI 0 else if mxxB < mxxA then nI 0 else if mnyA < mnyB then nI 0 else if mxyB < mxyA then nI 0 else nI 1
set_option maxRecDepth 100000 in
set_option maxHeartbeats 4000000 in
theorem c_isBoxWithin {G : xG} {h : xH} {a : Nat} {kdA szA rcA tlA mnxA mnyA mxxA mxyA hoA : Int32} {xsA ysA rsA ilA : Nat → Int32} {b : Nat} {kdB szB rcB tlB mnxB mnyB mxxB mxyB hoB : Int32} {xsB ysB rsB ilB : Nat → Int32} (hSA : CSh h a kdA szA rcA tlA mnxA mnyA mxxA mxyA hoA xsA ysA rsA ilA) (hSB : CSh h b kdB szB rcB tlB mnxB mnyB mxxB mxyB hoB xsB ysB rsB ilB)  : Ca G mX7_isBoxWithin [.ref a, .ref b] h (fun v h' => v = some (.int (boxWithin mnxA mnyA mxxA mxyA mnxB mnyB mxxB mxyB)) ∧ h' = h) := by
  obtain ⟨kSA, kxA, kyA, krA, klA⟩ := id hSA
  obtain ⟨kSB, kxB, kyB, krB, klB⟩ := id hSB
  refine Ca.of rfl (Nat.le_of_ble_eq_true rfl) ?_
  refine go_aload_n (i := 0) (pc' := 1) dX7_isBoxWithin_0 rfl rfl rfl ?_
  refine go_getf (pc' := 4) dX7_isBoxWithin_1 rfl gf_LandBase_Shape_39 kSA rfl ?_
  refine go_aload_n (i := 1) (pc' := 5) dX7_isBoxWithin_4 rfl rfl rfl ?_
  refine go_getf (pc' := 8) dX7_isBoxWithin_5 rfl gf_LandBase_Shape_39 kSB rfl ?_
  refine go_icmp_lt (pc' := 11) (tgt := 48) dX7_isBoxWithin_8 (by decide) rfl (fun b1 => ?_) (fun b1 => ?_)
  · refine go_iconst (v := nI 0) (pc' := 49) dX7_isBoxWithin_48 rfl (by decide) ?_
    rw [boxWithin, if_pos b1]
    exact Go.ret (v := some (.int _)) dX7_isBoxWithin_49 ⟨_, rfl⟩ ⟨(bool_ok (by decide)), rfl, rfl⟩
  · refine go_aload_n (i := 0) (pc' := 12) dX7_isBoxWithin_11 rfl rfl rfl ?_
    refine go_getf (pc' := 15) dX7_isBoxWithin_12 rfl gf_LandBase_Shape_42 kSA rfl ?_
    refine go_aload_n (i := 1) (pc' := 16) dX7_isBoxWithin_15 rfl rfl rfl ?_
    refine go_getf (pc' := 19) dX7_isBoxWithin_16 rfl gf_LandBase_Shape_42 kSB rfl ?_
    refine go_icmp_gt (pc' := 22) (tgt := 48) dX7_isBoxWithin_19 (by decide) rfl (fun b2 => ?_) (fun b2 => ?_)
    · refine go_iconst (v := nI 0) (pc' := 49) dX7_isBoxWithin_48 rfl (by decide) ?_
      rw [boxWithin, if_neg b1, if_pos b2]
      exact Go.ret (v := some (.int _)) dX7_isBoxWithin_49 ⟨_, rfl⟩ ⟨(bool_ok (by decide)), rfl, rfl⟩
    · refine go_aload_n (i := 0) (pc' := 23) dX7_isBoxWithin_22 rfl rfl rfl ?_
      refine go_getf (pc' := 26) dX7_isBoxWithin_23 rfl gf_LandBase_Shape_45 kSA rfl ?_
      refine go_aload_n (i := 1) (pc' := 27) dX7_isBoxWithin_26 rfl rfl rfl ?_
      refine go_getf (pc' := 30) dX7_isBoxWithin_27 rfl gf_LandBase_Shape_45 kSB rfl ?_
      refine go_icmp_lt (pc' := 33) (tgt := 48) dX7_isBoxWithin_30 (by decide) rfl (fun b3 => ?_) (fun b3 => ?_)
      · refine go_iconst (v := nI 0) (pc' := 49) dX7_isBoxWithin_48 rfl (by decide) ?_
        rw [boxWithin, if_neg b1, if_neg b2, if_pos b3]
        exact Go.ret (v := some (.int _)) dX7_isBoxWithin_49 ⟨_, rfl⟩ ⟨(bool_ok (by decide)), rfl, rfl⟩
      · refine go_aload_n (i := 0) (pc' := 34) dX7_isBoxWithin_33 rfl rfl rfl ?_
        refine go_getf (pc' := 37) dX7_isBoxWithin_34 rfl gf_LandBase_Shape_48 kSA rfl ?_
        refine go_aload_n (i := 1) (pc' := 38) dX7_isBoxWithin_37 rfl rfl rfl ?_
        refine go_getf (pc' := 41) dX7_isBoxWithin_38 rfl gf_LandBase_Shape_48 kSB rfl ?_
        refine go_icmp_gt (pc' := 44) (tgt := 48) dX7_isBoxWithin_41 (by decide) rfl (fun b4 => ?_) (fun b4 => ?_)
        · refine go_iconst (v := nI 0) (pc' := 49) dX7_isBoxWithin_48 rfl (by decide) ?_
          rw [boxWithin, if_neg b1, if_neg b2, if_neg b3, if_pos b4]
          exact Go.ret (v := some (.int _)) dX7_isBoxWithin_49 ⟨_, rfl⟩ ⟨(bool_ok (by decide)), rfl, rfl⟩
        · refine go_iconst (v := nI 1) (pc' := 45) dX7_isBoxWithin_44 rfl (by decide) ?_
          refine go_goto (pc' := 0) (tgt := 49) dX7_isBoxWithin_45 (by decide) ?_
          rw [boxWithin, if_neg b1, if_neg b2, if_neg b3, if_neg b4]
          exact Go.ret (v := some (.int _)) dX7_isBoxWithin_49 ⟨_, rfl⟩ ⟨(bool_ok (by decide)), rfl, rfl⟩
def inPlane (z : Int64) : Int32 := if (lg_cmp z ((-1073741823))) < 0 then nI 0 else if 0 < (lg_cmp z ((1073741823))) then nI 0 else nI 1
set_option maxRecDepth 100000 in
set_option maxHeartbeats 4000000 in
theorem c_isInPlane {G : xG} {h : xH} {z : Int64}   : Ca G mX10_isInPlane [.long z] h (fun v h' => v = some (.int (inPlane z)) ∧ h' = h) := by
  refine Ca.of rfl (Nat.le_of_ble_eq_true rfl) ?_
  refine go_lload_n (i := 0) (pc' := 1) dX10_isInPlane_0 rfl rfl rfl ?_
  refine go_ldc2 (pc' := 4) dX10_isInPlane_1 rfl wd_715 ?_
  refine go_lcmp (pc' := 5) dX10_isInPlane_4 rfl ?_
  refine go_if_lt (pc' := 8) (tgt := 20) dX10_isInPlane_5 (by decide) rfl (fun b1 => ?_) (fun b1 => ?_)
  · refine go_iconst (v := nI 0) (pc' := 21) dX10_isInPlane_20 rfl (by decide) ?_
    rw [inPlane, if_pos b1]
    exact Go.ret (v := some (.int _)) dX10_isInPlane_21 ⟨_, rfl⟩ ⟨(bool_ok (by decide)), rfl, rfl⟩
  · refine go_lload_n (i := 0) (pc' := 9) dX10_isInPlane_8 rfl rfl rfl ?_
    refine go_ldc2 (pc' := 12) dX10_isInPlane_9 rfl wd_716 ?_
    refine go_lcmp (pc' := 13) dX10_isInPlane_12 rfl ?_
    refine go_if_gt (pc' := 16) (tgt := 20) dX10_isInPlane_13 (by decide) rfl (fun b2 => ?_) (fun b2 => ?_)
    · refine go_iconst (v := nI 0) (pc' := 21) dX10_isInPlane_20 rfl (by decide) ?_
      rw [inPlane, if_neg b1, if_pos b2]
      exact Go.ret (v := some (.int _)) dX10_isInPlane_21 ⟨_, rfl⟩ ⟨(bool_ok (by decide)), rfl, rfl⟩
    · refine go_iconst (v := nI 1) (pc' := 17) dX10_isInPlane_16 rfl (by decide) ?_
      refine go_goto (pc' := 0) (tgt := 21) dX10_isInPlane_17 (by decide) ?_
      rw [inPlane, if_neg b1, if_neg b2]
      exact Go.ret (v := some (.int _)) dX10_isInPlane_21 ⟨_, rfl⟩ ⟨(bool_ok (by decide)), rfl, rfl⟩
def upPr (x : Int64) (y : Int64) : Int64 := ((((x.toUInt64 >>> ((nI 32).toInt64.toUInt64 &&& Int64.toUInt64 63)).toInt64) * ((y.toUInt64 >>> ((nI 32).toInt64.toUInt64 &&& Int64.toUInt64 63)).toInt64)) + ((((((x.toUInt64 >>> ((nI 32).toInt64.toUInt64 &&& Int64.toUInt64 63)).toInt64) * (y &&& ((4294967295)))) + ((((x &&& ((4294967295))) * (y &&& ((4294967295)))).toUInt64 >>> ((nI 32).toInt64.toUInt64 &&& Int64.toUInt64 63)).toInt64)).toUInt64 >>> ((nI 32).toInt64.toUInt64 &&& Int64.toUInt64 63)).toInt64)) + (((((x &&& ((4294967295))) * ((y.toUInt64 >>> ((nI 32).toInt64.toUInt64 &&& Int64.toUInt64 63)).toInt64)) + (((((x.toUInt64 >>> ((nI 32).toInt64.toUInt64 &&& Int64.toUInt64 63)).toInt64) * (y &&& ((4294967295)))) + ((((x &&& ((4294967295))) * (y &&& ((4294967295)))).toUInt64 >>> ((nI 32).toInt64.toUInt64 &&& Int64.toUInt64 63)).toInt64)) &&& ((4294967295)))).toUInt64 >>> ((nI 32).toInt64.toUInt64 &&& Int64.toUInt64 63)).toInt64)
set_option maxRecDepth 100000 in
set_option maxHeartbeats 4000000 in
theorem c_upperProduct {G : xG} {h : xH} {x : Int64} {y : Int64}   : Ca G mX4_upperProduct [.long x, .long y] h (fun v h' => v = some (.long (upPr x y)) ∧ h' = h) := by
  refine Ca.of rfl (Nat.le_of_ble_eq_true rfl) ?_
  refine go_lload_n (i := 0) (pc' := 1) dX4_upperProduct_0 rfl rfl rfl ?_
  refine go_bipush (v := nI 32) (pc' := 3) dX4_upperProduct_1 rfl (by decide) ?_
  refine go_lushr (pc' := 4) dX4_upperProduct_3 rfl rfl ?_
  refine go_lstore (pc' := 6) dX4_upperProduct_4 rfl (by decide) rfl ?_
  refine go_lload_n (i := 0) (pc' := 7) dX4_upperProduct_6 rfl rfl rfl ?_
  refine go_ldc2 (pc' := 10) dX4_upperProduct_7 rfl wd_621 ?_
  refine go_land (pc' := 11) dX4_upperProduct_10 rfl ?_
  refine go_lstore (pc' := 13) dX4_upperProduct_11 rfl (by decide) rfl ?_
  refine go_lload_n (i := 2) (pc' := 14) dX4_upperProduct_13 rfl rfl rfl ?_
  refine go_bipush (v := nI 32) (pc' := 16) dX4_upperProduct_14 rfl (by decide) ?_
  refine go_lushr (pc' := 17) dX4_upperProduct_16 rfl rfl ?_
  refine go_lstore (pc' := 19) dX4_upperProduct_17 rfl (by decide) rfl ?_
  refine go_lload_n (i := 2) (pc' := 20) dX4_upperProduct_19 rfl rfl rfl ?_
  refine go_ldc2 (pc' := 23) dX4_upperProduct_20 rfl wd_621 ?_
  refine go_land (pc' := 24) dX4_upperProduct_23 rfl ?_
  refine go_lstore (pc' := 26) dX4_upperProduct_24 rfl (by decide) rfl ?_
  refine go_lload (pc' := 28) dX4_upperProduct_26 rfl rfl ?_
  refine go_lload (pc' := 30) dX4_upperProduct_28 rfl rfl ?_
  refine go_lmul (pc' := 31) dX4_upperProduct_30 rfl ?_
  refine go_lload (pc' := 33) dX4_upperProduct_31 rfl rfl ?_
  refine go_lload (pc' := 35) dX4_upperProduct_33 rfl rfl ?_
  refine go_lmul (pc' := 36) dX4_upperProduct_35 rfl ?_
  refine go_bipush (v := nI 32) (pc' := 38) dX4_upperProduct_36 rfl (by decide) ?_
  refine go_lushr (pc' := 39) dX4_upperProduct_38 rfl rfl ?_
  refine go_ladd (pc' := 40) dX4_upperProduct_39 rfl ?_
  refine go_lstore (pc' := 42) dX4_upperProduct_40 rfl (by decide) rfl ?_
  refine go_lload (pc' := 44) dX4_upperProduct_42 rfl rfl ?_
  refine go_lload (pc' := 46) dX4_upperProduct_44 rfl rfl ?_
  refine go_lmul (pc' := 47) dX4_upperProduct_46 rfl ?_
  refine go_lload (pc' := 49) dX4_upperProduct_47 rfl rfl ?_
  refine go_ldc2 (pc' := 52) dX4_upperProduct_49 rfl wd_621 ?_
  refine go_land (pc' := 53) dX4_upperProduct_52 rfl ?_
  refine go_ladd (pc' := 54) dX4_upperProduct_53 rfl ?_
  refine go_lstore (pc' := 56) dX4_upperProduct_54 rfl (by decide) rfl ?_
  refine go_lload (pc' := 58) dX4_upperProduct_56 rfl rfl ?_
  refine go_lload (pc' := 60) dX4_upperProduct_58 rfl rfl ?_
  refine go_lmul (pc' := 61) dX4_upperProduct_60 rfl ?_
  refine go_lload (pc' := 63) dX4_upperProduct_61 rfl rfl ?_
  refine go_bipush (v := nI 32) (pc' := 65) dX4_upperProduct_63 rfl (by decide) ?_
  refine go_lushr (pc' := 66) dX4_upperProduct_65 rfl rfl ?_
  refine go_ladd (pc' := 67) dX4_upperProduct_66 rfl ?_
  refine go_lload (pc' := 69) dX4_upperProduct_67 rfl rfl ?_
  refine go_bipush (v := nI 32) (pc' := 71) dX4_upperProduct_69 rfl (by decide) ?_
  refine go_lushr (pc' := 72) dX4_upperProduct_71 rfl rfl ?_
  refine go_ladd (pc' := 73) dX4_upperProduct_72 rfl ?_
  rw [upPr]
  exact Go.ret (v := some (.long _)) dX4_upperProduct_73 ⟨_, rfl⟩ ⟨trivial, rfl, rfl⟩
def cmpBits (x : Int64) (y : Int64) : Int32 := lcm (x ^^^ ((-9223372036854775808))) (y ^^^ ((-9223372036854775808)))
set_option maxRecDepth 100000 in
set_option maxHeartbeats 4000000 in
theorem c_compareBits {G : xG} {h : xH} {x : Int64} {y : Int64}   : Ca G mX4_compareBits [.long x, .long y] h (fun v h' => v = some (.int (cmpBits x y)) ∧ h' = h) := by
  refine Ca.of rfl (Nat.le_of_ble_eq_true rfl) ?_
  refine go_lload_n (i := 0) (pc' := 1) dX4_compareBits_0 rfl rfl rfl ?_
  refine go_ldc2 (pc' := 4) dX4_compareBits_1 rfl wd_625 ?_
  refine go_lxor (pc' := 5) dX4_compareBits_4 rfl ?_
  refine go_lload_n (i := 2) (pc' := 6) dX4_compareBits_5 rfl rfl rfl ?_
  refine go_ldc2 (pc' := 9) dX4_compareBits_6 rfl wd_625 ?_
  refine go_lxor (pc' := 10) dX4_compareBits_9 rfl ?_
  refine go_invS (As := [_, _]) (pc' := 13) dX4_compareBits_10 rfl cf_X4_compareBits_89 rfl rfl (Nat.le_of_ble_eq_true rfl) j_compare (fun vv1 hh1 qq1 => ?_)
  obtain ⟨rfl, rfl⟩ := qq1
  rw [cmpBits]
  exact Go.ret (v := some (.int _)) dX4_compareBits_13 ⟨_, rfl⟩ ⟨rfl, rfl, rfl⟩
def cmpProd (x : Int64) (y : Int64) (z : Int64) (w : Int64) : Int32 := if (cmpBits (upPr x y) (upPr z w)) = 0 then cmpBits (x * y) (z * w) else cmpBits (upPr x y) (upPr z w)
set_option maxRecDepth 100000 in
set_option maxHeartbeats 4000000 in
theorem c_compareProducts {G : xG} {h : xH} {x : Int64} {y : Int64} {z : Int64} {w : Int64}   : Ca G mX4_compareProducts [.long x, .long y, .long z, .long w] h (fun v h' => v = some (.int (cmpProd x y z w)) ∧ h' = h) := by
  refine Ca.of rfl (Nat.le_of_ble_eq_true rfl) ?_
  refine go_lload_n (i := 0) (pc' := 1) dX4_compareProducts_0 rfl rfl rfl ?_
  refine go_lload_n (i := 2) (pc' := 2) dX4_compareProducts_1 rfl rfl rfl ?_
  refine go_invS (As := [_, _]) (pc' := 5) dX4_compareProducts_2 rfl cf_X4_compareProducts_95 rfl rfl (Nat.le_of_ble_eq_true rfl) (c_upperProduct) (fun vv1 hh1 qq1 => ?_)
  obtain ⟨rfl, rfl⟩ := qq1
  refine go_lload (pc' := 7) dX4_compareProducts_5 rfl rfl ?_
  refine go_lload (pc' := 9) dX4_compareProducts_7 rfl rfl ?_
  refine go_invS (As := [_, _]) (pc' := 12) dX4_compareProducts_9 rfl cf_X4_compareProducts_95 rfl rfl (Nat.le_of_ble_eq_true rfl) (c_upperProduct) (fun vv2 hh2 qq2 => ?_)
  obtain ⟨rfl, rfl⟩ := qq2
  refine go_invS (As := [_, _]) (pc' := 15) dX4_compareProducts_12 rfl cf_X4_compareProducts_99 rfl rfl (Nat.le_of_ble_eq_true rfl) (c_compareBits) (fun vv3 hh3 qq3 => ?_)
  obtain ⟨rfl, rfl⟩ := qq3
  refine go_istore (pc' := 17) dX4_compareProducts_15 rfl (by decide) rfl ?_
  refine go_iload (pc' := 19) dX4_compareProducts_17 rfl rfl ?_
  refine go_if_eq (pc' := 22) (tgt := 27) dX4_compareProducts_19 (by decide) rfl (fun b4 => ?_) (fun b4 => ?_)
  · refine go_lload_n (i := 0) (pc' := 28) dX4_compareProducts_27 rfl rfl rfl ?_
    refine go_lload_n (i := 2) (pc' := 29) dX4_compareProducts_28 rfl rfl rfl ?_
    refine go_lmul (pc' := 30) dX4_compareProducts_29 rfl ?_
    refine go_lload (pc' := 32) dX4_compareProducts_30 rfl rfl ?_
    refine go_lload (pc' := 34) dX4_compareProducts_32 rfl rfl ?_
    refine go_lmul (pc' := 35) dX4_compareProducts_34 rfl ?_
    refine go_invS (As := [_, _]) (pc' := 38) dX4_compareProducts_35 rfl cf_X4_compareProducts_99 rfl rfl (Nat.le_of_ble_eq_true rfl) (c_compareBits) (fun vv5 hh5 qq5 => ?_)
    obtain ⟨rfl, rfl⟩ := qq5
    rw [cmpProd, if_pos b4]
    exact Go.ret (v := some (.int _)) dX4_compareProducts_38 ⟨_, rfl⟩ ⟨rfl, rfl, rfl⟩
  · refine go_iload (pc' := 24) dX4_compareProducts_22 rfl rfl ?_
    refine go_goto (pc' := 0) (tgt := 38) dX4_compareProducts_24 (by decide) ?_
    rw [cmpProd, if_neg b4]
    exact Go.ret (v := some (.int _)) dX4_compareProducts_38 ⟨_, rfl⟩ ⟨rfl, rfl, rfl⟩
def canMv (mnxA : Int32) (mnyA : Int32) (mxxA : Int32) (mxyA : Int32) (dx : Int64) (dy : Int64) : Int32 := if (inPlane ((mnxA.toInt64) + dx)) = 0 then nI 0 else if (inPlane ((mxxA.toInt64) + dx)) = 0 then nI 0 else if (inPlane ((mnyA.toInt64) + dy)) = 0 then nI 0 else if (inPlane ((mxyA.toInt64) + dy)) = 0 then nI 0 else nI 1
set_option maxRecDepth 100000 in
set_option maxHeartbeats 4000000 in
theorem c_canMove {G : xG} {h : xH} {a : Nat} {kdA szA rcA tlA mnxA mnyA mxxA mxyA hoA : Int32} {xsA ysA rsA ilA : Nat → Int32} {dx : Int64} {dy : Int64} (hSA : CSh h a kdA szA rcA tlA mnxA mnyA mxxA mxyA hoA xsA ysA rsA ilA)  : Ca G mX7_canMove [.ref a, .long dx, .long dy] h (fun v h' => v = some (.int (canMv mnxA mnyA mxxA mxyA dx dy)) ∧ h' = h) := by
  obtain ⟨kSA, kxA, kyA, krA, klA⟩ := id hSA
  refine Ca.of rfl (Nat.le_of_ble_eq_true rfl) ?_
  refine go_aload_n (i := 0) (pc' := 1) dX7_canMove_0 rfl rfl rfl ?_
  refine go_getf (pc' := 4) dX7_canMove_1 rfl gf_LandBase_Shape_39 kSA rfl ?_
  refine go_i2l (pc' := 5) dX7_canMove_4 rfl rfl ?_
  refine go_lload_n (i := 1) (pc' := 6) dX7_canMove_5 rfl rfl rfl ?_
  refine go_ladd (pc' := 7) dX7_canMove_6 rfl ?_
  refine go_invSN (As := [_]) (pc' := 10) dX7_canMove_7 rfl cf_X7_canMove_60 rfl rfl (Nat.le_of_ble_eq_true rfl) (c_isInPlane) (fun vv1 hh1 qq1 => ?_)
  obtain ⟨rfl, rfl⟩ := qq1
  refine go_if_eq (pc' := 13) (tgt := 56) dX7_canMove_10 (by decide) rfl (fun b2 => ?_) (fun b2 => ?_)
  · refine go_iconst (v := nI 0) (pc' := 57) dX7_canMove_56 rfl (by decide) ?_
    rw [canMv, if_pos b2]
    exact Go.ret (v := some (.int _)) dX7_canMove_57 ⟨_, rfl⟩ ⟨(bool_ok (by decide)), rfl, rfl⟩
  · refine go_aload_n (i := 0) (pc' := 14) dX7_canMove_13 rfl rfl rfl ?_
    refine go_getf (pc' := 17) dX7_canMove_14 rfl gf_LandBase_Shape_42 kSA rfl ?_
    refine go_i2l (pc' := 18) dX7_canMove_17 rfl rfl ?_
    refine go_lload_n (i := 1) (pc' := 19) dX7_canMove_18 rfl rfl rfl ?_
    refine go_ladd (pc' := 20) dX7_canMove_19 rfl ?_
    refine go_invSN (As := [_]) (pc' := 23) dX7_canMove_20 rfl cf_X7_canMove_60 rfl rfl (Nat.le_of_ble_eq_true rfl) (c_isInPlane) (fun vv3 hh3 qq3 => ?_)
    obtain ⟨rfl, rfl⟩ := qq3
    refine go_if_eq (pc' := 26) (tgt := 56) dX7_canMove_23 (by decide) rfl (fun b4 => ?_) (fun b4 => ?_)
    · refine go_iconst (v := nI 0) (pc' := 57) dX7_canMove_56 rfl (by decide) ?_
      rw [canMv, if_neg b2, if_pos b4]
      exact Go.ret (v := some (.int _)) dX7_canMove_57 ⟨_, rfl⟩ ⟨(bool_ok (by decide)), rfl, rfl⟩
    · refine go_aload_n (i := 0) (pc' := 27) dX7_canMove_26 rfl rfl rfl ?_
      refine go_getf (pc' := 30) dX7_canMove_27 rfl gf_LandBase_Shape_45 kSA rfl ?_
      refine go_i2l (pc' := 31) dX7_canMove_30 rfl rfl ?_
      refine go_lload_n (i := 3) (pc' := 32) dX7_canMove_31 rfl rfl rfl ?_
      refine go_ladd (pc' := 33) dX7_canMove_32 rfl ?_
      refine go_invSN (As := [_]) (pc' := 36) dX7_canMove_33 rfl cf_X7_canMove_60 rfl rfl (Nat.le_of_ble_eq_true rfl) (c_isInPlane) (fun vv5 hh5 qq5 => ?_)
      obtain ⟨rfl, rfl⟩ := qq5
      refine go_if_eq (pc' := 39) (tgt := 56) dX7_canMove_36 (by decide) rfl (fun b6 => ?_) (fun b6 => ?_)
      · refine go_iconst (v := nI 0) (pc' := 57) dX7_canMove_56 rfl (by decide) ?_
        rw [canMv, if_neg b2, if_neg b4, if_pos b6]
        exact Go.ret (v := some (.int _)) dX7_canMove_57 ⟨_, rfl⟩ ⟨(bool_ok (by decide)), rfl, rfl⟩
      · refine go_aload_n (i := 0) (pc' := 40) dX7_canMove_39 rfl rfl rfl ?_
        refine go_getf (pc' := 43) dX7_canMove_40 rfl gf_LandBase_Shape_48 kSA rfl ?_
        refine go_i2l (pc' := 44) dX7_canMove_43 rfl rfl ?_
        refine go_lload_n (i := 3) (pc' := 45) dX7_canMove_44 rfl rfl rfl ?_
        refine go_ladd (pc' := 46) dX7_canMove_45 rfl ?_
        refine go_invSN (As := [_]) (pc' := 49) dX7_canMove_46 rfl cf_X7_canMove_60 rfl rfl (Nat.le_of_ble_eq_true rfl) (c_isInPlane) (fun vv7 hh7 qq7 => ?_)
        obtain ⟨rfl, rfl⟩ := qq7
        refine go_if_eq (pc' := 52) (tgt := 56) dX7_canMove_49 (by decide) rfl (fun b8 => ?_) (fun b8 => ?_)
        · refine go_iconst (v := nI 0) (pc' := 57) dX7_canMove_56 rfl (by decide) ?_
          rw [canMv, if_neg b2, if_neg b4, if_neg b6, if_pos b8]
          exact Go.ret (v := some (.int _)) dX7_canMove_57 ⟨_, rfl⟩ ⟨(bool_ok (by decide)), rfl, rfl⟩
        · refine go_iconst (v := nI 1) (pc' := 53) dX7_canMove_52 rfl (by decide) ?_
          refine go_goto (pc' := 0) (tgt := 57) dX7_canMove_53 (by decide) ?_
          rw [canMv, if_neg b2, if_neg b4, if_neg b6, if_neg b8]
          exact Go.ret (v := some (.int _)) dX7_canMove_57 ⟨_, rfl⟩ ⟨(bool_ok (by decide)), rfl, rfl⟩

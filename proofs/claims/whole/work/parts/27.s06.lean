/-! methods as functions, by program (gen/dcmall.py) -/
def f_X6_holds (n : Nat) (x1 : Int32) (a2 : Nat) (a3 : Nat) (σ : xσ) : Option (Int32 × xσ) := gd (okS n a2) (gd (okS n a3) (if x1 = 0 then bd (f_X6_doMeet n a2 a3 σ) (fun v102 σ103 => gd (v102 = 0 ∨ v102 = 1) (some (v102, σ103))) else if x1 = 1 then bd (f_X6_doMeet n a2 a3 σ) (fun v109 σ110 => if v109 = 0 then some (1, σ110) else some (0, σ110)) else if x1 = 2 then bd (f_X6_doMeet n a2 a3 σ) (fun v116 σ117 => if v116 = 0 then some (0, σ117) else bd (f_X6_doInteriorsMeet n a2 a3 σ117) (fun v122 σ123 => if v122 = 0 then some (1, σ123) else some (0, σ123))) else if x1 = 3 then bd (f_X6_isWithin n a2 a3 σ) (fun v129 σ130 => gd (v129 = 0 ∨ v129 = 1) (some (v129, σ130))) else if x1 = 4 then bd (f_X6_isWithin n a3 a2 σ) (fun v136 σ137 => gd (v136 = 0 ∨ v136 = 1) (some (v136, σ137))) else some (0, σ)))
set_option maxRecDepth 100000 in
set_option maxHeartbeats 4000000 in
theorem c_X6_holds {G : xG} {n : Nat} {σ : xσ} {h : xH} {x1 : Int32} {a2 : Nat} {a3 : Nat} {v1 : Int32} {σ1 : xσ} (R : Rl n σ h) (hf : f_X6_holds n x1 a2 a3 σ = some (v1, σ1)) : Ca G mX6_holds [.ref 29, .int x1, .ref a2, .ref a3] h (fun v h' => v = some (.int v1) ∧ Rl n σ1 h') := by
  refine Ca.of rfl (Nat.le_of_ble_eq_true rfl) ?_
  generalize hr : (v1, σ1) = r at hf
  suffices q : Go G mX6_holds 0 (xent (xMl mX6_holds) [.ref 29, .int x1, .ref a2, .ref a3]) [] h (fun v h' => xRok (xRt mX6_holds) v ∧ v = some (.int r.1) ∧ Rl n r.2 h') by
    subst hr
    exact q
  clear hr
  rw [f_X6_holds] at hf
  obtain ⟨g2, hf⟩ := gd_some hf
  obtain ⟨g3, hf⟩ := gd_some hf
  refine go_iload_n (i := 1) (pc' := 1) dX6_holds_0 rfl rfl rfl ?_
  by_cases c101 : x1 = 0
  · have hf := it c101 hf
    refine go_tableIn (pc' := 0) (off := 35) (tgt := 36) dX6_holds_1 (by rw [c101]; decide) (by rw [c101]; decide) (by rw [c101]; rfl) (by decide) ?_
    refine go_aload_n (i := 0) (pc' := 37) dX6_holds_36 rfl rfl rfl ?_
    refine go_aload_n (i := 2) (pc' := 38) dX6_holds_37 rfl rfl rfl ?_
    refine go_aload_n (i := 3) (pc' := 39) dX6_holds_38 rfl rfl rfl ?_
    obtain ⟨v102, σ103, e104, hf⟩ := bd_some hf
    refine go_invV (As := [_, _]) (pc' := 42) dX6_holds_39 rfl cf_X6_holds_15 rfl (R.ob (R.at rfl (by decide))) rfl rfl (Nat.le_of_ble_eq_true rfl) (c_X6_doMeet R e104) (fun q105v h106 q105 => ?_)
    obtain ⟨rfl, R⟩ := q105
    obtain ⟨g107, hf⟩ := gd_some hf
    obtain rfl := Option.some.inj hf
    exact Go.ret (v := some (.int _)) dX6_holds_42 ⟨_, rfl⟩ ⟨(nb g107), rfl, R⟩
  have hf := ie c101 hf
  by_cases c108 : x1 = 1
  · have hf := it c108 hf
    refine go_tableIn (pc' := 0) (off := 42) (tgt := 43) dX6_holds_1 (by rw [c108]; decide) (by rw [c108]; decide) (by rw [c108]; rfl) (by decide) ?_
    refine go_aload_n (i := 0) (pc' := 44) dX6_holds_43 rfl rfl rfl ?_
    refine go_aload_n (i := 2) (pc' := 45) dX6_holds_44 rfl rfl rfl ?_
    refine go_aload_n (i := 3) (pc' := 46) dX6_holds_45 rfl rfl rfl ?_
    obtain ⟨v109, σ110, e111, hf⟩ := bd_some hf
    refine go_invV (As := [_, _]) (pc' := 49) dX6_holds_46 rfl cf_X6_holds_15 rfl (R.ob (R.at rfl (by decide))) rfl rfl (Nat.le_of_ble_eq_true rfl) (c_X6_doMeet R e111) (fun q112v h113 q112 => ?_)
    obtain ⟨rfl, R⟩ := q112
    refine go_if_ne (pc' := 52) (tgt := 56) dX6_holds_49 (by decide) rfl (fun c114 => ?_) (fun c114 => ?_)
    · have hf := ie c114 hf
      refine go_iconst (v := 0) (pc' := 57) dX6_holds_56 rfl (by decide) ?_
      obtain rfl := Option.some.inj hf
      exact Go.ret (v := some (.int _)) dX6_holds_57 ⟨_, rfl⟩ ⟨rfl, rfl, R⟩
    · have hf := it c114 hf
      refine go_iconst (v := 1) (pc' := 53) dX6_holds_52 rfl (by decide) ?_
      refine go_goto (pc' := 0) (tgt := 57) dX6_holds_53 (by decide) ?_
      obtain rfl := Option.some.inj hf
      exact Go.ret (v := some (.int _)) dX6_holds_57 ⟨_, rfl⟩ ⟨rfl, rfl, R⟩
  have hf := ie c108 hf
  by_cases c115 : x1 = 2
  · have hf := it c115 hf
    refine go_tableIn (pc' := 0) (off := 57) (tgt := 58) dX6_holds_1 (by rw [c115]; decide) (by rw [c115]; decide) (by rw [c115]; rfl) (by decide) ?_
    refine go_aload_n (i := 0) (pc' := 59) dX6_holds_58 rfl rfl rfl ?_
    refine go_aload_n (i := 2) (pc' := 60) dX6_holds_59 rfl rfl rfl ?_
    refine go_aload_n (i := 3) (pc' := 61) dX6_holds_60 rfl rfl rfl ?_
    obtain ⟨v116, σ117, e118, hf⟩ := bd_some hf
    refine go_invV (As := [_, _]) (pc' := 64) dX6_holds_61 rfl cf_X6_holds_15 rfl (R.ob (R.at rfl (by decide))) rfl rfl (Nat.le_of_ble_eq_true rfl) (c_X6_doMeet R e118) (fun q119v h120 q119 => ?_)
    obtain ⟨rfl, R⟩ := q119
    refine go_if_eq (pc' := 67) (tgt := 80) dX6_holds_64 (by decide) rfl (fun c121 => ?_) (fun c121 => ?_)
    · have hf := it c121 hf
      refine go_iconst (v := 0) (pc' := 81) dX6_holds_80 rfl (by decide) ?_
      obtain rfl := Option.some.inj hf
      exact Go.ret (v := some (.int _)) dX6_holds_81 ⟨_, rfl⟩ ⟨rfl, rfl, R⟩
    · have hf := ie c121 hf
      refine go_aload_n (i := 0) (pc' := 68) dX6_holds_67 rfl rfl rfl ?_
      refine go_aload_n (i := 2) (pc' := 69) dX6_holds_68 rfl rfl rfl ?_
      refine go_aload_n (i := 3) (pc' := 70) dX6_holds_69 rfl rfl rfl ?_
      obtain ⟨v122, σ123, e124, hf⟩ := bd_some hf
      refine go_invV (As := [_, _]) (pc' := 73) dX6_holds_70 rfl cf_X6_holds_19 rfl (R.ob (R.at rfl (by decide))) rfl rfl (Nat.le_of_ble_eq_true rfl) (c_X6_doInteriorsMeet R e124) (fun q125v h126 q125 => ?_)
      obtain ⟨rfl, R⟩ := q125
      refine go_if_ne (pc' := 76) (tgt := 80) dX6_holds_73 (by decide) rfl (fun c127 => ?_) (fun c127 => ?_)
      · have hf := ie c127 hf
        refine go_iconst (v := 0) (pc' := 81) dX6_holds_80 rfl (by decide) ?_
        obtain rfl := Option.some.inj hf
        exact Go.ret (v := some (.int _)) dX6_holds_81 ⟨_, rfl⟩ ⟨rfl, rfl, R⟩
      · have hf := it c127 hf
        refine go_iconst (v := 1) (pc' := 77) dX6_holds_76 rfl (by decide) ?_
        refine go_goto (pc' := 0) (tgt := 81) dX6_holds_77 (by decide) ?_
        obtain rfl := Option.some.inj hf
        exact Go.ret (v := some (.int _)) dX6_holds_81 ⟨_, rfl⟩ ⟨rfl, rfl, R⟩
  have hf := ie c115 hf
  by_cases c128 : x1 = 3
  · have hf := it c128 hf
    refine go_tableIn (pc' := 0) (off := 81) (tgt := 82) dX6_holds_1 (by rw [c128]; decide) (by rw [c128]; decide) (by rw [c128]; rfl) (by decide) ?_
    refine go_aload_n (i := 0) (pc' := 83) dX6_holds_82 rfl rfl rfl ?_
    refine go_aload_n (i := 2) (pc' := 84) dX6_holds_83 rfl rfl rfl ?_
    refine go_aload_n (i := 3) (pc' := 85) dX6_holds_84 rfl rfl rfl ?_
    obtain ⟨v129, σ130, e131, hf⟩ := bd_some hf
    refine go_invV (As := [_, _]) (pc' := 88) dX6_holds_85 rfl cf_X6_holds_22 rfl (R.ob (R.at rfl (by decide))) rfl rfl (Nat.le_of_ble_eq_true rfl) (c_X6_isWithin R e131) (fun q132v h133 q132 => ?_)
    obtain ⟨rfl, R⟩ := q132
    obtain ⟨g134, hf⟩ := gd_some hf
    obtain rfl := Option.some.inj hf
    exact Go.ret (v := some (.int _)) dX6_holds_88 ⟨_, rfl⟩ ⟨(nb g134), rfl, R⟩
  have hf := ie c128 hf
  by_cases c135 : x1 = 4
  · have hf := it c135 hf
    refine go_tableIn (pc' := 0) (off := 88) (tgt := 89) dX6_holds_1 (by rw [c135]; decide) (by rw [c135]; decide) (by rw [c135]; rfl) (by decide) ?_
    refine go_aload_n (i := 0) (pc' := 90) dX6_holds_89 rfl rfl rfl ?_
    refine go_aload_n (i := 3) (pc' := 91) dX6_holds_90 rfl rfl rfl ?_
    refine go_aload_n (i := 2) (pc' := 92) dX6_holds_91 rfl rfl rfl ?_
    obtain ⟨v136, σ137, e138, hf⟩ := bd_some hf
    refine go_invV (As := [_, _]) (pc' := 95) dX6_holds_92 rfl cf_X6_holds_22 rfl (R.ob (R.at rfl (by decide))) rfl rfl (Nat.le_of_ble_eq_true rfl) (c_X6_isWithin R e138) (fun q139v h140 q139 => ?_)
    obtain ⟨rfl, R⟩ := q139
    obtain ⟨g141, hf⟩ := gd_some hf
    obtain rfl := Option.some.inj hf
    exact Go.ret (v := some (.int _)) dX6_holds_95 ⟨_, rfl⟩ ⟨(nb g141), rfl, R⟩
  have hf := ie c135 hf
  refine go_tableOut (pc' := 0) (tgt := 96) dX6_holds_1 (sw_out 0 4 (fun v h1 h2 h3 => ?_)) (by decide) ?_
  · rcases (show v = 0 ∨ v = 1 ∨ v = 2 ∨ v = 3 ∨ v = 4 by omega) with rfl | rfl | rfl | rfl | rfl
    · exact c101 h3
    · exact c108 h3
    · exact c115 h3
    · exact c128 h3
    · exact c135 h3
  · refine go_iconst (v := 0) (pc' := 97) dX6_holds_96 rfl (by decide) ?_
    obtain rfl := Option.some.inj hf
    exact Go.ret (v := some (.int _)) dX6_holds_97 ⟨_, rfl⟩ ⟨rfl, rfl, R⟩
def f_X10_isInPlane (n : Nat) (l0 : Int64) (σ : xσ) : Option (Int32 × xσ) := if (lg_cmp l0 ((-1073741823 : Int64))) < 0 then some (0, σ) else if 0 < (lg_cmp l0 ((1073741823 : Int64))) then some (0, σ) else some (1, σ)
set_option maxRecDepth 100000 in
set_option maxHeartbeats 4000000 in
theorem c_X10_isInPlane {G : xG} {n : Nat} {σ : xσ} {h : xH} {l0 : Int64} {v1 : Int32} {σ1 : xσ} (R : Rl n σ h) (hf : f_X10_isInPlane n l0 σ = some (v1, σ1)) : Ca G mX10_isInPlane [.long l0] h (fun v h' => v = some (.int v1) ∧ Rl n σ1 h') := by
  refine Ca.of rfl (Nat.le_of_ble_eq_true rfl) ?_
  generalize hr : (v1, σ1) = r at hf
  suffices q : Go G mX10_isInPlane 0 (xent (xMl mX10_isInPlane) [.long l0]) [] h (fun v h' => xRok (xRt mX10_isInPlane) v ∧ v = some (.int r.1) ∧ Rl n r.2 h') by
    subst hr
    exact q
  clear hr
  rw [f_X10_isInPlane] at hf
  refine go_lload_n (i := 0) (pc' := 1) dX10_isInPlane_0 rfl rfl rfl ?_
  refine go_ldc2 (pc' := 4) dX10_isInPlane_1 rfl wd_711 ?_
  refine go_lcmp (pc' := 5) dX10_isInPlane_4 rfl ?_
  refine go_if_lt (pc' := 8) (tgt := 20) dX10_isInPlane_5 (by decide) rfl (fun c101 => ?_) (fun c101 => ?_)
  · have hf := it c101 hf
    refine go_iconst (v := 0) (pc' := 21) dX10_isInPlane_20 rfl (by decide) ?_
    obtain rfl := Option.some.inj hf
    exact Go.ret (v := some (.int _)) dX10_isInPlane_21 ⟨_, rfl⟩ ⟨rfl, rfl, R⟩
  · have hf := ie c101 hf
    refine go_lload_n (i := 0) (pc' := 9) dX10_isInPlane_8 rfl rfl rfl ?_
    refine go_ldc2 (pc' := 12) dX10_isInPlane_9 rfl wd_712 ?_
    refine go_lcmp (pc' := 13) dX10_isInPlane_12 rfl ?_
    refine go_if_gt (pc' := 16) (tgt := 20) dX10_isInPlane_13 (by decide) rfl (fun c102 => ?_) (fun c102 => ?_)
    · have hf := it c102 hf
      refine go_iconst (v := 0) (pc' := 21) dX10_isInPlane_20 rfl (by decide) ?_
      obtain rfl := Option.some.inj hf
      exact Go.ret (v := some (.int _)) dX10_isInPlane_21 ⟨_, rfl⟩ ⟨rfl, rfl, R⟩
    · have hf := ie c102 hf
      refine go_iconst (v := 1) (pc' := 17) dX10_isInPlane_16 rfl (by decide) ?_
      refine go_goto (pc' := 0) (tgt := 21) dX10_isInPlane_17 (by decide) ?_
      obtain rfl := Option.some.inj hf
      exact Go.ret (v := some (.int _)) dX10_isInPlane_21 ⟨_, rfl⟩ ⟨rfl, rfl, R⟩
def f_X7_canMove (n : Nat) (a0 : Nat) (l1 : Int64) (l3 : Int64) (σ : xσ) : Option (Int32 × xσ) := gd (okS n a0) (bd (f_X10_isInPlane n (((sI σ a0 4).toInt64) + l1) σ) (fun v101 σ102 => if v101 = 0 then some (0, σ102) else bd (f_X10_isInPlane n (((sI σ102 a0 6).toInt64) + l1) σ102) (fun v107 σ108 => if v107 = 0 then some (0, σ108) else bd (f_X10_isInPlane n (((sI σ108 a0 5).toInt64) + l3) σ108) (fun v113 σ114 => if v113 = 0 then some (0, σ114) else bd (f_X10_isInPlane n (((sI σ114 a0 7).toInt64) + l3) σ114) (fun v119 σ120 => if v119 = 0 then some (0, σ120) else some (1, σ120))))))
set_option maxRecDepth 100000 in
set_option maxHeartbeats 4000000 in
theorem c_X7_canMove {G : xG} {n : Nat} {σ : xσ} {h : xH} {a0 : Nat} {l1 : Int64} {l3 : Int64} {v1 : Int32} {σ1 : xσ} (R : Rl n σ h) (hf : f_X7_canMove n a0 l1 l3 σ = some (v1, σ1)) : Ca G mX7_canMove [.ref a0, .long l1, .long l3] h (fun v h' => v = some (.int v1) ∧ Rl n σ1 h') := by
  refine Ca.of rfl (Nat.le_of_ble_eq_true rfl) ?_
  generalize hr : (v1, σ1) = r at hf
  suffices q : Go G mX7_canMove 0 (xent (xMl mX7_canMove) [.ref a0, .long l1, .long l3]) [] h (fun v h' => xRok (xRt mX7_canMove) v ∧ v = some (.int r.1) ∧ Rl n r.2 h') by
    subst hr
    exact q
  clear hr
  rw [f_X7_canMove] at hf
  obtain ⟨g0, hf⟩ := gd_some hf
  refine go_aload_n (i := 0) (pc' := 1) dX7_canMove_0 rfl rfl rfl ?_
  refine go_getS (pc' := 4) dX7_canMove_1 rfl gf_LandBase_Shape_39 R g0.at (by decide) rfl ?_
  refine go_i2l (pc' := 5) dX7_canMove_4 rfl rfl ?_
  refine go_lload_n (i := 1) (pc' := 6) dX7_canMove_5 rfl rfl rfl ?_
  refine go_ladd (pc' := 7) dX7_canMove_6 rfl ?_
  obtain ⟨v101, σ102, e103, hf⟩ := bd_some hf
  refine go_invSN (As := [_]) (pc' := 10) dX7_canMove_7 rfl cf_X7_canMove_60 rfl rfl (Nat.le_of_ble_eq_true rfl) (c_X10_isInPlane R e103) (fun q104v h105 q104 => ?_)
  obtain ⟨rfl, R⟩ := q104
  refine go_if_eq (pc' := 13) (tgt := 56) dX7_canMove_10 (by decide) rfl (fun c106 => ?_) (fun c106 => ?_)
  · have hf := it c106 hf
    refine go_iconst (v := 0) (pc' := 57) dX7_canMove_56 rfl (by decide) ?_
    obtain rfl := Option.some.inj hf
    exact Go.ret (v := some (.int _)) dX7_canMove_57 ⟨_, rfl⟩ ⟨rfl, rfl, R⟩
  · have hf := ie c106 hf
    refine go_aload_n (i := 0) (pc' := 14) dX7_canMove_13 rfl rfl rfl ?_
    refine go_getS (pc' := 17) dX7_canMove_14 rfl gf_LandBase_Shape_42 R g0.at (by decide) rfl ?_
    refine go_i2l (pc' := 18) dX7_canMove_17 rfl rfl ?_
    refine go_lload_n (i := 1) (pc' := 19) dX7_canMove_18 rfl rfl rfl ?_
    refine go_ladd (pc' := 20) dX7_canMove_19 rfl ?_
    obtain ⟨v107, σ108, e109, hf⟩ := bd_some hf
    refine go_invSN (As := [_]) (pc' := 23) dX7_canMove_20 rfl cf_X7_canMove_60 rfl rfl (Nat.le_of_ble_eq_true rfl) (c_X10_isInPlane R e109) (fun q110v h111 q110 => ?_)
    obtain ⟨rfl, R⟩ := q110
    refine go_if_eq (pc' := 26) (tgt := 56) dX7_canMove_23 (by decide) rfl (fun c112 => ?_) (fun c112 => ?_)
    · have hf := it c112 hf
      refine go_iconst (v := 0) (pc' := 57) dX7_canMove_56 rfl (by decide) ?_
      obtain rfl := Option.some.inj hf
      exact Go.ret (v := some (.int _)) dX7_canMove_57 ⟨_, rfl⟩ ⟨rfl, rfl, R⟩
    · have hf := ie c112 hf
      refine go_aload_n (i := 0) (pc' := 27) dX7_canMove_26 rfl rfl rfl ?_
      refine go_getS (pc' := 30) dX7_canMove_27 rfl gf_LandBase_Shape_45 R g0.at (by decide) rfl ?_
      refine go_i2l (pc' := 31) dX7_canMove_30 rfl rfl ?_
      refine go_lload_n (i := 3) (pc' := 32) dX7_canMove_31 rfl rfl rfl ?_
      refine go_ladd (pc' := 33) dX7_canMove_32 rfl ?_
      obtain ⟨v113, σ114, e115, hf⟩ := bd_some hf
      refine go_invSN (As := [_]) (pc' := 36) dX7_canMove_33 rfl cf_X7_canMove_60 rfl rfl (Nat.le_of_ble_eq_true rfl) (c_X10_isInPlane R e115) (fun q116v h117 q116 => ?_)
      obtain ⟨rfl, R⟩ := q116
      refine go_if_eq (pc' := 39) (tgt := 56) dX7_canMove_36 (by decide) rfl (fun c118 => ?_) (fun c118 => ?_)
      · have hf := it c118 hf
        refine go_iconst (v := 0) (pc' := 57) dX7_canMove_56 rfl (by decide) ?_
        obtain rfl := Option.some.inj hf
        exact Go.ret (v := some (.int _)) dX7_canMove_57 ⟨_, rfl⟩ ⟨rfl, rfl, R⟩
      · have hf := ie c118 hf
        refine go_aload_n (i := 0) (pc' := 40) dX7_canMove_39 rfl rfl rfl ?_
        refine go_getS (pc' := 43) dX7_canMove_40 rfl gf_LandBase_Shape_48 R g0.at (by decide) rfl ?_
        refine go_i2l (pc' := 44) dX7_canMove_43 rfl rfl ?_
        refine go_lload_n (i := 3) (pc' := 45) dX7_canMove_44 rfl rfl rfl ?_
        refine go_ladd (pc' := 46) dX7_canMove_45 rfl ?_
        obtain ⟨v119, σ120, e121, hf⟩ := bd_some hf
        refine go_invSN (As := [_]) (pc' := 49) dX7_canMove_46 rfl cf_X7_canMove_60 rfl rfl (Nat.le_of_ble_eq_true rfl) (c_X10_isInPlane R e121) (fun q122v h123 q122 => ?_)
        obtain ⟨rfl, R⟩ := q122
        refine go_if_eq (pc' := 52) (tgt := 56) dX7_canMove_49 (by decide) rfl (fun c124 => ?_) (fun c124 => ?_)
        · have hf := it c124 hf
          refine go_iconst (v := 0) (pc' := 57) dX7_canMove_56 rfl (by decide) ?_
          obtain rfl := Option.some.inj hf
          exact Go.ret (v := some (.int _)) dX7_canMove_57 ⟨_, rfl⟩ ⟨rfl, rfl, R⟩
        · have hf := ie c124 hf
          refine go_iconst (v := 1) (pc' := 53) dX7_canMove_52 rfl (by decide) ?_
          refine go_goto (pc' := 0) (tgt := 57) dX7_canMove_53 (by decide) ?_
          obtain rfl := Option.some.inj hf
          exact Go.ret (v := some (.int _)) dX7_canMove_57 ⟨_, rfl⟩ ⟨rfl, rfl, R⟩
def b_X7_copyMoved_75 (n : Nat) (k14 : Nat → Nat → Int32 → Int32 → Int32 → Int32 → xσ → Option (Unit × xσ)) (a0 : Nat) (a1 : Nat) (x2 : Int32) (x3 : Int32) (x4 : Int32) (x5 : Int32) (σ : xσ) : Option (Unit × xσ) := k14 a0 a1 x2 x3 x4 (x5 + 1) σ
set_option maxRecDepth 100000 in
set_option maxHeartbeats 4000000 in
theorem t_X7_copyMoved_75 {G : xG} {n : Nat} {k14 : Nat → Nat → Int32 → Int32 → Int32 → Int32 → xσ → Option (Unit × xσ)} (hk14 : ∀ {a0 : Nat} {a1 : Nat} {x2 : Int32} {x3 : Int32} {x4 : Int32} {x5 : Int32} {σ : xσ} {h : xH} {r : Unit × xσ}, Rl n σ h → okS n a0 → okS n a1 → k14 a0 a1 x2 x3 x4 x5 σ = some r → Go G mX7_copyMoved 14 [some (.ref a0), some (.ref a1), some (.int x2), some (.int x3), some (.int x4), some (.int x5)] [] h (fun v h' => xRok (xRt mX7_copyMoved) v ∧ v = none ∧ Rl n r.2 h')) {a0 : Nat} {a1 : Nat} {x2 : Int32} {x3 : Int32} {x4 : Int32} {x5 : Int32} {σ : xσ} {h : xH} {r : Unit × xσ} : Rl n σ h → okS n a0 → okS n a1 → b_X7_copyMoved_75 n k14 a0 a1 x2 x3 x4 x5 σ = some r → Go G mX7_copyMoved 75 [some (.ref a0), some (.ref a1), some (.int x2), some (.int x3), some (.int x4), some (.int x5)] [] h (fun v h' => xRok (xRt mX7_copyMoved) v ∧ v = none ∧ Rl n r.2 h') := by
  intro R g0 g1 hf
  rw [b_X7_copyMoved_75] at hf
  refine go_iincC (kk := 1) (pc' := 78) dX7_copyMoved_75 rfl rfl (by decide) (by decide) rfl ?_
  refine go_goto (pc' := 0) (tgt := 14) dX7_copyMoved_78 (by decide) ?_
  exact hk14 R g0 g1 hf
def l_X7_copyMoved_14 (n : Nat) : Nat → Nat → Nat → Int32 → Int32 → Int32 → Int32 → xσ → Option (Unit × xσ)
  | 0, _, _, _, _, _, _, _ => none
  | f + 1, a0, a1, x2, x3, x4, x5, σ => if (sI σ a1 1) ≤ x5 then bd (f_X7_finish n a0 σ) (fun v102 σ103 => some ((), σ103)) else gd (inb x5 40) (gd (inb x5 40) (bd (f_X7_addPlace n a0 ((sI σ (a1 + 1) x5.toNatClampNeg) + x2) ((sI σ (a1 + 2) x5.toNatClampNeg) + x3) σ) (fun v109 σ110 => if (sI σ110 a1 2) ≤ x4 then (l_X7_copyMoved_14 n f) a0 a1 x2 x3 x4 (x5 + 1) σ110 else gd (inb x4 8) (if (sI σ110 (a1 + 3) x4.toNatClampNeg) = (x5 + 1) then bd (f_X7_closeRing n a0 σ110) (fun v117 σ118 => b_X7_copyMoved_75 n (l_X7_copyMoved_14 n f) a0 a1 x2 x3 (x4 + 1) x5 σ118) else (l_X7_copyMoved_14 n f) a0 a1 x2 x3 x4 (x5 + 1) σ110))))
set_option maxRecDepth 100000 in
set_option maxHeartbeats 4000000 in
theorem t_X7_copyMoved_14 {G : xG} {n : Nat} : ∀ (f : Nat) {a0 : Nat} {a1 : Nat} {x2 : Int32} {x3 : Int32} {x4 : Int32} {x5 : Int32} {σ : xσ} {h : xH} {r : Unit × xσ}, Rl n σ h → okS n a0 → okS n a1 → l_X7_copyMoved_14 n f a0 a1 x2 x3 x4 x5 σ = some r → Go G mX7_copyMoved 14 [some (.ref a0), some (.ref a1), some (.int x2), some (.int x3), some (.int x4), some (.int x5)] [] h (fun v h' => xRok (xRt mX7_copyMoved) v ∧ v = none ∧ Rl n r.2 h') := by
  intro f
  induction f with
  | zero =>
    intros
    rename _ = some _ => hf
    rw [l_X7_copyMoved_14] at hf
    cases hf
  | succ f ih =>
    intro a0 a1 x2 x3 x4 x5 σ h r  R g0 g1 hf
    rw [l_X7_copyMoved_14] at hf
    refine go_iload (pc' := 16) dX7_copyMoved_14 rfl rfl ?_
    refine go_aload_n (i := 1) (pc' := 17) dX7_copyMoved_16 rfl rfl rfl ?_
    refine go_getS (pc' := 20) dX7_copyMoved_17 rfl gf_LandBase_Shape_29 R g1.at (by decide) rfl ?_
    refine go_icmp_ge (pc' := 23) (tgt := 81) dX7_copyMoved_20 (by decide) rfl (fun c101 => ?_) (fun c101 => ?_)
    · have hf := it c101 hf
      refine go_aload_n (i := 0) (pc' := 82) dX7_copyMoved_81 rfl rfl rfl ?_
      obtain ⟨v102, σ103, e104, hf⟩ := bd_some hf
      refine go_invV (As := []) (pc' := 85) dX7_copyMoved_82 rfl cf_X7_copyMoved_75 rfl (R.ob g0.at) rfl rfl (Nat.le_of_ble_eq_true rfl) (c_X7_finish R e104) (fun q105v h106 q105 => ?_)
      obtain ⟨rfl, R⟩ := q105
      obtain rfl := Option.some.inj hf
      exact Go.ret (v := none) dX7_copyMoved_85 rfl ⟨trivial, rfl, R⟩
    · have hf := ie c101 hf
      refine go_aload_n (i := 0) (pc' := 24) dX7_copyMoved_23 rfl rfl rfl ?_
      refine go_aload_n (i := 1) (pc' := 25) dX7_copyMoved_24 rfl rfl rfl ?_
      refine go_getS (pc' := 28) dX7_copyMoved_25 rfl gf_LandBase_Shape_9 R g1.at (by decide) rfl ?_
      refine go_iload (pc' := 30) dX7_copyMoved_28 rfl rfl ?_
      obtain ⟨g107, hf⟩ := gd_some hf
      refine go_ialoadS (pc' := 31) dX7_copyMoved_30 rfl R g1.x g107 ?_
      refine go_iload_n (i := 2) (pc' := 32) dX7_copyMoved_31 rfl rfl rfl ?_
      refine go_iadd (pc' := 33) dX7_copyMoved_32 rfl ?_
      refine go_aload_n (i := 1) (pc' := 34) dX7_copyMoved_33 rfl rfl rfl ?_
      refine go_getS (pc' := 37) dX7_copyMoved_34 rfl gf_LandBase_Shape_15 R g1.at (by decide) rfl ?_
      refine go_iload (pc' := 39) dX7_copyMoved_37 rfl rfl ?_
      obtain ⟨g108, hf⟩ := gd_some hf
      refine go_ialoadS (pc' := 40) dX7_copyMoved_39 rfl R g1.y g108 ?_
      refine go_iload_n (i := 3) (pc' := 41) dX7_copyMoved_40 rfl rfl rfl ?_
      refine go_iadd (pc' := 42) dX7_copyMoved_41 rfl ?_
      obtain ⟨v109, σ110, e111, hf⟩ := bd_some hf
      refine go_invV (As := [_, _]) (pc' := 45) dX7_copyMoved_42 rfl cf_X7_copyMoved_68 rfl (R.ob g0.at) rfl rfl (Nat.le_of_ble_eq_true rfl) (c_X7_addPlace R e111) (fun q112v h113 q112 => ?_)
      obtain ⟨rfl, R⟩ := q112
      refine go_iload (pc' := 47) dX7_copyMoved_45 rfl rfl ?_
      refine go_aload_n (i := 1) (pc' := 48) dX7_copyMoved_47 rfl rfl rfl ?_
      refine go_getS (pc' := 51) dX7_copyMoved_48 rfl gf_LandBase_Shape_32 R g1.at (by decide) rfl ?_
      refine go_icmp_ge (pc' := 54) (tgt := 75) dX7_copyMoved_51 (by decide) rfl (fun c114 => ?_) (fun c114 => ?_)
      · have hf := it c114 hf
        refine go_iincC (kk := 1) (pc' := 78) dX7_copyMoved_75 rfl rfl (by decide) (by decide) rfl ?_
        refine go_goto (pc' := 0) (tgt := 14) dX7_copyMoved_78 (by decide) ?_
        exact ih R g0 g1 hf
      · have hf := ie c114 hf
        refine go_aload_n (i := 1) (pc' := 55) dX7_copyMoved_54 rfl rfl rfl ?_
        refine go_getS (pc' := 58) dX7_copyMoved_55 rfl gf_LandBase_Shape_18 R g1.at (by decide) rfl ?_
        refine go_iload (pc' := 60) dX7_copyMoved_58 rfl rfl ?_
        obtain ⟨g115, hf⟩ := gd_some hf
        refine go_ialoadS (pc' := 61) dX7_copyMoved_60 rfl R g1.r g115 ?_
        refine go_iload (pc' := 63) dX7_copyMoved_61 rfl rfl ?_
        refine go_iconst (v := 1) (pc' := 64) dX7_copyMoved_63 rfl (by decide) ?_
        refine go_iadd (pc' := 65) dX7_copyMoved_64 rfl ?_
        refine go_icmp_ne (pc' := 68) (tgt := 75) dX7_copyMoved_65 (by decide) rfl (fun c116 => ?_) (fun c116 => ?_)
        · have hf := ie c116 hf
          refine go_iincC (kk := 1) (pc' := 78) dX7_copyMoved_75 rfl rfl (by decide) (by decide) rfl ?_
          refine go_goto (pc' := 0) (tgt := 14) dX7_copyMoved_78 (by decide) ?_
          exact ih R g0 g1 hf
        · have hf := it c116 hf
          refine go_aload_n (i := 0) (pc' := 69) dX7_copyMoved_68 rfl rfl rfl ?_
          obtain ⟨v117, σ118, e119, hf⟩ := bd_some hf
          refine go_invV (As := []) (pc' := 72) dX7_copyMoved_69 rfl cf_X7_copyMoved_72 rfl (R.ob g0.at) rfl rfl (Nat.le_of_ble_eq_true rfl) (c_X7_closeRing R e119) (fun q120v h121 q120 => ?_)
          obtain ⟨rfl, R⟩ := q120
          refine go_iincC (kk := 1) (pc' := 75) dX7_copyMoved_72 rfl rfl (by decide) (by decide) rfl ?_
          exact t_X7_copyMoved_75 @ih R g0 g1 hf
def f_X7_copyMoved (n : Nat) (a0 : Nat) (a1 : Nat) (x2 : Int32) (x3 : Int32) (σ : xσ) : Option (Unit × xσ) := gd (okS n a0) (gd (okS n a1) (bd (f_X7_start n a0 (sI σ a1 0) σ) (fun v101 σ102 => l_X7_copyMoved_14 n xFU a0 a1 x2 x3 0 0 σ102)))
set_option maxRecDepth 100000 in
set_option maxHeartbeats 4000000 in
theorem c_X7_copyMoved {G : xG} {n : Nat} {σ : xσ} {h : xH} {a0 : Nat} {a1 : Nat} {x2 : Int32} {x3 : Int32} {v1 : Unit} {σ1 : xσ} (R : Rl n σ h) (hf : f_X7_copyMoved n a0 a1 x2 x3 σ = some (v1, σ1)) : Ca G mX7_copyMoved [.ref a0, .ref a1, .int x2, .int x3] h (fun v h' => v = none ∧ Rl n σ1 h') := by
  refine Ca.of rfl (Nat.le_of_ble_eq_true rfl) ?_
  generalize hr : (v1, σ1) = r at hf
  suffices q : Go G mX7_copyMoved 0 (xent (xMl mX7_copyMoved) [.ref a0, .ref a1, .int x2, .int x3]) [] h (fun v h' => xRok (xRt mX7_copyMoved) v ∧ v = none ∧ Rl n r.2 h') by
    subst hr
    exact q
  clear hr
  rw [f_X7_copyMoved] at hf
  obtain ⟨g0, hf⟩ := gd_some hf
  obtain ⟨g1, hf⟩ := gd_some hf
  refine go_aload_n (i := 0) (pc' := 1) dX7_copyMoved_0 rfl rfl rfl ?_
  refine go_aload_n (i := 1) (pc' := 2) dX7_copyMoved_1 rfl rfl rfl ?_
  refine go_getS (pc' := 5) dX7_copyMoved_2 rfl gf_LandBase_Shape_25 R g1.at (by decide) rfl ?_
  obtain ⟨v101, σ102, e103, hf⟩ := bd_some hf
  refine go_invV (As := [_]) (pc' := 8) dX7_copyMoved_5 rfl cf_X7_copyMoved_64 rfl (R.ob g0.at) rfl rfl (Nat.le_of_ble_eq_true rfl) (c_X7_start R e103) (fun q104v h105 q104 => ?_)
  obtain ⟨rfl, R⟩ := q104
  refine go_iconst (v := 0) (pc' := 9) dX7_copyMoved_8 rfl (by decide) ?_
  refine go_istoreE rfl (pc' := 11) dX7_copyMoved_9 rfl (by decide) rfl ?_
  refine go_iconst (v := 0) (pc' := 12) dX7_copyMoved_11 rfl (by decide) ?_
  refine go_istoreE rfl (pc' := 14) dX7_copyMoved_12 rfl (by decide) rfl ?_
  exact t_X7_copyMoved_14 xFU R g0 g1 hf
def l_X8_indexOf_2 (n : Nat) : Nat → Nat → Int32 → Int32 → xσ → Option (Int32 × xσ)
  | 0, _, _, _, _ => none
  | f + 1, a0, x1, x2, σ => if (sI σ a0 2) ≤ x2 then some ((-1), σ) else gd (inb x2 200) (if (sI σ (a0 + 1) x2.toNatClampNeg) = x1 then some (x2, σ) else (l_X8_indexOf_2 n f) a0 x1 (x2 + 1) σ)
set_option maxRecDepth 100000 in
set_option maxHeartbeats 4000000 in
theorem t_X8_indexOf_2 {G : xG} {n : Nat} : ∀ (f : Nat) {a0 : Nat} {x1 : Int32} {x2 : Int32} {σ : xσ} {h : xH} {r : Int32 × xσ}, Rl n σ h → okT a0 → l_X8_indexOf_2 n f a0 x1 x2 σ = some r → Go G mX8_indexOf 2 [some (.ref a0), some (.int x1), some (.int x2)] [] h (fun v h' => xRok (xRt mX8_indexOf) v ∧ v = some (.int r.1) ∧ Rl n r.2 h') := by
  intro f
  induction f with
  | zero =>
    intros
    rename _ = some _ => hf
    rw [l_X8_indexOf_2] at hf
    cases hf
  | succ f ih =>
    intro a0 x1 x2 σ h r  R g0 hf
    rw [l_X8_indexOf_2] at hf
    refine go_iload_n (i := 2) (pc' := 3) dX8_indexOf_2 rfl rfl rfl ?_
    refine go_aload_n (i := 0) (pc' := 4) dX8_indexOf_3 rfl rfl rfl ?_
    refine go_getS (pc' := 7) dX8_indexOf_4 rfl gf_LandBase_Table_21 R (g0.at R) (by decide) rfl ?_
    refine go_icmp_ge (pc' := 10) (tgt := 28) dX8_indexOf_7 (by decide) rfl (fun c101 => ?_) (fun c101 => ?_)
    · have hf := it c101 hf
      refine go_iconst (v := (-1)) (pc' := 29) dX8_indexOf_28 rfl (by decide) ?_
      obtain rfl := Option.some.inj hf
      exact Go.ret (v := some (.int _)) dX8_indexOf_29 ⟨_, rfl⟩ ⟨rfl, rfl, R⟩
    · have hf := ie c101 hf
      refine go_aload_n (i := 0) (pc' := 11) dX8_indexOf_10 rfl rfl rfl ?_
      refine go_getS (pc' := 14) dX8_indexOf_11 rfl gf_LandBase_Table_9 R (g0.at R) (by decide) rfl ?_
      refine go_iload_n (i := 2) (pc' := 15) dX8_indexOf_14 rfl rfl rfl ?_
      obtain ⟨g102, hf⟩ := gd_some hf
      refine go_ialoadS (pc' := 16) dX8_indexOf_15 rfl R (g0.i R) g102 ?_
      refine go_iload_n (i := 1) (pc' := 17) dX8_indexOf_16 rfl rfl rfl ?_
      refine go_icmp_ne (pc' := 20) (tgt := 22) dX8_indexOf_17 (by decide) rfl (fun c103 => ?_) (fun c103 => ?_)
      · have hf := ie c103 hf
        refine go_iincC (kk := 1) (pc' := 25) dX8_indexOf_22 rfl rfl (by decide) (by decide) rfl ?_
        refine go_goto (pc' := 0) (tgt := 2) dX8_indexOf_25 (by decide) ?_
        exact ih R g0 hf
      · have hf := it c103 hf
        refine go_iload_n (i := 2) (pc' := 21) dX8_indexOf_20 rfl rfl rfl ?_
        obtain rfl := Option.some.inj hf
        exact Go.ret (v := some (.int _)) dX8_indexOf_21 ⟨_, rfl⟩ ⟨rfl, rfl, R⟩
def f_X8_indexOf (n : Nat) (a0 : Nat) (x1 : Int32) (σ : xσ) : Option (Int32 × xσ) := gd (okT a0) (l_X8_indexOf_2 n xFU a0 x1 0 σ)
set_option maxRecDepth 100000 in
set_option maxHeartbeats 4000000 in
theorem c_X8_indexOf {G : xG} {n : Nat} {σ : xσ} {h : xH} {a0 : Nat} {x1 : Int32} {v1 : Int32} {σ1 : xσ} (R : Rl n σ h) (hf : f_X8_indexOf n a0 x1 σ = some (v1, σ1)) : Ca G mX8_indexOf [.ref a0, .int x1] h (fun v h' => v = some (.int v1) ∧ Rl n σ1 h') := by
  refine Ca.of rfl (Nat.le_of_ble_eq_true rfl) ?_
  generalize hr : (v1, σ1) = r at hf
  suffices q : Go G mX8_indexOf 0 (xent (xMl mX8_indexOf) [.ref a0, .int x1]) [] h (fun v h' => xRok (xRt mX8_indexOf) v ∧ v = some (.int r.1) ∧ Rl n r.2 h') by
    subst hr
    exact q
  clear hr
  rw [f_X8_indexOf] at hf
  obtain ⟨g0, hf⟩ := gd_some hf
  refine go_iconst (v := 0) (pc' := 1) dX8_indexOf_0 rfl (by decide) ?_
  refine go_istore_nE rfl (i := 2) (pc' := 2) dX8_indexOf_1 rfl rfl (by decide) rfl ?_
  exact t_X8_indexOf_2 xFU R g0 hf
def f_X8_shapeWith (n : Nat) (a0 : Nat) (x1 : Int32) (σ : xσ) : Option (Option Nat × xσ) := gd (okT a0) (bd (f_X8_indexOf n a0 x1 σ) (fun v101 σ102 => if 0 ≤ v101 then gd (inb v101 200) (nn (sR σ102 (a0 + 2) v101.toNatClampNeg) (fun a108 => gd (okS n a108) (some (some a108, σ102)))) else some (none, σ102)))
set_option maxRecDepth 100000 in
set_option maxHeartbeats 4000000 in
theorem c_X8_shapeWith {G : xG} {n : Nat} {σ : xσ} {h : xH} {a0 : Nat} {x1 : Int32} {v1 : Option Nat} {σ1 : xσ} (R : Rl n σ h) (hf : f_X8_shapeWith n a0 x1 σ = some (v1, σ1)) : Ca G mX8_shapeWith [.ref a0, .int x1] h (fun v h' => v = some (va_rf v1) ∧ Rl n σ1 h') := by
  refine Ca.of rfl (Nat.le_of_ble_eq_true rfl) ?_
  generalize hr : (v1, σ1) = r at hf
  suffices q : Go G mX8_shapeWith 0 (xent (xMl mX8_shapeWith) [.ref a0, .int x1]) [] h (fun v h' => xRok (xRt mX8_shapeWith) v ∧ v = some (va_rf r.1) ∧ Rl n r.2 h') by
    subst hr
    exact q
  clear hr
  rw [f_X8_shapeWith] at hf
  obtain ⟨g0, hf⟩ := gd_some hf
  refine go_aload_n (i := 0) (pc' := 1) dX8_shapeWith_0 rfl rfl rfl ?_
  refine go_iload_n (i := 1) (pc' := 2) dX8_shapeWith_1 rfl rfl rfl ?_
  obtain ⟨v101, σ102, e103, hf⟩ := bd_some hf
  refine go_invV (As := [_]) (pc' := 5) dX8_shapeWith_2 rfl cf_X8_shapeWith_25 rfl (R.ob (g0.at R)) rfl rfl (Nat.le_of_ble_eq_true rfl) (c_X8_indexOf R e103) (fun q104v h105 q104 => ?_)
  obtain ⟨rfl, R⟩ := q104
  refine go_istore_nE rfl (i := 2) (pc' := 6) dX8_shapeWith_5 rfl rfl (by decide) rfl ?_
  refine go_iload_n (i := 2) (pc' := 7) dX8_shapeWith_6 rfl rfl rfl ?_
  refine go_if_ge (pc' := 10) (tgt := 14) dX8_shapeWith_7 (by decide) rfl (fun c106 => ?_) (fun c106 => ?_)
  · have hf := it c106 hf
    refine go_aload_n (i := 0) (pc' := 15) dX8_shapeWith_14 rfl rfl rfl ?_
    refine go_getS (pc' := 18) dX8_shapeWith_15 rfl gf_LandBase_Table_17 R (g0.at R) (by decide) rfl ?_
    refine go_iload_n (i := 2) (pc' := 19) dX8_shapeWith_18 rfl rfl rfl ?_
    obtain ⟨g107, hf⟩ := gd_some hf
    obtain ⟨a108, e109, hf⟩ := nn_some hf
    obtain ⟨g110, hf⟩ := gd_some hf
    refine go_aaloadS (pc' := 20) dX8_shapeWith_19 rfl (by decide) R (g0.s R) g107 e109 ?_
    obtain rfl := Option.some.inj hf
    exact Go.ret (v := some (.ref _)) dX8_shapeWith_20 (Or.inr ⟨_, rfl⟩) ⟨trivial, rfl, R⟩
  · have hf := ie c106 hf
    refine go_null (pc' := 11) dX8_shapeWith_10 rfl ?_
    refine go_goto (pc' := 0) (tgt := 20) dX8_shapeWith_11 (by decide) ?_
    obtain rfl := Option.some.inj hf
    exact Go.ret (v := some .null) dX8_shapeWith_20 (Or.inl rfl) ⟨trivial, rfl, R⟩
def l_X8_insert_16 (n : Nat) : Nat → Nat → Int32 → Nat → Int32 → xσ → Option (Unit × xσ)
  | 0, _, _, _, _, _ => none
  | f + 1, a0, x1, a2, x3, σ => if x3 ≤ 0 then gd (inb x3 200) (st (wI σ (a0 + 1) x3.toNatClampNeg x1) (fun σ103 => gd (inb x3 200) (st (wR σ103 (a0 + 2) x3.toNatClampNeg (some a2)) (fun σ107 => st (wI σ107 a2 8 ((sI σ107 a2 8) + 1)) (fun σ110 => st (wI σ110 a0 2 ((sI σ110 a0 2) + 1)) (fun σ113 => some ((), σ113))))))) else gd (inb (x3 - 1) 200) (if (sI σ (a0 + 1) (x3 - 1).toNatClampNeg) ≤ x1 then gd (inb x3 200) (st (wI σ (a0 + 1) x3.toNatClampNeg x1) (fun σ119 => gd (inb x3 200) (st (wR σ119 (a0 + 2) x3.toNatClampNeg (some a2)) (fun σ123 => st (wI σ123 a2 8 ((sI σ123 a2 8) + 1)) (fun σ126 => st (wI σ126 a0 2 ((sI σ126 a0 2) + 1)) (fun σ129 => some ((), σ129))))))) else gd (inb (x3 - 1) 200) (gd (inb x3 200) (st (wI σ (a0 + 1) x3.toNatClampNeg (sI σ (a0 + 1) (x3 - 1).toNatClampNeg)) (fun σ134 => gd (inb (x3 - 1) 200) (nn (sR σ134 (a0 + 2) (x3 - 1).toNatClampNeg) (fun a138 => gd (okS n a138) (gd (inb x3 200) (st (wR σ134 (a0 + 2) x3.toNatClampNeg (some a138)) (fun σ142 => (l_X8_insert_16 n f) a0 x1 a2 (x3 + (-1)) σ142)))))))))
set_option maxRecDepth 100000 in
set_option maxHeartbeats 4000000 in
theorem t_X8_insert_16 {G : xG} {n : Nat} : ∀ (f : Nat) {a0 : Nat} {x1 : Int32} {a2 : Nat} {x3 : Int32} {σ : xσ} {h : xH} {r : Unit × xσ}, Rl n σ h → okT a0 → okS n a2 → l_X8_insert_16 n f a0 x1 a2 x3 σ = some r → Go G mX8_insert 16 [some (.ref a0), some (.int x1), some (.ref a2), some (.int x3)] [] h (fun v h' => xRok (xRt mX8_insert) v ∧ v = none ∧ Rl n r.2 h') := by
  intro f
  induction f with
  | zero =>
    intros
    rename _ = some _ => hf
    rw [l_X8_insert_16] at hf
    cases hf
  | succ f ih =>
    intro a0 x1 a2 x3 σ h r  R g0 g2 hf
    rw [l_X8_insert_16] at hf
    refine go_iload_n (i := 3) (pc' := 17) dX8_insert_16 rfl rfl rfl ?_
    refine go_if_le (pc' := 20) (tgt := 66) dX8_insert_17 (by decide) rfl (fun c101 => ?_) (fun c101 => ?_)
    · have hf := it c101 hf
      refine go_aload_n (i := 0) (pc' := 67) dX8_insert_66 rfl rfl rfl ?_
      refine go_getS (pc' := 70) dX8_insert_67 rfl gf_LandBase_Table_9 R (g0.at R) (by decide) rfl ?_
      refine go_iload_n (i := 3) (pc' := 71) dX8_insert_70 rfl rfl rfl ?_
      refine go_iload_n (i := 1) (pc' := 72) dX8_insert_71 rfl rfl rfl ?_
      obtain ⟨g102, hf⟩ := gd_some hf
      obtain ⟨σ103, e104, hf⟩ := st_some hf
      refine go_iastoreS (pc' := 73) dX8_insert_72 rfl R (g0.i R) g102 (fun h105 R => ?_)
      have R := Rl.cast e104 R
      refine go_aload_n (i := 0) (pc' := 74) dX8_insert_73 rfl rfl rfl ?_
      refine go_getS (pc' := 77) dX8_insert_74 rfl gf_LandBase_Table_17 R (g0.at R) (by decide) rfl ?_
      refine go_iload_n (i := 3) (pc' := 78) dX8_insert_77 rfl rfl rfl ?_
      refine go_aload_n (i := 2) (pc' := 79) dX8_insert_78 rfl rfl rfl ?_
      obtain ⟨g106, hf⟩ := gd_some hf
      obtain ⟨σ107, e108, hf⟩ := st_some hf
      refine go_aastoreS (pc' := 80) dX8_insert_79 rfl (by decide) rfl rfl R (g0.s R) g2.at g106 (fun h109 R => ?_)
      have R := Rl.cast e108 R
      refine go_aload_n (i := 2) (pc' := 81) dX8_insert_80 rfl rfl rfl ?_
      refine go_dup (pc' := 82) dX8_insert_81 rfl rfl ?_
      refine go_getS (pc' := 85) dX8_insert_82 rfl gf_LandBase_Table_29 R g2.at (by decide) rfl ?_
      refine go_iconst (v := 1) (pc' := 86) dX8_insert_85 rfl (by decide) ?_
      refine go_iadd (pc' := 87) dX8_insert_86 rfl ?_
      obtain ⟨σ110, e111, hf⟩ := st_some hf
      refine go_putI (pc' := 90) dX8_insert_87 rfl pf_LandBase_Table_29 R g2.at (by decide) rfl rfl rfl (fun h112 R => ?_)
      have R := Rl.cast e111 R
      refine go_aload_n (i := 0) (pc' := 91) dX8_insert_90 rfl rfl rfl ?_
      refine go_dup (pc' := 92) dX8_insert_91 rfl rfl ?_
      refine go_getS (pc' := 95) dX8_insert_92 rfl gf_LandBase_Table_21 R (g0.at R) (by decide) rfl ?_
      refine go_iconst (v := 1) (pc' := 96) dX8_insert_95 rfl (by decide) ?_
      refine go_iadd (pc' := 97) dX8_insert_96 rfl ?_
      obtain ⟨σ113, e114, hf⟩ := st_some hf
      refine go_putI (pc' := 100) dX8_insert_97 rfl pf_LandBase_Table_21 R (g0.at R) (by decide) rfl rfl rfl (fun h115 R => ?_)
      have R := Rl.cast e114 R
      obtain rfl := Option.some.inj hf
      exact Go.ret (v := none) dX8_insert_100 rfl ⟨trivial, rfl, R⟩
    · have hf := ie c101 hf
      refine go_aload_n (i := 0) (pc' := 21) dX8_insert_20 rfl rfl rfl ?_
      refine go_getS (pc' := 24) dX8_insert_21 rfl gf_LandBase_Table_9 R (g0.at R) (by decide) rfl ?_
      refine go_iload_n (i := 3) (pc' := 25) dX8_insert_24 rfl rfl rfl ?_
      refine go_iconst (v := 1) (pc' := 26) dX8_insert_25 rfl (by decide) ?_
      refine go_isub (pc' := 27) dX8_insert_26 rfl ?_
      obtain ⟨g116, hf⟩ := gd_some hf
      refine go_ialoadS (pc' := 28) dX8_insert_27 rfl R (g0.i R) g116 ?_
      refine go_iload_n (i := 1) (pc' := 29) dX8_insert_28 rfl rfl rfl ?_
      refine go_icmp_le (pc' := 32) (tgt := 66) dX8_insert_29 (by decide) rfl (fun c117 => ?_) (fun c117 => ?_)
      · have hf := it c117 hf
        refine go_aload_n (i := 0) (pc' := 67) dX8_insert_66 rfl rfl rfl ?_
        refine go_getS (pc' := 70) dX8_insert_67 rfl gf_LandBase_Table_9 R (g0.at R) (by decide) rfl ?_
        refine go_iload_n (i := 3) (pc' := 71) dX8_insert_70 rfl rfl rfl ?_
        refine go_iload_n (i := 1) (pc' := 72) dX8_insert_71 rfl rfl rfl ?_
        obtain ⟨g118, hf⟩ := gd_some hf
        obtain ⟨σ119, e120, hf⟩ := st_some hf
        refine go_iastoreS (pc' := 73) dX8_insert_72 rfl R (g0.i R) g118 (fun h121 R => ?_)
        have R := Rl.cast e120 R
        refine go_aload_n (i := 0) (pc' := 74) dX8_insert_73 rfl rfl rfl ?_
        refine go_getS (pc' := 77) dX8_insert_74 rfl gf_LandBase_Table_17 R (g0.at R) (by decide) rfl ?_
        refine go_iload_n (i := 3) (pc' := 78) dX8_insert_77 rfl rfl rfl ?_
        refine go_aload_n (i := 2) (pc' := 79) dX8_insert_78 rfl rfl rfl ?_
        obtain ⟨g122, hf⟩ := gd_some hf
        obtain ⟨σ123, e124, hf⟩ := st_some hf
        refine go_aastoreS (pc' := 80) dX8_insert_79 rfl (by decide) rfl rfl R (g0.s R) g2.at g122 (fun h125 R => ?_)
        have R := Rl.cast e124 R
        refine go_aload_n (i := 2) (pc' := 81) dX8_insert_80 rfl rfl rfl ?_
        refine go_dup (pc' := 82) dX8_insert_81 rfl rfl ?_
        refine go_getS (pc' := 85) dX8_insert_82 rfl gf_LandBase_Table_29 R g2.at (by decide) rfl ?_
        refine go_iconst (v := 1) (pc' := 86) dX8_insert_85 rfl (by decide) ?_
        refine go_iadd (pc' := 87) dX8_insert_86 rfl ?_
        obtain ⟨σ126, e127, hf⟩ := st_some hf
        refine go_putI (pc' := 90) dX8_insert_87 rfl pf_LandBase_Table_29 R g2.at (by decide) rfl rfl rfl (fun h128 R => ?_)
        have R := Rl.cast e127 R
        refine go_aload_n (i := 0) (pc' := 91) dX8_insert_90 rfl rfl rfl ?_
        refine go_dup (pc' := 92) dX8_insert_91 rfl rfl ?_
        refine go_getS (pc' := 95) dX8_insert_92 rfl gf_LandBase_Table_21 R (g0.at R) (by decide) rfl ?_
        refine go_iconst (v := 1) (pc' := 96) dX8_insert_95 rfl (by decide) ?_
        refine go_iadd (pc' := 97) dX8_insert_96 rfl ?_
        obtain ⟨σ129, e130, hf⟩ := st_some hf
        refine go_putI (pc' := 100) dX8_insert_97 rfl pf_LandBase_Table_21 R (g0.at R) (by decide) rfl rfl rfl (fun h131 R => ?_)
        have R := Rl.cast e130 R
        obtain rfl := Option.some.inj hf
        exact Go.ret (v := none) dX8_insert_100 rfl ⟨trivial, rfl, R⟩
      · have hf := ie c117 hf
        refine go_aload_n (i := 0) (pc' := 33) dX8_insert_32 rfl rfl rfl ?_
        refine go_getS (pc' := 36) dX8_insert_33 rfl gf_LandBase_Table_9 R (g0.at R) (by decide) rfl ?_
        refine go_iload_n (i := 3) (pc' := 37) dX8_insert_36 rfl rfl rfl ?_
        refine go_aload_n (i := 0) (pc' := 38) dX8_insert_37 rfl rfl rfl ?_
        refine go_getS (pc' := 41) dX8_insert_38 rfl gf_LandBase_Table_9 R (g0.at R) (by decide) rfl ?_
        refine go_iload_n (i := 3) (pc' := 42) dX8_insert_41 rfl rfl rfl ?_
        refine go_iconst (v := 1) (pc' := 43) dX8_insert_42 rfl (by decide) ?_
        refine go_isub (pc' := 44) dX8_insert_43 rfl ?_
        obtain ⟨g132, hf⟩ := gd_some hf
        refine go_ialoadS (pc' := 45) dX8_insert_44 rfl R (g0.i R) g132 ?_
        obtain ⟨g133, hf⟩ := gd_some hf
        obtain ⟨σ134, e135, hf⟩ := st_some hf
        refine go_iastoreS (pc' := 46) dX8_insert_45 rfl R (g0.i R) g133 (fun h136 R => ?_)
        have R := Rl.cast e135 R
        refine go_aload_n (i := 0) (pc' := 47) dX8_insert_46 rfl rfl rfl ?_
        refine go_getS (pc' := 50) dX8_insert_47 rfl gf_LandBase_Table_17 R (g0.at R) (by decide) rfl ?_
        refine go_iload_n (i := 3) (pc' := 51) dX8_insert_50 rfl rfl rfl ?_
        refine go_aload_n (i := 0) (pc' := 52) dX8_insert_51 rfl rfl rfl ?_
        refine go_getS (pc' := 55) dX8_insert_52 rfl gf_LandBase_Table_17 R (g0.at R) (by decide) rfl ?_
        refine go_iload_n (i := 3) (pc' := 56) dX8_insert_55 rfl rfl rfl ?_
        refine go_iconst (v := 1) (pc' := 57) dX8_insert_56 rfl (by decide) ?_
        refine go_isub (pc' := 58) dX8_insert_57 rfl ?_
        obtain ⟨g137, hf⟩ := gd_some hf
        obtain ⟨a138, e139, hf⟩ := nn_some hf
        obtain ⟨g140, hf⟩ := gd_some hf
        refine go_aaloadS (pc' := 59) dX8_insert_58 rfl (by decide) R (g0.s R) g137 e139 ?_
        obtain ⟨g141, hf⟩ := gd_some hf
        obtain ⟨σ142, e143, hf⟩ := st_some hf
        refine go_aastoreS (pc' := 60) dX8_insert_59 rfl (by decide) rfl rfl R (g0.s R) g140.at g141 (fun h144 R => ?_)
        have R := Rl.cast e143 R
        refine go_iincC (kk := (-1)) (pc' := 63) dX8_insert_60 rfl rfl (by decide) (by decide) rfl ?_
        refine go_goto (pc' := 0) (tgt := 16) dX8_insert_63 (by decide) ?_
        exact ih R g0 g2 hf
def f_X8_insert (n : Nat) (a0 : Nat) (x1 : Int32) (a2 : Nat) (σ : xσ) : Option (Unit × xσ) := gd (okT a0) (gd (okS n a2) (if (sI σ a0 2) < 200 then st (sI σ a0 2) (fun x102 => l_X8_insert_16 n xFU a0 x1 a2 x102 σ) else some ((), σ)))
set_option maxRecDepth 100000 in
set_option maxHeartbeats 4000000 in
theorem c_X8_insert {G : xG} {n : Nat} {σ : xσ} {h : xH} {a0 : Nat} {x1 : Int32} {a2 : Nat} {v1 : Unit} {σ1 : xσ} (R : Rl n σ h) (hf : f_X8_insert n a0 x1 a2 σ = some (v1, σ1)) : Ca G mX8_insert [.ref a0, .int x1, .ref a2] h (fun v h' => v = none ∧ Rl n σ1 h') := by
  refine Ca.of rfl (Nat.le_of_ble_eq_true rfl) ?_
  generalize hr : (v1, σ1) = r at hf
  suffices q : Go G mX8_insert 0 (xent (xMl mX8_insert) [.ref a0, .int x1, .ref a2]) [] h (fun v h' => xRok (xRt mX8_insert) v ∧ v = none ∧ Rl n r.2 h') by
    subst hr
    exact q
  clear hr
  rw [f_X8_insert] at hf
  obtain ⟨g0, hf⟩ := gd_some hf
  obtain ⟨g2, hf⟩ := gd_some hf
  refine go_aload_n (i := 0) (pc' := 1) dX8_insert_0 rfl rfl rfl ?_
  refine go_getS (pc' := 4) dX8_insert_1 rfl gf_LandBase_Table_21 R (g0.at R) (by decide) rfl ?_
  refine go_sipush (v := 200) (pc' := 7) dX8_insert_4 rfl (by decide) ?_
  refine go_icmp_lt (pc' := 10) (tgt := 11) dX8_insert_7 (by decide) rfl (fun c101 => ?_) (fun c101 => ?_)
  · have hf := it c101 hf
    refine go_aload_n (i := 0) (pc' := 12) dX8_insert_11 rfl rfl rfl ?_
    refine go_getS (pc' := 15) dX8_insert_12 rfl gf_LandBase_Table_21 R (g0.at R) (by decide) rfl ?_
    obtain ⟨x102, e103, hf⟩ := st_some hf
    refine go_istore_nE e103 (i := 3) (pc' := 16) dX8_insert_15 rfl rfl (by decide) rfl ?_
    exact t_X8_insert_16 xFU R g0 g2 hf
  · have hf := ie c101 hf
    obtain rfl := Option.some.inj hf
    exact Go.ret (v := none) dX8_insert_10 rfl ⟨trivial, rfl, R⟩
def f_X8_replace (n : Nat) (a0 : Nat) (x1 : Int32) (a2 : Nat) (σ : xσ) : Option (Unit × xσ) := gd (okT a0) (gd (okS n a2) (if x1 < 0 then some ((), σ) else if x1 < (sI σ a0 2) then gd (inb x1 200) (nn (sR σ (a0 + 2) x1.toNatClampNeg) (fun a104 => gd (okS n a104) (st (wI σ a104 8 ((sI σ a104 8) - 1)) (fun σ107 => gd (inb x1 200) (st (wR σ107 (a0 + 2) x1.toNatClampNeg (some a2)) (fun σ111 => st (wI σ111 a2 8 ((sI σ111 a2 8) + 1)) (fun σ114 => some ((), σ114)))))))) else some ((), σ)))
set_option maxRecDepth 100000 in
set_option maxHeartbeats 4000000 in
theorem c_X8_replace {G : xG} {n : Nat} {σ : xσ} {h : xH} {a0 : Nat} {x1 : Int32} {a2 : Nat} {v1 : Unit} {σ1 : xσ} (R : Rl n σ h) (hf : f_X8_replace n a0 x1 a2 σ = some (v1, σ1)) : Ca G mX8_replace [.ref a0, .int x1, .ref a2] h (fun v h' => v = none ∧ Rl n σ1 h') := by
  refine Ca.of rfl (Nat.le_of_ble_eq_true rfl) ?_
  generalize hr : (v1, σ1) = r at hf
  suffices q : Go G mX8_replace 0 (xent (xMl mX8_replace) [.ref a0, .int x1, .ref a2]) [] h (fun v h' => xRok (xRt mX8_replace) v ∧ v = none ∧ Rl n r.2 h') by
    subst hr
    exact q
  clear hr
  rw [f_X8_replace] at hf
  obtain ⟨g0, hf⟩ := gd_some hf
  obtain ⟨g2, hf⟩ := gd_some hf
  refine go_iload_n (i := 1) (pc' := 1) dX8_replace_0 rfl rfl rfl ?_
  refine go_if_lt (pc' := 4) (tgt := 12) dX8_replace_1 (by decide) rfl (fun c101 => ?_) (fun c101 => ?_)
  · have hf := it c101 hf
    obtain rfl := Option.some.inj hf
    exact Go.ret (v := none) dX8_replace_12 rfl ⟨trivial, rfl, R⟩
  · have hf := ie c101 hf
    refine go_iload_n (i := 1) (pc' := 5) dX8_replace_4 rfl rfl rfl ?_
    refine go_aload_n (i := 0) (pc' := 6) dX8_replace_5 rfl rfl rfl ?_
    refine go_getS (pc' := 9) dX8_replace_6 rfl gf_LandBase_Table_21 R (g0.at R) (by decide) rfl ?_
    refine go_icmp_lt (pc' := 12) (tgt := 13) dX8_replace_9 (by decide) rfl (fun c102 => ?_) (fun c102 => ?_)
    · have hf := it c102 hf
      refine go_aload_n (i := 0) (pc' := 14) dX8_replace_13 rfl rfl rfl ?_
      refine go_getS (pc' := 17) dX8_replace_14 rfl gf_LandBase_Table_17 R (g0.at R) (by decide) rfl ?_
      refine go_iload_n (i := 1) (pc' := 18) dX8_replace_17 rfl rfl rfl ?_
      obtain ⟨g103, hf⟩ := gd_some hf
      obtain ⟨a104, e105, hf⟩ := nn_some hf
      obtain ⟨g106, hf⟩ := gd_some hf
      refine go_aaloadS (pc' := 19) dX8_replace_18 rfl (by decide) R (g0.s R) g103 e105 ?_
      refine go_dup (pc' := 20) dX8_replace_19 rfl rfl ?_
      refine go_getS (pc' := 23) dX8_replace_20 rfl gf_LandBase_Table_29 R g106.at (by decide) rfl ?_
      refine go_iconst (v := 1) (pc' := 24) dX8_replace_23 rfl (by decide) ?_
      refine go_isub (pc' := 25) dX8_replace_24 rfl ?_
      obtain ⟨σ107, e108, hf⟩ := st_some hf
      refine go_putI (pc' := 28) dX8_replace_25 rfl pf_LandBase_Table_29 R g106.at (by decide) rfl rfl rfl (fun h109 R => ?_)
      have R := Rl.cast e108 R
      refine go_aload_n (i := 0) (pc' := 29) dX8_replace_28 rfl rfl rfl ?_
      refine go_getS (pc' := 32) dX8_replace_29 rfl gf_LandBase_Table_17 R (g0.at R) (by decide) rfl ?_
      refine go_iload_n (i := 1) (pc' := 33) dX8_replace_32 rfl rfl rfl ?_
      refine go_aload_n (i := 2) (pc' := 34) dX8_replace_33 rfl rfl rfl ?_
      obtain ⟨g110, hf⟩ := gd_some hf
      obtain ⟨σ111, e112, hf⟩ := st_some hf
      refine go_aastoreS (pc' := 35) dX8_replace_34 rfl (by decide) rfl rfl R (g0.s R) g2.at g110 (fun h113 R => ?_)
      have R := Rl.cast e112 R
      refine go_aload_n (i := 2) (pc' := 36) dX8_replace_35 rfl rfl rfl ?_
      refine go_dup (pc' := 37) dX8_replace_36 rfl rfl ?_
      refine go_getS (pc' := 40) dX8_replace_37 rfl gf_LandBase_Table_29 R g2.at (by decide) rfl ?_
      refine go_iconst (v := 1) (pc' := 41) dX8_replace_40 rfl (by decide) ?_
      refine go_iadd (pc' := 42) dX8_replace_41 rfl ?_
      obtain ⟨σ114, e115, hf⟩ := st_some hf
      refine go_putI (pc' := 45) dX8_replace_42 rfl pf_LandBase_Table_29 R g2.at (by decide) rfl rfl rfl (fun h116 R => ?_)
      have R := Rl.cast e115 R
      obtain rfl := Option.some.inj hf
      exact Go.ret (v := none) dX8_replace_45 rfl ⟨trivial, rfl, R⟩
    · have hf := ie c102 hf
      obtain rfl := Option.some.inj hf
      exact Go.ret (v := none) dX8_replace_12 rfl ⟨trivial, rfl, R⟩
def l_X8_removeAt_40 (n : Nat) : Nat → Nat → Int32 → xσ → Option (Unit × xσ)
  | 0, _, _, _ => none
  | f + 1, a0, x2, σ => if (sI σ a0 2) ≤ x2 then some ((), σ) else gd (inb (x2 + 1) 200) (gd (inb x2 200) (st (wI σ (a0 + 1) x2.toNatClampNeg (sI σ (a0 + 1) (x2 + 1).toNatClampNeg)) (fun σ104 => gd (inb (x2 + 1) 200) (nn (sR σ104 (a0 + 2) (x2 + 1).toNatClampNeg) (fun a108 => gd (okS n a108) (gd (inb x2 200) (st (wR σ104 (a0 + 2) x2.toNatClampNeg (some a108)) (fun σ112 => (l_X8_removeAt_40 n f) a0 (x2 + 1) σ112))))))))
set_option maxRecDepth 100000 in
set_option maxHeartbeats 4000000 in
theorem t_X8_removeAt_40 {G : xG} {n : Nat} : ∀ (f : Nat) {a0 : Nat} {x2 : Int32} {σ : xσ} {h : xH} {r : Unit × xσ} {d1 : Option Value}, Rl n σ h → okT a0 → l_X8_removeAt_40 n f a0 x2 σ = some r → Go G mX8_removeAt 40 [some (.ref a0), d1, some (.int x2)] [] h (fun v h' => xRok (xRt mX8_removeAt) v ∧ v = none ∧ Rl n r.2 h') := by
  intro f
  induction f with
  | zero =>
    intros
    rename _ = some _ => hf
    rw [l_X8_removeAt_40] at hf
    cases hf
  | succ f ih =>
    intro a0 x2 σ h r d1 R g0 hf
    rw [l_X8_removeAt_40] at hf
    refine go_iload_n (i := 2) (pc' := 41) dX8_removeAt_40 rfl rfl rfl ?_
    refine go_aload_n (i := 0) (pc' := 42) dX8_removeAt_41 rfl rfl rfl ?_
    refine go_getS (pc' := 45) dX8_removeAt_42 rfl gf_LandBase_Table_21 R (g0.at R) (by decide) rfl ?_
    refine go_icmp_ge (pc' := 48) (tgt := 82) dX8_removeAt_45 (by decide) rfl (fun c101 => ?_) (fun c101 => ?_)
    · have hf := it c101 hf
      obtain rfl := Option.some.inj hf
      exact Go.ret (v := none) dX8_removeAt_82 rfl ⟨trivial, rfl, R⟩
    · have hf := ie c101 hf
      refine go_aload_n (i := 0) (pc' := 49) dX8_removeAt_48 rfl rfl rfl ?_
      refine go_getS (pc' := 52) dX8_removeAt_49 rfl gf_LandBase_Table_9 R (g0.at R) (by decide) rfl ?_
      refine go_iload_n (i := 2) (pc' := 53) dX8_removeAt_52 rfl rfl rfl ?_
      refine go_aload_n (i := 0) (pc' := 54) dX8_removeAt_53 rfl rfl rfl ?_
      refine go_getS (pc' := 57) dX8_removeAt_54 rfl gf_LandBase_Table_9 R (g0.at R) (by decide) rfl ?_
      refine go_iload_n (i := 2) (pc' := 58) dX8_removeAt_57 rfl rfl rfl ?_
      refine go_iconst (v := 1) (pc' := 59) dX8_removeAt_58 rfl (by decide) ?_
      refine go_iadd (pc' := 60) dX8_removeAt_59 rfl ?_
      obtain ⟨g102, hf⟩ := gd_some hf
      refine go_ialoadS (pc' := 61) dX8_removeAt_60 rfl R (g0.i R) g102 ?_
      obtain ⟨g103, hf⟩ := gd_some hf
      obtain ⟨σ104, e105, hf⟩ := st_some hf
      refine go_iastoreS (pc' := 62) dX8_removeAt_61 rfl R (g0.i R) g103 (fun h106 R => ?_)
      have R := Rl.cast e105 R
      refine go_aload_n (i := 0) (pc' := 63) dX8_removeAt_62 rfl rfl rfl ?_
      refine go_getS (pc' := 66) dX8_removeAt_63 rfl gf_LandBase_Table_17 R (g0.at R) (by decide) rfl ?_
      refine go_iload_n (i := 2) (pc' := 67) dX8_removeAt_66 rfl rfl rfl ?_
      refine go_aload_n (i := 0) (pc' := 68) dX8_removeAt_67 rfl rfl rfl ?_
      refine go_getS (pc' := 71) dX8_removeAt_68 rfl gf_LandBase_Table_17 R (g0.at R) (by decide) rfl ?_
      refine go_iload_n (i := 2) (pc' := 72) dX8_removeAt_71 rfl rfl rfl ?_
      refine go_iconst (v := 1) (pc' := 73) dX8_removeAt_72 rfl (by decide) ?_
      refine go_iadd (pc' := 74) dX8_removeAt_73 rfl ?_
      obtain ⟨g107, hf⟩ := gd_some hf
      obtain ⟨a108, e109, hf⟩ := nn_some hf
      obtain ⟨g110, hf⟩ := gd_some hf
      refine go_aaloadS (pc' := 75) dX8_removeAt_74 rfl (by decide) R (g0.s R) g107 e109 ?_
      obtain ⟨g111, hf⟩ := gd_some hf
      obtain ⟨σ112, e113, hf⟩ := st_some hf
      refine go_aastoreS (pc' := 76) dX8_removeAt_75 rfl (by decide) rfl rfl R (g0.s R) g110.at g111 (fun h114 R => ?_)
      have R := Rl.cast e113 R
      refine go_iincC (kk := 1) (pc' := 79) dX8_removeAt_76 rfl rfl (by decide) (by decide) rfl ?_
      refine go_goto (pc' := 0) (tgt := 40) dX8_removeAt_79 (by decide) ?_
      exact ih R g0 hf
def f_X8_removeAt (n : Nat) (a0 : Nat) (x1 : Int32) (σ : xσ) : Option (Unit × xσ) := gd (okT a0) (if x1 < 0 then some ((), σ) else if x1 < (sI σ a0 2) then gd (inb x1 200) (nn (sR σ (a0 + 2) x1.toNatClampNeg) (fun a104 => gd (okS n a104) (st (wI σ a104 8 ((sI σ a104 8) - 1)) (fun σ107 => st (wI σ107 a0 2 ((sI σ107 a0 2) - 1)) (fun σ110 => l_X8_removeAt_40 n xFU a0 x1 σ110))))) else some ((), σ))
set_option maxRecDepth 100000 in
set_option maxHeartbeats 4000000 in
theorem c_X8_removeAt {G : xG} {n : Nat} {σ : xσ} {h : xH} {a0 : Nat} {x1 : Int32} {v1 : Unit} {σ1 : xσ} (R : Rl n σ h) (hf : f_X8_removeAt n a0 x1 σ = some (v1, σ1)) : Ca G mX8_removeAt [.ref a0, .int x1] h (fun v h' => v = none ∧ Rl n σ1 h') := by
  refine Ca.of rfl (Nat.le_of_ble_eq_true rfl) ?_
  generalize hr : (v1, σ1) = r at hf
  suffices q : Go G mX8_removeAt 0 (xent (xMl mX8_removeAt) [.ref a0, .int x1]) [] h (fun v h' => xRok (xRt mX8_removeAt) v ∧ v = none ∧ Rl n r.2 h') by
    subst hr
    exact q
  clear hr
  rw [f_X8_removeAt] at hf
  obtain ⟨g0, hf⟩ := gd_some hf
  refine go_iload_n (i := 1) (pc' := 1) dX8_removeAt_0 rfl rfl rfl ?_
  refine go_if_lt (pc' := 4) (tgt := 12) dX8_removeAt_1 (by decide) rfl (fun c101 => ?_) (fun c101 => ?_)
  · have hf := it c101 hf
    obtain rfl := Option.some.inj hf
    exact Go.ret (v := none) dX8_removeAt_12 rfl ⟨trivial, rfl, R⟩
  · have hf := ie c101 hf
    refine go_iload_n (i := 1) (pc' := 5) dX8_removeAt_4 rfl rfl rfl ?_
    refine go_aload_n (i := 0) (pc' := 6) dX8_removeAt_5 rfl rfl rfl ?_
    refine go_getS (pc' := 9) dX8_removeAt_6 rfl gf_LandBase_Table_21 R (g0.at R) (by decide) rfl ?_
    refine go_icmp_lt (pc' := 12) (tgt := 13) dX8_removeAt_9 (by decide) rfl (fun c102 => ?_) (fun c102 => ?_)
    · have hf := it c102 hf
      refine go_aload_n (i := 0) (pc' := 14) dX8_removeAt_13 rfl rfl rfl ?_
      refine go_getS (pc' := 17) dX8_removeAt_14 rfl gf_LandBase_Table_17 R (g0.at R) (by decide) rfl ?_
      refine go_iload_n (i := 1) (pc' := 18) dX8_removeAt_17 rfl rfl rfl ?_
      obtain ⟨g103, hf⟩ := gd_some hf
      obtain ⟨a104, e105, hf⟩ := nn_some hf
      obtain ⟨g106, hf⟩ := gd_some hf
      refine go_aaloadS (pc' := 19) dX8_removeAt_18 rfl (by decide) R (g0.s R) g103 e105 ?_
      refine go_dup (pc' := 20) dX8_removeAt_19 rfl rfl ?_
      refine go_getS (pc' := 23) dX8_removeAt_20 rfl gf_LandBase_Table_29 R g106.at (by decide) rfl ?_
      refine go_iconst (v := 1) (pc' := 24) dX8_removeAt_23 rfl (by decide) ?_
      refine go_isub (pc' := 25) dX8_removeAt_24 rfl ?_
      obtain ⟨σ107, e108, hf⟩ := st_some hf
      refine go_putI (pc' := 28) dX8_removeAt_25 rfl pf_LandBase_Table_29 R g106.at (by decide) rfl rfl rfl (fun h109 R => ?_)
      have R := Rl.cast e108 R
      refine go_aload_n (i := 0) (pc' := 29) dX8_removeAt_28 rfl rfl rfl ?_
      refine go_dup (pc' := 30) dX8_removeAt_29 rfl rfl ?_
      refine go_getS (pc' := 33) dX8_removeAt_30 rfl gf_LandBase_Table_21 R (g0.at R) (by decide) rfl ?_
      refine go_iconst (v := 1) (pc' := 34) dX8_removeAt_33 rfl (by decide) ?_
      refine go_isub (pc' := 35) dX8_removeAt_34 rfl ?_
      obtain ⟨σ110, e111, hf⟩ := st_some hf
      refine go_putI (pc' := 38) dX8_removeAt_35 rfl pf_LandBase_Table_21 R (g0.at R) (by decide) rfl rfl rfl (fun h112 R => ?_)
      have R := Rl.cast e111 R
      refine go_iload_n (i := 1) (pc' := 39) dX8_removeAt_38 rfl rfl rfl ?_
      refine go_istore_nE rfl (i := 2) (pc' := 40) dX8_removeAt_39 rfl rfl (by decide) rfl ?_
      exact t_X8_removeAt_40 xFU R g0 hf
    · have hf := ie c102 hf
      obtain rfl := Option.some.inj hf
      exact Go.ret (v := none) dX8_removeAt_12 rfl ⟨trivial, rfl, R⟩
def l_X9_append_3 (n : Nat) : Nat → Int64 → Int32 → xσ → Option (Unit × xσ)
  | 0, _, _, _ => none
  | f + 1, l1, x3, σ => if x3 < 0 then some ((), σ) else if 4000 ≤ (sI σ 1 1) then some ((), σ) else gd (inb (sI σ 1 1) 4000) (st (wI σ 2 (sI σ 1 1).toNatClampNeg (vp_nar .byte ((((l1.toUInt64 >>> (x3.toInt64.toUInt64 &&& Int64.toUInt64 63)).toInt64).toInt32).toInt8.toInt32))) (fun σ104 => st (wI σ104 1 1 ((sI σ104 1 1) + 1)) (fun σ107 => (l_X9_append_3 n f) l1 (x3 + (-8)) σ107)))
set_option maxRecDepth 100000 in
set_option maxHeartbeats 4000000 in
theorem t_X9_append_3 {G : xG} {n : Nat} : ∀ (f : Nat) {l1 : Int64} {x3 : Int32} {σ : xσ} {h : xH} {r : Unit × xσ}, Rl n σ h → l_X9_append_3 n f l1 x3 σ = some r → Go G mX9_append 3 [some (.ref 1), some (.long l1), none, some (.int x3)] [] h (fun v h' => xRok (xRt mX9_append) v ∧ v = none ∧ Rl n r.2 h') := by
  intro f
  induction f with
  | zero =>
    intros
    rename _ = some _ => hf
    rw [l_X9_append_3] at hf
    cases hf
  | succ f ih =>
    intro l1 x3 σ h r  R hf
    rw [l_X9_append_3] at hf
    refine go_iload_n (i := 3) (pc' := 4) dX9_append_3 rfl rfl rfl ?_
    refine go_if_lt (pc' := 7) (tgt := 47) dX9_append_4 (by decide) rfl (fun c101 => ?_) (fun c101 => ?_)
    · have hf := it c101 hf
      obtain rfl := Option.some.inj hf
      exact Go.ret (v := none) dX9_append_47 rfl ⟨trivial, rfl, R⟩
    · have hf := ie c101 hf
      refine go_aload_n (i := 0) (pc' := 8) dX9_append_7 rfl rfl rfl ?_
      refine go_getS (pc' := 11) dX9_append_8 rfl gf_LandBase_Tape_15 R (R.at rfl (by decide)) (by decide) rfl ?_
      refine go_sipush (v := 4000) (pc' := 14) dX9_append_11 rfl (by decide) ?_
      refine go_icmp_ge (pc' := 17) (tgt := 47) dX9_append_14 (by decide) rfl (fun c102 => ?_) (fun c102 => ?_)
      · have hf := it c102 hf
        obtain rfl := Option.some.inj hf
        exact Go.ret (v := none) dX9_append_47 rfl ⟨trivial, rfl, R⟩
      · have hf := ie c102 hf
        refine go_aload_n (i := 0) (pc' := 18) dX9_append_17 rfl rfl rfl ?_
        refine go_getS (pc' := 21) dX9_append_18 rfl gf_LandBase_Tape_9 R (R.at rfl (by decide)) (by decide) rfl ?_
        refine go_aload_n (i := 0) (pc' := 22) dX9_append_21 rfl rfl rfl ?_
        refine go_getS (pc' := 25) dX9_append_22 rfl gf_LandBase_Tape_15 R (R.at rfl (by decide)) (by decide) rfl ?_
        refine go_lload_n (i := 1) (pc' := 26) dX9_append_25 rfl rfl rfl ?_
        refine go_iload_n (i := 3) (pc' := 27) dX9_append_26 rfl rfl rfl ?_
        refine go_lushr (pc' := 28) dX9_append_27 rfl rfl ?_
        refine go_l2i (pc' := 29) dX9_append_28 rfl rfl ?_
        refine go_i2b (pc' := 30) dX9_append_29 rfl rfl ?_
        obtain ⟨g103, hf⟩ := gd_some hf
        obtain ⟨σ104, e105, hf⟩ := st_some hf
        refine go_bastoreS (pc' := 31) dX9_append_30 rfl R (R.aa rfl (by decide)) g103 (fun h106 R => ?_)
        have R := Rl.cast e105 R
        refine go_aload_n (i := 0) (pc' := 32) dX9_append_31 rfl rfl rfl ?_
        refine go_dup (pc' := 33) dX9_append_32 rfl rfl ?_
        refine go_getS (pc' := 36) dX9_append_33 rfl gf_LandBase_Tape_15 R (R.at rfl (by decide)) (by decide) rfl ?_
        refine go_iconst (v := 1) (pc' := 37) dX9_append_36 rfl (by decide) ?_
        refine go_iadd (pc' := 38) dX9_append_37 rfl ?_
        obtain ⟨σ107, e108, hf⟩ := st_some hf
        refine go_putI (pc' := 41) dX9_append_38 rfl pf_LandBase_Tape_15 R (R.at rfl (by decide)) (by decide) rfl rfl rfl (fun h109 R => ?_)
        have R := Rl.cast e108 R
        refine go_iincC (kk := (-8)) (pc' := 44) dX9_append_41 rfl rfl (by decide) (by decide) rfl ?_
        refine go_goto (pc' := 0) (tgt := 3) dX9_append_44 (by decide) ?_
        exact ih R hf
def f_X9_append (n : Nat) (l1 : Int64) (σ : xσ) : Option (Unit × xσ) := l_X9_append_3 n xFU l1 56 σ
set_option maxRecDepth 100000 in
set_option maxHeartbeats 4000000 in
theorem c_X9_append {G : xG} {n : Nat} {σ : xσ} {h : xH} {l1 : Int64} {v1 : Unit} {σ1 : xσ} (R : Rl n σ h) (hf : f_X9_append n l1 σ = some (v1, σ1)) : Ca G mX9_append [.ref 1, .long l1] h (fun v h' => v = none ∧ Rl n σ1 h') := by
  refine Ca.of rfl (Nat.le_of_ble_eq_true rfl) ?_
  generalize hr : (v1, σ1) = r at hf
  suffices q : Go G mX9_append 0 (xent (xMl mX9_append) [.ref 1, .long l1]) [] h (fun v h' => xRok (xRt mX9_append) v ∧ v = none ∧ Rl n r.2 h') by
    subst hr
    exact q
  clear hr
  rw [f_X9_append] at hf
  refine go_bipush (v := 56) (pc' := 2) dX9_append_0 rfl (by decide) ?_
  refine go_istore_nE rfl (i := 3) (pc' := 3) dX9_append_2 rfl rfl (by decide) rfl ?_
  exact t_X9_append_3 xFU R hf
def f_X9_clear (n : Nat)  (σ : xσ) : Option (Unit × xσ) := st (wI σ 1 1 0) (fun σ101 => some ((), σ101))
set_option maxRecDepth 100000 in
set_option maxHeartbeats 4000000 in
theorem c_X9_clear {G : xG} {n : Nat} {σ : xσ} {h : xH}  {v1 : Unit} {σ1 : xσ} (R : Rl n σ h) (hf : f_X9_clear n σ = some (v1, σ1)) : Ca G mX9_clear [.ref 1] h (fun v h' => v = none ∧ Rl n σ1 h') := by
  refine Ca.of rfl (Nat.le_of_ble_eq_true rfl) ?_
  generalize hr : (v1, σ1) = r at hf
  suffices q : Go G mX9_clear 0 (xent (xMl mX9_clear) [.ref 1]) [] h (fun v h' => xRok (xRt mX9_clear) v ∧ v = none ∧ Rl n r.2 h') by
    subst hr
    exact q
  clear hr
  rw [f_X9_clear] at hf
  refine go_aload_n (i := 0) (pc' := 1) dX9_clear_0 rfl rfl rfl ?_
  refine go_iconst (v := 0) (pc' := 2) dX9_clear_1 rfl (by decide) ?_
  obtain ⟨σ101, e102, hf⟩ := st_some hf
  refine go_putI (pc' := 5) dX9_clear_2 rfl pf_LandBase_Tape_15 R (R.at rfl (by decide)) (by decide) rfl rfl rfl (fun h103 R => ?_)
  have R := Rl.cast e102 R
  obtain rfl := Option.some.inj hf
  exact Go.ret (v := none) dX9_clear_5 rfl ⟨trivial, rfl, R⟩
def f_X9_rewind (n : Nat)  (σ : xσ) : Option (Unit × xσ) := st (wI σ 1 4 0) (fun σ101 => bd (f_X9_advance n σ101) (fun v104 σ105 => some ((), σ105)))
set_option maxRecDepth 100000 in
set_option maxHeartbeats 4000000 in
theorem c_X9_rewind {G : xG} {n : Nat} {σ : xσ} {h : xH}  {v1 : Unit} {σ1 : xσ} (R : Rl n σ h) (hf : f_X9_rewind n σ = some (v1, σ1)) : Ca G mX9_rewind [.ref 1] h (fun v h' => v = none ∧ Rl n σ1 h') := by
  refine Ca.of rfl (Nat.le_of_ble_eq_true rfl) ?_
  generalize hr : (v1, σ1) = r at hf
  suffices q : Go G mX9_rewind 0 (xent (xMl mX9_rewind) [.ref 1]) [] h (fun v h' => xRok (xRt mX9_rewind) v ∧ v = none ∧ Rl n r.2 h') by
    subst hr
    exact q
  clear hr
  rw [f_X9_rewind] at hf
  refine go_aload_n (i := 0) (pc' := 1) dX9_rewind_0 rfl rfl rfl ?_
  refine go_iconst (v := 0) (pc' := 2) dX9_rewind_1 rfl (by decide) ?_
  obtain ⟨σ101, e102, hf⟩ := st_some hf
  refine go_putI (pc' := 5) dX9_rewind_2 rfl pf_LandBase_Tape_19 R (R.at rfl (by decide)) (by decide) rfl rfl rfl (fun h103 R => ?_)
  have R := Rl.cast e102 R
  refine go_aload_n (i := 0) (pc' := 6) dX9_rewind_5 rfl rfl rfl ?_
  obtain ⟨v104, σ105, e106, hf⟩ := bd_some hf
  refine go_invV (As := []) (pc' := 9) dX9_rewind_6 rfl cf_X9_rewind_22 rfl (R.ob (R.at rfl (by decide))) rfl rfl (Nat.le_of_ble_eq_true rfl) (c_X9_advance R e106) (fun q107v h108 q107 => ?_)
  obtain ⟨rfl, R⟩ := q107
  obtain rfl := Option.some.inj hf
  exact Go.ret (v := none) dX9_rewind_9 rfl ⟨trivial, rfl, R⟩
def f_X10_feed (n : Nat) (l1 : Int64) (l3 : Int64) (l5 : Int64) (l7 : Int64) (l9 : Int64) (σ : xσ) : Option (Int32 × xσ) := if ((sI σ 1 1) + 40) ≤ 4000 then bd (f_X9_append n l1 σ) (fun v102 σ103 => bd (f_X9_append n l3 σ103) (fun v107 σ108 => bd (f_X9_append n l5 σ108) (fun v112 σ113 => bd (f_X9_append n l7 σ113) (fun v117 σ118 => bd (f_X9_append n l9 σ118) (fun v122 σ123 => some (sI σ123 1 1, σ123)))))) else some ((-1), σ)
set_option maxRecDepth 100000 in
set_option maxHeartbeats 4000000 in
theorem c_X10_feed {G : xG} {n : Nat} {σ : xσ} {h : xH} {l1 : Int64} {l3 : Int64} {l5 : Int64} {l7 : Int64} {l9 : Int64} {v1 : Int32} {σ1 : xσ} (R : Rl n σ h) (hf : f_X10_feed n l1 l3 l5 l7 l9 σ = some (v1, σ1)) : Ca G mX10_feed [.ref 0, .long l1, .long l3, .long l5, .long l7, .long l9] h (fun v h' => v = some (.int v1) ∧ Rl n σ1 h') := by
  refine Ca.of rfl (Nat.le_of_ble_eq_true rfl) ?_
  generalize hr : (v1, σ1) = r at hf
  suffices q : Go G mX10_feed 0 (xent (xMl mX10_feed) [.ref 0, .long l1, .long l3, .long l5, .long l7, .long l9]) [] h (fun v h' => xRok (xRt mX10_feed) v ∧ v = some (.int r.1) ∧ Rl n r.2 h') by
    subst hr
    exact q
  clear hr
  rw [f_X10_feed] at hf
  refine go_aload_n (i := 0) (pc' := 1) dX10_feed_0 rfl rfl rfl ?_
  refine go_getS (pc' := 4) dX10_feed_1 rfl gf_LandBase_10 R (R.at rfl (by decide)) (by decide) rfl ?_
  refine go_getS (pc' := 7) dX10_feed_4 rfl gf_LandBase_73 R (R.at rfl (by decide)) (by decide) rfl ?_
  refine go_bipush (v := 40) (pc' := 9) dX10_feed_7 rfl (by decide) ?_
  refine go_iadd (pc' := 10) dX10_feed_9 rfl ?_
  refine go_sipush (v := 4000) (pc' := 13) dX10_feed_10 rfl (by decide) ?_
  refine go_icmp_le (pc' := 16) (tgt := 18) dX10_feed_13 (by decide) rfl (fun c101 => ?_) (fun c101 => ?_)
  · have hf := it c101 hf
    refine go_aload_n (i := 0) (pc' := 19) dX10_feed_18 rfl rfl rfl ?_
    refine go_getS (pc' := 22) dX10_feed_19 rfl gf_LandBase_10 R (R.at rfl (by decide)) (by decide) rfl ?_
    refine go_lload_n (i := 1) (pc' := 23) dX10_feed_22 rfl rfl rfl ?_
    obtain ⟨v102, σ103, e104, hf⟩ := bd_some hf
    refine go_invV (As := [_]) (pc' := 26) dX10_feed_23 rfl cf_X10_feed_76 rfl (R.ob (R.at rfl (by decide))) rfl rfl (Nat.le_of_ble_eq_true rfl) (c_X9_append R e104) (fun q105v h106 q105 => ?_)
    obtain ⟨rfl, R⟩ := q105
    refine go_aload_n (i := 0) (pc' := 27) dX10_feed_26 rfl rfl rfl ?_
    refine go_getS (pc' := 30) dX10_feed_27 rfl gf_LandBase_10 R (R.at rfl (by decide)) (by decide) rfl ?_
    refine go_lload_n (i := 3) (pc' := 31) dX10_feed_30 rfl rfl rfl ?_
    obtain ⟨v107, σ108, e109, hf⟩ := bd_some hf
    refine go_invV (As := [_]) (pc' := 34) dX10_feed_31 rfl cf_X10_feed_76 rfl (R.ob (R.at rfl (by decide))) rfl rfl (Nat.le_of_ble_eq_true rfl) (c_X9_append R e109) (fun q110v h111 q110 => ?_)
    obtain ⟨rfl, R⟩ := q110
    refine go_aload_n (i := 0) (pc' := 35) dX10_feed_34 rfl rfl rfl ?_
    refine go_getS (pc' := 38) dX10_feed_35 rfl gf_LandBase_10 R (R.at rfl (by decide)) (by decide) rfl ?_
    refine go_lload (pc' := 40) dX10_feed_38 rfl rfl ?_
    obtain ⟨v112, σ113, e114, hf⟩ := bd_some hf
    refine go_invV (As := [_]) (pc' := 43) dX10_feed_40 rfl cf_X10_feed_76 rfl (R.ob (R.at rfl (by decide))) rfl rfl (Nat.le_of_ble_eq_true rfl) (c_X9_append R e114) (fun q115v h116 q115 => ?_)
    obtain ⟨rfl, R⟩ := q115
    refine go_aload_n (i := 0) (pc' := 44) dX10_feed_43 rfl rfl rfl ?_
    refine go_getS (pc' := 47) dX10_feed_44 rfl gf_LandBase_10 R (R.at rfl (by decide)) (by decide) rfl ?_
    refine go_lload (pc' := 49) dX10_feed_47 rfl rfl ?_
    obtain ⟨v117, σ118, e119, hf⟩ := bd_some hf
    refine go_invV (As := [_]) (pc' := 52) dX10_feed_49 rfl cf_X10_feed_76 rfl (R.ob (R.at rfl (by decide))) rfl rfl (Nat.le_of_ble_eq_true rfl) (c_X9_append R e119) (fun q120v h121 q120 => ?_)
    obtain ⟨rfl, R⟩ := q120
    refine go_aload_n (i := 0) (pc' := 53) dX10_feed_52 rfl rfl rfl ?_
    refine go_getS (pc' := 56) dX10_feed_53 rfl gf_LandBase_10 R (R.at rfl (by decide)) (by decide) rfl ?_
    refine go_lload (pc' := 58) dX10_feed_56 rfl rfl ?_
    obtain ⟨v122, σ123, e124, hf⟩ := bd_some hf
    refine go_invV (As := [_]) (pc' := 61) dX10_feed_58 rfl cf_X10_feed_76 rfl (R.ob (R.at rfl (by decide))) rfl rfl (Nat.le_of_ble_eq_true rfl) (c_X9_append R e124) (fun q125v h126 q125 => ?_)
    obtain ⟨rfl, R⟩ := q125
    refine go_aload_n (i := 0) (pc' := 62) dX10_feed_61 rfl rfl rfl ?_
    refine go_getS (pc' := 65) dX10_feed_62 rfl gf_LandBase_10 R (R.at rfl (by decide)) (by decide) rfl ?_
    refine go_getS (pc' := 68) dX10_feed_65 rfl gf_LandBase_73 R (R.at rfl (by decide)) (by decide) rfl ?_
    obtain rfl := Option.some.inj hf
    exact Go.ret (v := some (.int _)) dX10_feed_68 ⟨_, rfl⟩ ⟨rfl, rfl, R⟩
  · have hf := ie c101 hf
    refine go_iconst (v := (-1)) (pc' := 17) dX10_feed_16 rfl (by decide) ?_
    obtain rfl := Option.some.inj hf
    exact Go.ret (v := some (.int _)) dX10_feed_17 ⟨_, rfl⟩ ⟨rfl, rfl, R⟩
def f_X10_end (n : Nat) (x1 : Int32) (σ : xσ) : Option (Int32 × xσ) := if x1 < 0 then some ((-1), σ) else if 40 < x1 then some ((-1), σ) else if (40 - x1) ≤ (sI σ 1 1) then st (wI σ 1 1 ((sI σ 1 1) - (40 - x1))) (fun σ104 => some (sI σ104 1 1, σ104)) else some ((-1), σ)
set_option maxRecDepth 100000 in
set_option maxHeartbeats 4000000 in
theorem c_X10_end {G : xG} {n : Nat} {σ : xσ} {h : xH} {x1 : Int32} {v1 : Int32} {σ1 : xσ} (R : Rl n σ h) (hf : f_X10_end n x1 σ = some (v1, σ1)) : Ca G mX10_end [.ref 0, .int x1] h (fun v h' => v = some (.int v1) ∧ Rl n σ1 h') := by
  refine Ca.of rfl (Nat.le_of_ble_eq_true rfl) ?_
  generalize hr : (v1, σ1) = r at hf
  suffices q : Go G mX10_end 0 (xent (xMl mX10_end) [.ref 0, .int x1]) [] h (fun v h' => xRok (xRt mX10_end) v ∧ v = some (.int r.1) ∧ Rl n r.2 h') by
    subst hr
    exact q
  clear hr
  rw [f_X10_end] at hf
  refine go_iload_n (i := 1) (pc' := 1) dX10_end_0 rfl rfl rfl ?_
  refine go_if_lt (pc' := 4) (tgt := 24) dX10_end_1 (by decide) rfl (fun c101 => ?_) (fun c101 => ?_)
  · have hf := it c101 hf
    refine go_iconst (v := (-1)) (pc' := 25) dX10_end_24 rfl (by decide) ?_
    obtain rfl := Option.some.inj hf
    exact Go.ret (v := some (.int _)) dX10_end_25 ⟨_, rfl⟩ ⟨rfl, rfl, R⟩
  · have hf := ie c101 hf
    refine go_iload_n (i := 1) (pc' := 5) dX10_end_4 rfl rfl rfl ?_
    refine go_bipush (v := 40) (pc' := 7) dX10_end_5 rfl (by decide) ?_
    refine go_icmp_gt (pc' := 10) (tgt := 24) dX10_end_7 (by decide) rfl (fun c102 => ?_) (fun c102 => ?_)
    · have hf := it c102 hf
      refine go_iconst (v := (-1)) (pc' := 25) dX10_end_24 rfl (by decide) ?_
      obtain rfl := Option.some.inj hf
      exact Go.ret (v := some (.int _)) dX10_end_25 ⟨_, rfl⟩ ⟨rfl, rfl, R⟩
    · have hf := ie c102 hf
      refine go_aload_n (i := 0) (pc' := 11) dX10_end_10 rfl rfl rfl ?_
      refine go_getS (pc' := 14) dX10_end_11 rfl gf_LandBase_10 R (R.at rfl (by decide)) (by decide) rfl ?_
      refine go_getS (pc' := 17) dX10_end_14 rfl gf_LandBase_73 R (R.at rfl (by decide)) (by decide) rfl ?_
      refine go_bipush (v := 40) (pc' := 19) dX10_end_17 rfl (by decide) ?_
      refine go_iload_n (i := 1) (pc' := 20) dX10_end_19 rfl rfl rfl ?_
      refine go_isub (pc' := 21) dX10_end_20 rfl ?_
      refine go_icmp_ge (pc' := 24) (tgt := 26) dX10_end_21 (by decide) rfl (fun c103 => ?_) (fun c103 => ?_)
      · have hf := it c103 hf
        refine go_aload_n (i := 0) (pc' := 27) dX10_end_26 rfl rfl rfl ?_
        refine go_getS (pc' := 30) dX10_end_27 rfl gf_LandBase_10 R (R.at rfl (by decide)) (by decide) rfl ?_
        refine go_dup (pc' := 31) dX10_end_30 rfl rfl ?_
        refine go_getS (pc' := 34) dX10_end_31 rfl gf_LandBase_73 R (R.at rfl (by decide)) (by decide) rfl ?_
        refine go_bipush (v := 40) (pc' := 36) dX10_end_34 rfl (by decide) ?_
        refine go_iload_n (i := 1) (pc' := 37) dX10_end_36 rfl rfl rfl ?_
        refine go_isub (pc' := 38) dX10_end_37 rfl ?_
        refine go_isub (pc' := 39) dX10_end_38 rfl ?_
        obtain ⟨σ104, e105, hf⟩ := st_some hf
        refine go_putI (pc' := 42) dX10_end_39 rfl pf_LandBase_73 R (R.at rfl (by decide)) (by decide) rfl rfl rfl (fun h106 R => ?_)
        have R := Rl.cast e105 R
        refine go_aload_n (i := 0) (pc' := 43) dX10_end_42 rfl rfl rfl ?_
        refine go_getS (pc' := 46) dX10_end_43 rfl gf_LandBase_10 R (R.at rfl (by decide)) (by decide) rfl ?_
        refine go_getS (pc' := 49) dX10_end_46 rfl gf_LandBase_73 R (R.at rfl (by decide)) (by decide) rfl ?_
        obtain rfl := Option.some.inj hf
        exact Go.ret (v := some (.int _)) dX10_end_49 ⟨_, rfl⟩ ⟨rfl, rfl, R⟩
      · have hf := ie c103 hf
        refine go_iconst (v := (-1)) (pc' := 25) dX10_end_24 rfl (by decide) ?_
        obtain rfl := Option.some.inj hf
        exact Go.ret (v := some (.int _)) dX10_end_25 ⟨_, rfl⟩ ⟨rfl, rfl, R⟩
def f_X10_add (n : Nat)  (σ : xσ) : Option (Int32 × Nat × xσ) := gd (inb 0 6) (st (sI σ 4 (0 : Int32).toNatClampNeg) (fun x102 => if x102 < 1 then some (5, n, σ) else if x102 ≤ 9999 then bd (f_X8_indexOf n 11 x102 σ) (fun v106 σ107 => if v106 < 0 then if (sI σ107 5 3) = 0 then bd (f_X0_isValid n 5 σ107) (fun v113 σ114 => if v113 = 0 then some (3, n, σ114) else st ((16 + (4 * (sI σ114 5 2))) + (8 * (sI σ114 5 1))) (fun x119 => if 200 ≤ (sI σ114 11 2) then some (4, n, σ114) else bd (f_X3_hasRoom n x119 σ114) (fun v122 σ123 => if v122 = 0 then some (4, n, σ123) else bn (f_X3_freshShape n σ123) (fun v128 n σ129 => gd (okS n v128) (bd (f_X7_copyMoved n v128 5 0 0 σ129) (fun v134 σ135 => bd (f_X8_insert n 11 x102 v128 σ135) (fun v139 σ140 => bd (f_X3_settle n x119 σ140) (fun v144 σ145 => some (v144, n, σ145))))))))) else some (4, n, σ107) else some (1, n, σ107)) else some (5, n, σ)))
set_option maxRecDepth 100000 in
set_option maxHeartbeats 4000000 in
theorem c_X10_add {G : xG} {n : Nat} {σ : xσ} {h : xH}  {v1 : Int32} {n1 : Nat} {σ1 : xσ} (R : Rl n σ h) (hf : f_X10_add n σ = some (v1, n1, σ1)) : Ca G mX10_add [.ref 0] h (fun v h' => v = some (.int v1) ∧ Rl n1 σ1 h') := by
  refine Ca.of rfl (Nat.le_of_ble_eq_true rfl) ?_
  generalize hr : (v1, n1, σ1) = r at hf
  suffices q : Go G mX10_add 0 (xent (xMl mX10_add) [.ref 0]) [] h (fun v h' => xRok (xRt mX10_add) v ∧ v = some (.int r.1) ∧ Rl r.2.1 r.2.2 h') by
    subst hr
    exact q
  clear hr
  rw [f_X10_add] at hf
  refine go_aload_n (i := 0) (pc' := 1) dX10_add_0 rfl rfl rfl ?_
  refine go_getS (pc' := 4) dX10_add_1 rfl gf_LandBase_19 R (R.at rfl (by decide)) (by decide) rfl ?_
  refine go_getS (pc' := 7) dX10_add_4 rfl gf_LandBase_214 R (R.at rfl (by decide)) (by decide) rfl ?_
  refine go_iconst (v := 0) (pc' := 8) dX10_add_7 rfl (by decide) ?_
  obtain ⟨g101, hf⟩ := gd_some hf
  refine go_ialoadS (pc' := 9) dX10_add_8 rfl R (R.aa rfl (by decide)) g101 ?_
  obtain ⟨x102, e103, hf⟩ := st_some hf
  refine go_istore_nE e103 (i := 1) (pc' := 10) dX10_add_9 rfl rfl (by decide) rfl ?_
  refine go_aload_n (i := 0) (pc' := 11) dX10_add_10 rfl rfl rfl ?_
  refine go_getS (pc' := 14) dX10_add_11 rfl gf_LandBase_19 R (R.at rfl (by decide)) (by decide) rfl ?_
  refine go_getS (pc' := 17) dX10_add_14 rfl gf_LandBase_217 R (R.at rfl (by decide)) (by decide) rfl ?_
  refine go_astore_n (i := 2) (pc' := 18) dX10_add_17 rfl rfl (by decide) rfl ?_
  refine go_iload_n (i := 1) (pc' := 19) dX10_add_18 rfl rfl rfl ?_
  refine go_iconst (v := 1) (pc' := 20) dX10_add_19 rfl (by decide) ?_
  refine go_icmp_lt (pc' := 23) (tgt := 30) dX10_add_20 (by decide) rfl (fun c104 => ?_) (fun c104 => ?_)
  · have hf := it c104 hf
    refine go_iconst (v := 5) (pc' := 31) dX10_add_30 rfl (by decide) ?_
    obtain rfl := Option.some.inj hf
    exact Go.ret (v := some (.int _)) dX10_add_31 ⟨_, rfl⟩ ⟨rfl, rfl, R⟩
  · have hf := ie c104 hf
    refine go_iload_n (i := 1) (pc' := 24) dX10_add_23 rfl rfl rfl ?_
    refine go_sipush (v := 9999) (pc' := 27) dX10_add_24 rfl (by decide) ?_
    refine go_icmp_le (pc' := 30) (tgt := 32) dX10_add_27 (by decide) rfl (fun c105 => ?_) (fun c105 => ?_)
    · have hf := it c105 hf
      refine go_aload_n (i := 0) (pc' := 33) dX10_add_32 rfl rfl rfl ?_
      refine go_getS (pc' := 36) dX10_add_33 rfl gf_LandBase_26 R (R.at rfl (by decide)) (by decide) rfl ?_
      refine go_getS (pc' := 39) dX10_add_36 rfl gf_LandBase_145 R (R.at rfl (by decide)) (by decide) rfl ?_
      refine go_iload_n (i := 1) (pc' := 40) dX10_add_39 rfl rfl rfl ?_
      obtain ⟨v106, σ107, e108, hf⟩ := bd_some hf
      refine go_invV (As := [_]) (pc' := 43) dX10_add_40 rfl cf_X10_add_221 rfl (R.ob (R.at rfl (by decide))) rfl rfl (Nat.le_of_ble_eq_true rfl) (c_X8_indexOf R e108) (fun q109v h110 q109 => ?_)
      obtain ⟨rfl, R⟩ := q109
      refine go_if_lt (pc' := 46) (tgt := 48) dX10_add_43 (by decide) rfl (fun c111 => ?_) (fun c111 => ?_)
      · have hf := it c111 hf
        refine go_aload_n (i := 2) (pc' := 49) dX10_add_48 rfl rfl rfl ?_
        refine go_getS (pc' := 52) dX10_add_49 rfl gf_LandBase_224 R (R.at rfl (by decide)) (by decide) rfl ?_
        refine go_if_eq (pc' := 55) (tgt := 57) dX10_add_52 (by decide) rfl (fun c112 => ?_) (fun c112 => ?_)
        · have hf := it c112 hf
          refine go_aload_n (i := 0) (pc' := 58) dX10_add_57 rfl rfl rfl ?_
          refine go_getS (pc' := 61) dX10_add_58 rfl gf_LandBase_38 R (R.at rfl (by decide)) (by decide) rfl ?_
          refine go_aload_n (i := 2) (pc' := 62) dX10_add_61 rfl rfl rfl ?_
          obtain ⟨v113, σ114, e115, hf⟩ := bd_some hf
          refine go_invV (As := [_]) (pc' := 65) dX10_add_62 rfl cf_X10_add_227 rfl (R.ob (R.at rfl (by decide))) rfl rfl (Nat.le_of_ble_eq_true rfl) (c_X0_isValid R e115) (fun q116v h117 q116 => ?_)
          obtain ⟨rfl, R⟩ := q116
          refine go_if_ne (pc' := 68) (tgt := 70) dX10_add_65 (by decide) rfl (fun c118 => ?_) (fun c118 => ?_)
          · have hf := ie c118 hf
            refine go_bipush (v := 16) (pc' := 72) dX10_add_70 rfl (by decide) ?_
            refine go_iconst (v := 4) (pc' := 73) dX10_add_72 rfl (by decide) ?_
            refine go_aload_n (i := 2) (pc' := 74) dX10_add_73 rfl rfl rfl ?_
            refine go_getS (pc' := 77) dX10_add_74 rfl gf_LandBase_170 R (R.at rfl (by decide)) (by decide) rfl ?_
            refine go_imul (pc' := 78) dX10_add_77 rfl ?_
            refine go_iadd (pc' := 79) dX10_add_78 rfl ?_
            refine go_bipush (v := 8) (pc' := 81) dX10_add_79 rfl (by decide) ?_
            refine go_aload_n (i := 2) (pc' := 82) dX10_add_81 rfl rfl rfl ?_
            refine go_getS (pc' := 85) dX10_add_82 rfl gf_LandBase_169 R (R.at rfl (by decide)) (by decide) rfl ?_
            refine go_imul (pc' := 86) dX10_add_85 rfl ?_
            refine go_iadd (pc' := 87) dX10_add_86 rfl ?_
            obtain ⟨x119, e120, hf⟩ := st_some hf
            refine go_istore_nE e120 (i := 3) (pc' := 88) dX10_add_87 rfl rfl (by decide) rfl ?_
            refine go_aload_n (i := 0) (pc' := 89) dX10_add_88 rfl rfl rfl ?_
            refine go_getS (pc' := 92) dX10_add_89 rfl gf_LandBase_26 R (R.at rfl (by decide)) (by decide) rfl ?_
            refine go_getS (pc' := 95) dX10_add_92 rfl gf_LandBase_145 R (R.at rfl (by decide)) (by decide) rfl ?_
            refine go_getS (pc' := 98) dX10_add_95 rfl gf_LandBase_149 R (R.at rfl (by decide)) (by decide) rfl ?_
            refine go_sipush (v := 200) (pc' := 101) dX10_add_98 rfl (by decide) ?_
            refine go_icmp_ge (pc' := 104) (tgt := 115) dX10_add_101 (by decide) rfl (fun c121 => ?_) (fun c121 => ?_)
            · have hf := it c121 hf
              refine go_iconst (v := 4) (pc' := 116) dX10_add_115 rfl (by decide) ?_
              obtain rfl := Option.some.inj hf
              exact Go.ret (v := some (.int _)) dX10_add_116 ⟨_, rfl⟩ ⟨rfl, rfl, R⟩
            · have hf := ie c121 hf
              refine go_aload_n (i := 0) (pc' := 105) dX10_add_104 rfl rfl rfl ?_
              refine go_getS (pc' := 108) dX10_add_105 rfl gf_LandBase_26 R (R.at rfl (by decide)) (by decide) rfl ?_
              refine go_iload_n (i := 3) (pc' := 109) dX10_add_108 rfl rfl rfl ?_
              obtain ⟨v122, σ123, e124, hf⟩ := bd_some hf
              refine go_invV (As := [_]) (pc' := 112) dX10_add_109 rfl cf_X10_add_231 rfl (R.ob (R.at rfl (by decide))) rfl rfl (Nat.le_of_ble_eq_true rfl) (c_X3_hasRoom R e124) (fun q125v h126 q125 => ?_)
              obtain ⟨rfl, R⟩ := q125
              refine go_if_ne (pc' := 115) (tgt := 117) dX10_add_112 (by decide) rfl (fun c127 => ?_) (fun c127 => ?_)
              · have hf := ie c127 hf
                refine go_aload_n (i := 0) (pc' := 118) dX10_add_117 rfl rfl rfl ?_
                refine go_getS (pc' := 121) dX10_add_118 rfl gf_LandBase_26 R (R.at rfl (by decide)) (by decide) rfl ?_
                obtain ⟨v128, n, σ129, e130, hf⟩ := bn_some hf
                refine go_invV (As := []) (pc' := 124) dX10_add_121 rfl cf_X10_add_235 rfl (R.ob (R.at rfl (by decide))) rfl rfl (Nat.le_of_ble_eq_true rfl) (c_X3_freshShape R e130) (fun q131v h132 q131 => ?_)
                obtain ⟨rfl, R⟩ := q131
                obtain ⟨g133, hf⟩ := gd_some hf
                refine go_astore (pc' := 126) dX10_add_124 rfl (by decide) rfl ?_
                refine go_aload (pc' := 128) dX10_add_126 rfl rfl ?_
                refine go_aload_n (i := 2) (pc' := 129) dX10_add_128 rfl rfl rfl ?_
                refine go_iconst (v := 0) (pc' := 130) dX10_add_129 rfl (by decide) ?_
                refine go_iconst (v := 0) (pc' := 131) dX10_add_130 rfl (by decide) ?_
                obtain ⟨v134, σ135, e136, hf⟩ := bd_some hf
                refine go_invV (As := [_, _, _]) (pc' := 134) dX10_add_131 rfl cf_X10_add_239 rfl (R.ob g133.at) rfl rfl (Nat.le_of_ble_eq_true rfl) (c_X7_copyMoved R e136) (fun q137v h138 q137 => ?_)
                obtain ⟨rfl, R⟩ := q137
                refine go_aload_n (i := 0) (pc' := 135) dX10_add_134 rfl rfl rfl ?_
                refine go_getS (pc' := 138) dX10_add_135 rfl gf_LandBase_26 R (R.at rfl (by decide)) (by decide) rfl ?_
                refine go_getS (pc' := 141) dX10_add_138 rfl gf_LandBase_145 R (R.at rfl (by decide)) (by decide) rfl ?_
                refine go_iload_n (i := 1) (pc' := 142) dX10_add_141 rfl rfl rfl ?_
                refine go_aload (pc' := 144) dX10_add_142 rfl rfl ?_
                obtain ⟨v139, σ140, e141, hf⟩ := bd_some hf
                refine go_invV (As := [_, _]) (pc' := 147) dX10_add_144 rfl cf_X10_add_242 rfl (R.ob (R.at rfl (by decide))) rfl rfl (Nat.le_of_ble_eq_true rfl) (c_X8_insert R e141) (fun q142v h143 q142 => ?_)
                obtain ⟨rfl, R⟩ := q142
                refine go_aload_n (i := 0) (pc' := 148) dX10_add_147 rfl rfl rfl ?_
                refine go_getS (pc' := 151) dX10_add_148 rfl gf_LandBase_26 R (R.at rfl (by decide)) (by decide) rfl ?_
                refine go_iload_n (i := 3) (pc' := 152) dX10_add_151 rfl rfl rfl ?_
                obtain ⟨v144, σ145, e146, hf⟩ := bd_some hf
                refine go_invV (As := [_]) (pc' := 155) dX10_add_152 rfl cf_X10_add_246 rfl (R.ob (R.at rfl (by decide))) rfl rfl (Nat.le_of_ble_eq_true rfl) (c_X3_settle R e146) (fun q147v h148 q147 => ?_)
                obtain ⟨rfl, R⟩ := q147
                obtain rfl := Option.some.inj hf
                exact Go.ret (v := some (.int _)) dX10_add_155 ⟨_, rfl⟩ ⟨rfl, rfl, R⟩
              · have hf := it c127 hf
                refine go_iconst (v := 4) (pc' := 116) dX10_add_115 rfl (by decide) ?_
                obtain rfl := Option.some.inj hf
                exact Go.ret (v := some (.int _)) dX10_add_116 ⟨_, rfl⟩ ⟨rfl, rfl, R⟩
          · have hf := it c118 hf
            refine go_iconst (v := 3) (pc' := 69) dX10_add_68 rfl (by decide) ?_
            obtain rfl := Option.some.inj hf
            exact Go.ret (v := some (.int _)) dX10_add_69 ⟨_, rfl⟩ ⟨rfl, rfl, R⟩
        · have hf := ie c112 hf
          refine go_iconst (v := 4) (pc' := 56) dX10_add_55 rfl (by decide) ?_
          obtain rfl := Option.some.inj hf
          exact Go.ret (v := some (.int _)) dX10_add_56 ⟨_, rfl⟩ ⟨rfl, rfl, R⟩
      · have hf := ie c111 hf
        refine go_iconst (v := 1) (pc' := 47) dX10_add_46 rfl (by decide) ?_
        obtain rfl := Option.some.inj hf
        exact Go.ret (v := some (.int _)) dX10_add_47 ⟨_, rfl⟩ ⟨rfl, rfl, R⟩
    · have hf := ie c105 hf
      refine go_iconst (v := 5) (pc' := 31) dX10_add_30 rfl (by decide) ?_
      obtain rfl := Option.some.inj hf
      exact Go.ret (v := some (.int _)) dX10_add_31 ⟨_, rfl⟩ ⟨rfl, rfl, R⟩
def f_X10_drop (n : Nat)  (σ : xσ) : Option (Int32 × xσ) := gd (inb 0 6) (bd (f_X8_indexOf n 11 (sI σ 4 (0 : Int32).toNatClampNeg) σ) (fun v102 σ103 => if 0 ≤ v102 then bd (f_X3_hasRoom n 8 σ103) (fun v108 σ109 => if v108 = 0 then some (4, σ109) else bd (f_X8_removeAt n 11 v102 σ109) (fun v114 σ115 => bd (f_X3_settle n 8 σ115) (fun v119 σ120 => some (v119, σ120)))) else some (2, σ103)))
set_option maxRecDepth 100000 in
set_option maxHeartbeats 4000000 in
theorem c_X10_drop {G : xG} {n : Nat} {σ : xσ} {h : xH}  {v1 : Int32} {σ1 : xσ} (R : Rl n σ h) (hf : f_X10_drop n σ = some (v1, σ1)) : Ca G mX10_drop [.ref 0] h (fun v h' => v = some (.int v1) ∧ Rl n σ1 h') := by
  refine Ca.of rfl (Nat.le_of_ble_eq_true rfl) ?_
  generalize hr : (v1, σ1) = r at hf
  suffices q : Go G mX10_drop 0 (xent (xMl mX10_drop) [.ref 0]) [] h (fun v h' => xRok (xRt mX10_drop) v ∧ v = some (.int r.1) ∧ Rl n r.2 h') by
    subst hr
    exact q
  clear hr
  rw [f_X10_drop] at hf
  refine go_aload_n (i := 0) (pc' := 1) dX10_drop_0 rfl rfl rfl ?_
  refine go_getS (pc' := 4) dX10_drop_1 rfl gf_LandBase_26 R (R.at rfl (by decide)) (by decide) rfl ?_
  refine go_getS (pc' := 7) dX10_drop_4 rfl gf_LandBase_145 R (R.at rfl (by decide)) (by decide) rfl ?_
  refine go_aload_n (i := 0) (pc' := 8) dX10_drop_7 rfl rfl rfl ?_
  refine go_getS (pc' := 11) dX10_drop_8 rfl gf_LandBase_19 R (R.at rfl (by decide)) (by decide) rfl ?_
  refine go_getS (pc' := 14) dX10_drop_11 rfl gf_LandBase_214 R (R.at rfl (by decide)) (by decide) rfl ?_
  refine go_iconst (v := 0) (pc' := 15) dX10_drop_14 rfl (by decide) ?_
  obtain ⟨g101, hf⟩ := gd_some hf
  refine go_ialoadS (pc' := 16) dX10_drop_15 rfl R (R.aa rfl (by decide)) g101 ?_
  obtain ⟨v102, σ103, e104, hf⟩ := bd_some hf
  refine go_invV (As := [_]) (pc' := 19) dX10_drop_16 rfl cf_X10_drop_221 rfl (R.ob (R.at rfl (by decide))) rfl rfl (Nat.le_of_ble_eq_true rfl) (c_X8_indexOf R e104) (fun q105v h106 q105 => ?_)
  obtain ⟨rfl, R⟩ := q105
  refine go_istore_nE rfl (i := 1) (pc' := 20) dX10_drop_19 rfl rfl (by decide) rfl ?_
  refine go_iload_n (i := 1) (pc' := 21) dX10_drop_20 rfl rfl rfl ?_
  refine go_if_ge (pc' := 24) (tgt := 26) dX10_drop_21 (by decide) rfl (fun c107 => ?_) (fun c107 => ?_)
  · have hf := it c107 hf
    refine go_aload_n (i := 0) (pc' := 27) dX10_drop_26 rfl rfl rfl ?_
    refine go_getS (pc' := 30) dX10_drop_27 rfl gf_LandBase_26 R (R.at rfl (by decide)) (by decide) rfl ?_
    refine go_bipush (v := 8) (pc' := 32) dX10_drop_30 rfl (by decide) ?_
    obtain ⟨v108, σ109, e110, hf⟩ := bd_some hf
    refine go_invV (As := [_]) (pc' := 35) dX10_drop_32 rfl cf_X10_drop_231 rfl (R.ob (R.at rfl (by decide))) rfl rfl (Nat.le_of_ble_eq_true rfl) (c_X3_hasRoom R e110) (fun q111v h112 q111 => ?_)
    obtain ⟨rfl, R⟩ := q111
    refine go_if_ne (pc' := 38) (tgt := 40) dX10_drop_35 (by decide) rfl (fun c113 => ?_) (fun c113 => ?_)
    · have hf := ie c113 hf
      refine go_aload_n (i := 0) (pc' := 41) dX10_drop_40 rfl rfl rfl ?_
      refine go_getS (pc' := 44) dX10_drop_41 rfl gf_LandBase_26 R (R.at rfl (by decide)) (by decide) rfl ?_
      refine go_getS (pc' := 47) dX10_drop_44 rfl gf_LandBase_145 R (R.at rfl (by decide)) (by decide) rfl ?_
      refine go_iload_n (i := 1) (pc' := 48) dX10_drop_47 rfl rfl rfl ?_
      obtain ⟨v114, σ115, e116, hf⟩ := bd_some hf
      refine go_invV (As := [_]) (pc' := 51) dX10_drop_48 rfl cf_X10_drop_249 rfl (R.ob (R.at rfl (by decide))) rfl rfl (Nat.le_of_ble_eq_true rfl) (c_X8_removeAt R e116) (fun q117v h118 q117 => ?_)
      obtain ⟨rfl, R⟩ := q117
      refine go_aload_n (i := 0) (pc' := 52) dX10_drop_51 rfl rfl rfl ?_
      refine go_getS (pc' := 55) dX10_drop_52 rfl gf_LandBase_26 R (R.at rfl (by decide)) (by decide) rfl ?_
      refine go_bipush (v := 8) (pc' := 57) dX10_drop_55 rfl (by decide) ?_
      obtain ⟨v119, σ120, e121, hf⟩ := bd_some hf
      refine go_invV (As := [_]) (pc' := 60) dX10_drop_57 rfl cf_X10_drop_246 rfl (R.ob (R.at rfl (by decide))) rfl rfl (Nat.le_of_ble_eq_true rfl) (c_X3_settle R e121) (fun q122v h123 q122 => ?_)
      obtain ⟨rfl, R⟩ := q122
      obtain rfl := Option.some.inj hf
      exact Go.ret (v := some (.int _)) dX10_drop_60 ⟨_, rfl⟩ ⟨rfl, rfl, R⟩
    · have hf := it c113 hf
      refine go_iconst (v := 4) (pc' := 39) dX10_drop_38 rfl (by decide) ?_
      obtain rfl := Option.some.inj hf
      exact Go.ret (v := some (.int _)) dX10_drop_39 ⟨_, rfl⟩ ⟨rfl, rfl, R⟩
  · have hf := ie c107 hf
    refine go_iconst (v := 2) (pc' := 25) dX10_drop_24 rfl (by decide) ?_
    obtain rfl := Option.some.inj hf
    exact Go.ret (v := some (.int _)) dX10_drop_25 ⟨_, rfl⟩ ⟨rfl, rfl, R⟩
def f_X10_move (n : Nat)  (σ : xσ) : Option (Int32 × Nat × xσ) := gd (inb 0 6) (bd (f_X8_indexOf n 11 (sI σ 4 (0 : Int32).toNatClampNeg) σ) (fun v102 σ103 => gd (inb 1 6) (st (sI σ103 4 (1 : Int32).toNatClampNeg) (fun x108 => gd (inb 2 6) (st (sI σ103 4 (2 : Int32).toNatClampNeg) (fun x111 => if 0 ≤ v102 then gd (inb v102 200) (nn (sR σ103 13 v102.toNatClampNeg) (fun a115 => gd (okS n a115) (bd (f_X7_canMove n a115 (x108.toInt64) (x111.toInt64) σ103) (fun v118 σ119 => if v118 = 0 then some (5, n, σ119) else bd (f_X3_hasRoom n 16 σ119) (fun v124 σ125 => if v124 = 0 then some (4, n, σ125) else bn (f_X3_freshShape n σ125) (fun v130 n σ131 => gd (okS n a115) (gd (okS n v130) (bd (f_X7_copyMoved n v130 a115 x108 x111 σ131) (fun v137 σ138 => bd (f_X8_replace n 11 v102 v130 σ138) (fun v142 σ143 => bd (f_X3_settle n 16 σ143) (fun v147 σ148 => some (v147, n, σ148)))))))))))) else some (2, n, σ103)))))))
set_option maxRecDepth 100000 in
set_option maxHeartbeats 4000000 in
theorem c_X10_move {G : xG} {n : Nat} {σ : xσ} {h : xH}  {v1 : Int32} {n1 : Nat} {σ1 : xσ} (R : Rl n σ h) (hf : f_X10_move n σ = some (v1, n1, σ1)) : Ca G mX10_move [.ref 0] h (fun v h' => v = some (.int v1) ∧ Rl n1 σ1 h') := by
  refine Ca.of rfl (Nat.le_of_ble_eq_true rfl) ?_
  generalize hr : (v1, n1, σ1) = r at hf
  suffices q : Go G mX10_move 0 (xent (xMl mX10_move) [.ref 0]) [] h (fun v h' => xRok (xRt mX10_move) v ∧ v = some (.int r.1) ∧ Rl r.2.1 r.2.2 h') by
    subst hr
    exact q
  clear hr
  rw [f_X10_move] at hf
  refine go_aload_n (i := 0) (pc' := 1) dX10_move_0 rfl rfl rfl ?_
  refine go_getS (pc' := 4) dX10_move_1 rfl gf_LandBase_26 R (R.at rfl (by decide)) (by decide) rfl ?_
  refine go_getS (pc' := 7) dX10_move_4 rfl gf_LandBase_145 R (R.at rfl (by decide)) (by decide) rfl ?_
  refine go_aload_n (i := 0) (pc' := 8) dX10_move_7 rfl rfl rfl ?_
  refine go_getS (pc' := 11) dX10_move_8 rfl gf_LandBase_19 R (R.at rfl (by decide)) (by decide) rfl ?_
  refine go_getS (pc' := 14) dX10_move_11 rfl gf_LandBase_214 R (R.at rfl (by decide)) (by decide) rfl ?_
  refine go_iconst (v := 0) (pc' := 15) dX10_move_14 rfl (by decide) ?_
  obtain ⟨g101, hf⟩ := gd_some hf
  refine go_ialoadS (pc' := 16) dX10_move_15 rfl R (R.aa rfl (by decide)) g101 ?_
  obtain ⟨v102, σ103, e104, hf⟩ := bd_some hf
  refine go_invV (As := [_]) (pc' := 19) dX10_move_16 rfl cf_X10_move_221 rfl (R.ob (R.at rfl (by decide))) rfl rfl (Nat.le_of_ble_eq_true rfl) (c_X8_indexOf R e104) (fun q105v h106 q105 => ?_)
  obtain ⟨rfl, R⟩ := q105
  refine go_istore_nE rfl (i := 1) (pc' := 20) dX10_move_19 rfl rfl (by decide) rfl ?_
  refine go_aload_n (i := 0) (pc' := 21) dX10_move_20 rfl rfl rfl ?_
  refine go_getS (pc' := 24) dX10_move_21 rfl gf_LandBase_19 R (R.at rfl (by decide)) (by decide) rfl ?_
  refine go_getS (pc' := 27) dX10_move_24 rfl gf_LandBase_214 R (R.at rfl (by decide)) (by decide) rfl ?_
  refine go_iconst (v := 1) (pc' := 28) dX10_move_27 rfl (by decide) ?_
  obtain ⟨g107, hf⟩ := gd_some hf
  refine go_ialoadS (pc' := 29) dX10_move_28 rfl R (R.aa rfl (by decide)) g107 ?_
  obtain ⟨x108, e109, hf⟩ := st_some hf
  refine go_istore_nE e109 (i := 2) (pc' := 30) dX10_move_29 rfl rfl (by decide) rfl ?_
  refine go_aload_n (i := 0) (pc' := 31) dX10_move_30 rfl rfl rfl ?_
  refine go_getS (pc' := 34) dX10_move_31 rfl gf_LandBase_19 R (R.at rfl (by decide)) (by decide) rfl ?_
  refine go_getS (pc' := 37) dX10_move_34 rfl gf_LandBase_214 R (R.at rfl (by decide)) (by decide) rfl ?_
  refine go_iconst (v := 2) (pc' := 38) dX10_move_37 rfl (by decide) ?_
  obtain ⟨g110, hf⟩ := gd_some hf
  refine go_ialoadS (pc' := 39) dX10_move_38 rfl R (R.aa rfl (by decide)) g110 ?_
  obtain ⟨x111, e112, hf⟩ := st_some hf
  refine go_istore_nE e112 (i := 3) (pc' := 40) dX10_move_39 rfl rfl (by decide) rfl ?_
  refine go_iload_n (i := 1) (pc' := 41) dX10_move_40 rfl rfl rfl ?_
  refine go_if_ge (pc' := 44) (tgt := 46) dX10_move_41 (by decide) rfl (fun c113 => ?_) (fun c113 => ?_)
  · have hf := it c113 hf
    refine go_aload_n (i := 0) (pc' := 47) dX10_move_46 rfl rfl rfl ?_
    refine go_getS (pc' := 50) dX10_move_47 rfl gf_LandBase_26 R (R.at rfl (by decide)) (by decide) rfl ?_
    refine go_getS (pc' := 53) dX10_move_50 rfl gf_LandBase_145 R (R.at rfl (by decide)) (by decide) rfl ?_
    refine go_getS (pc' := 56) dX10_move_53 rfl gf_LandBase_252 R (R.at rfl (by decide)) (by decide) rfl ?_
    refine go_iload_n (i := 1) (pc' := 57) dX10_move_56 rfl rfl rfl ?_
    obtain ⟨g114, hf⟩ := gd_some hf
    obtain ⟨a115, e116, hf⟩ := nn_some hf
    obtain ⟨g117, hf⟩ := gd_some hf
    refine go_aaloadS (pc' := 58) dX10_move_57 rfl (by decide) R (R.aa rfl (by decide)) g114 e116 ?_
    refine go_astore (pc' := 60) dX10_move_58 rfl (by decide) rfl ?_
    refine go_aload (pc' := 62) dX10_move_60 rfl rfl ?_
    refine go_iload_n (i := 2) (pc' := 63) dX10_move_62 rfl rfl rfl ?_
    refine go_i2l (pc' := 64) dX10_move_63 rfl rfl ?_
    refine go_iload_n (i := 3) (pc' := 65) dX10_move_64 rfl rfl rfl ?_
    refine go_i2l (pc' := 66) dX10_move_65 rfl rfl ?_
    obtain ⟨v118, σ119, e120, hf⟩ := bd_some hf
    refine go_invV (As := [_, _]) (pc' := 69) dX10_move_66 rfl cf_X10_move_256 rfl (R.ob g117.at) rfl rfl (Nat.le_of_ble_eq_true rfl) (c_X7_canMove R e120) (fun q121v h122 q121 => ?_)
    obtain ⟨rfl, R⟩ := q121
    refine go_if_ne (pc' := 72) (tgt := 74) dX10_move_69 (by decide) rfl (fun c123 => ?_) (fun c123 => ?_)
    · have hf := ie c123 hf
      refine go_aload_n (i := 0) (pc' := 75) dX10_move_74 rfl rfl rfl ?_
      refine go_getS (pc' := 78) dX10_move_75 rfl gf_LandBase_26 R (R.at rfl (by decide)) (by decide) rfl ?_
      refine go_bipush (v := 16) (pc' := 80) dX10_move_78 rfl (by decide) ?_
      obtain ⟨v124, σ125, e126, hf⟩ := bd_some hf
      refine go_invV (As := [_]) (pc' := 83) dX10_move_80 rfl cf_X10_move_231 rfl (R.ob (R.at rfl (by decide))) rfl rfl (Nat.le_of_ble_eq_true rfl) (c_X3_hasRoom R e126) (fun q127v h128 q127 => ?_)
      obtain ⟨rfl, R⟩ := q127
      refine go_if_ne (pc' := 86) (tgt := 88) dX10_move_83 (by decide) rfl (fun c129 => ?_) (fun c129 => ?_)
      · have hf := ie c129 hf
        refine go_aload_n (i := 0) (pc' := 89) dX10_move_88 rfl rfl rfl ?_
        refine go_getS (pc' := 92) dX10_move_89 rfl gf_LandBase_26 R (R.at rfl (by decide)) (by decide) rfl ?_
        obtain ⟨v130, n, σ131, e132, hf⟩ := bn_some hf
        refine go_invV (As := []) (pc' := 95) dX10_move_92 rfl cf_X10_move_235 rfl (R.ob (R.at rfl (by decide))) rfl rfl (Nat.le_of_ble_eq_true rfl) (c_X3_freshShape R e132) (fun q133v h134 q133 => ?_)
        obtain ⟨rfl, R⟩ := q133
        obtain ⟨g135, hf⟩ := gd_some hf
        obtain ⟨g136, hf⟩ := gd_some hf
        refine go_astore (pc' := 97) dX10_move_95 rfl (by decide) rfl ?_
        refine go_aload (pc' := 99) dX10_move_97 rfl rfl ?_
        refine go_aload (pc' := 101) dX10_move_99 rfl rfl ?_
        refine go_iload_n (i := 2) (pc' := 102) dX10_move_101 rfl rfl rfl ?_
        refine go_iload_n (i := 3) (pc' := 103) dX10_move_102 rfl rfl rfl ?_
        obtain ⟨v137, σ138, e139, hf⟩ := bd_some hf
        refine go_invV (As := [_, _, _]) (pc' := 106) dX10_move_103 rfl cf_X10_move_239 rfl (R.ob g136.at) rfl rfl (Nat.le_of_ble_eq_true rfl) (c_X7_copyMoved R e139) (fun q140v h141 q140 => ?_)
        obtain ⟨rfl, R⟩ := q140
        refine go_aload_n (i := 0) (pc' := 107) dX10_move_106 rfl rfl rfl ?_
        refine go_getS (pc' := 110) dX10_move_107 rfl gf_LandBase_26 R (R.at rfl (by decide)) (by decide) rfl ?_
        refine go_getS (pc' := 113) dX10_move_110 rfl gf_LandBase_145 R (R.at rfl (by decide)) (by decide) rfl ?_
        refine go_iload_n (i := 1) (pc' := 114) dX10_move_113 rfl rfl rfl ?_
        refine go_aload (pc' := 116) dX10_move_114 rfl rfl ?_
        obtain ⟨v142, σ143, e144, hf⟩ := bd_some hf
        refine go_invV (As := [_, _]) (pc' := 119) dX10_move_116 rfl cf_X10_move_260 rfl (R.ob (R.at rfl (by decide))) rfl rfl (Nat.le_of_ble_eq_true rfl) (c_X8_replace R e144) (fun q145v h146 q145 => ?_)
        obtain ⟨rfl, R⟩ := q145
        refine go_aload_n (i := 0) (pc' := 120) dX10_move_119 rfl rfl rfl ?_
        refine go_getS (pc' := 123) dX10_move_120 rfl gf_LandBase_26 R (R.at rfl (by decide)) (by decide) rfl ?_
        refine go_bipush (v := 16) (pc' := 125) dX10_move_123 rfl (by decide) ?_
        obtain ⟨v147, σ148, e149, hf⟩ := bd_some hf
        refine go_invV (As := [_]) (pc' := 128) dX10_move_125 rfl cf_X10_move_246 rfl (R.ob (R.at rfl (by decide))) rfl rfl (Nat.le_of_ble_eq_true rfl) (c_X3_settle R e149) (fun q150v h151 q150 => ?_)
        obtain ⟨rfl, R⟩ := q150
        obtain rfl := Option.some.inj hf
        exact Go.ret (v := some (.int _)) dX10_move_128 ⟨_, rfl⟩ ⟨rfl, rfl, R⟩
      · have hf := it c129 hf
        refine go_iconst (v := 4) (pc' := 87) dX10_move_86 rfl (by decide) ?_
        obtain rfl := Option.some.inj hf
        exact Go.ret (v := some (.int _)) dX10_move_87 ⟨_, rfl⟩ ⟨rfl, rfl, R⟩
    · have hf := it c123 hf
      refine go_iconst (v := 5) (pc' := 73) dX10_move_72 rfl (by decide) ?_
      obtain rfl := Option.some.inj hf
      exact Go.ret (v := some (.int _)) dX10_move_73 ⟨_, rfl⟩ ⟨rfl, rfl, R⟩
  · have hf := ie c113 hf
    refine go_iconst (v := 2) (pc' := 45) dX10_move_44 rfl (by decide) ?_
    obtain rfl := Option.some.inj hf
    exact Go.ret (v := some (.int _)) dX10_move_45 ⟨_, rfl⟩ ⟨rfl, rfl, R⟩
def f_X10_isFillInPlane (n : Nat)  (σ : xσ) : Option (Int32 × xσ) := gd (inb 4 6) (st ((sI σ 4 (4 : Int32).toNatClampNeg).toInt64) (fun l102 => if (lg_cmp l102 ((1 : Int64))) < 0 then some (0, σ) else if (lg_cmp l102 ((1000000000 : Int64))) ≤ 0 then gd (¬ ((16 : Int64)) = 0) (st ((l102 + (l102 / ((16 : Int64)))) + ((1 : Int64))) (fun l107 => gd (inb 2 6) (if 0 < (lg_cmp (((sI σ 4 (2 : Int32).toNatClampNeg).toInt64) + l107) ((1073741823 : Int64))) then some (0, σ) else gd (inb 3 6) (if 0 < (lg_cmp (((sI σ 4 (3 : Int32).toNatClampNeg).toInt64) + l107) ((1073741823 : Int64))) then some (0, σ) else some (1, σ))))) else some (0, σ)))
set_option maxRecDepth 100000 in
set_option maxHeartbeats 4000000 in
theorem c_X10_isFillInPlane {G : xG} {n : Nat} {σ : xσ} {h : xH}  {v1 : Int32} {σ1 : xσ} (R : Rl n σ h) (hf : f_X10_isFillInPlane n σ = some (v1, σ1)) : Ca G mX10_isFillInPlane [.ref 0] h (fun v h' => v = some (.int v1) ∧ Rl n σ1 h') := by
  refine Ca.of rfl (Nat.le_of_ble_eq_true rfl) ?_
  generalize hr : (v1, σ1) = r at hf
  suffices q : Go G mX10_isFillInPlane 0 (xent (xMl mX10_isFillInPlane) [.ref 0]) [] h (fun v h' => xRok (xRt mX10_isFillInPlane) v ∧ v = some (.int r.1) ∧ Rl n r.2 h') by
    subst hr
    exact q
  clear hr
  rw [f_X10_isFillInPlane] at hf
  refine go_aload_n (i := 0) (pc' := 1) dX10_isFillInPlane_0 rfl rfl rfl ?_
  refine go_getS (pc' := 4) dX10_isFillInPlane_1 rfl gf_LandBase_19 R (R.at rfl (by decide)) (by decide) rfl ?_
  refine go_getS (pc' := 7) dX10_isFillInPlane_4 rfl gf_LandBase_214 R (R.at rfl (by decide)) (by decide) rfl ?_
  refine go_iconst (v := 4) (pc' := 8) dX10_isFillInPlane_7 rfl (by decide) ?_
  obtain ⟨g101, hf⟩ := gd_some hf
  refine go_ialoadS (pc' := 9) dX10_isFillInPlane_8 rfl R (R.aa rfl (by decide)) g101 ?_
  refine go_i2l (pc' := 10) dX10_isFillInPlane_9 rfl rfl ?_
  obtain ⟨l102, e103, hf⟩ := st_some hf
  refine go_lstore_nE e103 (i := 1) (pc' := 11) dX10_isFillInPlane_10 rfl rfl (by decide) rfl ?_
  refine go_lload_n (i := 1) (pc' := 12) dX10_isFillInPlane_11 rfl rfl rfl ?_
  refine go_lconst (v := 1) (pc' := 13) dX10_isFillInPlane_12 rfl (by decide) ?_
  refine go_lcmp (pc' := 14) dX10_isFillInPlane_13 rfl ?_
  refine go_if_lt (pc' := 17) (tgt := 25) dX10_isFillInPlane_14 (by decide) rfl (fun c104 => ?_) (fun c104 => ?_)
  · have hf := it c104 hf
    refine go_iconst (v := 0) (pc' := 26) dX10_isFillInPlane_25 rfl (by decide) ?_
    obtain rfl := Option.some.inj hf
    exact Go.ret (v := some (.int _)) dX10_isFillInPlane_26 ⟨_, rfl⟩ ⟨rfl, rfl, R⟩
  · have hf := ie c104 hf
    refine go_lload_n (i := 1) (pc' := 18) dX10_isFillInPlane_17 rfl rfl rfl ?_
    refine go_ldc2 (pc' := 21) dX10_isFillInPlane_18 rfl wd_725 ?_
    refine go_lcmp (pc' := 22) dX10_isFillInPlane_21 rfl ?_
    refine go_if_le (pc' := 25) (tgt := 27) dX10_isFillInPlane_22 (by decide) rfl (fun c105 => ?_) (fun c105 => ?_)
    · have hf := it c105 hf
      refine go_lload_n (i := 1) (pc' := 28) dX10_isFillInPlane_27 rfl rfl rfl ?_
      refine go_lload_n (i := 1) (pc' := 29) dX10_isFillInPlane_28 rfl rfl rfl ?_
      refine go_ldc2 (pc' := 32) dX10_isFillInPlane_29 rfl wd_726 ?_
      obtain ⟨g106, hf⟩ := gd_some hf
      refine go_ldiv (pc' := 33) dX10_isFillInPlane_32 rfl g106 ?_
      refine go_ladd (pc' := 34) dX10_isFillInPlane_33 rfl ?_
      refine go_lconst (v := 1) (pc' := 35) dX10_isFillInPlane_34 rfl (by decide) ?_
      refine go_ladd (pc' := 36) dX10_isFillInPlane_35 rfl ?_
      obtain ⟨l107, e108, hf⟩ := st_some hf
      refine go_lstore_nE e108 (i := 3) (pc' := 37) dX10_isFillInPlane_36 rfl rfl (by decide) rfl ?_
      refine go_aload_n (i := 0) (pc' := 38) dX10_isFillInPlane_37 rfl rfl rfl ?_
      refine go_getS (pc' := 41) dX10_isFillInPlane_38 rfl gf_LandBase_19 R (R.at rfl (by decide)) (by decide) rfl ?_
      refine go_getS (pc' := 44) dX10_isFillInPlane_41 rfl gf_LandBase_214 R (R.at rfl (by decide)) (by decide) rfl ?_
      refine go_iconst (v := 2) (pc' := 45) dX10_isFillInPlane_44 rfl (by decide) ?_
      obtain ⟨g109, hf⟩ := gd_some hf
      refine go_ialoadS (pc' := 46) dX10_isFillInPlane_45 rfl R (R.aa rfl (by decide)) g109 ?_
      refine go_i2l (pc' := 47) dX10_isFillInPlane_46 rfl rfl ?_
      refine go_lload_n (i := 3) (pc' := 48) dX10_isFillInPlane_47 rfl rfl rfl ?_
      refine go_ladd (pc' := 49) dX10_isFillInPlane_48 rfl ?_
      refine go_ldc2 (pc' := 52) dX10_isFillInPlane_49 rfl wd_712 ?_
      refine go_lcmp (pc' := 53) dX10_isFillInPlane_52 rfl ?_
      refine go_if_gt (pc' := 56) (tgt := 79) dX10_isFillInPlane_53 (by decide) rfl (fun c110 => ?_) (fun c110 => ?_)
      · have hf := it c110 hf
        refine go_iconst (v := 0) (pc' := 80) dX10_isFillInPlane_79 rfl (by decide) ?_
        obtain rfl := Option.some.inj hf
        exact Go.ret (v := some (.int _)) dX10_isFillInPlane_80 ⟨_, rfl⟩ ⟨rfl, rfl, R⟩
      · have hf := ie c110 hf
        refine go_aload_n (i := 0) (pc' := 57) dX10_isFillInPlane_56 rfl rfl rfl ?_
        refine go_getS (pc' := 60) dX10_isFillInPlane_57 rfl gf_LandBase_19 R (R.at rfl (by decide)) (by decide) rfl ?_
        refine go_getS (pc' := 63) dX10_isFillInPlane_60 rfl gf_LandBase_214 R (R.at rfl (by decide)) (by decide) rfl ?_
        refine go_iconst (v := 3) (pc' := 64) dX10_isFillInPlane_63 rfl (by decide) ?_
        obtain ⟨g111, hf⟩ := gd_some hf
        refine go_ialoadS (pc' := 65) dX10_isFillInPlane_64 rfl R (R.aa rfl (by decide)) g111 ?_
        refine go_i2l (pc' := 66) dX10_isFillInPlane_65 rfl rfl ?_
        refine go_lload_n (i := 3) (pc' := 67) dX10_isFillInPlane_66 rfl rfl rfl ?_
        refine go_ladd (pc' := 68) dX10_isFillInPlane_67 rfl ?_
        refine go_ldc2 (pc' := 71) dX10_isFillInPlane_68 rfl wd_712 ?_
        refine go_lcmp (pc' := 72) dX10_isFillInPlane_71 rfl ?_
        refine go_if_gt (pc' := 75) (tgt := 79) dX10_isFillInPlane_72 (by decide) rfl (fun c112 => ?_) (fun c112 => ?_)
        · have hf := it c112 hf
          refine go_iconst (v := 0) (pc' := 80) dX10_isFillInPlane_79 rfl (by decide) ?_
          obtain rfl := Option.some.inj hf
          exact Go.ret (v := some (.int _)) dX10_isFillInPlane_80 ⟨_, rfl⟩ ⟨rfl, rfl, R⟩
        · have hf := ie c112 hf
          refine go_iconst (v := 1) (pc' := 76) dX10_isFillInPlane_75 rfl (by decide) ?_
          refine go_goto (pc' := 0) (tgt := 80) dX10_isFillInPlane_76 (by decide) ?_
          obtain rfl := Option.some.inj hf
          exact Go.ret (v := some (.int _)) dX10_isFillInPlane_80 ⟨_, rfl⟩ ⟨rfl, rfl, R⟩
    · have hf := ie c105 hf
      refine go_iconst (v := 0) (pc' := 26) dX10_isFillInPlane_25 rfl (by decide) ?_
      obtain rfl := Option.some.inj hf
      exact Go.ret (v := some (.int _)) dX10_isFillInPlane_26 ⟨_, rfl⟩ ⟨rfl, rfl, R⟩
def f_X10_nextSeed (n : Nat) (x0 : Int32) (σ : xσ) : Option (Int32 × xσ) := some ((x0 * ((1103515245))) + 12345, σ)
set_option maxRecDepth 100000 in
set_option maxHeartbeats 4000000 in
theorem c_X10_nextSeed {G : xG} {n : Nat} {σ : xσ} {h : xH} {x0 : Int32} {v1 : Int32} {σ1 : xσ} (R : Rl n σ h) (hf : f_X10_nextSeed n x0 σ = some (v1, σ1)) : Ca G mX10_nextSeed [.int x0] h (fun v h' => v = some (.int v1) ∧ Rl n σ1 h') := by
  refine Ca.of rfl (Nat.le_of_ble_eq_true rfl) ?_
  generalize hr : (v1, σ1) = r at hf
  suffices q : Go G mX10_nextSeed 0 (xent (xMl mX10_nextSeed) [.int x0]) [] h (fun v h' => xRok (xRt mX10_nextSeed) v ∧ v = some (.int r.1) ∧ Rl n r.2 h') by
    subst hr
    exact q
  clear hr
  rw [f_X10_nextSeed] at hf
  refine go_iload_n (i := 0) (pc' := 1) dX10_nextSeed_0 rfl rfl rfl ?_
  refine go_ldcw (pc' := 4) dX10_nextSeed_1 rfl wd_734 ?_
  refine go_imul (pc' := 5) dX10_nextSeed_4 rfl ?_
  refine go_sipush (v := 12345) (pc' := 8) dX10_nextSeed_5 rfl (by decide) ?_
  refine go_iadd (pc' := 9) dX10_nextSeed_8 rfl ?_
  obtain rfl := Option.some.inj hf
  exact Go.ret (v := some (.int _)) dX10_nextSeed_9 ⟨_, rfl⟩ ⟨rfl, rfl, R⟩
def f_X10_draw (n : Nat) (x0 : Int32) (x1 : Int32) (σ : xσ) : Option (Int32 × xσ) := if 1 ≤ x1 then gd (¬ x1 = 0) (some (((x0.toUInt32 >>> ((8 : Int32).toUInt32 &&& Int32.toUInt32 31)).toInt32) - ((x0.toUInt32 >>> ((8 : Int32).toUInt32 &&& Int32.toUInt32 31)).toInt32) / x1 * x1, σ)) else some (0, σ)
set_option maxRecDepth 100000 in
set_option maxHeartbeats 4000000 in
theorem c_X10_draw {G : xG} {n : Nat} {σ : xσ} {h : xH} {x0 : Int32} {x1 : Int32} {v1 : Int32} {σ1 : xσ} (R : Rl n σ h) (hf : f_X10_draw n x0 x1 σ = some (v1, σ1)) : Ca G mX10_draw [.int x0, .int x1] h (fun v h' => v = some (.int v1) ∧ Rl n σ1 h') := by
  refine Ca.of rfl (Nat.le_of_ble_eq_true rfl) ?_
  generalize hr : (v1, σ1) = r at hf
  suffices q : Go G mX10_draw 0 (xent (xMl mX10_draw) [.int x0, .int x1]) [] h (fun v h' => xRok (xRt mX10_draw) v ∧ v = some (.int r.1) ∧ Rl n r.2 h') by
    subst hr
    exact q
  clear hr
  rw [f_X10_draw] at hf
  refine go_iload_n (i := 1) (pc' := 1) dX10_draw_0 rfl rfl rfl ?_
  refine go_iconst (v := 1) (pc' := 2) dX10_draw_1 rfl (by decide) ?_
  refine go_icmp_ge (pc' := 5) (tgt := 9) dX10_draw_2 (by decide) rfl (fun c101 => ?_) (fun c101 => ?_)
  · have hf := it c101 hf
    refine go_iload_n (i := 0) (pc' := 10) dX10_draw_9 rfl rfl rfl ?_
    refine go_bipush (v := 8) (pc' := 12) dX10_draw_10 rfl (by decide) ?_
    refine go_iushr (pc' := 13) dX10_draw_12 rfl rfl ?_
    refine go_iload_n (i := 1) (pc' := 14) dX10_draw_13 rfl rfl rfl ?_
    obtain ⟨g102, hf⟩ := gd_some hf
    refine go_irem (pc' := 15) dX10_draw_14 rfl g102 ?_
    obtain rfl := Option.some.inj hf
    exact Go.ret (v := some (.int _)) dX10_draw_15 ⟨_, rfl⟩ ⟨rfl, rfl, R⟩
  · have hf := ie c101 hf
    refine go_iconst (v := 0) (pc' := 6) dX10_draw_5 rfl (by decide) ?_
    refine go_goto (pc' := 0) (tgt := 15) dX10_draw_6 (by decide) ?_
    obtain rfl := Option.some.inj hf
    exact Go.ret (v := some (.int _)) dX10_draw_15 ⟨_, rfl⟩ ⟨rfl, rfl, R⟩
def b_X10_drawShape_221 (n : Nat) (a1 : Nat) (x4 : Int32) (σ : xσ) : Option (Int32 × xσ) := bd (f_X7_closeRing n a1 σ) (fun v101 σ102 => bd (f_X7_finish n a1 σ102) (fun v106 σ107 => some (x4, σ107)))
set_option maxRecDepth 100000 in
set_option maxHeartbeats 4000000 in
theorem t_X10_drawShape_221 {G : xG} {n : Nat} {a1 : Nat} {x4 : Int32} {σ : xσ} {h : xH} {r : Int32 × xσ} {d0 : Option Value} {d2 : Option Value} {d3 : Option Value} {d5 : Option Value} {d6 : Option Value} {d7 : Option Value} : Rl n σ h → okS n a1 → b_X10_drawShape_221 n a1 x4 σ = some r → Go G mX10_drawShape 221 [d0, some (.ref a1), d2, d3, some (.int x4), d5, d6, d7] [] h (fun v h' => xRok (xRt mX10_drawShape) v ∧ v = some (.int r.1) ∧ Rl n r.2 h') := by
  intro R g1 hf
  rw [b_X10_drawShape_221] at hf
  refine go_aload_n (i := 1) (pc' := 222) dX10_drawShape_221 rfl rfl rfl ?_
  obtain ⟨v101, σ102, e103, hf⟩ := bd_some hf
  refine go_invV (As := []) (pc' := 225) dX10_drawShape_222 rfl cf_X10_drawShape_292 rfl (R.ob g1.at) rfl rfl (Nat.le_of_ble_eq_true rfl) (c_X7_closeRing R e103) (fun q104v h105 q104 => ?_)
  obtain ⟨rfl, R⟩ := q104
  refine go_aload_n (i := 1) (pc' := 226) dX10_drawShape_225 rfl rfl rfl ?_
  obtain ⟨v106, σ107, e108, hf⟩ := bd_some hf
  refine go_invV (As := []) (pc' := 229) dX10_drawShape_226 rfl cf_X10_drawShape_295 rfl (R.ob g1.at) rfl rfl (Nat.le_of_ble_eq_true rfl) (c_X7_finish R e108) (fun q109v h110 q109 => ?_)
  obtain ⟨rfl, R⟩ := q109
  refine go_iload (pc' := 231) dX10_drawShape_229 rfl rfl ?_
  obtain rfl := Option.some.inj hf
  exact Go.ret (v := some (.int _)) dX10_drawShape_231 ⟨_, rfl⟩ ⟨rfl, rfl, R⟩
def f_X10_drawShape (n : Nat) (a1 : Nat) (x2 : Int32) (σ : xσ) : Option (Int32 × xσ) := gd (okS n a1) (gd (inb 4 6) (st (sI σ 4 (4 : Int32).toNatClampNeg) (fun x102 => bd (f_X10_nextSeed n x2 σ) (fun v104 σ105 => gd (inb 2 6) (bd (f_X10_draw n v104 x102 σ105) (fun v110 σ111 => st ((sI σ105 4 (2 : Int32).toNatClampNeg) + v110) (fun x115 => bd (f_X10_nextSeed n v104 σ111) (fun v117 σ118 => gd (inb 3 6) (bd (f_X10_draw n v117 x102 σ118) (fun v123 σ124 => st ((sI σ118 4 (3 : Int32).toNatClampNeg) + v123) (fun x128 => bd (f_X7_start n a1 (sI σ124 3 5) σ124) (fun v130 σ131 => bd (f_X7_addPlace n a1 x115 x128 σ131) (fun v135 σ136 => if (sI σ136 3 5) = 1 then bd (f_X10_nextSeed n v117 σ136) (fun v184 σ185 => bd (f_X10_draw n v184 ((x102 / 16) + 1) σ185) (fun v189 σ190 => bd (f_X10_nextSeed n v184 σ190) (fun v194 σ195 => bd (f_X10_draw n v194 ((x102 / 16) + 1) σ195) (fun v199 σ200 => bd (f_X7_addPlace n a1 ((x115 + v189) + 1) (x128 + v199) σ200) (fun v204 σ205 => b_X10_drawShape_221 n a1 v194 σ205))))) else if (sI σ136 3 5) = 2 then bd (f_X10_nextSeed n v117 σ136) (fun v152 σ153 => bd (f_X10_draw n v152 ((x102 / 16) + 1) σ153) (fun v157 σ158 => st (v157 + 1) (fun x162 => bd (f_X7_addPlace n a1 (x115 + x162) x128 σ158) (fun v164 σ165 => bd (f_X7_addPlace n a1 (x115 + x162) (x128 + x162) σ165) (fun v169 σ170 => bd (f_X7_addPlace n a1 x115 (x128 + x162) σ170) (fun v174 σ175 => bd (f_X7_addPlace n a1 x115 x128 σ175) (fun v179 σ180 => b_X10_drawShape_221 n a1 v152 σ180))))))) else bd (f_X7_closeRing n a1 σ136) (fun v142 σ143 => bd (f_X7_finish n a1 σ143) (fun v147 σ148 => some (v117, σ148))))))))))))))))
set_option maxRecDepth 100000 in
set_option maxHeartbeats 4000000 in
theorem c_X10_drawShape {G : xG} {n : Nat} {σ : xσ} {h : xH} {a1 : Nat} {x2 : Int32} {v1 : Int32} {σ1 : xσ} (R : Rl n σ h) (hf : f_X10_drawShape n a1 x2 σ = some (v1, σ1)) : Ca G mX10_drawShape [.ref 0, .ref a1, .int x2] h (fun v h' => v = some (.int v1) ∧ Rl n σ1 h') := by
  refine Ca.of rfl (Nat.le_of_ble_eq_true rfl) ?_
  generalize hr : (v1, σ1) = r at hf
  suffices q : Go G mX10_drawShape 0 (xent (xMl mX10_drawShape) [.ref 0, .ref a1, .int x2]) [] h (fun v h' => xRok (xRt mX10_drawShape) v ∧ v = some (.int r.1) ∧ Rl n r.2 h') by
    subst hr
    exact q
  clear hr
  rw [f_X10_drawShape] at hf
  obtain ⟨g1, hf⟩ := gd_some hf
  refine go_aload_n (i := 0) (pc' := 1) dX10_drawShape_0 rfl rfl rfl ?_
  refine go_getS (pc' := 4) dX10_drawShape_1 rfl gf_LandBase_19 R (R.at rfl (by decide)) (by decide) rfl ?_
  refine go_getS (pc' := 7) dX10_drawShape_4 rfl gf_LandBase_214 R (R.at rfl (by decide)) (by decide) rfl ?_
  refine go_iconst (v := 4) (pc' := 8) dX10_drawShape_7 rfl (by decide) ?_
  obtain ⟨g101, hf⟩ := gd_some hf
  refine go_ialoadS (pc' := 9) dX10_drawShape_8 rfl R (R.aa rfl (by decide)) g101 ?_
  obtain ⟨x102, e103, hf⟩ := st_some hf
  refine go_istore_nE e103 (i := 3) (pc' := 10) dX10_drawShape_9 rfl rfl (by decide) rfl ?_
  refine go_iload_n (i := 2) (pc' := 11) dX10_drawShape_10 rfl rfl rfl ?_
  obtain ⟨v104, σ105, e106, hf⟩ := bd_some hf
  refine go_invS (As := [_]) (pc' := 14) dX10_drawShape_11 rfl cf_X10_drawShape_275 rfl rfl (Nat.le_of_ble_eq_true rfl) (c_X10_nextSeed R e106) (fun q107v h108 q107 => ?_)
  obtain ⟨rfl, R⟩ := q107
  refine go_istoreE rfl (pc' := 16) dX10_drawShape_14 rfl (by decide) rfl ?_
  refine go_aload_n (i := 0) (pc' := 17) dX10_drawShape_16 rfl rfl rfl ?_
  refine go_getS (pc' := 20) dX10_drawShape_17 rfl gf_LandBase_19 R (R.at rfl (by decide)) (by decide) rfl ?_
  refine go_getS (pc' := 23) dX10_drawShape_20 rfl gf_LandBase_214 R (R.at rfl (by decide)) (by decide) rfl ?_
  refine go_iconst (v := 2) (pc' := 24) dX10_drawShape_23 rfl (by decide) ?_
  obtain ⟨g109, hf⟩ := gd_some hf
  refine go_ialoadS (pc' := 25) dX10_drawShape_24 rfl R (R.aa rfl (by decide)) g109 ?_
  refine go_iload (pc' := 27) dX10_drawShape_25 rfl rfl ?_
  refine go_iload_n (i := 3) (pc' := 28) dX10_drawShape_27 rfl rfl rfl ?_
  obtain ⟨v110, σ111, e112, hf⟩ := bd_some hf
  refine go_invS (As := [_, _]) (pc' := 31) dX10_drawShape_28 rfl cf_X10_drawShape_278 rfl rfl (Nat.le_of_ble_eq_true rfl) (c_X10_draw R e112) (fun q113v h114 q113 => ?_)
  obtain ⟨rfl, R⟩ := q113
  refine go_iadd (pc' := 32) dX10_drawShape_31 rfl ?_
  obtain ⟨x115, e116, hf⟩ := st_some hf
  refine go_istoreE e116 (pc' := 34) dX10_drawShape_32 rfl (by decide) rfl ?_
  refine go_iload (pc' := 36) dX10_drawShape_34 rfl rfl ?_
  obtain ⟨v117, σ118, e119, hf⟩ := bd_some hf
  refine go_invS (As := [_]) (pc' := 39) dX10_drawShape_36 rfl cf_X10_drawShape_275 rfl rfl (Nat.le_of_ble_eq_true rfl) (c_X10_nextSeed R e119) (fun q120v h121 q120 => ?_)
  obtain ⟨rfl, R⟩ := q120
  refine go_istoreE rfl (pc' := 41) dX10_drawShape_39 rfl (by decide) rfl ?_
  refine go_aload_n (i := 0) (pc' := 42) dX10_drawShape_41 rfl rfl rfl ?_
  refine go_getS (pc' := 45) dX10_drawShape_42 rfl gf_LandBase_19 R (R.at rfl (by decide)) (by decide) rfl ?_
  refine go_getS (pc' := 48) dX10_drawShape_45 rfl gf_LandBase_214 R (R.at rfl (by decide)) (by decide) rfl ?_
  refine go_iconst (v := 3) (pc' := 49) dX10_drawShape_48 rfl (by decide) ?_
  obtain ⟨g122, hf⟩ := gd_some hf
  refine go_ialoadS (pc' := 50) dX10_drawShape_49 rfl R (R.aa rfl (by decide)) g122 ?_
  refine go_iload (pc' := 52) dX10_drawShape_50 rfl rfl ?_
  refine go_iload_n (i := 3) (pc' := 53) dX10_drawShape_52 rfl rfl rfl ?_
  obtain ⟨v123, σ124, e125, hf⟩ := bd_some hf
  refine go_invS (As := [_, _]) (pc' := 56) dX10_drawShape_53 rfl cf_X10_drawShape_278 rfl rfl (Nat.le_of_ble_eq_true rfl) (c_X10_draw R e125) (fun q126v h127 q126 => ?_)
  obtain ⟨rfl, R⟩ := q126
  refine go_iadd (pc' := 57) dX10_drawShape_56 rfl ?_
  obtain ⟨x128, e129, hf⟩ := st_some hf
  refine go_istoreE e129 (pc' := 59) dX10_drawShape_57 rfl (by decide) rfl ?_
  refine go_aload_n (i := 1) (pc' := 60) dX10_drawShape_59 rfl rfl rfl ?_
  refine go_aload_n (i := 0) (pc' := 61) dX10_drawShape_60 rfl rfl rfl ?_
  refine go_getS (pc' := 64) dX10_drawShape_61 rfl gf_LandBase_19 R (R.at rfl (by decide)) (by decide) rfl ?_
  refine go_getS (pc' := 67) dX10_drawShape_64 rfl gf_LandBase_282 R (R.at rfl (by decide)) (by decide) rfl ?_
  obtain ⟨v130, σ131, e132, hf⟩ := bd_some hf
  refine go_invV (As := [_]) (pc' := 70) dX10_drawShape_67 rfl cf_X10_drawShape_285 rfl (R.ob g1.at) rfl rfl (Nat.le_of_ble_eq_true rfl) (c_X7_start R e132) (fun q133v h134 q133 => ?_)
  obtain ⟨rfl, R⟩ := q133
  refine go_aload_n (i := 1) (pc' := 71) dX10_drawShape_70 rfl rfl rfl ?_
  refine go_iload (pc' := 73) dX10_drawShape_71 rfl rfl ?_
  refine go_iload (pc' := 75) dX10_drawShape_73 rfl rfl ?_
  obtain ⟨v135, σ136, e137, hf⟩ := bd_some hf
  refine go_invV (As := [_, _]) (pc' := 78) dX10_drawShape_75 rfl cf_X10_drawShape_288 rfl (R.ob g1.at) rfl rfl (Nat.le_of_ble_eq_true rfl) (c_X7_addPlace R e137) (fun q138v h139 q138 => ?_)
  obtain ⟨rfl, R⟩ := q138
  refine go_aload_n (i := 0) (pc' := 79) dX10_drawShape_78 rfl rfl rfl ?_
  refine go_getS (pc' := 82) dX10_drawShape_79 rfl gf_LandBase_19 R (R.at rfl (by decide)) (by decide) rfl ?_
  refine go_getS (pc' := 85) dX10_drawShape_82 rfl gf_LandBase_282 R (R.at rfl (by decide)) (by decide) rfl ?_
  refine go_iconst (v := 1) (pc' := 86) dX10_drawShape_85 rfl (by decide) ?_
  refine go_icmp_ne (pc' := 89) (tgt := 144) dX10_drawShape_86 (by decide) rfl (fun c140 => ?_) (fun c140 => ?_)
  · have hf := ie c140 hf
    refine go_aload_n (i := 0) (pc' := 145) dX10_drawShape_144 rfl rfl rfl ?_
    refine go_getS (pc' := 148) dX10_drawShape_145 rfl gf_LandBase_19 R (R.at rfl (by decide)) (by decide) rfl ?_
    refine go_getS (pc' := 151) dX10_drawShape_148 rfl gf_LandBase_282 R (R.at rfl (by decide)) (by decide) rfl ?_
    refine go_iconst (v := 2) (pc' := 152) dX10_drawShape_151 rfl (by decide) ?_
    refine go_icmp_ne (pc' := 155) (tgt := 221) dX10_drawShape_152 (by decide) rfl (fun c141 => ?_) (fun c141 => ?_)
    · have hf := ie c141 hf
      refine go_aload_n (i := 1) (pc' := 222) dX10_drawShape_221 rfl rfl rfl ?_
      obtain ⟨v142, σ143, e144, hf⟩ := bd_some hf
      refine go_invV (As := []) (pc' := 225) dX10_drawShape_222 rfl cf_X10_drawShape_292 rfl (R.ob g1.at) rfl rfl (Nat.le_of_ble_eq_true rfl) (c_X7_closeRing R e144) (fun q145v h146 q145 => ?_)
      obtain ⟨rfl, R⟩ := q145
      refine go_aload_n (i := 1) (pc' := 226) dX10_drawShape_225 rfl rfl rfl ?_
      obtain ⟨v147, σ148, e149, hf⟩ := bd_some hf
      refine go_invV (As := []) (pc' := 229) dX10_drawShape_226 rfl cf_X10_drawShape_295 rfl (R.ob g1.at) rfl rfl (Nat.le_of_ble_eq_true rfl) (c_X7_finish R e149) (fun q150v h151 q150 => ?_)
      obtain ⟨rfl, R⟩ := q150
      refine go_iload (pc' := 231) dX10_drawShape_229 rfl rfl ?_
      obtain rfl := Option.some.inj hf
      exact Go.ret (v := some (.int _)) dX10_drawShape_231 ⟨_, rfl⟩ ⟨rfl, rfl, R⟩
    · have hf := it c141 hf
      refine go_iload (pc' := 157) dX10_drawShape_155 rfl rfl ?_
      obtain ⟨v152, σ153, e154, hf⟩ := bd_some hf
      refine go_invS (As := [_]) (pc' := 160) dX10_drawShape_157 rfl cf_X10_drawShape_275 rfl rfl (Nat.le_of_ble_eq_true rfl) (c_X10_nextSeed R e154) (fun q155v h156 q155 => ?_)
      obtain ⟨rfl, R⟩ := q155
      refine go_istoreE rfl (pc' := 162) dX10_drawShape_160 rfl (by decide) rfl ?_
      refine go_iload (pc' := 164) dX10_drawShape_162 rfl rfl ?_
      refine go_iload_n (i := 3) (pc' := 165) dX10_drawShape_164 rfl rfl rfl ?_
      refine go_bipush (v := 16) (pc' := 167) dX10_drawShape_165 rfl (by decide) ?_
      refine go_idiv (pc' := 168) dX10_drawShape_167 rfl (by decide) ?_
      refine go_iconst (v := 1) (pc' := 169) dX10_drawShape_168 rfl (by decide) ?_
      refine go_iadd (pc' := 170) dX10_drawShape_169 rfl ?_
      obtain ⟨v157, σ158, e159, hf⟩ := bd_some hf
      refine go_invS (As := [_, _]) (pc' := 173) dX10_drawShape_170 rfl cf_X10_drawShape_278 rfl rfl (Nat.le_of_ble_eq_true rfl) (c_X10_draw R e159) (fun q160v h161 q160 => ?_)
      obtain ⟨rfl, R⟩ := q160
      refine go_iconst (v := 1) (pc' := 174) dX10_drawShape_173 rfl (by decide) ?_
      refine go_iadd (pc' := 175) dX10_drawShape_174 rfl ?_
      obtain ⟨x162, e163, hf⟩ := st_some hf
      refine go_istoreE e163 (pc' := 177) dX10_drawShape_175 rfl (by decide) rfl ?_
      refine go_aload_n (i := 1) (pc' := 178) dX10_drawShape_177 rfl rfl rfl ?_
      refine go_iload (pc' := 180) dX10_drawShape_178 rfl rfl ?_
      refine go_iload (pc' := 182) dX10_drawShape_180 rfl rfl ?_
      refine go_iadd (pc' := 183) dX10_drawShape_182 rfl ?_
      refine go_iload (pc' := 185) dX10_drawShape_183 rfl rfl ?_
      obtain ⟨v164, σ165, e166, hf⟩ := bd_some hf
      refine go_invV (As := [_, _]) (pc' := 188) dX10_drawShape_185 rfl cf_X10_drawShape_288 rfl (R.ob g1.at) rfl rfl (Nat.le_of_ble_eq_true rfl) (c_X7_addPlace R e166) (fun q167v h168 q167 => ?_)
      obtain ⟨rfl, R⟩ := q167
      refine go_aload_n (i := 1) (pc' := 189) dX10_drawShape_188 rfl rfl rfl ?_
      refine go_iload (pc' := 191) dX10_drawShape_189 rfl rfl ?_
      refine go_iload (pc' := 193) dX10_drawShape_191 rfl rfl ?_
      refine go_iadd (pc' := 194) dX10_drawShape_193 rfl ?_
      refine go_iload (pc' := 196) dX10_drawShape_194 rfl rfl ?_
      refine go_iload (pc' := 198) dX10_drawShape_196 rfl rfl ?_
      refine go_iadd (pc' := 199) dX10_drawShape_198 rfl ?_
      obtain ⟨v169, σ170, e171, hf⟩ := bd_some hf
      refine go_invV (As := [_, _]) (pc' := 202) dX10_drawShape_199 rfl cf_X10_drawShape_288 rfl (R.ob g1.at) rfl rfl (Nat.le_of_ble_eq_true rfl) (c_X7_addPlace R e171) (fun q172v h173 q172 => ?_)
      obtain ⟨rfl, R⟩ := q172
      refine go_aload_n (i := 1) (pc' := 203) dX10_drawShape_202 rfl rfl rfl ?_
      refine go_iload (pc' := 205) dX10_drawShape_203 rfl rfl ?_
      refine go_iload (pc' := 207) dX10_drawShape_205 rfl rfl ?_
      refine go_iload (pc' := 209) dX10_drawShape_207 rfl rfl ?_
      refine go_iadd (pc' := 210) dX10_drawShape_209 rfl ?_
      obtain ⟨v174, σ175, e176, hf⟩ := bd_some hf
      refine go_invV (As := [_, _]) (pc' := 213) dX10_drawShape_210 rfl cf_X10_drawShape_288 rfl (R.ob g1.at) rfl rfl (Nat.le_of_ble_eq_true rfl) (c_X7_addPlace R e176) (fun q177v h178 q177 => ?_)
      obtain ⟨rfl, R⟩ := q177
      refine go_aload_n (i := 1) (pc' := 214) dX10_drawShape_213 rfl rfl rfl ?_
      refine go_iload (pc' := 216) dX10_drawShape_214 rfl rfl ?_
      refine go_iload (pc' := 218) dX10_drawShape_216 rfl rfl ?_
      obtain ⟨v179, σ180, e181, hf⟩ := bd_some hf
      refine go_invV (As := [_, _]) (pc' := 221) dX10_drawShape_218 rfl cf_X10_drawShape_288 rfl (R.ob g1.at) rfl rfl (Nat.le_of_ble_eq_true rfl) (c_X7_addPlace R e181) (fun q182v h183 q182 => ?_)
      obtain ⟨rfl, R⟩ := q182
      exact t_X10_drawShape_221 R g1 hf
  · have hf := it c140 hf
    refine go_iload (pc' := 91) dX10_drawShape_89 rfl rfl ?_
    obtain ⟨v184, σ185, e186, hf⟩ := bd_some hf
    refine go_invS (As := [_]) (pc' := 94) dX10_drawShape_91 rfl cf_X10_drawShape_275 rfl rfl (Nat.le_of_ble_eq_true rfl) (c_X10_nextSeed R e186) (fun q187v h188 q187 => ?_)
    obtain ⟨rfl, R⟩ := q187
    refine go_istoreE rfl (pc' := 96) dX10_drawShape_94 rfl (by decide) rfl ?_
    refine go_iload (pc' := 98) dX10_drawShape_96 rfl rfl ?_
    refine go_iload_n (i := 3) (pc' := 99) dX10_drawShape_98 rfl rfl rfl ?_
    refine go_bipush (v := 16) (pc' := 101) dX10_drawShape_99 rfl (by decide) ?_
    refine go_idiv (pc' := 102) dX10_drawShape_101 rfl (by decide) ?_
    refine go_iconst (v := 1) (pc' := 103) dX10_drawShape_102 rfl (by decide) ?_
    refine go_iadd (pc' := 104) dX10_drawShape_103 rfl ?_
    obtain ⟨v189, σ190, e191, hf⟩ := bd_some hf
    refine go_invS (As := [_, _]) (pc' := 107) dX10_drawShape_104 rfl cf_X10_drawShape_278 rfl rfl (Nat.le_of_ble_eq_true rfl) (c_X10_draw R e191) (fun q192v h193 q192 => ?_)
    obtain ⟨rfl, R⟩ := q192
    refine go_istoreE rfl (pc' := 109) dX10_drawShape_107 rfl (by decide) rfl ?_
    refine go_iload (pc' := 111) dX10_drawShape_109 rfl rfl ?_
    obtain ⟨v194, σ195, e196, hf⟩ := bd_some hf
    refine go_invS (As := [_]) (pc' := 114) dX10_drawShape_111 rfl cf_X10_drawShape_275 rfl rfl (Nat.le_of_ble_eq_true rfl) (c_X10_nextSeed R e196) (fun q197v h198 q197 => ?_)
    obtain ⟨rfl, R⟩ := q197
    refine go_istoreE rfl (pc' := 116) dX10_drawShape_114 rfl (by decide) rfl ?_
    refine go_aload_n (i := 1) (pc' := 117) dX10_drawShape_116 rfl rfl rfl ?_
    refine go_iload (pc' := 119) dX10_drawShape_117 rfl rfl ?_
    refine go_iload (pc' := 121) dX10_drawShape_119 rfl rfl ?_
    refine go_iadd (pc' := 122) dX10_drawShape_121 rfl ?_
    refine go_iconst (v := 1) (pc' := 123) dX10_drawShape_122 rfl (by decide) ?_
    refine go_iadd (pc' := 124) dX10_drawShape_123 rfl ?_
    refine go_iload (pc' := 126) dX10_drawShape_124 rfl rfl ?_
    refine go_iload (pc' := 128) dX10_drawShape_126 rfl rfl ?_
    refine go_iload_n (i := 3) (pc' := 129) dX10_drawShape_128 rfl rfl rfl ?_
    refine go_bipush (v := 16) (pc' := 131) dX10_drawShape_129 rfl (by decide) ?_
    refine go_idiv (pc' := 132) dX10_drawShape_131 rfl (by decide) ?_
    refine go_iconst (v := 1) (pc' := 133) dX10_drawShape_132 rfl (by decide) ?_
    refine go_iadd (pc' := 134) dX10_drawShape_133 rfl ?_
    obtain ⟨v199, σ200, e201, hf⟩ := bd_some hf
    refine go_invS (As := [_, _]) (pc' := 137) dX10_drawShape_134 rfl cf_X10_drawShape_278 rfl rfl (Nat.le_of_ble_eq_true rfl) (c_X10_draw R e201) (fun q202v h203 q202 => ?_)
    obtain ⟨rfl, R⟩ := q202
    refine go_iadd (pc' := 138) dX10_drawShape_137 rfl ?_
    obtain ⟨v204, σ205, e206, hf⟩ := bd_some hf
    refine go_invV (As := [_, _]) (pc' := 141) dX10_drawShape_138 rfl cf_X10_drawShape_288 rfl (R.ob g1.at) rfl rfl (Nat.le_of_ble_eq_true rfl) (c_X7_addPlace R e206) (fun q207v h208 q207 => ?_)
    obtain ⟨rfl, R⟩ := q207
    refine go_goto (pc' := 0) (tgt := 221) dX10_drawShape_141 (by decide) ?_
    exact t_X10_drawShape_221 R g1 hf
def l_X10_fill_132  : Nat → Int32 → Int32 → Int32 → Int32 → Nat → xσ → Option (Int32 × Nat × xσ)
  | 0, _, _, _, _, _, _ => none
  | f + 1, x1, x2, x3, x4, n, σ => if x2 ≤ x4 then bd (f_X3_settle n 32 σ) (fun v102 σ103 => some (v102, n, σ103)) else bn (f_X3_freshShape n σ) (fun v107 n σ108 => gd (okS n v107) (bd (f_X10_drawShape n v107 x3 σ108) (fun v113 σ114 => bd (f_X8_insert n 11 (x1 + x4) v107 σ114) (fun v118 σ119 => (l_X10_fill_132 f) x1 x2 v113 (x4 + 1) n σ119))))
set_option maxRecDepth 100000 in
set_option maxHeartbeats 4000000 in
theorem t_X10_fill_132 {G : xG} : ∀ (f : Nat) {n : Nat} {x1 : Int32} {x2 : Int32} {x3 : Int32} {x4 : Int32} {σ : xσ} {h : xH} {r : Int32 × Nat × xσ} {d5 : Option Value}, Rl n σ h → l_X10_fill_132 f x1 x2 x3 x4 n σ = some r → Go G mX10_fill 132 [some (.ref 0), some (.int x1), some (.int x2), some (.int x3), some (.int x4), d5] [] h (fun v h' => xRok (xRt mX10_fill) v ∧ v = some (.int r.1) ∧ Rl r.2.1 r.2.2 h') := by
  intro f
  induction f with
  | zero =>
    intros
    rename _ = some _ => hf
    rw [l_X10_fill_132] at hf
    cases hf
  | succ f ih =>
    intro n x1 x2 x3 x4 σ h r d5 R hf
    rw [l_X10_fill_132] at hf
    refine go_iload (pc' := 134) dX10_fill_132 rfl rfl ?_
    refine go_iload_n (i := 2) (pc' := 135) dX10_fill_134 rfl rfl rfl ?_
    refine go_icmp_ge (pc' := 138) (tgt := 177) dX10_fill_135 (by decide) rfl (fun c101 => ?_) (fun c101 => ?_)
    · have hf := it c101 hf
      refine go_aload_n (i := 0) (pc' := 178) dX10_fill_177 rfl rfl rfl ?_
      refine go_getS (pc' := 181) dX10_fill_178 rfl gf_LandBase_26 R (R.at rfl (by decide)) (by decide) rfl ?_
      refine go_bipush (v := 32) (pc' := 183) dX10_fill_181 rfl (by decide) ?_
      obtain ⟨v102, σ103, e104, hf⟩ := bd_some hf
      refine go_invV (As := [_]) (pc' := 186) dX10_fill_183 rfl cf_X10_fill_246 rfl (R.ob (R.at rfl (by decide))) rfl rfl (Nat.le_of_ble_eq_true rfl) (c_X3_settle R e104) (fun q105v h106 q105 => ?_)
      obtain ⟨rfl, R⟩ := q105
      obtain rfl := Option.some.inj hf
      exact Go.ret (v := some (.int _)) dX10_fill_186 ⟨_, rfl⟩ ⟨rfl, rfl, R⟩
    · have hf := ie c101 hf
      refine go_aload_n (i := 0) (pc' := 139) dX10_fill_138 rfl rfl rfl ?_
      refine go_getS (pc' := 142) dX10_fill_139 rfl gf_LandBase_26 R (R.at rfl (by decide)) (by decide) rfl ?_
      obtain ⟨v107, n, σ108, e109, hf⟩ := bn_some hf
      refine go_invV (As := []) (pc' := 145) dX10_fill_142 rfl cf_X10_fill_235 rfl (R.ob (R.at rfl (by decide))) rfl rfl (Nat.le_of_ble_eq_true rfl) (c_X3_freshShape R e109) (fun q110v h111 q110 => ?_)
      obtain ⟨rfl, R⟩ := q110
      obtain ⟨g112, hf⟩ := gd_some hf
      refine go_astore (pc' := 147) dX10_fill_145 rfl (by decide) rfl ?_
      refine go_aload_n (i := 0) (pc' := 148) dX10_fill_147 rfl rfl rfl ?_
      refine go_aload (pc' := 150) dX10_fill_148 rfl rfl ?_
      refine go_iload_n (i := 3) (pc' := 151) dX10_fill_150 rfl rfl rfl ?_
      obtain ⟨v113, σ114, e115, hf⟩ := bd_some hf
      refine go_invV (As := [_, _]) (pc' := 154) dX10_fill_151 rfl cf_X10_fill_267 rfl (R.ob (R.at rfl (by decide))) rfl rfl (Nat.le_of_ble_eq_true rfl) (c_X10_drawShape R e115) (fun q116v h117 q116 => ?_)
      obtain ⟨rfl, R⟩ := q116
      refine go_istore_nE rfl (i := 3) (pc' := 155) dX10_fill_154 rfl rfl (by decide) rfl ?_
      refine go_aload_n (i := 0) (pc' := 156) dX10_fill_155 rfl rfl rfl ?_
      refine go_getS (pc' := 159) dX10_fill_156 rfl gf_LandBase_26 R (R.at rfl (by decide)) (by decide) rfl ?_
      refine go_getS (pc' := 162) dX10_fill_159 rfl gf_LandBase_145 R (R.at rfl (by decide)) (by decide) rfl ?_
      refine go_iload_n (i := 1) (pc' := 163) dX10_fill_162 rfl rfl rfl ?_
      refine go_iload (pc' := 165) dX10_fill_163 rfl rfl ?_
      refine go_iadd (pc' := 166) dX10_fill_165 rfl ?_
      refine go_aload (pc' := 168) dX10_fill_166 rfl rfl ?_
      obtain ⟨v118, σ119, e120, hf⟩ := bd_some hf
      refine go_invV (As := [_, _]) (pc' := 171) dX10_fill_168 rfl cf_X10_fill_242 rfl (R.ob (R.at rfl (by decide))) rfl rfl (Nat.le_of_ble_eq_true rfl) (c_X8_insert R e120) (fun q121v h122 q121 => ?_)
      obtain ⟨rfl, R⟩ := q121
      refine go_iincC (kk := 1) (pc' := 174) dX10_fill_171 rfl rfl (by decide) (by decide) rfl ?_
      refine go_goto (pc' := 0) (tgt := 132) dX10_fill_174 (by decide) ?_
      exact ih R hf
def l_X10_fill_58  : Nat → Int32 → Int32 → Int32 → Nat → xσ → Option (Int32 × Nat × xσ)
  | 0, _, _, _, _, _ => none
  | f + 1, x1, x2, x3, n, σ => if x2 ≤ x3 then if 200 < ((sI σ 11 2) + x2) then some (4, n, σ) else bd (f_X3_hasRoom n 32 σ) (fun v103 σ104 => if v103 = 0 then some (4, n, σ104) else gd (inb 5 6) (st (sI σ104 4 (5 : Int32).toNatClampNeg) (fun x110 => l_X10_fill_132 xFU x1 x2 x110 0 n σ104))) else bd (f_X8_indexOf n 11 (x1 + x3) σ) (fun v112 σ113 => if v112 < 0 then (l_X10_fill_58 f) x1 x2 (x3 + 1) n σ113 else some (1, n, σ113))
set_option maxRecDepth 100000 in
set_option maxHeartbeats 4000000 in
theorem t_X10_fill_58 {G : xG} : ∀ (f : Nat) {n : Nat} {x1 : Int32} {x2 : Int32} {x3 : Int32} {σ : xσ} {h : xH} {r : Int32 × Nat × xσ} {d4 : Option Value} {d5 : Option Value}, Rl n σ h → l_X10_fill_58 f x1 x2 x3 n σ = some r → Go G mX10_fill 58 [some (.ref 0), some (.int x1), some (.int x2), some (.int x3), d4, d5] [] h (fun v h' => xRok (xRt mX10_fill) v ∧ v = some (.int r.1) ∧ Rl r.2.1 r.2.2 h') := by
  intro f
  induction f with
  | zero =>
    intros
    rename _ = some _ => hf
    rw [l_X10_fill_58] at hf
    cases hf
  | succ f ih =>
    intro n x1 x2 x3 σ h r d4 d5 R hf
    rw [l_X10_fill_58] at hf
    refine go_iload_n (i := 3) (pc' := 59) dX10_fill_58 rfl rfl rfl ?_
    refine go_iload_n (i := 2) (pc' := 60) dX10_fill_59 rfl rfl rfl ?_
    refine go_icmp_ge (pc' := 63) (tgt := 87) dX10_fill_60 (by decide) rfl (fun c101 => ?_) (fun c101 => ?_)
    · have hf := it c101 hf
      refine go_aload_n (i := 0) (pc' := 88) dX10_fill_87 rfl rfl rfl ?_
      refine go_getS (pc' := 91) dX10_fill_88 rfl gf_LandBase_26 R (R.at rfl (by decide)) (by decide) rfl ?_
      refine go_getS (pc' := 94) dX10_fill_91 rfl gf_LandBase_145 R (R.at rfl (by decide)) (by decide) rfl ?_
      refine go_getS (pc' := 97) dX10_fill_94 rfl gf_LandBase_149 R (R.at rfl (by decide)) (by decide) rfl ?_
      refine go_iload_n (i := 2) (pc' := 98) dX10_fill_97 rfl rfl rfl ?_
      refine go_iadd (pc' := 99) dX10_fill_98 rfl ?_
      refine go_sipush (v := 200) (pc' := 102) dX10_fill_99 rfl (by decide) ?_
      refine go_icmp_gt (pc' := 105) (tgt := 117) dX10_fill_102 (by decide) rfl (fun c102 => ?_) (fun c102 => ?_)
      · have hf := it c102 hf
        refine go_iconst (v := 4) (pc' := 118) dX10_fill_117 rfl (by decide) ?_
        obtain rfl := Option.some.inj hf
        exact Go.ret (v := some (.int _)) dX10_fill_118 ⟨_, rfl⟩ ⟨rfl, rfl, R⟩
      · have hf := ie c102 hf
        refine go_aload_n (i := 0) (pc' := 106) dX10_fill_105 rfl rfl rfl ?_
        refine go_getS (pc' := 109) dX10_fill_106 rfl gf_LandBase_26 R (R.at rfl (by decide)) (by decide) rfl ?_
        refine go_bipush (v := 32) (pc' := 111) dX10_fill_109 rfl (by decide) ?_
        obtain ⟨v103, σ104, e105, hf⟩ := bd_some hf
        refine go_invV (As := [_]) (pc' := 114) dX10_fill_111 rfl cf_X10_fill_231 rfl (R.ob (R.at rfl (by decide))) rfl rfl (Nat.le_of_ble_eq_true rfl) (c_X3_hasRoom R e105) (fun q106v h107 q106 => ?_)
        obtain ⟨rfl, R⟩ := q106
        refine go_if_ne (pc' := 117) (tgt := 119) dX10_fill_114 (by decide) rfl (fun c108 => ?_) (fun c108 => ?_)
        · have hf := ie c108 hf
          refine go_aload_n (i := 0) (pc' := 120) dX10_fill_119 rfl rfl rfl ?_
          refine go_getS (pc' := 123) dX10_fill_120 rfl gf_LandBase_19 R (R.at rfl (by decide)) (by decide) rfl ?_
          refine go_getS (pc' := 126) dX10_fill_123 rfl gf_LandBase_214 R (R.at rfl (by decide)) (by decide) rfl ?_
          refine go_iconst (v := 5) (pc' := 127) dX10_fill_126 rfl (by decide) ?_
          obtain ⟨g109, hf⟩ := gd_some hf
          refine go_ialoadS (pc' := 128) dX10_fill_127 rfl R (R.aa rfl (by decide)) g109 ?_
          obtain ⟨x110, e111, hf⟩ := st_some hf
          refine go_istore_nE e111 (i := 3) (pc' := 129) dX10_fill_128 rfl rfl (by decide) rfl ?_
          refine go_iconst (v := 0) (pc' := 130) dX10_fill_129 rfl (by decide) ?_
          refine go_istoreE rfl (pc' := 132) dX10_fill_130 rfl (by decide) rfl ?_
          exact t_X10_fill_132 xFU R hf
        · have hf := it c108 hf
          refine go_iconst (v := 4) (pc' := 118) dX10_fill_117 rfl (by decide) ?_
          obtain rfl := Option.some.inj hf
          exact Go.ret (v := some (.int _)) dX10_fill_118 ⟨_, rfl⟩ ⟨rfl, rfl, R⟩
    · have hf := ie c101 hf
      refine go_aload_n (i := 0) (pc' := 64) dX10_fill_63 rfl rfl rfl ?_
      refine go_getS (pc' := 67) dX10_fill_64 rfl gf_LandBase_26 R (R.at rfl (by decide)) (by decide) rfl ?_
      refine go_getS (pc' := 70) dX10_fill_67 rfl gf_LandBase_145 R (R.at rfl (by decide)) (by decide) rfl ?_
      refine go_iload_n (i := 1) (pc' := 71) dX10_fill_70 rfl rfl rfl ?_
      refine go_iload_n (i := 3) (pc' := 72) dX10_fill_71 rfl rfl rfl ?_
      refine go_iadd (pc' := 73) dX10_fill_72 rfl ?_
      obtain ⟨v112, σ113, e114, hf⟩ := bd_some hf
      refine go_invV (As := [_]) (pc' := 76) dX10_fill_73 rfl cf_X10_fill_221 rfl (R.ob (R.at rfl (by decide))) rfl rfl (Nat.le_of_ble_eq_true rfl) (c_X8_indexOf R e114) (fun q115v h116 q115 => ?_)
      obtain ⟨rfl, R⟩ := q115
      refine go_if_lt (pc' := 79) (tgt := 81) dX10_fill_76 (by decide) rfl (fun c117 => ?_) (fun c117 => ?_)
      · have hf := it c117 hf
        refine go_iincC (kk := 1) (pc' := 84) dX10_fill_81 rfl rfl (by decide) (by decide) rfl ?_
        refine go_goto (pc' := 0) (tgt := 58) dX10_fill_84 (by decide) ?_
        exact ih R hf
      · have hf := ie c117 hf
        refine go_iconst (v := 1) (pc' := 80) dX10_fill_79 rfl (by decide) ?_
        obtain rfl := Option.some.inj hf
        exact Go.ret (v := some (.int _)) dX10_fill_80 ⟨_, rfl⟩ ⟨rfl, rfl, R⟩
def f_X10_fill (n : Nat)  (σ : xσ) : Option (Int32 × Nat × xσ) := gd (inb 0 6) (st (sI σ 4 (0 : Int32).toNatClampNeg) (fun x102 => gd (inb 1 6) (st (sI σ 4 (1 : Int32).toNatClampNeg) (fun x105 => if x102 < 1 then some (5, n, σ) else if x105 < 1 then some (5, n, σ) else if 100 < x105 then some (5, n, σ) else if 9999 < ((x102 + x105) - 1) then some (5, n, σ) else bd (f_X10_isFillInPlane n σ) (fun v111 σ112 => if v111 = 0 then some (5, n, σ112) else l_X10_fill_58 xFU x102 x105 0 n σ112)))))
set_option maxRecDepth 100000 in
set_option maxHeartbeats 4000000 in
theorem c_X10_fill {G : xG} {n : Nat} {σ : xσ} {h : xH}  {v1 : Int32} {n1 : Nat} {σ1 : xσ} (R : Rl n σ h) (hf : f_X10_fill n σ = some (v1, n1, σ1)) : Ca G mX10_fill [.ref 0] h (fun v h' => v = some (.int v1) ∧ Rl n1 σ1 h') := by
  refine Ca.of rfl (Nat.le_of_ble_eq_true rfl) ?_
  generalize hr : (v1, n1, σ1) = r at hf
  suffices q : Go G mX10_fill 0 (xent (xMl mX10_fill) [.ref 0]) [] h (fun v h' => xRok (xRt mX10_fill) v ∧ v = some (.int r.1) ∧ Rl r.2.1 r.2.2 h') by
    subst hr
    exact q
  clear hr
  rw [f_X10_fill] at hf
  refine go_aload_n (i := 0) (pc' := 1) dX10_fill_0 rfl rfl rfl ?_
  refine go_getS (pc' := 4) dX10_fill_1 rfl gf_LandBase_19 R (R.at rfl (by decide)) (by decide) rfl ?_
  refine go_getS (pc' := 7) dX10_fill_4 rfl gf_LandBase_214 R (R.at rfl (by decide)) (by decide) rfl ?_
  refine go_iconst (v := 0) (pc' := 8) dX10_fill_7 rfl (by decide) ?_
  obtain ⟨g101, hf⟩ := gd_some hf
  refine go_ialoadS (pc' := 9) dX10_fill_8 rfl R (R.aa rfl (by decide)) g101 ?_
  obtain ⟨x102, e103, hf⟩ := st_some hf
  refine go_istore_nE e103 (i := 1) (pc' := 10) dX10_fill_9 rfl rfl (by decide) rfl ?_
  refine go_aload_n (i := 0) (pc' := 11) dX10_fill_10 rfl rfl rfl ?_
  refine go_getS (pc' := 14) dX10_fill_11 rfl gf_LandBase_19 R (R.at rfl (by decide)) (by decide) rfl ?_
  refine go_getS (pc' := 17) dX10_fill_14 rfl gf_LandBase_214 R (R.at rfl (by decide)) (by decide) rfl ?_
  refine go_iconst (v := 1) (pc' := 18) dX10_fill_17 rfl (by decide) ?_
  obtain ⟨g104, hf⟩ := gd_some hf
  refine go_ialoadS (pc' := 19) dX10_fill_18 rfl R (R.aa rfl (by decide)) g104 ?_
  obtain ⟨x105, e106, hf⟩ := st_some hf
  refine go_istore_nE e106 (i := 2) (pc' := 20) dX10_fill_19 rfl rfl (by decide) rfl ?_
  refine go_iload_n (i := 1) (pc' := 21) dX10_fill_20 rfl rfl rfl ?_
  refine go_iconst (v := 1) (pc' := 22) dX10_fill_21 rfl (by decide) ?_
  refine go_icmp_lt (pc' := 25) (tgt := 54) dX10_fill_22 (by decide) rfl (fun c107 => ?_) (fun c107 => ?_)
  · have hf := it c107 hf
    refine go_iconst (v := 5) (pc' := 55) dX10_fill_54 rfl (by decide) ?_
    obtain rfl := Option.some.inj hf
    exact Go.ret (v := some (.int _)) dX10_fill_55 ⟨_, rfl⟩ ⟨rfl, rfl, R⟩
  · have hf := ie c107 hf
    refine go_iload_n (i := 2) (pc' := 26) dX10_fill_25 rfl rfl rfl ?_
    refine go_iconst (v := 1) (pc' := 27) dX10_fill_26 rfl (by decide) ?_
    refine go_icmp_lt (pc' := 30) (tgt := 54) dX10_fill_27 (by decide) rfl (fun c108 => ?_) (fun c108 => ?_)
    · have hf := it c108 hf
      refine go_iconst (v := 5) (pc' := 55) dX10_fill_54 rfl (by decide) ?_
      obtain rfl := Option.some.inj hf
      exact Go.ret (v := some (.int _)) dX10_fill_55 ⟨_, rfl⟩ ⟨rfl, rfl, R⟩
    · have hf := ie c108 hf
      refine go_iload_n (i := 2) (pc' := 31) dX10_fill_30 rfl rfl rfl ?_
      refine go_bipush (v := 100) (pc' := 33) dX10_fill_31 rfl (by decide) ?_
      refine go_icmp_gt (pc' := 36) (tgt := 54) dX10_fill_33 (by decide) rfl (fun c109 => ?_) (fun c109 => ?_)
      · have hf := it c109 hf
        refine go_iconst (v := 5) (pc' := 55) dX10_fill_54 rfl (by decide) ?_
        obtain rfl := Option.some.inj hf
        exact Go.ret (v := some (.int _)) dX10_fill_55 ⟨_, rfl⟩ ⟨rfl, rfl, R⟩
      · have hf := ie c109 hf
        refine go_iload_n (i := 1) (pc' := 37) dX10_fill_36 rfl rfl rfl ?_
        refine go_iload_n (i := 2) (pc' := 38) dX10_fill_37 rfl rfl rfl ?_
        refine go_iadd (pc' := 39) dX10_fill_38 rfl ?_
        refine go_iconst (v := 1) (pc' := 40) dX10_fill_39 rfl (by decide) ?_
        refine go_isub (pc' := 41) dX10_fill_40 rfl ?_
        refine go_sipush (v := 9999) (pc' := 44) dX10_fill_41 rfl (by decide) ?_
        refine go_icmp_gt (pc' := 47) (tgt := 54) dX10_fill_44 (by decide) rfl (fun c110 => ?_) (fun c110 => ?_)
        · have hf := it c110 hf
          refine go_iconst (v := 5) (pc' := 55) dX10_fill_54 rfl (by decide) ?_
          obtain rfl := Option.some.inj hf
          exact Go.ret (v := some (.int _)) dX10_fill_55 ⟨_, rfl⟩ ⟨rfl, rfl, R⟩
        · have hf := ie c110 hf
          refine go_aload_n (i := 0) (pc' := 48) dX10_fill_47 rfl rfl rfl ?_
          obtain ⟨v111, σ112, e113, hf⟩ := bd_some hf
          refine go_invV (As := []) (pc' := 51) dX10_fill_48 rfl cf_X10_fill_263 rfl (R.ob (R.at rfl (by decide))) rfl rfl (Nat.le_of_ble_eq_true rfl) (c_X10_isFillInPlane R e113) (fun q114v h115 q114 => ?_)
          obtain ⟨rfl, R⟩ := q114
          refine go_if_ne (pc' := 54) (tgt := 56) dX10_fill_51 (by decide) rfl (fun c116 => ?_) (fun c116 => ?_)
          · have hf := ie c116 hf
            refine go_iconst (v := 0) (pc' := 57) dX10_fill_56 rfl (by decide) ?_
            refine go_istore_nE rfl (i := 3) (pc' := 58) dX10_fill_57 rfl rfl (by decide) rfl ?_
            exact t_X10_fill_58 xFU R hf
          · have hf := it c116 hf
            refine go_iconst (v := 5) (pc' := 55) dX10_fill_54 rfl (by decide) ?_
            obtain rfl := Option.some.inj hf
            exact Go.ret (v := some (.int _)) dX10_fill_55 ⟨_, rfl⟩ ⟨rfl, rfl, R⟩
def b_X10_offer_26 (n : Nat) (σ : xσ) : Option (Unit × xσ) := st (wI σ 0 9 ((sI σ 0 9) + 1)) (fun σ101 => some ((), σ101))
set_option maxRecDepth 100000 in
set_option maxHeartbeats 4000000 in
theorem t_X10_offer_26 {G : xG} {n : Nat} {σ : xσ} {h : xH} {r : Unit × xσ} {d1 : Option Value} {d2 : Option Value} : Rl n σ h → b_X10_offer_26 n σ = some r → Go G mX10_offer 26 [some (.ref 0), d1, d2] [] h (fun v h' => xRok (xRt mX10_offer) v ∧ v = none ∧ Rl n r.2 h') := by
  intro R hf
  rw [b_X10_offer_26] at hf
  refine go_aload_n (i := 0) (pc' := 27) dX10_offer_26 rfl rfl rfl ?_
  refine go_dup (pc' := 28) dX10_offer_27 rfl rfl ?_
  refine go_getS (pc' := 31) dX10_offer_28 rfl gf_LandBase_67 R (R.at rfl (by decide)) (by decide) rfl ?_
  refine go_iconst (v := 1) (pc' := 32) dX10_offer_31 rfl (by decide) ?_
  refine go_iadd (pc' := 33) dX10_offer_32 rfl ?_
  obtain ⟨σ101, e102, hf⟩ := st_some hf
  refine go_putI (pc' := 36) dX10_offer_33 rfl pf_LandBase_67 R (R.at rfl (by decide)) (by decide) rfl rfl rfl (fun h103 R => ?_)
  have R := Rl.cast e102 R
  obtain rfl := Option.some.inj hf
  exact Go.ret (v := none) dX10_offer_36 rfl ⟨trivial, rfl, R⟩
def f_X10_offer (n : Nat) (x1 : Int32) (σ : xσ) : Option (Unit × xσ) := st (((sI σ 0 8) + 2) + (sI σ 0 9)) (fun x101 => if 19000 ≤ x101 then st (wI σ 0 9 ((sI σ 0 9) + 1)) (fun σ104 => some ((), σ104)) else gd (inb x101 20000) (st (wI σ 232 x101.toNatClampNeg x1) (fun σ108 => b_X10_offer_26 n σ108)))
set_option maxRecDepth 100000 in
set_option maxHeartbeats 4000000 in
theorem c_X10_offer {G : xG} {n : Nat} {σ : xσ} {h : xH} {x1 : Int32} {v1 : Unit} {σ1 : xσ} (R : Rl n σ h) (hf : f_X10_offer n x1 σ = some (v1, σ1)) : Ca G mX10_offer [.ref 0, .int x1] h (fun v h' => v = none ∧ Rl n σ1 h') := by
  refine Ca.of rfl (Nat.le_of_ble_eq_true rfl) ?_
  generalize hr : (v1, σ1) = r at hf
  suffices q : Go G mX10_offer 0 (xent (xMl mX10_offer) [.ref 0, .int x1]) [] h (fun v h' => xRok (xRt mX10_offer) v ∧ v = none ∧ Rl n r.2 h') by
    subst hr
    exact q
  clear hr
  rw [f_X10_offer] at hf
  refine go_aload_n (i := 0) (pc' := 1) dX10_offer_0 rfl rfl rfl ?_
  refine go_getS (pc' := 4) dX10_offer_1 rfl gf_LandBase_63 R (R.at rfl (by decide)) (by decide) rfl ?_
  refine go_iconst (v := 2) (pc' := 5) dX10_offer_4 rfl (by decide) ?_
  refine go_iadd (pc' := 6) dX10_offer_5 rfl ?_
  refine go_aload_n (i := 0) (pc' := 7) dX10_offer_6 rfl rfl rfl ?_
  refine go_getS (pc' := 10) dX10_offer_7 rfl gf_LandBase_67 R (R.at rfl (by decide)) (by decide) rfl ?_
  refine go_iadd (pc' := 11) dX10_offer_10 rfl ?_
  obtain ⟨x101, e102, hf⟩ := st_some hf
  refine go_istore_nE e102 (i := 2) (pc' := 12) dX10_offer_11 rfl rfl (by decide) rfl ?_
  refine go_iload_n (i := 2) (pc' := 13) dX10_offer_12 rfl rfl rfl ?_
  refine go_sipush (v := 19000) (pc' := 16) dX10_offer_13 rfl (by decide) ?_
  refine go_icmp_ge (pc' := 19) (tgt := 26) dX10_offer_16 (by decide) rfl (fun c103 => ?_) (fun c103 => ?_)
  · have hf := it c103 hf
    refine go_aload_n (i := 0) (pc' := 27) dX10_offer_26 rfl rfl rfl ?_
    refine go_dup (pc' := 28) dX10_offer_27 rfl rfl ?_
    refine go_getS (pc' := 31) dX10_offer_28 rfl gf_LandBase_67 R (R.at rfl (by decide)) (by decide) rfl ?_
    refine go_iconst (v := 1) (pc' := 32) dX10_offer_31 rfl (by decide) ?_
    refine go_iadd (pc' := 33) dX10_offer_32 rfl ?_
    obtain ⟨σ104, e105, hf⟩ := st_some hf
    refine go_putI (pc' := 36) dX10_offer_33 rfl pf_LandBase_67 R (R.at rfl (by decide)) (by decide) rfl rfl rfl (fun h106 R => ?_)
    have R := Rl.cast e105 R
    obtain rfl := Option.some.inj hf
    exact Go.ret (v := none) dX10_offer_36 rfl ⟨trivial, rfl, R⟩
  · have hf := ie c103 hf
    refine go_aload_n (i := 0) (pc' := 20) dX10_offer_19 rfl rfl rfl ?_
    refine go_getS (pc' := 23) dX10_offer_20 rfl gf_LandBase_60 R (R.at rfl (by decide)) (by decide) rfl ?_
    refine go_iload_n (i := 2) (pc' := 24) dX10_offer_23 rfl rfl rfl ?_
    refine go_iload_n (i := 1) (pc' := 25) dX10_offer_24 rfl rfl rfl ?_
    obtain ⟨g107, hf⟩ := gd_some hf
    obtain ⟨σ108, e109, hf⟩ := st_some hf
    refine go_iastoreS (pc' := 26) dX10_offer_25 rfl R (R.aa rfl (by decide)) g107 (fun h110 R => ?_)
    have R := Rl.cast e109 R
    exact t_X10_offer_26 R hf
def b_X10_find_92 (n : Nat) (k44 : Int32 → xσ → Option (Int32 × xσ)) (x2 : Int32) (σ : xσ) : Option (Int32 × xσ) := k44 (x2 + 1) σ
set_option maxRecDepth 100000 in
set_option maxHeartbeats 4000000 in
theorem t_X10_find_92 {G : xG} {n : Nat} {k44 : Int32 → xσ → Option (Int32 × xσ)} (hk44 : ∀ {x2 : Int32} {σ : xσ} {h : xH} {r : Int32 × xσ}, Rl n σ h → k44 x2 σ = some r → Go G mX10_find 44 [some (.ref 0), some (.ref 11), some (.int x2)] [] h (fun v h' => xRok (xRt mX10_find) v ∧ v = some (.int r.1) ∧ Rl n r.2 h')) {x2 : Int32} {σ : xσ} {h : xH} {r : Int32 × xσ} : Rl n σ h → b_X10_find_92 n k44 x2 σ = some r → Go G mX10_find 92 [some (.ref 0), some (.ref 11), some (.int x2)] [] h (fun v h' => xRok (xRt mX10_find) v ∧ v = some (.int r.1) ∧ Rl n r.2 h') := by
  intro R hf
  rw [b_X10_find_92] at hf
  refine go_iincC (kk := 1) (pc' := 95) dX10_find_92 rfl rfl (by decide) (by decide) rfl ?_
  refine go_goto (pc' := 0) (tgt := 44) dX10_find_95 (by decide) ?_
  exact hk44 R hf
def l_X10_find_44 (n : Nat) : Nat → Int32 → xσ → Option (Int32 × xσ)
  | 0, _, _ => none
  | f + 1, x2, σ => if (sI σ 11 2) ≤ x2 then some (0, σ) else gd (inb x2 200) (nn (sR σ 13 x2.toNatClampNeg) (fun a103 => gd (okS n a103) (bd (f_X6_holds n (sI σ 3 4) a103 5 σ) (fun v106 σ107 => if v106 = 0 then (l_X10_find_44 n f) (x2 + 1) σ107 else gd (inb x2 200) (bd (f_X10_offer n (sI σ107 12 x2.toNatClampNeg) σ107) (fun v113 σ114 => b_X10_find_92 n (l_X10_find_44 n f) x2 σ114))))))
set_option maxRecDepth 100000 in
set_option maxHeartbeats 4000000 in
theorem t_X10_find_44 {G : xG} {n : Nat} : ∀ (f : Nat) {x2 : Int32} {σ : xσ} {h : xH} {r : Int32 × xσ}, Rl n σ h → l_X10_find_44 n f x2 σ = some r → Go G mX10_find 44 [some (.ref 0), some (.ref 11), some (.int x2)] [] h (fun v h' => xRok (xRt mX10_find) v ∧ v = some (.int r.1) ∧ Rl n r.2 h') := by
  intro f
  induction f with
  | zero =>
    intros
    rename _ = some _ => hf
    rw [l_X10_find_44] at hf
    cases hf
  | succ f ih =>
    intro x2 σ h r  R hf
    rw [l_X10_find_44] at hf
    refine go_iload_n (i := 2) (pc' := 45) dX10_find_44 rfl rfl rfl ?_
    refine go_aload_n (i := 1) (pc' := 46) dX10_find_45 rfl rfl rfl ?_
    refine go_getS (pc' := 49) dX10_find_46 rfl gf_LandBase_149 R (R.at rfl (by decide)) (by decide) rfl ?_
    refine go_icmp_ge (pc' := 52) (tgt := 98) dX10_find_49 (by decide) rfl (fun c101 => ?_) (fun c101 => ?_)
    · have hf := it c101 hf
      refine go_iconst (v := 0) (pc' := 99) dX10_find_98 rfl (by decide) ?_
      obtain rfl := Option.some.inj hf
      exact Go.ret (v := some (.int _)) dX10_find_99 ⟨_, rfl⟩ ⟨rfl, rfl, R⟩
    · have hf := ie c101 hf
      refine go_aload_n (i := 0) (pc' := 53) dX10_find_52 rfl rfl rfl ?_
      refine go_getS (pc' := 56) dX10_find_53 rfl gf_LandBase_45 R (R.at rfl (by decide)) (by decide) rfl ?_
      refine go_aload_n (i := 0) (pc' := 57) dX10_find_56 rfl rfl rfl ?_
      refine go_getS (pc' := 60) dX10_find_57 rfl gf_LandBase_19 R (R.at rfl (by decide)) (by decide) rfl ?_
      refine go_getS (pc' := 63) dX10_find_60 rfl gf_LandBase_299 R (R.at rfl (by decide)) (by decide) rfl ?_
      refine go_aload_n (i := 1) (pc' := 64) dX10_find_63 rfl rfl rfl ?_
      refine go_getS (pc' := 67) dX10_find_64 rfl gf_LandBase_252 R (R.at rfl (by decide)) (by decide) rfl ?_
      refine go_iload_n (i := 2) (pc' := 68) dX10_find_67 rfl rfl rfl ?_
      obtain ⟨g102, hf⟩ := gd_some hf
      obtain ⟨a103, e104, hf⟩ := nn_some hf
      obtain ⟨g105, hf⟩ := gd_some hf
      refine go_aaloadS (pc' := 69) dX10_find_68 rfl (by decide) R (R.aa rfl (by decide)) g102 e104 ?_
      refine go_aload_n (i := 0) (pc' := 70) dX10_find_69 rfl rfl rfl ?_
      refine go_getS (pc' := 73) dX10_find_70 rfl gf_LandBase_19 R (R.at rfl (by decide)) (by decide) rfl ?_
      refine go_getS (pc' := 76) dX10_find_73 rfl gf_LandBase_217 R (R.at rfl (by decide)) (by decide) rfl ?_
      obtain ⟨v106, σ107, e108, hf⟩ := bd_some hf
      refine go_invV (As := [_, _, _]) (pc' := 79) dX10_find_76 rfl cf_X10_find_179 rfl (R.ob (R.at rfl (by decide))) rfl rfl (Nat.le_of_ble_eq_true rfl) (c_X6_holds R e108) (fun q109v h110 q109 => ?_)
      obtain ⟨rfl, R⟩ := q109
      refine go_if_eq (pc' := 82) (tgt := 92) dX10_find_79 (by decide) rfl (fun c111 => ?_) (fun c111 => ?_)
      · have hf := it c111 hf
        refine go_iincC (kk := 1) (pc' := 95) dX10_find_92 rfl rfl (by decide) (by decide) rfl ?_
        refine go_goto (pc' := 0) (tgt := 44) dX10_find_95 (by decide) ?_
        exact ih R hf
      · have hf := ie c111 hf
        refine go_aload_n (i := 0) (pc' := 83) dX10_find_82 rfl rfl rfl ?_
        refine go_aload_n (i := 1) (pc' := 84) dX10_find_83 rfl rfl rfl ?_
        refine go_getS (pc' := 87) dX10_find_84 rfl gf_LandBase_157 R (R.at rfl (by decide)) (by decide) rfl ?_
        refine go_iload_n (i := 2) (pc' := 88) dX10_find_87 rfl rfl rfl ?_
        obtain ⟨g112, hf⟩ := gd_some hf
        refine go_ialoadS (pc' := 89) dX10_find_88 rfl R (R.aa rfl (by decide)) g112 ?_
        obtain ⟨v113, σ114, e115, hf⟩ := bd_some hf
        refine go_invV (As := [_]) (pc' := 92) dX10_find_89 rfl cf_X10_find_302 rfl (R.ob (R.at rfl (by decide))) rfl rfl (Nat.le_of_ble_eq_true rfl) (c_X10_offer R e115) (fun q116v h117 q116 => ?_)
        obtain ⟨rfl, R⟩ := q116
        exact t_X10_find_92 @ih R hf
def f_X10_find (n : Nat)  (σ : xσ) : Option (Int32 × xσ) := if (sI σ 5 3) = 0 then bd (f_X0_isValid n 5 σ) (fun v102 σ103 => if v102 = 0 then some (3, σ103) else l_X10_find_44 n xFU 0 σ103) else some (4, σ)
set_option maxRecDepth 100000 in
set_option maxHeartbeats 4000000 in
theorem c_X10_find {G : xG} {n : Nat} {σ : xσ} {h : xH}  {v1 : Int32} {σ1 : xσ} (R : Rl n σ h) (hf : f_X10_find n σ = some (v1, σ1)) : Ca G mX10_find [.ref 0] h (fun v h' => v = some (.int v1) ∧ Rl n σ1 h') := by
  refine Ca.of rfl (Nat.le_of_ble_eq_true rfl) ?_
  generalize hr : (v1, σ1) = r at hf
  suffices q : Go G mX10_find 0 (xent (xMl mX10_find) [.ref 0]) [] h (fun v h' => xRok (xRt mX10_find) v ∧ v = some (.int r.1) ∧ Rl n r.2 h') by
    subst hr
    exact q
  clear hr
  rw [f_X10_find] at hf
  refine go_aload_n (i := 0) (pc' := 1) dX10_find_0 rfl rfl rfl ?_
  refine go_getS (pc' := 4) dX10_find_1 rfl gf_LandBase_19 R (R.at rfl (by decide)) (by decide) rfl ?_
  refine go_getS (pc' := 7) dX10_find_4 rfl gf_LandBase_217 R (R.at rfl (by decide)) (by decide) rfl ?_
  refine go_getS (pc' := 10) dX10_find_7 rfl gf_LandBase_224 R (R.at rfl (by decide)) (by decide) rfl ?_
  refine go_if_eq (pc' := 13) (tgt := 15) dX10_find_10 (by decide) rfl (fun c101 => ?_) (fun c101 => ?_)
  · have hf := it c101 hf
    refine go_aload_n (i := 0) (pc' := 16) dX10_find_15 rfl rfl rfl ?_
    refine go_getS (pc' := 19) dX10_find_16 rfl gf_LandBase_38 R (R.at rfl (by decide)) (by decide) rfl ?_
    refine go_aload_n (i := 0) (pc' := 20) dX10_find_19 rfl rfl rfl ?_
    refine go_getS (pc' := 23) dX10_find_20 rfl gf_LandBase_19 R (R.at rfl (by decide)) (by decide) rfl ?_
    refine go_getS (pc' := 26) dX10_find_23 rfl gf_LandBase_217 R (R.at rfl (by decide)) (by decide) rfl ?_
    obtain ⟨v102, σ103, e104, hf⟩ := bd_some hf
    refine go_invV (As := [_]) (pc' := 29) dX10_find_26 rfl cf_X10_find_227 rfl (R.ob (R.at rfl (by decide))) rfl rfl (Nat.le_of_ble_eq_true rfl) (c_X0_isValid R e104) (fun q105v h106 q105 => ?_)
    obtain ⟨rfl, R⟩ := q105
    refine go_if_ne (pc' := 32) (tgt := 34) dX10_find_29 (by decide) rfl (fun c107 => ?_) (fun c107 => ?_)
    · have hf := ie c107 hf
      refine go_aload_n (i := 0) (pc' := 35) dX10_find_34 rfl rfl rfl ?_
      refine go_getS (pc' := 38) dX10_find_35 rfl gf_LandBase_26 R (R.at rfl (by decide)) (by decide) rfl ?_
      refine go_getS (pc' := 41) dX10_find_38 rfl gf_LandBase_145 R (R.at rfl (by decide)) (by decide) rfl ?_
      refine go_astore_n (i := 1) (pc' := 42) dX10_find_41 rfl rfl (by decide) rfl ?_
      refine go_iconst (v := 0) (pc' := 43) dX10_find_42 rfl (by decide) ?_
      refine go_istore_nE rfl (i := 2) (pc' := 44) dX10_find_43 rfl rfl (by decide) rfl ?_
      exact t_X10_find_44 xFU R hf
    · have hf := it c107 hf
      refine go_iconst (v := 3) (pc' := 33) dX10_find_32 rfl (by decide) ?_
      obtain rfl := Option.some.inj hf
      exact Go.ret (v := some (.int _)) dX10_find_33 ⟨_, rfl⟩ ⟨rfl, rfl, R⟩
  · have hf := ie c101 hf
    refine go_iconst (v := 4) (pc' := 14) dX10_find_13 rfl (by decide) ?_
    obtain rfl := Option.some.inj hf
    exact Go.ret (v := some (.int _)) dX10_find_14 ⟨_, rfl⟩ ⟨rfl, rfl, R⟩

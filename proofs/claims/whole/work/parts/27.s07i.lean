/-! the system -/
def b_X10_nearer_41 (n : Nat) (σ : xσ) : Option (Int32 × xσ) := some ((-2), σ)
set_option maxRecDepth 100000 in
set_option maxHeartbeats 4000000 in
theorem t_X10_nearer_41 {G : xG} {n : Nat} {σ : xσ} {h : xH} {r : Int32 × xσ} {d0 : Option Value} {d1 : Option Value} {d2 : Option Value} {d3 : Option Value} {d4 : Option Value} {d5 : Option Value} {d6 : Option Value} : Rl n σ h → b_X10_nearer_41 n σ = some r → Go G mX10_nearer 41 [d0, d1, d2, d3, d4, d5, d6] [] h (fun v h' => xRok (xRt mX10_nearer) v ∧ v = some (.int r.1) ∧ Rl n r.2 h') := by
  intro R hf
  rw [b_X10_nearer_41] at hf
  refine go_bipush (v := (-2)) (pc' := 43) dX10_nearer_41 rfl (by decide) ?_
  obtain rfl := Option.some.inj hf
  exact Go.ret (v := some (.int _)) dX10_nearer_43 ⟨_, rfl⟩ ⟨rfl, rfl, R⟩
def f_X10_nearer (n : Nat) (x1 : Int32) (x2 : Int32) (x3 : Int32) (x4 : Int32) (σ : xσ) : Option (Int32 × xσ) := bd (f_X10_shapeOf n x1 σ) (fun v101 σ102 => om v101 (bd (f_X10_shapeOf n x2 σ102) (fun v107 σ108 => om v107 (b_X10_nearer_41 n σ108) (fun a112 => gd (okS n a112) (b_X10_nearer_41 n σ108)))) (fun a106 => gd (okS n a106) (bd (f_X10_shapeOf n x2 σ102) (fun v115 σ116 => om v115 (b_X10_nearer_41 n σ116) (fun a120 => gd (okS n a120) (bd (f_X10_isInPlane n (x3.toInt64) σ116) (fun v122 σ123 => if v122 = 0 then some ((-2), σ123) else bd (f_X10_isInPlane n (x4.toInt64) σ123) (fun v128 σ129 => if v128 = 0 then some ((-2), σ129) else gd (inb 0 200) (nn (sR σ129 30 (0 : Int32).toNatClampNeg) (fun a135 => gd (okD a135) (bd (f_X2_measure n a135 a106 x3 x4 σ129) (fun v138 σ139 => gd (inb 1 200) (nn (sR σ139 30 (1 : Int32).toNatClampNeg) (fun a144 => gd (okD a144) (bd (f_X2_measure n a144 a120 x3 x4 σ139) (fun v147 σ148 => gd (inb 0 200) (nn (sR σ148 30 (0 : Int32).toNatClampNeg) (fun a153 => gd (okD a153) (gd (inb 1 200) (nn (sR σ148 30 (1 : Int32).toNatClampNeg) (fun a157 => gd (okD a157) (bd (f_X2_compareWith n a153 a157 σ148) (fun v160 σ161 => some (v160, σ161))))))))))))))))))))))))
set_option maxRecDepth 100000 in
set_option maxHeartbeats 4000000 in
theorem c_X10_nearer {G : xG} {n : Nat} {σ : xσ} {h : xH} {x1 : Int32} {x2 : Int32} {x3 : Int32} {x4 : Int32} {v1 : Int32} {σ1 : xσ} (R : Rl n σ h) (hf : f_X10_nearer n x1 x2 x3 x4 σ = some (v1, σ1)) : Ca G mX10_nearer [.ref 0, .int x1, .int x2, .int x3, .int x4] h (fun v h' => v = some (.int v1) ∧ Rl n σ1 h') := by
  refine Ca.of rfl (Nat.le_of_ble_eq_true rfl) ?_
  generalize hr : (v1, σ1) = r at hf
  suffices q : Go G mX10_nearer 0 (xent (xMl mX10_nearer) [.ref 0, .int x1, .int x2, .int x3, .int x4]) [] h (fun v h' => xRok (xRt mX10_nearer) v ∧ v = some (.int r.1) ∧ Rl n r.2 h') by
    subst hr
    exact q
  clear hr
  rw [f_X10_nearer] at hf
  refine go_aload_n (i := 0) (pc' := 1) dX10_nearer_0 rfl rfl rfl ?_
  refine go_iload_n (i := 1) (pc' := 2) dX10_nearer_1 rfl rfl rfl ?_
  obtain ⟨v101, σ102, e103, hf⟩ := bd_some hf
  refine go_invV (As := [_]) (pc' := 5) dX10_nearer_2 rfl cf_X10_nearer_160 rfl (R.ob (R.at rfl (by decide))) rfl rfl (Nat.le_of_ble_eq_true rfl) (c_X10_shapeOf R e103) (fun q104v h105 q104 => ?_)
  obtain ⟨rfl, R⟩ := q104
  cases v101 with
  | none =>
    refine go_astoreN (pc' := 7) dX10_nearer_5 rfl (by decide) rfl ?_
    refine go_aload_n (i := 0) (pc' := 8) dX10_nearer_7 rfl rfl rfl ?_
    refine go_iload_n (i := 2) (pc' := 9) dX10_nearer_8 rfl rfl rfl ?_
    obtain ⟨v107, σ108, e109, hf⟩ := bd_some hf
    refine go_invV (As := [_]) (pc' := 12) dX10_nearer_9 rfl cf_X10_nearer_160 rfl (R.ob (R.at rfl (by decide))) rfl rfl (Nat.le_of_ble_eq_true rfl) (c_X10_shapeOf R e109) (fun q110v h111 q110 => ?_)
    obtain ⟨rfl, R⟩ := q110
    cases v107 with
    | none =>
      refine go_astoreN (pc' := 14) dX10_nearer_12 rfl (by decide) rfl ?_
      refine go_aloadN (pc' := 16) dX10_nearer_14 rfl rfl ?_
      refine go_ifnullN (pc' := 0) (tgt := 41) dX10_nearer_16 (by decide) ?_
      exact t_X10_nearer_41 R hf
    | some a112 =>
      obtain ⟨g113, hf⟩ := gd_some hf
      refine go_astore (pc' := 14) dX10_nearer_12 rfl (by decide) rfl ?_
      refine go_aloadN (pc' := 16) dX10_nearer_14 rfl rfl ?_
      refine go_ifnullN (pc' := 0) (tgt := 41) dX10_nearer_16 (by decide) ?_
      exact t_X10_nearer_41 R hf
  | some a106 =>
    obtain ⟨g114, hf⟩ := gd_some hf
    refine go_astore (pc' := 7) dX10_nearer_5 rfl (by decide) rfl ?_
    refine go_aload_n (i := 0) (pc' := 8) dX10_nearer_7 rfl rfl rfl ?_
    refine go_iload_n (i := 2) (pc' := 9) dX10_nearer_8 rfl rfl rfl ?_
    obtain ⟨v115, σ116, e117, hf⟩ := bd_some hf
    refine go_invV (As := [_]) (pc' := 12) dX10_nearer_9 rfl cf_X10_nearer_160 rfl (R.ob (R.at rfl (by decide))) rfl rfl (Nat.le_of_ble_eq_true rfl) (c_X10_shapeOf R e117) (fun q118v h119 q118 => ?_)
    obtain ⟨rfl, R⟩ := q118
    cases v115 with
    | none =>
      refine go_astoreN (pc' := 14) dX10_nearer_12 rfl (by decide) rfl ?_
      refine go_aload (pc' := 16) dX10_nearer_14 rfl rfl ?_
      refine go_ifnull (pc' := 19) dX10_nearer_16 rfl ?_
      refine go_aloadN (pc' := 21) dX10_nearer_19 rfl rfl ?_
      refine go_ifnullN (pc' := 0) (tgt := 41) dX10_nearer_21 (by decide) ?_
      exact t_X10_nearer_41 R hf
    | some a120 =>
      obtain ⟨g121, hf⟩ := gd_some hf
      refine go_astore (pc' := 14) dX10_nearer_12 rfl (by decide) rfl ?_
      refine go_aload (pc' := 16) dX10_nearer_14 rfl rfl ?_
      refine go_ifnull (pc' := 19) dX10_nearer_16 rfl ?_
      refine go_aload (pc' := 21) dX10_nearer_19 rfl rfl ?_
      refine go_ifnull (pc' := 24) dX10_nearer_21 rfl ?_
      refine go_iload_n (i := 3) (pc' := 25) dX10_nearer_24 rfl rfl rfl ?_
      refine go_i2l (pc' := 26) dX10_nearer_25 rfl rfl ?_
      obtain ⟨v122, σ123, e124, hf⟩ := bd_some hf
      refine go_invS (As := [_]) (pc' := 29) dX10_nearer_26 rfl cf_X10_nearer_183 rfl rfl (Nat.le_of_ble_eq_true rfl) (c_X10_isInPlane R e124) (fun q125v h126 q125 => ?_)
      obtain ⟨rfl, R⟩ := q125
      refine go_if_eq (pc' := 32) (tgt := 41) dX10_nearer_29 (by decide) rfl (fun c127 => ?_) (fun c127 => ?_)
      · have hf := it c127 hf
        refine go_bipush (v := (-2)) (pc' := 43) dX10_nearer_41 rfl (by decide) ?_
        obtain rfl := Option.some.inj hf
        exact Go.ret (v := some (.int _)) dX10_nearer_43 ⟨_, rfl⟩ ⟨rfl, rfl, R⟩
      · have hf := ie c127 hf
        refine go_iload (pc' := 34) dX10_nearer_32 rfl rfl ?_
        refine go_i2l (pc' := 35) dX10_nearer_34 rfl rfl ?_
        obtain ⟨v128, σ129, e130, hf⟩ := bd_some hf
        refine go_invS (As := [_]) (pc' := 38) dX10_nearer_35 rfl cf_X10_nearer_183 rfl rfl (Nat.le_of_ble_eq_true rfl) (c_X10_isInPlane R e130) (fun q131v h132 q131 => ?_)
        obtain ⟨rfl, R⟩ := q131
        refine go_if_ne (pc' := 41) (tgt := 44) dX10_nearer_38 (by decide) rfl (fun c133 => ?_) (fun c133 => ?_)
        · have hf := ie c133 hf
          refine go_aload_n (i := 0) (pc' := 45) dX10_nearer_44 rfl rfl rfl ?_
          refine go_getS (pc' := 48) dX10_nearer_45 rfl gf_LandBase_51 R (R.at rfl (by decide)) (by decide) rfl ?_
          refine go_iconst (v := 0) (pc' := 49) dX10_nearer_48 rfl (by decide) ?_
          obtain ⟨g134, hf⟩ := gd_some hf
          obtain ⟨a135, e136, hf⟩ := nn_some hf
          obtain ⟨g137, hf⟩ := gd_some hf
          refine go_aaloadS (pc' := 50) dX10_nearer_49 rfl (by decide) R (R.aa rfl (by decide)) g134 e136 ?_
          refine go_aload (pc' := 52) dX10_nearer_50 rfl rfl ?_
          refine go_iload_n (i := 3) (pc' := 53) dX10_nearer_52 rfl rfl rfl ?_
          refine go_iload (pc' := 55) dX10_nearer_53 rfl rfl ?_
          obtain ⟨v138, σ139, e140, hf⟩ := bd_some hf
          refine go_invV (As := [_, _, _]) (pc' := 58) dX10_nearer_55 rfl cf_X10_nearer_187 rfl (R.ob (g137.at R)) rfl rfl (Nat.le_of_ble_eq_true rfl) (c_X2_measure R e140) (fun q141v h142 q141 => ?_)
          obtain ⟨rfl, R⟩ := q141
          refine go_aload_n (i := 0) (pc' := 59) dX10_nearer_58 rfl rfl rfl ?_
          refine go_getS (pc' := 62) dX10_nearer_59 rfl gf_LandBase_51 R (R.at rfl (by decide)) (by decide) rfl ?_
          refine go_iconst (v := 1) (pc' := 63) dX10_nearer_62 rfl (by decide) ?_
          obtain ⟨g143, hf⟩ := gd_some hf
          obtain ⟨a144, e145, hf⟩ := nn_some hf
          obtain ⟨g146, hf⟩ := gd_some hf
          refine go_aaloadS (pc' := 64) dX10_nearer_63 rfl (by decide) R (R.aa rfl (by decide)) g143 e145 ?_
          refine go_aload (pc' := 66) dX10_nearer_64 rfl rfl ?_
          refine go_iload_n (i := 3) (pc' := 67) dX10_nearer_66 rfl rfl rfl ?_
          refine go_iload (pc' := 69) dX10_nearer_67 rfl rfl ?_
          obtain ⟨v147, σ148, e149, hf⟩ := bd_some hf
          refine go_invV (As := [_, _, _]) (pc' := 72) dX10_nearer_69 rfl cf_X10_nearer_187 rfl (R.ob (g146.at R)) rfl rfl (Nat.le_of_ble_eq_true rfl) (c_X2_measure R e149) (fun q150v h151 q150 => ?_)
          obtain ⟨rfl, R⟩ := q150
          refine go_aload_n (i := 0) (pc' := 73) dX10_nearer_72 rfl rfl rfl ?_
          refine go_getS (pc' := 76) dX10_nearer_73 rfl gf_LandBase_51 R (R.at rfl (by decide)) (by decide) rfl ?_
          refine go_iconst (v := 0) (pc' := 77) dX10_nearer_76 rfl (by decide) ?_
          obtain ⟨g152, hf⟩ := gd_some hf
          obtain ⟨a153, e154, hf⟩ := nn_some hf
          obtain ⟨g155, hf⟩ := gd_some hf
          refine go_aaloadS (pc' := 78) dX10_nearer_77 rfl (by decide) R (R.aa rfl (by decide)) g152 e154 ?_
          refine go_aload_n (i := 0) (pc' := 79) dX10_nearer_78 rfl rfl rfl ?_
          refine go_getS (pc' := 82) dX10_nearer_79 rfl gf_LandBase_51 R (R.at rfl (by decide)) (by decide) rfl ?_
          refine go_iconst (v := 1) (pc' := 83) dX10_nearer_82 rfl (by decide) ?_
          obtain ⟨g156, hf⟩ := gd_some hf
          obtain ⟨a157, e158, hf⟩ := nn_some hf
          obtain ⟨g159, hf⟩ := gd_some hf
          refine go_aaloadS (pc' := 84) dX10_nearer_83 rfl (by decide) R (R.aa rfl (by decide)) g156 e158 ?_
          obtain ⟨v160, σ161, e162, hf⟩ := bd_some hf
          refine go_invV (As := [_]) (pc' := 87) dX10_nearer_84 rfl cf_X10_nearer_191 rfl (R.ob (g155.at R)) rfl rfl (Nat.le_of_ble_eq_true rfl) (c_X2_compareWith R e162) (fun q163v h164 q163 => ?_)
          obtain ⟨rfl, R⟩ := q163
          obtain rfl := Option.some.inj hf
          exact Go.ret (v := some (.int _)) dX10_nearer_87 ⟨_, rfl⟩ ⟨rfl, rfl, R⟩
        · have hf := it c133 hf
          refine go_bipush (v := (-2)) (pc' := 43) dX10_nearer_41 rfl (by decide) ?_
          obtain rfl := Option.some.inj hf
          exact Go.ret (v := some (.int _)) dX10_nearer_43 ⟨_, rfl⟩ ⟨rfl, rfl, R⟩

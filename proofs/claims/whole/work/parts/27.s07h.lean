/-! the system -/
def b_X10_relate_33 (n : Nat) (σ : xσ) : Option (Int32 × xσ) := some ((-1), σ)
set_option maxRecDepth 100000 in
set_option maxHeartbeats 4000000 in
theorem t_X10_relate_33 {G : xG} {n : Nat} {σ : xσ} {h : xH} {r : Int32 × xσ} {d0 : Option Value} {d1 : Option Value} {d2 : Option Value} {d3 : Option Value} {d4 : Option Value} {d5 : Option Value} : Rl n σ h → b_X10_relate_33 n σ = some r → Go G mX10_relate 33 [d0, d1, d2, d3, d4, d5] [] h (fun v h' => xRok (xRt mX10_relate) v ∧ v = some (.int r.1) ∧ Rl n r.2 h') := by
  intro R hf
  rw [b_X10_relate_33] at hf
  refine go_iconst (v := (-1)) (pc' := 34) dX10_relate_33 rfl (by decide) ?_
  obtain rfl := Option.some.inj hf
  exact Go.ret (v := some (.int _)) dX10_relate_34 ⟨_, rfl⟩ ⟨rfl, rfl, R⟩
def f_X10_relate (n : Nat) (x1 : Int32) (x2 : Int32) (x3 : Int32) (σ : xσ) : Option (Int32 × xσ) := bd (f_X10_shapeOf n x2 σ) (fun v101 σ102 => om v101 (bd (f_X10_shapeOf n x3 σ102) (fun v107 σ108 => om v107 (b_X10_relate_33 n σ108) (fun a112 => gd (okS n a112) (b_X10_relate_33 n σ108)))) (fun a106 => gd (okS n a106) (bd (f_X10_shapeOf n x3 σ102) (fun v115 σ116 => om v115 (b_X10_relate_33 n σ116) (fun a120 => gd (okS n a120) (if x1 < 0 then some ((-1), σ116) else if x1 ≤ 4 then bd (f_X6_holds n x1 a106 a120 σ116) (fun v124 σ125 => if v124 = 0 then some (0, σ125) else some (1, σ125)) else some ((-1), σ116)))))))
set_option maxRecDepth 100000 in
set_option maxHeartbeats 4000000 in
theorem c_X10_relate {G : xG} {n : Nat} {σ : xσ} {h : xH} {x1 : Int32} {x2 : Int32} {x3 : Int32} {v1 : Int32} {σ1 : xσ} (R : Rl n σ h) (hf : f_X10_relate n x1 x2 x3 σ = some (v1, σ1)) : Ca G mX10_relate [.ref 0, .int x1, .int x2, .int x3] h (fun v h' => v = some (.int v1) ∧ Rl n σ1 h') := by
  refine Ca.of rfl (Nat.le_of_ble_eq_true rfl) ?_
  generalize hr : (v1, σ1) = r at hf
  suffices q : Go G mX10_relate 0 (xent (xMl mX10_relate) [.ref 0, .int x1, .int x2, .int x3]) [] h (fun v h' => xRok (xRt mX10_relate) v ∧ v = some (.int r.1) ∧ Rl n r.2 h') by
    subst hr
    exact q
  clear hr
  rw [f_X10_relate] at hf
  refine go_aload_n (i := 0) (pc' := 1) dX10_relate_0 rfl rfl rfl ?_
  refine go_iload_n (i := 2) (pc' := 2) dX10_relate_1 rfl rfl rfl ?_
  obtain ⟨v101, σ102, e103, hf⟩ := bd_some hf
  refine go_invV (As := [_]) (pc' := 5) dX10_relate_2 rfl cf_X10_relate_160 rfl (R.ob (R.at rfl (by decide))) rfl rfl (Nat.le_of_ble_eq_true rfl) (c_X10_shapeOf R e103) (fun q104v h105 q104 => ?_)
  obtain ⟨rfl, R⟩ := q104
  cases v101 with
  | none =>
    refine go_astoreN (pc' := 7) dX10_relate_5 rfl (by decide) rfl ?_
    refine go_aload_n (i := 0) (pc' := 8) dX10_relate_7 rfl rfl rfl ?_
    refine go_iload_n (i := 3) (pc' := 9) dX10_relate_8 rfl rfl rfl ?_
    obtain ⟨v107, σ108, e109, hf⟩ := bd_some hf
    refine go_invV (As := [_]) (pc' := 12) dX10_relate_9 rfl cf_X10_relate_160 rfl (R.ob (R.at rfl (by decide))) rfl rfl (Nat.le_of_ble_eq_true rfl) (c_X10_shapeOf R e109) (fun q110v h111 q110 => ?_)
    obtain ⟨rfl, R⟩ := q110
    cases v107 with
    | none =>
      refine go_astoreN (pc' := 14) dX10_relate_12 rfl (by decide) rfl ?_
      refine go_aloadN (pc' := 16) dX10_relate_14 rfl rfl ?_
      refine go_ifnullN (pc' := 0) (tgt := 33) dX10_relate_16 (by decide) ?_
      exact t_X10_relate_33 R hf
    | some a112 =>
      obtain ⟨g113, hf⟩ := gd_some hf
      refine go_astore (pc' := 14) dX10_relate_12 rfl (by decide) rfl ?_
      refine go_aloadN (pc' := 16) dX10_relate_14 rfl rfl ?_
      refine go_ifnullN (pc' := 0) (tgt := 33) dX10_relate_16 (by decide) ?_
      exact t_X10_relate_33 R hf
  | some a106 =>
    obtain ⟨g114, hf⟩ := gd_some hf
    refine go_astore (pc' := 7) dX10_relate_5 rfl (by decide) rfl ?_
    refine go_aload_n (i := 0) (pc' := 8) dX10_relate_7 rfl rfl rfl ?_
    refine go_iload_n (i := 3) (pc' := 9) dX10_relate_8 rfl rfl rfl ?_
    obtain ⟨v115, σ116, e117, hf⟩ := bd_some hf
    refine go_invV (As := [_]) (pc' := 12) dX10_relate_9 rfl cf_X10_relate_160 rfl (R.ob (R.at rfl (by decide))) rfl rfl (Nat.le_of_ble_eq_true rfl) (c_X10_shapeOf R e117) (fun q118v h119 q118 => ?_)
    obtain ⟨rfl, R⟩ := q118
    cases v115 with
    | none =>
      refine go_astoreN (pc' := 14) dX10_relate_12 rfl (by decide) rfl ?_
      refine go_aload (pc' := 16) dX10_relate_14 rfl rfl ?_
      refine go_ifnull (pc' := 19) dX10_relate_16 rfl ?_
      refine go_aloadN (pc' := 21) dX10_relate_19 rfl rfl ?_
      refine go_ifnullN (pc' := 0) (tgt := 33) dX10_relate_21 (by decide) ?_
      exact t_X10_relate_33 R hf
    | some a120 =>
      obtain ⟨g121, hf⟩ := gd_some hf
      refine go_astore (pc' := 14) dX10_relate_12 rfl (by decide) rfl ?_
      refine go_aload (pc' := 16) dX10_relate_14 rfl rfl ?_
      refine go_ifnull (pc' := 19) dX10_relate_16 rfl ?_
      refine go_aload (pc' := 21) dX10_relate_19 rfl rfl ?_
      refine go_ifnull (pc' := 24) dX10_relate_21 rfl ?_
      refine go_iload_n (i := 1) (pc' := 25) dX10_relate_24 rfl rfl rfl ?_
      refine go_if_lt (pc' := 28) (tgt := 33) dX10_relate_25 (by decide) rfl (fun c122 => ?_) (fun c122 => ?_)
      · have hf := it c122 hf
        refine go_iconst (v := (-1)) (pc' := 34) dX10_relate_33 rfl (by decide) ?_
        obtain rfl := Option.some.inj hf
        exact Go.ret (v := some (.int _)) dX10_relate_34 ⟨_, rfl⟩ ⟨rfl, rfl, R⟩
      · have hf := ie c122 hf
        refine go_iload_n (i := 1) (pc' := 29) dX10_relate_28 rfl rfl rfl ?_
        refine go_iconst (v := 4) (pc' := 30) dX10_relate_29 rfl (by decide) ?_
        refine go_icmp_le (pc' := 33) (tgt := 35) dX10_relate_30 (by decide) rfl (fun c123 => ?_) (fun c123 => ?_)
        · have hf := it c123 hf
          refine go_aload_n (i := 0) (pc' := 36) dX10_relate_35 rfl rfl rfl ?_
          refine go_getS (pc' := 39) dX10_relate_36 rfl gf_LandBase_45 R (R.at rfl (by decide)) (by decide) rfl ?_
          refine go_iload_n (i := 1) (pc' := 40) dX10_relate_39 rfl rfl rfl ?_
          refine go_aload (pc' := 42) dX10_relate_40 rfl rfl ?_
          refine go_aload (pc' := 44) dX10_relate_42 rfl rfl ?_
          obtain ⟨v124, σ125, e126, hf⟩ := bd_some hf
          refine go_invV (As := [_, _, _]) (pc' := 47) dX10_relate_44 rfl cf_X10_relate_179 rfl (R.ob (R.at rfl (by decide))) rfl rfl (Nat.le_of_ble_eq_true rfl) (c_X6_holds R e126) (fun q127v h128 q127 => ?_)
          obtain ⟨rfl, R⟩ := q127
          refine go_if_eq (pc' := 50) (tgt := 54) dX10_relate_47 (by decide) rfl (fun c129 => ?_) (fun c129 => ?_)
          · have hf := it c129 hf
            refine go_iconst (v := 0) (pc' := 55) dX10_relate_54 rfl (by decide) ?_
            obtain rfl := Option.some.inj hf
            exact Go.ret (v := some (.int _)) dX10_relate_55 ⟨_, rfl⟩ ⟨rfl, rfl, R⟩
          · have hf := ie c129 hf
            refine go_iconst (v := 1) (pc' := 51) dX10_relate_50 rfl (by decide) ?_
            refine go_goto (pc' := 0) (tgt := 55) dX10_relate_51 (by decide) ?_
            obtain rfl := Option.some.inj hf
            exact Go.ret (v := some (.int _)) dX10_relate_55 ⟨_, rfl⟩ ⟨rfl, rfl, R⟩
        · have hf := ie c123 hf
          refine go_iconst (v := (-1)) (pc' := 34) dX10_relate_33 rfl (by decide) ?_
          obtain rfl := Option.some.inj hf
          exact Go.ret (v := some (.int _)) dX10_relate_34 ⟨_, rfl⟩ ⟨rfl, rfl, R⟩

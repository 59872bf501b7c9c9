/-! the system -/
def b_X10_at_34 (n : Nat) (σ : xσ) : Option (Int32 × xσ) := some (0, σ)
set_option maxRecDepth 100000 in
set_option maxHeartbeats 4000000 in
theorem t_X10_at_34 {G : xG} {n : Nat} {σ : xσ} {h : xH} {r : Int32 × xσ} {d0 : Option Value} {d1 : Option Value} {d2 : Option Value} {d3 : Option Value} {d4 : Option Value} : Rl n σ h → b_X10_at_34 n σ = some r → Go G mX10_at 34 [d0, d1, d2, d3, d4] [] h (fun v h' => xRok (xRt mX10_at) v ∧ v = some (.int r.1) ∧ Rl n r.2 h') := by
  intro R hf
  rw [b_X10_at_34] at hf
  refine go_iconst (v := 0) (pc' := 35) dX10_at_34 rfl (by decide) ?_
  obtain rfl := Option.some.inj hf
  exact Go.ret (v := some (.int _)) dX10_at_35 ⟨_, rfl⟩ ⟨rfl, rfl, R⟩
def f_X10_at (n : Nat) (x1 : Int32) (x2 : Int32) (x3 : Int32) (σ : xσ) : Option (Int32 × xσ) := bd (f_X10_shapeOf n x1 σ) (fun v101 σ102 => om v101 (b_X10_at_34 n σ102) (fun a106 => gd (okS n a106) (if x2 < 0 then some (0, σ102) else if (sI σ102 a106 1) ≤ x2 then some (0, σ102) else if x3 < 0 then some (0, σ102) else if x3 ≤ 1 then if x3 = 0 then gd (inb x2 40) (some (sI σ102 (a106 + 1) x2.toNatClampNeg, σ102)) else gd (inb x2 40) (some (sI σ102 (a106 + 2) x2.toNatClampNeg, σ102)) else some (0, σ102))))
set_option maxRecDepth 100000 in
set_option maxHeartbeats 4000000 in
theorem c_X10_at {G : xG} {n : Nat} {σ : xσ} {h : xH} {x1 : Int32} {x2 : Int32} {x3 : Int32} {v1 : Int32} {σ1 : xσ} (R : Rl n σ h) (hf : f_X10_at n x1 x2 x3 σ = some (v1, σ1)) : Ca G mX10_at [.ref 0, .int x1, .int x2, .int x3] h (fun v h' => v = some (.int v1) ∧ Rl n σ1 h') := by
  refine Ca.of rfl (Nat.le_of_ble_eq_true rfl) ?_
  generalize hr : (v1, σ1) = r at hf
  suffices q : Go G mX10_at 0 (xent (xMl mX10_at) [.ref 0, .int x1, .int x2, .int x3]) [] h (fun v h' => xRok (xRt mX10_at) v ∧ v = some (.int r.1) ∧ Rl n r.2 h') by
    subst hr
    exact q
  clear hr
  rw [f_X10_at] at hf
  refine go_aload_n (i := 0) (pc' := 1) dX10_at_0 rfl rfl rfl ?_
  refine go_iload_n (i := 1) (pc' := 2) dX10_at_1 rfl rfl rfl ?_
  obtain ⟨v101, σ102, e103, hf⟩ := bd_some hf
  refine go_invV (As := [_]) (pc' := 5) dX10_at_2 rfl cf_X10_at_160 rfl (R.ob (R.at rfl (by decide))) rfl rfl (Nat.le_of_ble_eq_true rfl) (c_X10_shapeOf R e103) (fun q104v h105 q104 => ?_)
  obtain ⟨rfl, R⟩ := q104
  cases v101 with
  | none =>
    refine go_astoreN (pc' := 7) dX10_at_5 rfl (by decide) rfl ?_
    refine go_aloadN (pc' := 9) dX10_at_7 rfl rfl ?_
    refine go_ifnullN (pc' := 0) (tgt := 34) dX10_at_9 (by decide) ?_
    exact t_X10_at_34 R hf
  | some a106 =>
    obtain ⟨g107, hf⟩ := gd_some hf
    refine go_astore (pc' := 7) dX10_at_5 rfl (by decide) rfl ?_
    refine go_aload (pc' := 9) dX10_at_7 rfl rfl ?_
    refine go_ifnull (pc' := 12) dX10_at_9 rfl ?_
    refine go_iload_n (i := 2) (pc' := 13) dX10_at_12 rfl rfl rfl ?_
    refine go_if_lt (pc' := 16) (tgt := 34) dX10_at_13 (by decide) rfl (fun c108 => ?_) (fun c108 => ?_)
    · have hf := it c108 hf
      refine go_iconst (v := 0) (pc' := 35) dX10_at_34 rfl (by decide) ?_
      obtain rfl := Option.some.inj hf
      exact Go.ret (v := some (.int _)) dX10_at_35 ⟨_, rfl⟩ ⟨rfl, rfl, R⟩
    · have hf := ie c108 hf
      refine go_iload_n (i := 2) (pc' := 17) dX10_at_16 rfl rfl rfl ?_
      refine go_aload (pc' := 19) dX10_at_17 rfl rfl ?_
      refine go_getS (pc' := 22) dX10_at_19 rfl gf_LandBase_169 R g107.at (by decide) rfl ?_
      refine go_icmp_ge (pc' := 25) (tgt := 34) dX10_at_22 (by decide) rfl (fun c109 => ?_) (fun c109 => ?_)
      · have hf := it c109 hf
        refine go_iconst (v := 0) (pc' := 35) dX10_at_34 rfl (by decide) ?_
        obtain rfl := Option.some.inj hf
        exact Go.ret (v := some (.int _)) dX10_at_35 ⟨_, rfl⟩ ⟨rfl, rfl, R⟩
      · have hf := ie c109 hf
        refine go_iload_n (i := 3) (pc' := 26) dX10_at_25 rfl rfl rfl ?_
        refine go_if_lt (pc' := 29) (tgt := 34) dX10_at_26 (by decide) rfl (fun c110 => ?_) (fun c110 => ?_)
        · have hf := it c110 hf
          refine go_iconst (v := 0) (pc' := 35) dX10_at_34 rfl (by decide) ?_
          obtain rfl := Option.some.inj hf
          exact Go.ret (v := some (.int _)) dX10_at_35 ⟨_, rfl⟩ ⟨rfl, rfl, R⟩
        · have hf := ie c110 hf
          refine go_iload_n (i := 3) (pc' := 30) dX10_at_29 rfl rfl rfl ?_
          refine go_iconst (v := 1) (pc' := 31) dX10_at_30 rfl (by decide) ?_
          refine go_icmp_le (pc' := 34) (tgt := 36) dX10_at_31 (by decide) rfl (fun c111 => ?_) (fun c111 => ?_)
          · have hf := it c111 hf
            refine go_iload_n (i := 3) (pc' := 37) dX10_at_36 rfl rfl rfl ?_
            refine go_if_ne (pc' := 40) (tgt := 50) dX10_at_37 (by decide) rfl (fun c112 => ?_) (fun c112 => ?_)
            · have hf := ie c112 hf
              refine go_aload (pc' := 52) dX10_at_50 rfl rfl ?_
              refine go_getS (pc' := 55) dX10_at_52 rfl gf_LandBase_176 R g107.at (by decide) rfl ?_
              refine go_iload_n (i := 2) (pc' := 56) dX10_at_55 rfl rfl rfl ?_
              obtain ⟨g113, hf⟩ := gd_some hf
              refine go_ialoadS (pc' := 57) dX10_at_56 rfl R g107.y g113 ?_
              obtain rfl := Option.some.inj hf
              exact Go.ret (v := some (.int _)) dX10_at_57 ⟨_, rfl⟩ ⟨rfl, rfl, R⟩
            · have hf := it c112 hf
              refine go_aload (pc' := 42) dX10_at_40 rfl rfl ?_
              refine go_getS (pc' := 45) dX10_at_42 rfl gf_LandBase_173 R g107.at (by decide) rfl ?_
              refine go_iload_n (i := 2) (pc' := 46) dX10_at_45 rfl rfl rfl ?_
              obtain ⟨g114, hf⟩ := gd_some hf
              refine go_ialoadS (pc' := 47) dX10_at_46 rfl R g107.x g114 ?_
              refine go_goto (pc' := 0) (tgt := 57) dX10_at_47 (by decide) ?_
              obtain rfl := Option.some.inj hf
              exact Go.ret (v := some (.int _)) dX10_at_57 ⟨_, rfl⟩ ⟨rfl, rfl, R⟩
          · have hf := ie c111 hf
            refine go_iconst (v := 0) (pc' := 35) dX10_at_34 rfl (by decide) ?_
            obtain rfl := Option.some.inj hf
            exact Go.ret (v := some (.int _)) dX10_at_35 ⟨_, rfl⟩ ⟨rfl, rfl, R⟩

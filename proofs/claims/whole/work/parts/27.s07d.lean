/-! the system -/
def f_X10_wrong (n : Nat)  (σ : xσ) : Option (Int32 × xσ) := some (sI σ 0 10, σ)
set_option maxRecDepth 100000 in
set_option maxHeartbeats 4000000 in
theorem c_X10_wrong {G : xG} {n : Nat} {σ : xσ} {h : xH}  {v1 : Int32} {σ1 : xσ} (R : Rl n σ h) (hf : f_X10_wrong n σ = some (v1, σ1)) : Ca G mX10_wrong [.ref 0] h (fun v h' => v = some (.int v1) ∧ Rl n σ1 h') := by
  refine Ca.of rfl (Nat.le_of_ble_eq_true rfl) ?_
  generalize hr : (v1, σ1) = r at hf
  suffices q : Go G mX10_wrong 0 (xent (xMl mX10_wrong) [.ref 0]) [] h (fun v h' => xRok (xRt mX10_wrong) v ∧ v = some (.int r.1) ∧ Rl n r.2 h') by
    subst hr
    exact q
  clear hr
  rw [f_X10_wrong] at hf
  refine go_aload_n (i := 0) (pc' := 1) dX10_wrong_0 rfl rfl rfl ?_
  refine go_getS (pc' := 4) dX10_wrong_1 rfl gf_LandBase_70 R (R.at rfl (by decide)) (by decide) rfl ?_
  obtain rfl := Option.some.inj hf
  exact Go.ret (v := some (.int _)) dX10_wrong_4 ⟨_, rfl⟩ ⟨rfl, rfl, R⟩
def f_X10_outputs (n : Nat)  (σ : xσ) : Option (Int32 × xσ) := some (sI σ 0 8, σ)
set_option maxRecDepth 100000 in
set_option maxHeartbeats 4000000 in
theorem c_X10_outputs {G : xG} {n : Nat} {σ : xσ} {h : xH}  {v1 : Int32} {σ1 : xσ} (R : Rl n σ h) (hf : f_X10_outputs n σ = some (v1, σ1)) : Ca G mX10_outputs [.ref 0] h (fun v h' => v = some (.int v1) ∧ Rl n σ1 h') := by
  refine Ca.of rfl (Nat.le_of_ble_eq_true rfl) ?_
  generalize hr : (v1, σ1) = r at hf
  suffices q : Go G mX10_outputs 0 (xent (xMl mX10_outputs) [.ref 0]) [] h (fun v h' => xRok (xRt mX10_outputs) v ∧ v = some (.int r.1) ∧ Rl n r.2 h') by
    subst hr
    exact q
  clear hr
  rw [f_X10_outputs] at hf
  refine go_aload_n (i := 0) (pc' := 1) dX10_outputs_0 rfl rfl rfl ?_
  refine go_getS (pc' := 4) dX10_outputs_1 rfl gf_LandBase_63 R (R.at rfl (by decide)) (by decide) rfl ?_
  obtain rfl := Option.some.inj hf
  exact Go.ret (v := some (.int _)) dX10_outputs_4 ⟨_, rfl⟩ ⟨rfl, rfl, R⟩
def f_X10_out (n : Nat) (x1 : Int32) (σ : xσ) : Option (Int32 × xσ) := if x1 < 0 then some (0, σ) else if (sI σ 0 8) ≤ x1 then some (0, σ) else gd (inb x1 20000) (some (sI σ 232 x1.toNatClampNeg, σ))
set_option maxRecDepth 100000 in
set_option maxHeartbeats 4000000 in
theorem c_X10_out {G : xG} {n : Nat} {σ : xσ} {h : xH} {x1 : Int32} {v1 : Int32} {σ1 : xσ} (R : Rl n σ h) (hf : f_X10_out n x1 σ = some (v1, σ1)) : Ca G mX10_out [.ref 0, .int x1] h (fun v h' => v = some (.int v1) ∧ Rl n σ1 h') := by
  refine Ca.of rfl (Nat.le_of_ble_eq_true rfl) ?_
  generalize hr : (v1, σ1) = r at hf
  suffices q : Go G mX10_out 0 (xent (xMl mX10_out) [.ref 0, .int x1]) [] h (fun v h' => xRok (xRt mX10_out) v ∧ v = some (.int r.1) ∧ Rl n r.2 h') by
    subst hr
    exact q
  clear hr
  rw [f_X10_out] at hf
  refine go_iload_n (i := 1) (pc' := 1) dX10_out_0 rfl rfl rfl ?_
  refine go_if_lt (pc' := 4) (tgt := 21) dX10_out_1 (by decide) rfl (fun c101 => ?_) (fun c101 => ?_)
  · have hf := it c101 hf
    refine go_iconst (v := 0) (pc' := 22) dX10_out_21 rfl (by decide) ?_
    obtain rfl := Option.some.inj hf
    exact Go.ret (v := some (.int _)) dX10_out_22 ⟨_, rfl⟩ ⟨rfl, rfl, R⟩
  · have hf := ie c101 hf
    refine go_iload_n (i := 1) (pc' := 5) dX10_out_4 rfl rfl rfl ?_
    refine go_aload_n (i := 0) (pc' := 6) dX10_out_5 rfl rfl rfl ?_
    refine go_getS (pc' := 9) dX10_out_6 rfl gf_LandBase_63 R (R.at rfl (by decide)) (by decide) rfl ?_
    refine go_icmp_ge (pc' := 12) (tgt := 21) dX10_out_9 (by decide) rfl (fun c102 => ?_) (fun c102 => ?_)
    · have hf := it c102 hf
      refine go_iconst (v := 0) (pc' := 22) dX10_out_21 rfl (by decide) ?_
      obtain rfl := Option.some.inj hf
      exact Go.ret (v := some (.int _)) dX10_out_22 ⟨_, rfl⟩ ⟨rfl, rfl, R⟩
    · have hf := ie c102 hf
      refine go_aload_n (i := 0) (pc' := 13) dX10_out_12 rfl rfl rfl ?_
      refine go_getS (pc' := 16) dX10_out_13 rfl gf_LandBase_60 R (R.at rfl (by decide)) (by decide) rfl ?_
      refine go_iload_n (i := 1) (pc' := 17) dX10_out_16 rfl rfl rfl ?_
      obtain ⟨g103, hf⟩ := gd_some hf
      refine go_ialoadS (pc' := 18) dX10_out_17 rfl R (R.aa rfl (by decide)) g103 ?_
      refine go_goto (pc' := 0) (tgt := 22) dX10_out_18 (by decide) ?_
      obtain rfl := Option.some.inj hf
      exact Go.ret (v := some (.int _)) dX10_out_22 ⟨_, rfl⟩ ⟨rfl, rfl, R⟩
def f_X10_crash (n : Nat) (x1 : Int32) (x2 : Int32) (x3 : Int32) (σ : xσ) : Option (Int32 × xσ) := if (sI σ 10 6) = 0 then if x1 < 0 then some (0, σ) else if 1 < x1 then some (0, σ) else if x2 < 1 then some (0, σ) else if 1000 < x2 then some (0, σ) else if x3 < 0 then some (0, σ) else if x3 ≤ 200 then st (wI σ 10 10 x1) (fun σ108 => st (wI σ108 10 11 x2) (fun σ111 => some (1, σ111))) else some (0, σ) else some (0, σ)
set_option maxRecDepth 100000 in
set_option maxHeartbeats 4000000 in
theorem c_X10_crash {G : xG} {n : Nat} {σ : xσ} {h : xH} {x1 : Int32} {x2 : Int32} {x3 : Int32} {v1 : Int32} {σ1 : xσ} (R : Rl n σ h) (hf : f_X10_crash n x1 x2 x3 σ = some (v1, σ1)) : Ca G mX10_crash [.ref 0, .int x1, .int x2, .int x3] h (fun v h' => v = some (.int v1) ∧ Rl n σ1 h') := by
  refine Ca.of rfl (Nat.le_of_ble_eq_true rfl) ?_
  generalize hr : (v1, σ1) = r at hf
  suffices q : Go G mX10_crash 0 (xent (xMl mX10_crash) [.ref 0, .int x1, .int x2, .int x3]) [] h (fun v h' => xRok (xRt mX10_crash) v ∧ v = some (.int r.1) ∧ Rl n r.2 h') by
    subst hr
    exact q
  clear hr
  rw [f_X10_crash] at hf
  refine go_aload_n (i := 0) (pc' := 1) dX10_crash_0 rfl rfl rfl ?_
  refine go_getS (pc' := 4) dX10_crash_1 rfl gf_LandBase_26 R (R.at rfl (by decide)) (by decide) rfl ?_
  refine go_getS (pc' := 7) dX10_crash_4 rfl gf_LandBase_80 R (R.at rfl (by decide)) (by decide) rfl ?_
  refine go_if_ne (pc' := 10) (tgt := 42) dX10_crash_7 (by decide) rfl (fun c101 => ?_) (fun c101 => ?_)
  · have hf := ie c101 hf
    refine go_iconst (v := 0) (pc' := 43) dX10_crash_42 rfl (by decide) ?_
    obtain rfl := Option.some.inj hf
    exact Go.ret (v := some (.int _)) dX10_crash_43 ⟨_, rfl⟩ ⟨rfl, rfl, R⟩
  · have hf := it c101 hf
    refine go_iload_n (i := 1) (pc' := 11) dX10_crash_10 rfl rfl rfl ?_
    refine go_if_lt (pc' := 14) (tgt := 42) dX10_crash_11 (by decide) rfl (fun c102 => ?_) (fun c102 => ?_)
    · have hf := it c102 hf
      refine go_iconst (v := 0) (pc' := 43) dX10_crash_42 rfl (by decide) ?_
      obtain rfl := Option.some.inj hf
      exact Go.ret (v := some (.int _)) dX10_crash_43 ⟨_, rfl⟩ ⟨rfl, rfl, R⟩
    · have hf := ie c102 hf
      refine go_iload_n (i := 1) (pc' := 15) dX10_crash_14 rfl rfl rfl ?_
      refine go_iconst (v := 1) (pc' := 16) dX10_crash_15 rfl (by decide) ?_
      refine go_icmp_gt (pc' := 19) (tgt := 42) dX10_crash_16 (by decide) rfl (fun c103 => ?_) (fun c103 => ?_)
      · have hf := it c103 hf
        refine go_iconst (v := 0) (pc' := 43) dX10_crash_42 rfl (by decide) ?_
        obtain rfl := Option.some.inj hf
        exact Go.ret (v := some (.int _)) dX10_crash_43 ⟨_, rfl⟩ ⟨rfl, rfl, R⟩
      · have hf := ie c103 hf
        refine go_iload_n (i := 2) (pc' := 20) dX10_crash_19 rfl rfl rfl ?_
        refine go_iconst (v := 1) (pc' := 21) dX10_crash_20 rfl (by decide) ?_
        refine go_icmp_lt (pc' := 24) (tgt := 42) dX10_crash_21 (by decide) rfl (fun c104 => ?_) (fun c104 => ?_)
        · have hf := it c104 hf
          refine go_iconst (v := 0) (pc' := 43) dX10_crash_42 rfl (by decide) ?_
          obtain rfl := Option.some.inj hf
          exact Go.ret (v := some (.int _)) dX10_crash_43 ⟨_, rfl⟩ ⟨rfl, rfl, R⟩
        · have hf := ie c104 hf
          refine go_iload_n (i := 2) (pc' := 25) dX10_crash_24 rfl rfl rfl ?_
          refine go_sipush (v := 1000) (pc' := 28) dX10_crash_25 rfl (by decide) ?_
          refine go_icmp_gt (pc' := 31) (tgt := 42) dX10_crash_28 (by decide) rfl (fun c105 => ?_) (fun c105 => ?_)
          · have hf := it c105 hf
            refine go_iconst (v := 0) (pc' := 43) dX10_crash_42 rfl (by decide) ?_
            obtain rfl := Option.some.inj hf
            exact Go.ret (v := some (.int _)) dX10_crash_43 ⟨_, rfl⟩ ⟨rfl, rfl, R⟩
          · have hf := ie c105 hf
            refine go_iload_n (i := 3) (pc' := 32) dX10_crash_31 rfl rfl rfl ?_
            refine go_if_lt (pc' := 35) (tgt := 42) dX10_crash_32 (by decide) rfl (fun c106 => ?_) (fun c106 => ?_)
            · have hf := it c106 hf
              refine go_iconst (v := 0) (pc' := 43) dX10_crash_42 rfl (by decide) ?_
              obtain rfl := Option.some.inj hf
              exact Go.ret (v := some (.int _)) dX10_crash_43 ⟨_, rfl⟩ ⟨rfl, rfl, R⟩
            · have hf := ie c106 hf
              refine go_iload_n (i := 3) (pc' := 36) dX10_crash_35 rfl rfl rfl ?_
              refine go_sipush (v := 200) (pc' := 39) dX10_crash_36 rfl (by decide) ?_
              refine go_icmp_le (pc' := 42) (tgt := 44) dX10_crash_39 (by decide) rfl (fun c107 => ?_) (fun c107 => ?_)
              · have hf := it c107 hf
                refine go_aload_n (i := 0) (pc' := 45) dX10_crash_44 rfl rfl rfl ?_
                refine go_getS (pc' := 48) dX10_crash_45 rfl gf_LandBase_26 R (R.at rfl (by decide)) (by decide) rfl ?_
                refine go_iload_n (i := 1) (pc' := 49) dX10_crash_48 rfl rfl rfl ?_
                obtain ⟨σ108, e109, hf⟩ := st_some hf
                refine go_putI (pc' := 52) dX10_crash_49 rfl pf_LandBase_136 R (R.at rfl (by decide)) (by decide) rfl rfl rfl (fun h110 R => ?_)
                have R := Rl.cast e109 R
                refine go_aload_n (i := 0) (pc' := 53) dX10_crash_52 rfl rfl rfl ?_
                refine go_getS (pc' := 56) dX10_crash_53 rfl gf_LandBase_26 R (R.at rfl (by decide)) (by decide) rfl ?_
                refine go_iload_n (i := 2) (pc' := 57) dX10_crash_56 rfl rfl rfl ?_
                obtain ⟨σ111, e112, hf⟩ := st_some hf
                refine go_putI (pc' := 60) dX10_crash_57 rfl pf_LandBase_139 R (R.at rfl (by decide)) (by decide) rfl rfl rfl (fun h113 R => ?_)
                have R := Rl.cast e112 R
                refine go_iconst (v := 1) (pc' := 61) dX10_crash_60 rfl (by decide) ?_
                obtain rfl := Option.some.inj hf
                exact Go.ret (v := some (.int _)) dX10_crash_61 ⟨_, rfl⟩ ⟨rfl, rfl, R⟩
              · have hf := ie c107 hf
                refine go_iconst (v := 0) (pc' := 43) dX10_crash_42 rfl (by decide) ?_
                obtain rfl := Option.some.inj hf
                exact Go.ret (v := some (.int _)) dX10_crash_43 ⟨_, rfl⟩ ⟨rfl, rfl, R⟩
def f_X10_recover (n : Nat)  (σ : xσ) : Option (Int32 × xσ) := bd (f_X3_restore n σ) (fun v101 σ102 => some (sI σ102 11 2, σ102))
set_option maxRecDepth 100000 in
set_option maxHeartbeats 4000000 in
theorem c_X10_recover {G : xG} {n : Nat} {σ : xσ} {h : xH}  {v1 : Int32} {σ1 : xσ} (R : Rl n σ h) (hf : f_X10_recover n σ = some (v1, σ1)) : Ca G mX10_recover [.ref 0] h (fun v h' => v = some (.int v1) ∧ Rl n σ1 h') := by
  refine Ca.of rfl (Nat.le_of_ble_eq_true rfl) ?_
  generalize hr : (v1, σ1) = r at hf
  suffices q : Go G mX10_recover 0 (xent (xMl mX10_recover) [.ref 0]) [] h (fun v h' => xRok (xRt mX10_recover) v ∧ v = some (.int r.1) ∧ Rl n r.2 h') by
    subst hr
    exact q
  clear hr
  rw [f_X10_recover] at hf
  refine go_aload_n (i := 0) (pc' := 1) dX10_recover_0 rfl rfl rfl ?_
  refine go_getS (pc' := 4) dX10_recover_1 rfl gf_LandBase_26 R (R.at rfl (by decide)) (by decide) rfl ?_
  obtain ⟨v101, σ102, e103, hf⟩ := bd_some hf
  refine go_invV (As := []) (pc' := 7) dX10_recover_4 rfl cf_X10_recover_142 rfl (R.ob (R.at rfl (by decide))) rfl rfl (Nat.le_of_ble_eq_true rfl) (c_X3_restore R e103) (fun q104v h105 q104 => ?_)
  obtain ⟨rfl, R⟩ := q104
  refine go_aload_n (i := 0) (pc' := 8) dX10_recover_7 rfl rfl rfl ?_
  refine go_getS (pc' := 11) dX10_recover_8 rfl gf_LandBase_26 R (R.at rfl (by decide)) (by decide) rfl ?_
  refine go_getS (pc' := 14) dX10_recover_11 rfl gf_LandBase_145 R (R.at rfl (by decide)) (by decide) rfl ?_
  refine go_getS (pc' := 17) dX10_recover_14 rfl gf_LandBase_149 R (R.at rfl (by decide)) (by decide) rfl ?_
  obtain rfl := Option.some.inj hf
  exact Go.ret (v := some (.int _)) dX10_recover_17 ⟨_, rfl⟩ ⟨rfl, rfl, R⟩
def f_X10_isDown (n : Nat)  (σ : xσ) : Option (Int32 × xσ) := gd (sI σ 10 6 = 0 ∨ sI σ 10 6 = 1) (some (sI σ 10 6, σ))
set_option maxRecDepth 100000 in
set_option maxHeartbeats 4000000 in
theorem c_X10_isDown {G : xG} {n : Nat} {σ : xσ} {h : xH}  {v1 : Int32} {σ1 : xσ} (R : Rl n σ h) (hf : f_X10_isDown n σ = some (v1, σ1)) : Ca G mX10_isDown [.ref 0] h (fun v h' => v = some (.int v1) ∧ Rl n σ1 h') := by
  refine Ca.of rfl (Nat.le_of_ble_eq_true rfl) ?_
  generalize hr : (v1, σ1) = r at hf
  suffices q : Go G mX10_isDown 0 (xent (xMl mX10_isDown) [.ref 0]) [] h (fun v h' => xRok (xRt mX10_isDown) v ∧ v = some (.int r.1) ∧ Rl n r.2 h') by
    subst hr
    exact q
  clear hr
  rw [f_X10_isDown] at hf
  refine go_aload_n (i := 0) (pc' := 1) dX10_isDown_0 rfl rfl rfl ?_
  refine go_getS (pc' := 4) dX10_isDown_1 rfl gf_LandBase_26 R (R.at rfl (by decide)) (by decide) rfl ?_
  refine go_getS (pc' := 7) dX10_isDown_4 rfl gf_LandBase_80 R (R.at rfl (by decide)) (by decide) rfl ?_
  obtain ⟨g101, hf⟩ := gd_some hf
  obtain rfl := Option.some.inj hf
  exact Go.ret (v := some (.int _)) dX10_isDown_7 ⟨_, rfl⟩ ⟨(nb g101), rfl, R⟩

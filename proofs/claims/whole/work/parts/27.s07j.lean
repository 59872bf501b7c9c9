/-! the system -/
def f_X10_used (n : Nat)  (σ : xσ) : Option (Int32 × xσ) := if (sI σ 10 6) = 0 then some (sI σ 10 8, σ) else some ((-1), σ)
set_option maxRecDepth 100000 in
set_option maxHeartbeats 4000000 in
theorem c_X10_used {G : xG} {n : Nat} {σ : xσ} {h : xH}  {v1 : Int32} {σ1 : xσ} (R : Rl n σ h) (hf : f_X10_used n σ = some (v1, σ1)) : Ca G mX10_used [.ref 0] h (fun v h' => v = some (.int v1) ∧ Rl n σ1 h') := by
  refine Ca.of rfl (Nat.le_of_ble_eq_true rfl) ?_
  generalize hr : (v1, σ1) = r at hf
  suffices q : Go G mX10_used 0 (xent (xMl mX10_used) [.ref 0]) [] h (fun v h' => xRok (xRt mX10_used) v ∧ v = some (.int r.1) ∧ Rl n r.2 h') by
    subst hr
    exact q
  clear hr
  rw [f_X10_used] at hf
  refine go_aload_n (i := 0) (pc' := 1) dX10_used_0 rfl rfl rfl ?_
  refine go_getS (pc' := 4) dX10_used_1 rfl gf_LandBase_26 R (R.at rfl (by decide)) (by decide) rfl ?_
  refine go_getS (pc' := 7) dX10_used_4 rfl gf_LandBase_80 R (R.at rfl (by decide)) (by decide) rfl ?_
  refine go_if_eq (pc' := 10) (tgt := 14) dX10_used_7 (by decide) rfl (fun c101 => ?_) (fun c101 => ?_)
  · have hf := it c101 hf
    refine go_aload_n (i := 0) (pc' := 15) dX10_used_14 rfl rfl rfl ?_
    refine go_getS (pc' := 18) dX10_used_15 rfl gf_LandBase_26 R (R.at rfl (by decide)) (by decide) rfl ?_
    refine go_getS (pc' := 21) dX10_used_18 rfl gf_LandBase_195 R (R.at rfl (by decide)) (by decide) rfl ?_
    obtain rfl := Option.some.inj hf
    exact Go.ret (v := some (.int _)) dX10_used_21 ⟨_, rfl⟩ ⟨rfl, rfl, R⟩
  · have hf := ie c101 hf
    refine go_iconst (v := (-1)) (pc' := 11) dX10_used_10 rfl (by decide) ?_
    refine go_goto (pc' := 0) (tgt := 21) dX10_used_11 (by decide) ?_
    obtain rfl := Option.some.inj hf
    exact Go.ret (v := some (.int _)) dX10_used_21 ⟨_, rfl⟩ ⟨rfl, rfl, R⟩
def f_X10_saves (n : Nat)  (σ : xσ) : Option (Int32 × xσ) := some (sI σ 10 9, σ)
set_option maxRecDepth 100000 in
set_option maxHeartbeats 4000000 in
theorem c_X10_saves {G : xG} {n : Nat} {σ : xσ} {h : xH}  {v1 : Int32} {σ1 : xσ} (R : Rl n σ h) (hf : f_X10_saves n σ = some (v1, σ1)) : Ca G mX10_saves [.ref 0] h (fun v h' => v = some (.int v1) ∧ Rl n σ1 h') := by
  refine Ca.of rfl (Nat.le_of_ble_eq_true rfl) ?_
  generalize hr : (v1, σ1) = r at hf
  suffices q : Go G mX10_saves 0 (xent (xMl mX10_saves) [.ref 0]) [] h (fun v h' => xRok (xRt mX10_saves) v ∧ v = some (.int r.1) ∧ Rl n r.2 h') by
    subst hr
    exact q
  clear hr
  rw [f_X10_saves] at hf
  refine go_aload_n (i := 0) (pc' := 1) dX10_saves_0 rfl rfl rfl ?_
  refine go_getS (pc' := 4) dX10_saves_1 rfl gf_LandBase_26 R (R.at rfl (by decide)) (by decide) rfl ?_
  refine go_getS (pc' := 7) dX10_saves_4 rfl gf_LandBase_198 R (R.at rfl (by decide)) (by decide) rfl ?_
  obtain rfl := Option.some.inj hf
  exact Go.ret (v := some (.int _)) dX10_saves_7 ⟨_, rfl⟩ ⟨rfl, rfl, R⟩
def f_X10_flaws (n : Nat)  (σ : xσ) : Option (Int32 × xσ) := bd (f_X3_countFlaws n σ) (fun v101 σ102 => some (v101, σ102))
set_option maxRecDepth 100000 in
set_option maxHeartbeats 4000000 in
theorem c_X10_flaws {G : xG} {n : Nat} {σ : xσ} {h : xH}  {v1 : Int32} {σ1 : xσ} (R : Rl n σ h) (hf : f_X10_flaws n σ = some (v1, σ1)) : Ca G mX10_flaws [.ref 0] h (fun v h' => v = some (.int v1) ∧ Rl n σ1 h') := by
  refine Ca.of rfl (Nat.le_of_ble_eq_true rfl) ?_
  generalize hr : (v1, σ1) = r at hf
  suffices q : Go G mX10_flaws 0 (xent (xMl mX10_flaws) [.ref 0]) [] h (fun v h' => xRok (xRt mX10_flaws) v ∧ v = some (.int r.1) ∧ Rl n r.2 h') by
    subst hr
    exact q
  clear hr
  rw [f_X10_flaws] at hf
  refine go_aload_n (i := 0) (pc' := 1) dX10_flaws_0 rfl rfl rfl ?_
  refine go_getS (pc' := 4) dX10_flaws_1 rfl gf_LandBase_26 R (R.at rfl (by decide)) (by decide) rfl ?_
  obtain ⟨v101, σ102, e103, hf⟩ := bd_some hf
  refine go_invV (As := []) (pc' := 7) dX10_flaws_4 rfl cf_X10_flaws_201 rfl (R.ob (R.at rfl (by decide))) rfl rfl (Nat.le_of_ble_eq_true rfl) (c_X3_countFlaws R e103) (fun q104v h105 q104 => ?_)
  obtain ⟨rfl, R⟩ := q104
  obtain rfl := Option.some.inj hf
  exact Go.ret (v := some (.int _)) dX10_flaws_7 ⟨_, rfl⟩ ⟨rfl, rfl, R⟩

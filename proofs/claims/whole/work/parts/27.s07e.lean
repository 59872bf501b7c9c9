/-! the system -/
def f_X10_isOpen (n : Nat)  (σ : xσ) : Option (Int32 × xσ) := if (sI σ 10 5) = 0 then some (0, σ) else if (sI σ 10 6) = 0 then some (1, σ) else some (0, σ)
set_option maxRecDepth 100000 in
set_option maxHeartbeats 4000000 in
theorem c_X10_isOpen {G : xG} {n : Nat} {σ : xσ} {h : xH}  {v1 : Int32} {σ1 : xσ} (R : Rl n σ h) (hf : f_X10_isOpen n σ = some (v1, σ1)) : Ca G mX10_isOpen [.ref 0] h (fun v h' => v = some (.int v1) ∧ Rl n σ1 h') := by
  refine Ca.of rfl (Nat.le_of_ble_eq_true rfl) ?_
  generalize hr : (v1, σ1) = r at hf
  suffices q : Go G mX10_isOpen 0 (xent (xMl mX10_isOpen) [.ref 0]) [] h (fun v h' => xRok (xRt mX10_isOpen) v ∧ v = some (.int r.1) ∧ Rl n r.2 h') by
    subst hr
    exact q
  clear hr
  rw [f_X10_isOpen] at hf
  refine go_aload_n (i := 0) (pc' := 1) dX10_isOpen_0 rfl rfl rfl ?_
  refine go_getS (pc' := 4) dX10_isOpen_1 rfl gf_LandBase_26 R (R.at rfl (by decide)) (by decide) rfl ?_
  refine go_getS (pc' := 7) dX10_isOpen_4 rfl gf_LandBase_154 R (R.at rfl (by decide)) (by decide) rfl ?_
  refine go_if_eq (pc' := 10) (tgt := 24) dX10_isOpen_7 (by decide) rfl (fun c101 => ?_) (fun c101 => ?_)
  · have hf := it c101 hf
    refine go_iconst (v := 0) (pc' := 25) dX10_isOpen_24 rfl (by decide) ?_
    obtain rfl := Option.some.inj hf
    exact Go.ret (v := some (.int _)) dX10_isOpen_25 ⟨_, rfl⟩ ⟨rfl, rfl, R⟩
  · have hf := ie c101 hf
    refine go_aload_n (i := 0) (pc' := 11) dX10_isOpen_10 rfl rfl rfl ?_
    refine go_getS (pc' := 14) dX10_isOpen_11 rfl gf_LandBase_26 R (R.at rfl (by decide)) (by decide) rfl ?_
    refine go_getS (pc' := 17) dX10_isOpen_14 rfl gf_LandBase_80 R (R.at rfl (by decide)) (by decide) rfl ?_
    refine go_if_ne (pc' := 20) (tgt := 24) dX10_isOpen_17 (by decide) rfl (fun c102 => ?_) (fun c102 => ?_)
    · have hf := ie c102 hf
      refine go_iconst (v := 0) (pc' := 25) dX10_isOpen_24 rfl (by decide) ?_
      obtain rfl := Option.some.inj hf
      exact Go.ret (v := some (.int _)) dX10_isOpen_25 ⟨_, rfl⟩ ⟨rfl, rfl, R⟩
    · have hf := it c102 hf
      refine go_iconst (v := 1) (pc' := 21) dX10_isOpen_20 rfl (by decide) ?_
      refine go_goto (pc' := 0) (tgt := 25) dX10_isOpen_21 (by decide) ?_
      obtain rfl := Option.some.inj hf
      exact Go.ret (v := some (.int _)) dX10_isOpen_25 ⟨_, rfl⟩ ⟨rfl, rfl, R⟩
def f_X10_live (n : Nat)  (σ : xσ) : Option (Int32 × xσ) := if (sI σ 10 6) = 0 then some (sI σ 11 2, σ) else some ((-1), σ)
set_option maxRecDepth 100000 in
set_option maxHeartbeats 4000000 in
theorem c_X10_live {G : xG} {n : Nat} {σ : xσ} {h : xH}  {v1 : Int32} {σ1 : xσ} (R : Rl n σ h) (hf : f_X10_live n σ = some (v1, σ1)) : Ca G mX10_live [.ref 0] h (fun v h' => v = some (.int v1) ∧ Rl n σ1 h') := by
  refine Ca.of rfl (Nat.le_of_ble_eq_true rfl) ?_
  generalize hr : (v1, σ1) = r at hf
  suffices q : Go G mX10_live 0 (xent (xMl mX10_live) [.ref 0]) [] h (fun v h' => xRok (xRt mX10_live) v ∧ v = some (.int r.1) ∧ Rl n r.2 h') by
    subst hr
    exact q
  clear hr
  rw [f_X10_live] at hf
  refine go_aload_n (i := 0) (pc' := 1) dX10_live_0 rfl rfl rfl ?_
  refine go_getS (pc' := 4) dX10_live_1 rfl gf_LandBase_26 R (R.at rfl (by decide)) (by decide) rfl ?_
  refine go_getS (pc' := 7) dX10_live_4 rfl gf_LandBase_80 R (R.at rfl (by decide)) (by decide) rfl ?_
  refine go_if_eq (pc' := 10) (tgt := 14) dX10_live_7 (by decide) rfl (fun c101 => ?_) (fun c101 => ?_)
  · have hf := it c101 hf
    refine go_aload_n (i := 0) (pc' := 15) dX10_live_14 rfl rfl rfl ?_
    refine go_getS (pc' := 18) dX10_live_15 rfl gf_LandBase_26 R (R.at rfl (by decide)) (by decide) rfl ?_
    refine go_getS (pc' := 21) dX10_live_18 rfl gf_LandBase_145 R (R.at rfl (by decide)) (by decide) rfl ?_
    refine go_getS (pc' := 24) dX10_live_21 rfl gf_LandBase_149 R (R.at rfl (by decide)) (by decide) rfl ?_
    obtain rfl := Option.some.inj hf
    exact Go.ret (v := some (.int _)) dX10_live_24 ⟨_, rfl⟩ ⟨rfl, rfl, R⟩
  · have hf := ie c101 hf
    refine go_iconst (v := (-1)) (pc' := 11) dX10_live_10 rfl (by decide) ?_
    refine go_goto (pc' := 0) (tgt := 24) dX10_live_11 (by decide) ?_
    obtain rfl := Option.some.inj hf
    exact Go.ret (v := some (.int _)) dX10_live_24 ⟨_, rfl⟩ ⟨rfl, rfl, R⟩
def f_X10_idAt (n : Nat) (x1 : Int32) (σ : xσ) : Option (Int32 × xσ) := if (sI σ 10 6) = 0 then if x1 < 0 then some ((-1), σ) else if x1 < (sI σ 11 2) then gd (inb x1 200) (some (sI σ 12 x1.toNatClampNeg, σ)) else some ((-1), σ) else some ((-1), σ)
set_option maxRecDepth 100000 in
set_option maxHeartbeats 4000000 in
theorem c_X10_idAt {G : xG} {n : Nat} {σ : xσ} {h : xH} {x1 : Int32} {v1 : Int32} {σ1 : xσ} (R : Rl n σ h) (hf : f_X10_idAt n x1 σ = some (v1, σ1)) : Ca G mX10_idAt [.ref 0, .int x1] h (fun v h' => v = some (.int v1) ∧ Rl n σ1 h') := by
  refine Ca.of rfl (Nat.le_of_ble_eq_true rfl) ?_
  generalize hr : (v1, σ1) = r at hf
  suffices q : Go G mX10_idAt 0 (xent (xMl mX10_idAt) [.ref 0, .int x1]) [] h (fun v h' => xRok (xRt mX10_idAt) v ∧ v = some (.int r.1) ∧ Rl n r.2 h') by
    subst hr
    exact q
  clear hr
  rw [f_X10_idAt] at hf
  refine go_aload_n (i := 0) (pc' := 1) dX10_idAt_0 rfl rfl rfl ?_
  refine go_getS (pc' := 4) dX10_idAt_1 rfl gf_LandBase_26 R (R.at rfl (by decide)) (by decide) rfl ?_
  refine go_getS (pc' := 7) dX10_idAt_4 rfl gf_LandBase_80 R (R.at rfl (by decide)) (by decide) rfl ?_
  refine go_if_ne (pc' := 10) (tgt := 28) dX10_idAt_7 (by decide) rfl (fun c101 => ?_) (fun c101 => ?_)
  · have hf := ie c101 hf
    refine go_iconst (v := (-1)) (pc' := 29) dX10_idAt_28 rfl (by decide) ?_
    obtain rfl := Option.some.inj hf
    exact Go.ret (v := some (.int _)) dX10_idAt_29 ⟨_, rfl⟩ ⟨rfl, rfl, R⟩
  · have hf := it c101 hf
    refine go_iload_n (i := 1) (pc' := 11) dX10_idAt_10 rfl rfl rfl ?_
    refine go_if_lt (pc' := 14) (tgt := 28) dX10_idAt_11 (by decide) rfl (fun c102 => ?_) (fun c102 => ?_)
    · have hf := it c102 hf
      refine go_iconst (v := (-1)) (pc' := 29) dX10_idAt_28 rfl (by decide) ?_
      obtain rfl := Option.some.inj hf
      exact Go.ret (v := some (.int _)) dX10_idAt_29 ⟨_, rfl⟩ ⟨rfl, rfl, R⟩
    · have hf := ie c102 hf
      refine go_iload_n (i := 1) (pc' := 15) dX10_idAt_14 rfl rfl rfl ?_
      refine go_aload_n (i := 0) (pc' := 16) dX10_idAt_15 rfl rfl rfl ?_
      refine go_getS (pc' := 19) dX10_idAt_16 rfl gf_LandBase_26 R (R.at rfl (by decide)) (by decide) rfl ?_
      refine go_getS (pc' := 22) dX10_idAt_19 rfl gf_LandBase_145 R (R.at rfl (by decide)) (by decide) rfl ?_
      refine go_getS (pc' := 25) dX10_idAt_22 rfl gf_LandBase_149 R (R.at rfl (by decide)) (by decide) rfl ?_
      refine go_icmp_lt (pc' := 28) (tgt := 30) dX10_idAt_25 (by decide) rfl (fun c103 => ?_) (fun c103 => ?_)
      · have hf := it c103 hf
        refine go_aload_n (i := 0) (pc' := 31) dX10_idAt_30 rfl rfl rfl ?_
        refine go_getS (pc' := 34) dX10_idAt_31 rfl gf_LandBase_26 R (R.at rfl (by decide)) (by decide) rfl ?_
        refine go_getS (pc' := 37) dX10_idAt_34 rfl gf_LandBase_145 R (R.at rfl (by decide)) (by decide) rfl ?_
        refine go_getS (pc' := 40) dX10_idAt_37 rfl gf_LandBase_157 R (R.at rfl (by decide)) (by decide) rfl ?_
        refine go_iload_n (i := 1) (pc' := 41) dX10_idAt_40 rfl rfl rfl ?_
        obtain ⟨g104, hf⟩ := gd_some hf
        refine go_ialoadS (pc' := 42) dX10_idAt_41 rfl R (R.aa rfl (by decide)) g104 ?_
        obtain rfl := Option.some.inj hf
        exact Go.ret (v := some (.int _)) dX10_idAt_42 ⟨_, rfl⟩ ⟨rfl, rfl, R⟩
      · have hf := ie c103 hf
        refine go_iconst (v := (-1)) (pc' := 29) dX10_idAt_28 rfl (by decide) ?_
        obtain rfl := Option.some.inj hf
        exact Go.ret (v := some (.int _)) dX10_idAt_29 ⟨_, rfl⟩ ⟨rfl, rfl, R⟩
def f_X10_shapeOf (n : Nat) (x1 : Int32) (σ : xσ) : Option (Option Nat × xσ) := if (sI σ 10 6) = 0 then bd (f_X8_shapeWith n 11 x1 σ) (fun v102 σ103 => om v102 (some (none, σ103)) (fun a107 => gd (okS n a107) (some (some a107, σ103)))) else some (none, σ)
set_option maxRecDepth 100000 in
set_option maxHeartbeats 4000000 in
theorem c_X10_shapeOf {G : xG} {n : Nat} {σ : xσ} {h : xH} {x1 : Int32} {v1 : Option Nat} {σ1 : xσ} (R : Rl n σ h) (hf : f_X10_shapeOf n x1 σ = some (v1, σ1)) : Ca G mX10_shapeOf [.ref 0, .int x1] h (fun v h' => v = some (va_rf v1) ∧ Rl n σ1 h') := by
  refine Ca.of rfl (Nat.le_of_ble_eq_true rfl) ?_
  generalize hr : (v1, σ1) = r at hf
  suffices q : Go G mX10_shapeOf 0 (xent (xMl mX10_shapeOf) [.ref 0, .int x1]) [] h (fun v h' => xRok (xRt mX10_shapeOf) v ∧ v = some (va_rf r.1) ∧ Rl n r.2 h') by
    subst hr
    exact q
  clear hr
  rw [f_X10_shapeOf] at hf
  refine go_aload_n (i := 0) (pc' := 1) dX10_shapeOf_0 rfl rfl rfl ?_
  refine go_getS (pc' := 4) dX10_shapeOf_1 rfl gf_LandBase_26 R (R.at rfl (by decide)) (by decide) rfl ?_
  refine go_getS (pc' := 7) dX10_shapeOf_4 rfl gf_LandBase_80 R (R.at rfl (by decide)) (by decide) rfl ?_
  refine go_if_eq (pc' := 10) (tgt := 14) dX10_shapeOf_7 (by decide) rfl (fun c101 => ?_) (fun c101 => ?_)
  · have hf := it c101 hf
    refine go_aload_n (i := 0) (pc' := 15) dX10_shapeOf_14 rfl rfl rfl ?_
    refine go_getS (pc' := 18) dX10_shapeOf_15 rfl gf_LandBase_26 R (R.at rfl (by decide)) (by decide) rfl ?_
    refine go_getS (pc' := 21) dX10_shapeOf_18 rfl gf_LandBase_145 R (R.at rfl (by decide)) (by decide) rfl ?_
    refine go_iload_n (i := 1) (pc' := 22) dX10_shapeOf_21 rfl rfl rfl ?_
    obtain ⟨v102, σ103, e104, hf⟩ := bd_some hf
    refine go_invV (As := [_]) (pc' := 25) dX10_shapeOf_22 rfl cf_X10_shapeOf_208 rfl (R.ob (R.at rfl (by decide))) rfl rfl (Nat.le_of_ble_eq_true rfl) (c_X8_shapeWith R e104) (fun q105v h106 q105 => ?_)
    obtain ⟨rfl, R⟩ := q105
    cases v102 with
    | none =>
      obtain rfl := Option.some.inj hf
      exact Go.ret (v := some .null) dX10_shapeOf_25 (Or.inl rfl) ⟨trivial, rfl, R⟩
    | some a107 =>
      obtain ⟨g108, hf⟩ := gd_some hf
      obtain rfl := Option.some.inj hf
      exact Go.ret (v := some (.ref _)) dX10_shapeOf_25 (Or.inr ⟨_, rfl⟩) ⟨trivial, rfl, R⟩
  · have hf := ie c101 hf
    refine go_null (pc' := 11) dX10_shapeOf_10 rfl ?_
    refine go_goto (pc' := 0) (tgt := 25) dX10_shapeOf_11 (by decide) ?_
    obtain rfl := Option.some.inj hf
    exact Go.ret (v := some .null) dX10_shapeOf_25 (Or.inl rfl) ⟨trivial, rfl, R⟩

/-! the system -/
def f_X10_kindOf (n : Nat) (x1 : Int32) (σ : xσ) : Option (Int32 × xσ) := bd (f_X10_shapeOf n x1 σ) (fun v101 σ102 => om v101 (some ((-1), σ102)) (fun a106 => gd (okS n a106) (some (sI σ102 a106 0, σ102))))
set_option maxRecDepth 100000 in
set_option maxHeartbeats 4000000 in
theorem c_X10_kindOf {G : xG} {n : Nat} {σ : xσ} {h : xH} {x1 : Int32} {v1 : Int32} {σ1 : xσ} (R : Rl n σ h) (hf : f_X10_kindOf n x1 σ = some (v1, σ1)) : Ca G mX10_kindOf [.ref 0, .int x1] h (fun v h' => v = some (.int v1) ∧ Rl n σ1 h') := by
  refine Ca.of rfl (Nat.le_of_ble_eq_true rfl) ?_
  generalize hr : (v1, σ1) = r at hf
  suffices q : Go G mX10_kindOf 0 (xent (xMl mX10_kindOf) [.ref 0, .int x1]) [] h (fun v h' => xRok (xRt mX10_kindOf) v ∧ v = some (.int r.1) ∧ Rl n r.2 h') by
    subst hr
    exact q
  clear hr
  rw [f_X10_kindOf] at hf
  refine go_aload_n (i := 0) (pc' := 1) dX10_kindOf_0 rfl rfl rfl ?_
  refine go_iload_n (i := 1) (pc' := 2) dX10_kindOf_1 rfl rfl rfl ?_
  obtain ⟨v101, σ102, e103, hf⟩ := bd_some hf
  refine go_invV (As := [_]) (pc' := 5) dX10_kindOf_2 rfl cf_X10_kindOf_160 rfl (R.ob (R.at rfl (by decide))) rfl rfl (Nat.le_of_ble_eq_true rfl) (c_X10_shapeOf R e103) (fun q104v h105 q104 => ?_)
  obtain ⟨rfl, R⟩ := q104
  cases v101 with
  | none =>
    refine go_astore_nN (i := 2) (pc' := 6) dX10_kindOf_5 rfl rfl (by decide) rfl ?_
    refine go_aload_nN (i := 2) (pc' := 7) dX10_kindOf_6 rfl rfl rfl ?_
    refine go_ifnonnullN (pc' := 10) dX10_kindOf_7 rfl ?_
    refine go_iconst (v := (-1)) (pc' := 11) dX10_kindOf_10 rfl (by decide) ?_
    refine go_goto (pc' := 0) (tgt := 18) dX10_kindOf_11 (by decide) ?_
    obtain rfl := Option.some.inj hf
    exact Go.ret (v := some (.int _)) dX10_kindOf_18 ⟨_, rfl⟩ ⟨rfl, rfl, R⟩
  | some a106 =>
    obtain ⟨g107, hf⟩ := gd_some hf
    refine go_astore_n (i := 2) (pc' := 6) dX10_kindOf_5 rfl rfl (by decide) rfl ?_
    refine go_aload_n (i := 2) (pc' := 7) dX10_kindOf_6 rfl rfl rfl ?_
    refine go_ifnonnull (pc' := 0) (tgt := 14) dX10_kindOf_7 (by decide) ?_
    refine go_aload_n (i := 2) (pc' := 15) dX10_kindOf_14 rfl rfl rfl ?_
    refine go_getS (pc' := 18) dX10_kindOf_15 rfl gf_LandBase_164 R g107.at (by decide) rfl ?_
    obtain rfl := Option.some.inj hf
    exact Go.ret (v := some (.int _)) dX10_kindOf_18 ⟨_, rfl⟩ ⟨rfl, rfl, R⟩
def f_X10_places (n : Nat) (x1 : Int32) (σ : xσ) : Option (Int32 × xσ) := bd (f_X10_shapeOf n x1 σ) (fun v101 σ102 => om v101 (some ((-1), σ102)) (fun a106 => gd (okS n a106) (some (sI σ102 a106 1, σ102))))
set_option maxRecDepth 100000 in
set_option maxHeartbeats 4000000 in
theorem c_X10_places {G : xG} {n : Nat} {σ : xσ} {h : xH} {x1 : Int32} {v1 : Int32} {σ1 : xσ} (R : Rl n σ h) (hf : f_X10_places n x1 σ = some (v1, σ1)) : Ca G mX10_places [.ref 0, .int x1] h (fun v h' => v = some (.int v1) ∧ Rl n σ1 h') := by
  refine Ca.of rfl (Nat.le_of_ble_eq_true rfl) ?_
  generalize hr : (v1, σ1) = r at hf
  suffices q : Go G mX10_places 0 (xent (xMl mX10_places) [.ref 0, .int x1]) [] h (fun v h' => xRok (xRt mX10_places) v ∧ v = some (.int r.1) ∧ Rl n r.2 h') by
    subst hr
    exact q
  clear hr
  rw [f_X10_places] at hf
  refine go_aload_n (i := 0) (pc' := 1) dX10_places_0 rfl rfl rfl ?_
  refine go_iload_n (i := 1) (pc' := 2) dX10_places_1 rfl rfl rfl ?_
  obtain ⟨v101, σ102, e103, hf⟩ := bd_some hf
  refine go_invV (As := [_]) (pc' := 5) dX10_places_2 rfl cf_X10_places_160 rfl (R.ob (R.at rfl (by decide))) rfl rfl (Nat.le_of_ble_eq_true rfl) (c_X10_shapeOf R e103) (fun q104v h105 q104 => ?_)
  obtain ⟨rfl, R⟩ := q104
  cases v101 with
  | none =>
    refine go_astore_nN (i := 2) (pc' := 6) dX10_places_5 rfl rfl (by decide) rfl ?_
    refine go_aload_nN (i := 2) (pc' := 7) dX10_places_6 rfl rfl rfl ?_
    refine go_ifnonnullN (pc' := 10) dX10_places_7 rfl ?_
    refine go_iconst (v := (-1)) (pc' := 11) dX10_places_10 rfl (by decide) ?_
    refine go_goto (pc' := 0) (tgt := 18) dX10_places_11 (by decide) ?_
    obtain rfl := Option.some.inj hf
    exact Go.ret (v := some (.int _)) dX10_places_18 ⟨_, rfl⟩ ⟨rfl, rfl, R⟩
  | some a106 =>
    obtain ⟨g107, hf⟩ := gd_some hf
    refine go_astore_n (i := 2) (pc' := 6) dX10_places_5 rfl rfl (by decide) rfl ?_
    refine go_aload_n (i := 2) (pc' := 7) dX10_places_6 rfl rfl rfl ?_
    refine go_ifnonnull (pc' := 0) (tgt := 14) dX10_places_7 (by decide) ?_
    refine go_aload_n (i := 2) (pc' := 15) dX10_places_14 rfl rfl rfl ?_
    refine go_getS (pc' := 18) dX10_places_15 rfl gf_LandBase_169 R g107.at (by decide) rfl ?_
    obtain rfl := Option.some.inj hf
    exact Go.ret (v := some (.int _)) dX10_places_18 ⟨_, rfl⟩ ⟨rfl, rfl, R⟩
def f_X10_rings (n : Nat) (x1 : Int32) (σ : xσ) : Option (Int32 × xσ) := bd (f_X10_shapeOf n x1 σ) (fun v101 σ102 => om v101 (some ((-1), σ102)) (fun a106 => gd (okS n a106) (some (sI σ102 a106 2, σ102))))
set_option maxRecDepth 100000 in
set_option maxHeartbeats 4000000 in
theorem c_X10_rings {G : xG} {n : Nat} {σ : xσ} {h : xH} {x1 : Int32} {v1 : Int32} {σ1 : xσ} (R : Rl n σ h) (hf : f_X10_rings n x1 σ = some (v1, σ1)) : Ca G mX10_rings [.ref 0, .int x1] h (fun v h' => v = some (.int v1) ∧ Rl n σ1 h') := by
  refine Ca.of rfl (Nat.le_of_ble_eq_true rfl) ?_
  generalize hr : (v1, σ1) = r at hf
  suffices q : Go G mX10_rings 0 (xent (xMl mX10_rings) [.ref 0, .int x1]) [] h (fun v h' => xRok (xRt mX10_rings) v ∧ v = some (.int r.1) ∧ Rl n r.2 h') by
    subst hr
    exact q
  clear hr
  rw [f_X10_rings] at hf
  refine go_aload_n (i := 0) (pc' := 1) dX10_rings_0 rfl rfl rfl ?_
  refine go_iload_n (i := 1) (pc' := 2) dX10_rings_1 rfl rfl rfl ?_
  obtain ⟨v101, σ102, e103, hf⟩ := bd_some hf
  refine go_invV (As := [_]) (pc' := 5) dX10_rings_2 rfl cf_X10_rings_160 rfl (R.ob (R.at rfl (by decide))) rfl rfl (Nat.le_of_ble_eq_true rfl) (c_X10_shapeOf R e103) (fun q104v h105 q104 => ?_)
  obtain ⟨rfl, R⟩ := q104
  cases v101 with
  | none =>
    refine go_astore_nN (i := 2) (pc' := 6) dX10_rings_5 rfl rfl (by decide) rfl ?_
    refine go_aload_nN (i := 2) (pc' := 7) dX10_rings_6 rfl rfl rfl ?_
    refine go_ifnonnullN (pc' := 10) dX10_rings_7 rfl ?_
    refine go_iconst (v := (-1)) (pc' := 11) dX10_rings_10 rfl (by decide) ?_
    refine go_goto (pc' := 0) (tgt := 18) dX10_rings_11 (by decide) ?_
    obtain rfl := Option.some.inj hf
    exact Go.ret (v := some (.int _)) dX10_rings_18 ⟨_, rfl⟩ ⟨rfl, rfl, R⟩
  | some a106 =>
    obtain ⟨g107, hf⟩ := gd_some hf
    refine go_astore_n (i := 2) (pc' := 6) dX10_rings_5 rfl rfl (by decide) rfl ?_
    refine go_aload_n (i := 2) (pc' := 7) dX10_rings_6 rfl rfl rfl ?_
    refine go_ifnonnull (pc' := 0) (tgt := 14) dX10_rings_7 (by decide) ?_
    refine go_aload_n (i := 2) (pc' := 15) dX10_rings_14 rfl rfl rfl ?_
    refine go_getS (pc' := 18) dX10_rings_15 rfl gf_LandBase_170 R g107.at (by decide) rfl ?_
    obtain rfl := Option.some.inj hf
    exact Go.ret (v := some (.int _)) dX10_rings_18 ⟨_, rfl⟩ ⟨rfl, rfl, R⟩

/-! methods as functions, by program (gen/dcmall.py) -/
def f_X7_isAlike (n : Nat) (a0 : Nat) (x1 : Int32) (x2 : Int32) (σ : xσ) : Option (Int32 × xσ) := gd (okS n a0) (gd (inb x1 40) (gd (inb x2 40) (if (sI σ (a0 + 1) x1.toNatClampNeg) = (sI σ (a0 + 1) x2.toNatClampNeg) then gd (inb x1 40) (gd (inb x2 40) (if (sI σ (a0 + 2) x1.toNatClampNeg) = (sI σ (a0 + 2) x2.toNatClampNeg) then some (1, σ) else some (0, σ))) else some (0, σ))))
set_option maxRecDepth 100000 in
set_option maxHeartbeats 4000000 in
theorem c_X7_isAlike {G : xG} {n : Nat} {σ : xσ} {h : xH} {a0 : Nat} {x1 : Int32} {x2 : Int32} {v1 : Int32} {σ1 : xσ} (R : Rl n σ h) (hf : f_X7_isAlike n a0 x1 x2 σ = some (v1, σ1)) : Ca G mX7_isAlike [.ref a0, .int x1, .int x2] h (fun v h' => v = some (.int v1) ∧ Rl n σ1 h') := by
  refine Ca.of rfl (Nat.le_of_ble_eq_true rfl) ?_
  generalize hr : (v1, σ1) = r at hf
  suffices q : Go G mX7_isAlike 0 (xent (xMl mX7_isAlike) [.ref a0, .int x1, .int x2]) [] h (fun v h' => xRok (xRt mX7_isAlike) v ∧ v = some (.int r.1) ∧ Rl n r.2 h') by
    subst hr
    exact q
  clear hr
  rw [f_X7_isAlike] at hf
  obtain ⟨g0, hf⟩ := gd_some hf
  refine go_aload_n (i := 0) (pc' := 1) dX7_isAlike_0 rfl rfl rfl ?_
  refine go_getS (pc' := 4) dX7_isAlike_1 rfl gf_LandBase_Shape_9 R g0.at (by decide) rfl ?_
  refine go_iload_n (i := 1) (pc' := 5) dX7_isAlike_4 rfl rfl rfl ?_
  obtain ⟨g101, hf⟩ := gd_some hf
  refine go_ialoadS (pc' := 6) dX7_isAlike_5 rfl R g0.x g101 ?_
  refine go_aload_n (i := 0) (pc' := 7) dX7_isAlike_6 rfl rfl rfl ?_
  refine go_getS (pc' := 10) dX7_isAlike_7 rfl gf_LandBase_Shape_9 R g0.at (by decide) rfl ?_
  refine go_iload_n (i := 2) (pc' := 11) dX7_isAlike_10 rfl rfl rfl ?_
  obtain ⟨g102, hf⟩ := gd_some hf
  refine go_ialoadS (pc' := 12) dX7_isAlike_11 rfl R g0.x g102 ?_
  refine go_icmp_ne (pc' := 15) (tgt := 34) dX7_isAlike_12 (by decide) rfl (fun c103 => ?_) (fun c103 => ?_)
  · have hf := ie c103 hf
    refine go_iconst (v := 0) (pc' := 35) dX7_isAlike_34 rfl (by decide) ?_
    obtain rfl := Option.some.inj hf
    exact Go.ret (v := some (.int _)) dX7_isAlike_35 ⟨_, rfl⟩ ⟨rfl, rfl, R⟩
  · have hf := it c103 hf
    refine go_aload_n (i := 0) (pc' := 16) dX7_isAlike_15 rfl rfl rfl ?_
    refine go_getS (pc' := 19) dX7_isAlike_16 rfl gf_LandBase_Shape_15 R g0.at (by decide) rfl ?_
    refine go_iload_n (i := 1) (pc' := 20) dX7_isAlike_19 rfl rfl rfl ?_
    obtain ⟨g104, hf⟩ := gd_some hf
    refine go_ialoadS (pc' := 21) dX7_isAlike_20 rfl R g0.y g104 ?_
    refine go_aload_n (i := 0) (pc' := 22) dX7_isAlike_21 rfl rfl rfl ?_
    refine go_getS (pc' := 25) dX7_isAlike_22 rfl gf_LandBase_Shape_15 R g0.at (by decide) rfl ?_
    refine go_iload_n (i := 2) (pc' := 26) dX7_isAlike_25 rfl rfl rfl ?_
    obtain ⟨g105, hf⟩ := gd_some hf
    refine go_ialoadS (pc' := 27) dX7_isAlike_26 rfl R g0.y g105 ?_
    refine go_icmp_ne (pc' := 30) (tgt := 34) dX7_isAlike_27 (by decide) rfl (fun c106 => ?_) (fun c106 => ?_)
    · have hf := ie c106 hf
      refine go_iconst (v := 0) (pc' := 35) dX7_isAlike_34 rfl (by decide) ?_
      obtain rfl := Option.some.inj hf
      exact Go.ret (v := some (.int _)) dX7_isAlike_35 ⟨_, rfl⟩ ⟨rfl, rfl, R⟩
    · have hf := it c106 hf
      refine go_iconst (v := 1) (pc' := 31) dX7_isAlike_30 rfl (by decide) ?_
      refine go_goto (pc' := 0) (tgt := 35) dX7_isAlike_31 (by decide) ?_
      obtain rfl := Option.some.inj hf
      exact Go.ret (v := some (.int _)) dX7_isAlike_35 ⟨_, rfl⟩ ⟨rfl, rfl, R⟩
def l_X0_hasPauses_2 (n : Nat) : Nat → Nat → Int32 → Int32 → xσ → Option (Int32 × xσ)
  | 0, _, _, _, _ => none
  | f + 1, a0, x2, x3, σ => if x2 ≤ (x3 + 1) then some (0, σ) else bd (f_X7_isAlike n a0 x3 (x3 + 1) σ) (fun v102 σ103 => if v102 = 0 then (l_X0_hasPauses_2 n f) a0 x2 (x3 + 1) σ103 else some (1, σ103))
set_option maxRecDepth 100000 in
set_option maxHeartbeats 4000000 in
theorem t_X0_hasPauses_2 {G : xG} {n : Nat} : ∀ (f : Nat) {a0 : Nat} {x2 : Int32} {x3 : Int32} {σ : xσ} {h : xH} {r : Int32 × xσ} {d1 : Option Value}, Rl n σ h → okS n a0 → l_X0_hasPauses_2 n f a0 x2 x3 σ = some r → Go G mX0_hasPauses 2 [some (.ref a0), d1, some (.int x2), some (.int x3)] [] h (fun v h' => xRok (xRt mX0_hasPauses) v ∧ v = some (.int r.1) ∧ Rl n r.2 h') := by
  intro f
  induction f with
  | zero =>
    intros
    rename _ = some _ => hf
    rw [l_X0_hasPauses_2] at hf
    cases hf
  | succ f ih =>
    intro a0 x2 x3 σ h r d1 R g0 hf
    rw [l_X0_hasPauses_2] at hf
    refine go_iload_n (i := 3) (pc' := 3) dX0_hasPauses_2 rfl rfl rfl ?_
    refine go_iconst (v := 1) (pc' := 4) dX0_hasPauses_3 rfl (by decide) ?_
    refine go_iadd (pc' := 5) dX0_hasPauses_4 rfl ?_
    refine go_iload_n (i := 2) (pc' := 6) dX0_hasPauses_5 rfl rfl rfl ?_
    refine go_icmp_ge (pc' := 9) (tgt := 28) dX0_hasPauses_6 (by decide) rfl (fun c101 => ?_) (fun c101 => ?_)
    · have hf := it c101 hf
      refine go_iconst (v := 0) (pc' := 29) dX0_hasPauses_28 rfl (by decide) ?_
      obtain rfl := Option.some.inj hf
      exact Go.ret (v := some (.int _)) dX0_hasPauses_29 ⟨_, rfl⟩ ⟨rfl, rfl, R⟩
    · have hf := ie c101 hf
      refine go_aload_n (i := 0) (pc' := 10) dX0_hasPauses_9 rfl rfl rfl ?_
      refine go_iload_n (i := 3) (pc' := 11) dX0_hasPauses_10 rfl rfl rfl ?_
      refine go_iload_n (i := 3) (pc' := 12) dX0_hasPauses_11 rfl rfl rfl ?_
      refine go_iconst (v := 1) (pc' := 13) dX0_hasPauses_12 rfl (by decide) ?_
      refine go_iadd (pc' := 14) dX0_hasPauses_13 rfl ?_
      obtain ⟨v102, σ103, e104, hf⟩ := bd_some hf
      refine go_invV (As := [_, _]) (pc' := 17) dX0_hasPauses_14 rfl cf_X0_hasPauses_52 rfl (R.ob g0.at) rfl rfl (Nat.le_of_ble_eq_true rfl) (c_X7_isAlike R e104) (fun q105v h106 q105 => ?_)
      obtain ⟨rfl, R⟩ := q105
      refine go_if_eq (pc' := 20) (tgt := 22) dX0_hasPauses_17 (by decide) rfl (fun c107 => ?_) (fun c107 => ?_)
      · have hf := it c107 hf
        refine go_iincC (kk := 1) (pc' := 25) dX0_hasPauses_22 rfl rfl (by decide) (by decide) rfl ?_
        refine go_goto (pc' := 0) (tgt := 2) dX0_hasPauses_25 (by decide) ?_
        exact ih R g0 hf
      · have hf := ie c107 hf
        refine go_iconst (v := 1) (pc' := 21) dX0_hasPauses_20 rfl (by decide) ?_
        obtain rfl := Option.some.inj hf
        exact Go.ret (v := some (.int _)) dX0_hasPauses_21 ⟨_, rfl⟩ ⟨rfl, rfl, R⟩
def f_X0_hasPauses (n : Nat) (a0 : Nat) (x1 : Int32) (x2 : Int32) (σ : xσ) : Option (Int32 × xσ) := gd (okS n a0) (l_X0_hasPauses_2 n xFU a0 x2 x1 σ)
set_option maxRecDepth 100000 in
set_option maxHeartbeats 4000000 in
theorem c_X0_hasPauses {G : xG} {n : Nat} {σ : xσ} {h : xH} {a0 : Nat} {x1 : Int32} {x2 : Int32} {v1 : Int32} {σ1 : xσ} (R : Rl n σ h) (hf : f_X0_hasPauses n a0 x1 x2 σ = some (v1, σ1)) : Ca G mX0_hasPauses [.ref a0, .int x1, .int x2] h (fun v h' => v = some (.int v1) ∧ Rl n σ1 h') := by
  refine Ca.of rfl (Nat.le_of_ble_eq_true rfl) ?_
  generalize hr : (v1, σ1) = r at hf
  suffices q : Go G mX0_hasPauses 0 (xent (xMl mX0_hasPauses) [.ref a0, .int x1, .int x2]) [] h (fun v h' => xRok (xRt mX0_hasPauses) v ∧ v = some (.int r.1) ∧ Rl n r.2 h') by
    subst hr
    exact q
  clear hr
  rw [f_X0_hasPauses] at hf
  obtain ⟨g0, hf⟩ := gd_some hf
  refine go_iload_n (i := 1) (pc' := 1) dX0_hasPauses_0 rfl rfl rfl ?_
  refine go_istore_nE rfl (i := 3) (pc' := 2) dX0_hasPauses_1 rfl rfl (by decide) rfl ?_
  exact t_X0_hasPauses_2 xFU R g0 hf
def f_X7_ringStart (n : Nat) (a0 : Nat) (x1 : Int32) (σ : xσ) : Option (Int32 × xσ) := gd (okS n a0) (if x1 < 1 then some (0, σ) else if x1 ≤ (sI σ a0 2) then gd (inb (x1 - 1) 8) (some (sI σ (a0 + 3) (x1 - 1).toNatClampNeg, σ)) else some (0, σ))
set_option maxRecDepth 100000 in
set_option maxHeartbeats 4000000 in
theorem c_X7_ringStart {G : xG} {n : Nat} {σ : xσ} {h : xH} {a0 : Nat} {x1 : Int32} {v1 : Int32} {σ1 : xσ} (R : Rl n σ h) (hf : f_X7_ringStart n a0 x1 σ = some (v1, σ1)) : Ca G mX7_ringStart [.ref a0, .int x1] h (fun v h' => v = some (.int v1) ∧ Rl n σ1 h') := by
  refine Ca.of rfl (Nat.le_of_ble_eq_true rfl) ?_
  generalize hr : (v1, σ1) = r at hf
  suffices q : Go G mX7_ringStart 0 (xent (xMl mX7_ringStart) [.ref a0, .int x1]) [] h (fun v h' => xRok (xRt mX7_ringStart) v ∧ v = some (.int r.1) ∧ Rl n r.2 h') by
    subst hr
    exact q
  clear hr
  rw [f_X7_ringStart] at hf
  obtain ⟨g0, hf⟩ := gd_some hf
  refine go_iload_n (i := 1) (pc' := 1) dX7_ringStart_0 rfl rfl rfl ?_
  refine go_iconst (v := 1) (pc' := 2) dX7_ringStart_1 rfl (by decide) ?_
  refine go_icmp_lt (pc' := 5) (tgt := 13) dX7_ringStart_2 (by decide) rfl (fun c101 => ?_) (fun c101 => ?_)
  · have hf := it c101 hf
    refine go_iconst (v := 0) (pc' := 14) dX7_ringStart_13 rfl (by decide) ?_
    refine go_goto (pc' := 0) (tgt := 25) dX7_ringStart_14 (by decide) ?_
    obtain rfl := Option.some.inj hf
    exact Go.ret (v := some (.int _)) dX7_ringStart_25 ⟨_, rfl⟩ ⟨rfl, rfl, R⟩
  · have hf := ie c101 hf
    refine go_iload_n (i := 1) (pc' := 6) dX7_ringStart_5 rfl rfl rfl ?_
    refine go_aload_n (i := 0) (pc' := 7) dX7_ringStart_6 rfl rfl rfl ?_
    refine go_getS (pc' := 10) dX7_ringStart_7 rfl gf_LandBase_Shape_32 R g0.at (by decide) rfl ?_
    refine go_icmp_le (pc' := 13) (tgt := 17) dX7_ringStart_10 (by decide) rfl (fun c102 => ?_) (fun c102 => ?_)
    · have hf := it c102 hf
      refine go_aload_n (i := 0) (pc' := 18) dX7_ringStart_17 rfl rfl rfl ?_
      refine go_getS (pc' := 21) dX7_ringStart_18 rfl gf_LandBase_Shape_18 R g0.at (by decide) rfl ?_
      refine go_iload_n (i := 1) (pc' := 22) dX7_ringStart_21 rfl rfl rfl ?_
      refine go_iconst (v := 1) (pc' := 23) dX7_ringStart_22 rfl (by decide) ?_
      refine go_isub (pc' := 24) dX7_ringStart_23 rfl ?_
      obtain ⟨g103, hf⟩ := gd_some hf
      refine go_ialoadS (pc' := 25) dX7_ringStart_24 rfl R g0.r g103 ?_
      obtain rfl := Option.some.inj hf
      exact Go.ret (v := some (.int _)) dX7_ringStart_25 ⟨_, rfl⟩ ⟨rfl, rfl, R⟩
    · have hf := ie c102 hf
      refine go_iconst (v := 0) (pc' := 14) dX7_ringStart_13 rfl (by decide) ?_
      refine go_goto (pc' := 0) (tgt := 25) dX7_ringStart_14 (by decide) ?_
      obtain rfl := Option.some.inj hf
      exact Go.ret (v := some (.int _)) dX7_ringStart_25 ⟨_, rfl⟩ ⟨rfl, rfl, R⟩
def f_X4_areBoxesApart (n : Nat) (a0 : Nat) (x1 : Int32) (a2 : Nat) (x3 : Int32) (σ : xσ) : Option (Int32 × xσ) := gd (okS n a0) (gd (okS n a2) (gd (inb x1 40) (gd (inb (x1 + 1) 40) (gd (inb x3 40) (gd (inb (x3 + 1) 40) (if (imax (sI σ (a0 + 1) x1.toNatClampNeg) (sI σ (a0 + 1) (x1 + 1).toNatClampNeg)) < (imin (sI σ (a2 + 1) x3.toNatClampNeg) (sI σ (a2 + 1) (x3 + 1).toNatClampNeg)) then some (1, σ) else gd (inb x3 40) (gd (inb (x3 + 1) 40) (gd (inb x1 40) (gd (inb (x1 + 1) 40) (if (imax (sI σ (a2 + 1) x3.toNatClampNeg) (sI σ (a2 + 1) (x3 + 1).toNatClampNeg)) < (imin (sI σ (a0 + 1) x1.toNatClampNeg) (sI σ (a0 + 1) (x1 + 1).toNatClampNeg)) then some (1, σ) else gd (inb x1 40) (gd (inb (x1 + 1) 40) (gd (inb x3 40) (gd (inb (x3 + 1) 40) (if (imax (sI σ (a0 + 2) x1.toNatClampNeg) (sI σ (a0 + 2) (x1 + 1).toNatClampNeg)) < (imin (sI σ (a2 + 2) x3.toNatClampNeg) (sI σ (a2 + 2) (x3 + 1).toNatClampNeg)) then some (1, σ) else gd (inb x3 40) (gd (inb (x3 + 1) 40) (gd (inb x1 40) (gd (inb (x1 + 1) 40) (if (imin (sI σ (a0 + 2) x1.toNatClampNeg) (sI σ (a0 + 2) (x1 + 1).toNatClampNeg)) ≤ (imax (sI σ (a2 + 2) x3.toNatClampNeg) (sI σ (a2 + 2) (x3 + 1).toNatClampNeg)) then some (0, σ) else some (1, σ)))))))))))))))))))
set_option maxRecDepth 100000 in
set_option maxHeartbeats 4000000 in
theorem c_X4_areBoxesApart {G : xG} {n : Nat} {σ : xσ} {h : xH} {a0 : Nat} {x1 : Int32} {a2 : Nat} {x3 : Int32} {v1 : Int32} {σ1 : xσ} (R : Rl n σ h) (hf : f_X4_areBoxesApart n a0 x1 a2 x3 σ = some (v1, σ1)) : Ca G mX4_areBoxesApart [.ref a0, .int x1, .ref a2, .int x3] h (fun v h' => v = some (.int v1) ∧ Rl n σ1 h') := by
  refine Ca.of rfl (Nat.le_of_ble_eq_true rfl) ?_
  generalize hr : (v1, σ1) = r at hf
  suffices q : Go G mX4_areBoxesApart 0 (xent (xMl mX4_areBoxesApart) [.ref a0, .int x1, .ref a2, .int x3]) [] h (fun v h' => xRok (xRt mX4_areBoxesApart) v ∧ v = some (.int r.1) ∧ Rl n r.2 h') by
    subst hr
    exact q
  clear hr
  rw [f_X4_areBoxesApart] at hf
  obtain ⟨g0, hf⟩ := gd_some hf
  obtain ⟨g2, hf⟩ := gd_some hf
  refine go_aload_n (i := 0) (pc' := 1) dX4_areBoxesApart_0 rfl rfl rfl ?_
  refine go_getS (pc' := 4) dX4_areBoxesApart_1 rfl gf_LandBase_Plane_9 R g0.at (by decide) rfl ?_
  refine go_iload_n (i := 1) (pc' := 5) dX4_areBoxesApart_4 rfl rfl rfl ?_
  obtain ⟨g101, hf⟩ := gd_some hf
  refine go_ialoadS (pc' := 6) dX4_areBoxesApart_5 rfl R g0.x g101 ?_
  refine go_aload_n (i := 0) (pc' := 7) dX4_areBoxesApart_6 rfl rfl rfl ?_
  refine go_getS (pc' := 10) dX4_areBoxesApart_7 rfl gf_LandBase_Plane_9 R g0.at (by decide) rfl ?_
  refine go_iload_n (i := 1) (pc' := 11) dX4_areBoxesApart_10 rfl rfl rfl ?_
  refine go_iconst (v := 1) (pc' := 12) dX4_areBoxesApart_11 rfl (by decide) ?_
  refine go_iadd (pc' := 13) dX4_areBoxesApart_12 rfl ?_
  obtain ⟨g102, hf⟩ := gd_some hf
  refine go_ialoadS (pc' := 14) dX4_areBoxesApart_13 rfl R g0.x g102 ?_
  refine go_mmax (pc' := 17) dX4_areBoxesApart_14 rfl cf_X4_areBoxesApart_73 (Nat.le_of_ble_eq_true rfl) ?_
  refine go_aload_n (i := 2) (pc' := 18) dX4_areBoxesApart_17 rfl rfl rfl ?_
  refine go_getS (pc' := 21) dX4_areBoxesApart_18 rfl gf_LandBase_Plane_9 R g2.at (by decide) rfl ?_
  refine go_iload_n (i := 3) (pc' := 22) dX4_areBoxesApart_21 rfl rfl rfl ?_
  obtain ⟨g103, hf⟩ := gd_some hf
  refine go_ialoadS (pc' := 23) dX4_areBoxesApart_22 rfl R g2.x g103 ?_
  refine go_aload_n (i := 2) (pc' := 24) dX4_areBoxesApart_23 rfl rfl rfl ?_
  refine go_getS (pc' := 27) dX4_areBoxesApart_24 rfl gf_LandBase_Plane_9 R g2.at (by decide) rfl ?_
  refine go_iload_n (i := 3) (pc' := 28) dX4_areBoxesApart_27 rfl rfl rfl ?_
  refine go_iconst (v := 1) (pc' := 29) dX4_areBoxesApart_28 rfl (by decide) ?_
  refine go_iadd (pc' := 30) dX4_areBoxesApart_29 rfl ?_
  obtain ⟨g104, hf⟩ := gd_some hf
  refine go_ialoadS (pc' := 31) dX4_areBoxesApart_30 rfl R g2.x g104 ?_
  refine go_mmin (pc' := 34) dX4_areBoxesApart_31 rfl cf_X4_areBoxesApart_79 (Nat.le_of_ble_eq_true rfl) ?_
  refine go_icmp_lt (pc' := 37) (tgt := 148) dX4_areBoxesApart_34 (by decide) rfl (fun c105 => ?_) (fun c105 => ?_)
  · have hf := it c105 hf
    refine go_iconst (v := 1) (pc' := 149) dX4_areBoxesApart_148 rfl (by decide) ?_
    refine go_goto (pc' := 0) (tgt := 153) dX4_areBoxesApart_149 (by decide) ?_
    obtain rfl := Option.some.inj hf
    exact Go.ret (v := some (.int _)) dX4_areBoxesApart_153 ⟨_, rfl⟩ ⟨rfl, rfl, R⟩
  · have hf := ie c105 hf
    refine go_aload_n (i := 2) (pc' := 38) dX4_areBoxesApart_37 rfl rfl rfl ?_
    refine go_getS (pc' := 41) dX4_areBoxesApart_38 rfl gf_LandBase_Plane_9 R g2.at (by decide) rfl ?_
    refine go_iload_n (i := 3) (pc' := 42) dX4_areBoxesApart_41 rfl rfl rfl ?_
    obtain ⟨g106, hf⟩ := gd_some hf
    refine go_ialoadS (pc' := 43) dX4_areBoxesApart_42 rfl R g2.x g106 ?_
    refine go_aload_n (i := 2) (pc' := 44) dX4_areBoxesApart_43 rfl rfl rfl ?_
    refine go_getS (pc' := 47) dX4_areBoxesApart_44 rfl gf_LandBase_Plane_9 R g2.at (by decide) rfl ?_
    refine go_iload_n (i := 3) (pc' := 48) dX4_areBoxesApart_47 rfl rfl rfl ?_
    refine go_iconst (v := 1) (pc' := 49) dX4_areBoxesApart_48 rfl (by decide) ?_
    refine go_iadd (pc' := 50) dX4_areBoxesApart_49 rfl ?_
    obtain ⟨g107, hf⟩ := gd_some hf
    refine go_ialoadS (pc' := 51) dX4_areBoxesApart_50 rfl R g2.x g107 ?_
    refine go_mmax (pc' := 54) dX4_areBoxesApart_51 rfl cf_X4_areBoxesApart_73 (Nat.le_of_ble_eq_true rfl) ?_
    refine go_aload_n (i := 0) (pc' := 55) dX4_areBoxesApart_54 rfl rfl rfl ?_
    refine go_getS (pc' := 58) dX4_areBoxesApart_55 rfl gf_LandBase_Plane_9 R g0.at (by decide) rfl ?_
    refine go_iload_n (i := 1) (pc' := 59) dX4_areBoxesApart_58 rfl rfl rfl ?_
    obtain ⟨g108, hf⟩ := gd_some hf
    refine go_ialoadS (pc' := 60) dX4_areBoxesApart_59 rfl R g0.x g108 ?_
    refine go_aload_n (i := 0) (pc' := 61) dX4_areBoxesApart_60 rfl rfl rfl ?_
    refine go_getS (pc' := 64) dX4_areBoxesApart_61 rfl gf_LandBase_Plane_9 R g0.at (by decide) rfl ?_
    refine go_iload_n (i := 1) (pc' := 65) dX4_areBoxesApart_64 rfl rfl rfl ?_
    refine go_iconst (v := 1) (pc' := 66) dX4_areBoxesApart_65 rfl (by decide) ?_
    refine go_iadd (pc' := 67) dX4_areBoxesApart_66 rfl ?_
    obtain ⟨g109, hf⟩ := gd_some hf
    refine go_ialoadS (pc' := 68) dX4_areBoxesApart_67 rfl R g0.x g109 ?_
    refine go_mmin (pc' := 71) dX4_areBoxesApart_68 rfl cf_X4_areBoxesApart_79 (Nat.le_of_ble_eq_true rfl) ?_
    refine go_icmp_lt (pc' := 74) (tgt := 148) dX4_areBoxesApart_71 (by decide) rfl (fun c110 => ?_) (fun c110 => ?_)
    · have hf := it c110 hf
      refine go_iconst (v := 1) (pc' := 149) dX4_areBoxesApart_148 rfl (by decide) ?_
      refine go_goto (pc' := 0) (tgt := 153) dX4_areBoxesApart_149 (by decide) ?_
      obtain rfl := Option.some.inj hf
      exact Go.ret (v := some (.int _)) dX4_areBoxesApart_153 ⟨_, rfl⟩ ⟨rfl, rfl, R⟩
    · have hf := ie c110 hf
      refine go_aload_n (i := 0) (pc' := 75) dX4_areBoxesApart_74 rfl rfl rfl ?_
      refine go_getS (pc' := 78) dX4_areBoxesApart_75 rfl gf_LandBase_Plane_15 R g0.at (by decide) rfl ?_
      refine go_iload_n (i := 1) (pc' := 79) dX4_areBoxesApart_78 rfl rfl rfl ?_
      obtain ⟨g111, hf⟩ := gd_some hf
      refine go_ialoadS (pc' := 80) dX4_areBoxesApart_79 rfl R g0.y g111 ?_
      refine go_aload_n (i := 0) (pc' := 81) dX4_areBoxesApart_80 rfl rfl rfl ?_
      refine go_getS (pc' := 84) dX4_areBoxesApart_81 rfl gf_LandBase_Plane_15 R g0.at (by decide) rfl ?_
      refine go_iload_n (i := 1) (pc' := 85) dX4_areBoxesApart_84 rfl rfl rfl ?_
      refine go_iconst (v := 1) (pc' := 86) dX4_areBoxesApart_85 rfl (by decide) ?_
      refine go_iadd (pc' := 87) dX4_areBoxesApart_86 rfl ?_
      obtain ⟨g112, hf⟩ := gd_some hf
      refine go_ialoadS (pc' := 88) dX4_areBoxesApart_87 rfl R g0.y g112 ?_
      refine go_mmax (pc' := 91) dX4_areBoxesApart_88 rfl cf_X4_areBoxesApart_73 (Nat.le_of_ble_eq_true rfl) ?_
      refine go_aload_n (i := 2) (pc' := 92) dX4_areBoxesApart_91 rfl rfl rfl ?_
      refine go_getS (pc' := 95) dX4_areBoxesApart_92 rfl gf_LandBase_Plane_15 R g2.at (by decide) rfl ?_
      refine go_iload_n (i := 3) (pc' := 96) dX4_areBoxesApart_95 rfl rfl rfl ?_
      obtain ⟨g113, hf⟩ := gd_some hf
      refine go_ialoadS (pc' := 97) dX4_areBoxesApart_96 rfl R g2.y g113 ?_
      refine go_aload_n (i := 2) (pc' := 98) dX4_areBoxesApart_97 rfl rfl rfl ?_
      refine go_getS (pc' := 101) dX4_areBoxesApart_98 rfl gf_LandBase_Plane_15 R g2.at (by decide) rfl ?_
      refine go_iload_n (i := 3) (pc' := 102) dX4_areBoxesApart_101 rfl rfl rfl ?_
      refine go_iconst (v := 1) (pc' := 103) dX4_areBoxesApart_102 rfl (by decide) ?_
      refine go_iadd (pc' := 104) dX4_areBoxesApart_103 rfl ?_
      obtain ⟨g114, hf⟩ := gd_some hf
      refine go_ialoadS (pc' := 105) dX4_areBoxesApart_104 rfl R g2.y g114 ?_
      refine go_mmin (pc' := 108) dX4_areBoxesApart_105 rfl cf_X4_areBoxesApart_79 (Nat.le_of_ble_eq_true rfl) ?_
      refine go_icmp_lt (pc' := 111) (tgt := 148) dX4_areBoxesApart_108 (by decide) rfl (fun c115 => ?_) (fun c115 => ?_)
      · have hf := it c115 hf
        refine go_iconst (v := 1) (pc' := 149) dX4_areBoxesApart_148 rfl (by decide) ?_
        refine go_goto (pc' := 0) (tgt := 153) dX4_areBoxesApart_149 (by decide) ?_
        obtain rfl := Option.some.inj hf
        exact Go.ret (v := some (.int _)) dX4_areBoxesApart_153 ⟨_, rfl⟩ ⟨rfl, rfl, R⟩
      · have hf := ie c115 hf
        refine go_aload_n (i := 2) (pc' := 112) dX4_areBoxesApart_111 rfl rfl rfl ?_
        refine go_getS (pc' := 115) dX4_areBoxesApart_112 rfl gf_LandBase_Plane_15 R g2.at (by decide) rfl ?_
        refine go_iload_n (i := 3) (pc' := 116) dX4_areBoxesApart_115 rfl rfl rfl ?_
        obtain ⟨g116, hf⟩ := gd_some hf
        refine go_ialoadS (pc' := 117) dX4_areBoxesApart_116 rfl R g2.y g116 ?_
        refine go_aload_n (i := 2) (pc' := 118) dX4_areBoxesApart_117 rfl rfl rfl ?_
        refine go_getS (pc' := 121) dX4_areBoxesApart_118 rfl gf_LandBase_Plane_15 R g2.at (by decide) rfl ?_
        refine go_iload_n (i := 3) (pc' := 122) dX4_areBoxesApart_121 rfl rfl rfl ?_
        refine go_iconst (v := 1) (pc' := 123) dX4_areBoxesApart_122 rfl (by decide) ?_
        refine go_iadd (pc' := 124) dX4_areBoxesApart_123 rfl ?_
        obtain ⟨g117, hf⟩ := gd_some hf
        refine go_ialoadS (pc' := 125) dX4_areBoxesApart_124 rfl R g2.y g117 ?_
        refine go_mmax (pc' := 128) dX4_areBoxesApart_125 rfl cf_X4_areBoxesApart_73 (Nat.le_of_ble_eq_true rfl) ?_
        refine go_aload_n (i := 0) (pc' := 129) dX4_areBoxesApart_128 rfl rfl rfl ?_
        refine go_getS (pc' := 132) dX4_areBoxesApart_129 rfl gf_LandBase_Plane_15 R g0.at (by decide) rfl ?_
        refine go_iload_n (i := 1) (pc' := 133) dX4_areBoxesApart_132 rfl rfl rfl ?_
        obtain ⟨g118, hf⟩ := gd_some hf
        refine go_ialoadS (pc' := 134) dX4_areBoxesApart_133 rfl R g0.y g118 ?_
        refine go_aload_n (i := 0) (pc' := 135) dX4_areBoxesApart_134 rfl rfl rfl ?_
        refine go_getS (pc' := 138) dX4_areBoxesApart_135 rfl gf_LandBase_Plane_15 R g0.at (by decide) rfl ?_
        refine go_iload_n (i := 1) (pc' := 139) dX4_areBoxesApart_138 rfl rfl rfl ?_
        refine go_iconst (v := 1) (pc' := 140) dX4_areBoxesApart_139 rfl (by decide) ?_
        refine go_iadd (pc' := 141) dX4_areBoxesApart_140 rfl ?_
        obtain ⟨g119, hf⟩ := gd_some hf
        refine go_ialoadS (pc' := 142) dX4_areBoxesApart_141 rfl R g0.y g119 ?_
        refine go_mmin (pc' := 145) dX4_areBoxesApart_142 rfl cf_X4_areBoxesApart_79 (Nat.le_of_ble_eq_true rfl) ?_
        refine go_icmp_ge (pc' := 148) (tgt := 152) dX4_areBoxesApart_145 (by decide) rfl (fun c120 => ?_) (fun c120 => ?_)
        · have hf := it c120 hf
          refine go_iconst (v := 0) (pc' := 153) dX4_areBoxesApart_152 rfl (by decide) ?_
          obtain rfl := Option.some.inj hf
          exact Go.ret (v := some (.int _)) dX4_areBoxesApart_153 ⟨_, rfl⟩ ⟨rfl, rfl, R⟩
        · have hf := ie c120 hf
          refine go_iconst (v := 1) (pc' := 149) dX4_areBoxesApart_148 rfl (by decide) ?_
          refine go_goto (pc' := 0) (tgt := 153) dX4_areBoxesApart_149 (by decide) ?_
          obtain rfl := Option.some.inj hf
          exact Go.ret (v := some (.int _)) dX4_areBoxesApart_153 ⟨_, rfl⟩ ⟨rfl, rfl, R⟩
def f_X4_sideOf (n : Nat) (a0 : Nat) (x1 : Int32) (l2 : Int64) (l4 : Int64) (σ : xσ) : Option (Int64 × xσ) := gd (okS n a0) (gd (inb x1 40) (st ((sI σ (a0 + 1) x1.toNatClampNeg).toInt64) (fun l102 => gd (inb x1 40) (st ((sI σ (a0 + 2) x1.toNatClampNeg).toInt64) (fun l105 => gd (inb (x1 + 1) 40) (gd (inb (x1 + 1) 40) (some (((((sI σ (a0 + 1) (x1 + 1).toNatClampNeg).toInt64) - l102) * (l4 - l105)) - ((((sI σ (a0 + 2) (x1 + 1).toNatClampNeg).toInt64) - l105) * (l2 - l102)), σ))))))))
set_option maxRecDepth 100000 in
set_option maxHeartbeats 4000000 in
theorem c_X4_sideOf {G : xG} {n : Nat} {σ : xσ} {h : xH} {a0 : Nat} {x1 : Int32} {l2 : Int64} {l4 : Int64} {v1 : Int64} {σ1 : xσ} (R : Rl n σ h) (hf : f_X4_sideOf n a0 x1 l2 l4 σ = some (v1, σ1)) : Ca G mX4_sideOf [.ref a0, .int x1, .long l2, .long l4] h (fun v h' => v = some (.long v1) ∧ Rl n σ1 h') := by
  refine Ca.of rfl (Nat.le_of_ble_eq_true rfl) ?_
  generalize hr : (v1, σ1) = r at hf
  suffices q : Go G mX4_sideOf 0 (xent (xMl mX4_sideOf) [.ref a0, .int x1, .long l2, .long l4]) [] h (fun v h' => xRok (xRt mX4_sideOf) v ∧ v = some (.long r.1) ∧ Rl n r.2 h') by
    subst hr
    exact q
  clear hr
  rw [f_X4_sideOf] at hf
  obtain ⟨g0, hf⟩ := gd_some hf
  refine go_aload_n (i := 0) (pc' := 1) dX4_sideOf_0 rfl rfl rfl ?_
  refine go_getS (pc' := 4) dX4_sideOf_1 rfl gf_LandBase_Plane_9 R g0.at (by decide) rfl ?_
  refine go_iload_n (i := 1) (pc' := 5) dX4_sideOf_4 rfl rfl rfl ?_
  obtain ⟨g101, hf⟩ := gd_some hf
  refine go_ialoadS (pc' := 6) dX4_sideOf_5 rfl R g0.x g101 ?_
  refine go_i2l (pc' := 7) dX4_sideOf_6 rfl rfl ?_
  obtain ⟨l102, e103, hf⟩ := st_some hf
  refine go_lstoreE e103 (pc' := 9) dX4_sideOf_7 rfl (by decide) rfl ?_
  refine go_aload_n (i := 0) (pc' := 10) dX4_sideOf_9 rfl rfl rfl ?_
  refine go_getS (pc' := 13) dX4_sideOf_10 rfl gf_LandBase_Plane_15 R g0.at (by decide) rfl ?_
  refine go_iload_n (i := 1) (pc' := 14) dX4_sideOf_13 rfl rfl rfl ?_
  obtain ⟨g104, hf⟩ := gd_some hf
  refine go_ialoadS (pc' := 15) dX4_sideOf_14 rfl R g0.y g104 ?_
  refine go_i2l (pc' := 16) dX4_sideOf_15 rfl rfl ?_
  obtain ⟨l105, e106, hf⟩ := st_some hf
  refine go_lstoreE e106 (pc' := 18) dX4_sideOf_16 rfl (by decide) rfl ?_
  refine go_aload_n (i := 0) (pc' := 19) dX4_sideOf_18 rfl rfl rfl ?_
  refine go_getS (pc' := 22) dX4_sideOf_19 rfl gf_LandBase_Plane_9 R g0.at (by decide) rfl ?_
  refine go_iload_n (i := 1) (pc' := 23) dX4_sideOf_22 rfl rfl rfl ?_
  refine go_iconst (v := 1) (pc' := 24) dX4_sideOf_23 rfl (by decide) ?_
  refine go_iadd (pc' := 25) dX4_sideOf_24 rfl ?_
  obtain ⟨g107, hf⟩ := gd_some hf
  refine go_ialoadS (pc' := 26) dX4_sideOf_25 rfl R g0.x g107 ?_
  refine go_i2l (pc' := 27) dX4_sideOf_26 rfl rfl ?_
  refine go_lload (pc' := 29) dX4_sideOf_27 rfl rfl ?_
  refine go_lsub (pc' := 30) dX4_sideOf_29 rfl ?_
  refine go_lload (pc' := 32) dX4_sideOf_30 rfl rfl ?_
  refine go_lload (pc' := 34) dX4_sideOf_32 rfl rfl ?_
  refine go_lsub (pc' := 35) dX4_sideOf_34 rfl ?_
  refine go_lmul (pc' := 36) dX4_sideOf_35 rfl ?_
  refine go_aload_n (i := 0) (pc' := 37) dX4_sideOf_36 rfl rfl rfl ?_
  refine go_getS (pc' := 40) dX4_sideOf_37 rfl gf_LandBase_Plane_15 R g0.at (by decide) rfl ?_
  refine go_iload_n (i := 1) (pc' := 41) dX4_sideOf_40 rfl rfl rfl ?_
  refine go_iconst (v := 1) (pc' := 42) dX4_sideOf_41 rfl (by decide) ?_
  refine go_iadd (pc' := 43) dX4_sideOf_42 rfl ?_
  obtain ⟨g108, hf⟩ := gd_some hf
  refine go_ialoadS (pc' := 44) dX4_sideOf_43 rfl R g0.y g108 ?_
  refine go_i2l (pc' := 45) dX4_sideOf_44 rfl rfl ?_
  refine go_lload (pc' := 47) dX4_sideOf_45 rfl rfl ?_
  refine go_lsub (pc' := 48) dX4_sideOf_47 rfl ?_
  refine go_lload_n (i := 2) (pc' := 49) dX4_sideOf_48 rfl rfl rfl ?_
  refine go_lload (pc' := 51) dX4_sideOf_49 rfl rfl ?_
  refine go_lsub (pc' := 52) dX4_sideOf_51 rfl ?_
  refine go_lmul (pc' := 53) dX4_sideOf_52 rfl ?_
  refine go_lsub (pc' := 54) dX4_sideOf_53 rfl ?_
  obtain rfl := Option.some.inj hf
  exact Go.ret (v := some (.long _)) dX4_sideOf_54 ⟨_, rfl⟩ ⟨trivial, rfl, R⟩
def b_X4_countOnLine_58 (n : Nat) (x1 : Int32) (x3 : Int32) (a5 : Nat) (as0 : Nat) (σ : xσ) : Option (Int32 × xσ) := gd (inb x1 40) (gd (inb (x1 + 1) 40) (gd (inb x3 40) (gd (inb (x3 + 1) 40) (st (imax (imin (sI σ a5 x1.toNatClampNeg) (sI σ a5 (x1 + 1).toNatClampNeg)) (imin (sI σ as0 x3.toNatClampNeg) (sI σ as0 (x3 + 1).toNatClampNeg))) (fun x105 => gd (inb x1 40) (gd (inb (x1 + 1) 40) (gd (inb x3 40) (gd (inb (x3 + 1) 40) (st (imin (imax (sI σ a5 x1.toNatClampNeg) (sI σ a5 (x1 + 1).toNatClampNeg)) (imax (sI σ as0 x3.toNatClampNeg) (sI σ as0 (x3 + 1).toNatClampNeg))) (fun x111 => if x105 ≤ x111 then if x105 = x111 then some (1, σ) else some (2, σ) else some (0, σ)))))))))))
set_option maxRecDepth 100000 in
set_option maxHeartbeats 4000000 in
theorem t_X4_countOnLine_58 {G : xG} {n : Nat} {x1 : Int32} {x3 : Int32} {a5 : Nat} {as0 : Nat} {σ : xσ} {h : xH} {r : Int32 × xσ} {d0 : Option Value} {d2 : Option Value} {d4 : Option Value} {d6 : Option Value} {d7 : Option Value} {d8 : Option Value} : Rl n σ h → okX n a5 → okX n as0 → b_X4_countOnLine_58 n x1 x3 a5 as0 σ = some r → Go G mX4_countOnLine 58 [d0, some (.int x1), d2, some (.int x3), d4, some (.ref a5), d6, d7, d8] [.ref as0] h (fun v h' => xRok (xRt mX4_countOnLine) v ∧ v = some (.int r.1) ∧ Rl n r.2 h') := by
  intro R g5 gs0 hf
  rw [b_X4_countOnLine_58] at hf
  refine go_astore (pc' := 60) dX4_countOnLine_58 rfl (by decide) rfl ?_
  refine go_aload (pc' := 62) dX4_countOnLine_60 rfl rfl ?_
  refine go_iload_n (i := 1) (pc' := 63) dX4_countOnLine_62 rfl rfl rfl ?_
  obtain ⟨g101, hf⟩ := gd_some hf
  refine go_ialoadS (pc' := 64) dX4_countOnLine_63 rfl R g5 g101 ?_
  refine go_aload (pc' := 66) dX4_countOnLine_64 rfl rfl ?_
  refine go_iload_n (i := 1) (pc' := 67) dX4_countOnLine_66 rfl rfl rfl ?_
  refine go_iconst (v := 1) (pc' := 68) dX4_countOnLine_67 rfl (by decide) ?_
  refine go_iadd (pc' := 69) dX4_countOnLine_68 rfl ?_
  obtain ⟨g102, hf⟩ := gd_some hf
  refine go_ialoadS (pc' := 70) dX4_countOnLine_69 rfl R g5 g102 ?_
  refine go_mmin (pc' := 73) dX4_countOnLine_70 rfl cf_X4_countOnLine_79 (Nat.le_of_ble_eq_true rfl) ?_
  refine go_aload (pc' := 75) dX4_countOnLine_73 rfl rfl ?_
  refine go_iload_n (i := 3) (pc' := 76) dX4_countOnLine_75 rfl rfl rfl ?_
  obtain ⟨g103, hf⟩ := gd_some hf
  refine go_ialoadS (pc' := 77) dX4_countOnLine_76 rfl R gs0 g103 ?_
  refine go_aload (pc' := 79) dX4_countOnLine_77 rfl rfl ?_
  refine go_iload_n (i := 3) (pc' := 80) dX4_countOnLine_79 rfl rfl rfl ?_
  refine go_iconst (v := 1) (pc' := 81) dX4_countOnLine_80 rfl (by decide) ?_
  refine go_iadd (pc' := 82) dX4_countOnLine_81 rfl ?_
  obtain ⟨g104, hf⟩ := gd_some hf
  refine go_ialoadS (pc' := 83) dX4_countOnLine_82 rfl R gs0 g104 ?_
  refine go_mmin (pc' := 86) dX4_countOnLine_83 rfl cf_X4_countOnLine_79 (Nat.le_of_ble_eq_true rfl) ?_
  refine go_mmax (pc' := 89) dX4_countOnLine_86 rfl cf_X4_countOnLine_73 (Nat.le_of_ble_eq_true rfl) ?_
  obtain ⟨x105, e106, hf⟩ := st_some hf
  refine go_istoreE e106 (pc' := 91) dX4_countOnLine_89 rfl (by decide) rfl ?_
  refine go_aload (pc' := 93) dX4_countOnLine_91 rfl rfl ?_
  refine go_iload_n (i := 1) (pc' := 94) dX4_countOnLine_93 rfl rfl rfl ?_
  obtain ⟨g107, hf⟩ := gd_some hf
  refine go_ialoadS (pc' := 95) dX4_countOnLine_94 rfl R g5 g107 ?_
  refine go_aload (pc' := 97) dX4_countOnLine_95 rfl rfl ?_
  refine go_iload_n (i := 1) (pc' := 98) dX4_countOnLine_97 rfl rfl rfl ?_
  refine go_iconst (v := 1) (pc' := 99) dX4_countOnLine_98 rfl (by decide) ?_
  refine go_iadd (pc' := 100) dX4_countOnLine_99 rfl ?_
  obtain ⟨g108, hf⟩ := gd_some hf
  refine go_ialoadS (pc' := 101) dX4_countOnLine_100 rfl R g5 g108 ?_
  refine go_mmax (pc' := 104) dX4_countOnLine_101 rfl cf_X4_countOnLine_73 (Nat.le_of_ble_eq_true rfl) ?_
  refine go_aload (pc' := 106) dX4_countOnLine_104 rfl rfl ?_
  refine go_iload_n (i := 3) (pc' := 107) dX4_countOnLine_106 rfl rfl rfl ?_
  obtain ⟨g109, hf⟩ := gd_some hf
  refine go_ialoadS (pc' := 108) dX4_countOnLine_107 rfl R gs0 g109 ?_
  refine go_aload (pc' := 110) dX4_countOnLine_108 rfl rfl ?_
  refine go_iload_n (i := 3) (pc' := 111) dX4_countOnLine_110 rfl rfl rfl ?_
  refine go_iconst (v := 1) (pc' := 112) dX4_countOnLine_111 rfl (by decide) ?_
  refine go_iadd (pc' := 113) dX4_countOnLine_112 rfl ?_
  obtain ⟨g110, hf⟩ := gd_some hf
  refine go_ialoadS (pc' := 114) dX4_countOnLine_113 rfl R gs0 g110 ?_
  refine go_mmax (pc' := 117) dX4_countOnLine_114 rfl cf_X4_countOnLine_73 (Nat.le_of_ble_eq_true rfl) ?_
  refine go_mmin (pc' := 120) dX4_countOnLine_117 rfl cf_X4_countOnLine_79 (Nat.le_of_ble_eq_true rfl) ?_
  obtain ⟨x111, e112, hf⟩ := st_some hf
  refine go_istoreE e112 (pc' := 122) dX4_countOnLine_120 rfl (by decide) rfl ?_
  refine go_iload (pc' := 124) dX4_countOnLine_122 rfl rfl ?_
  refine go_iload (pc' := 126) dX4_countOnLine_124 rfl rfl ?_
  refine go_icmp_le (pc' := 129) (tgt := 131) dX4_countOnLine_126 (by decide) rfl (fun c113 => ?_) (fun c113 => ?_)
  · have hf := it c113 hf
    refine go_iload (pc' := 133) dX4_countOnLine_131 rfl rfl ?_
    refine go_iload (pc' := 135) dX4_countOnLine_133 rfl rfl ?_
    refine go_icmp_ne (pc' := 138) (tgt := 142) dX4_countOnLine_135 (by decide) rfl (fun c114 => ?_) (fun c114 => ?_)
    · have hf := ie c114 hf
      refine go_iconst (v := 2) (pc' := 143) dX4_countOnLine_142 rfl (by decide) ?_
      obtain rfl := Option.some.inj hf
      exact Go.ret (v := some (.int _)) dX4_countOnLine_143 ⟨_, rfl⟩ ⟨rfl, rfl, R⟩
    · have hf := it c114 hf
      refine go_iconst (v := 1) (pc' := 139) dX4_countOnLine_138 rfl (by decide) ?_
      refine go_goto (pc' := 0) (tgt := 143) dX4_countOnLine_139 (by decide) ?_
      obtain rfl := Option.some.inj hf
      exact Go.ret (v := some (.int _)) dX4_countOnLine_143 ⟨_, rfl⟩ ⟨rfl, rfl, R⟩
  · have hf := ie c113 hf
    refine go_iconst (v := 0) (pc' := 130) dX4_countOnLine_129 rfl (by decide) ?_
    obtain rfl := Option.some.inj hf
    exact Go.ret (v := some (.int _)) dX4_countOnLine_130 ⟨_, rfl⟩ ⟨rfl, rfl, R⟩
def b_X4_countOnLine_40 (n : Nat) (x1 : Int32) (a2 : Nat) (x3 : Int32) (x4 : Int32) (as0 : Nat) (σ : xσ) : Option (Int32 × xσ) := if x4 = 0 then b_X4_countOnLine_58 n x1 x3 as0 (a2 + 2) σ else b_X4_countOnLine_58 n x1 x3 as0 (a2 + 1) σ
set_option maxRecDepth 100000 in
set_option maxHeartbeats 4000000 in
theorem t_X4_countOnLine_40 {G : xG} {n : Nat} {x1 : Int32} {a2 : Nat} {x3 : Int32} {x4 : Int32} {as0 : Nat} {σ : xσ} {h : xH} {r : Int32 × xσ} {d0 : Option Value} {d5 : Option Value} {d6 : Option Value} {d7 : Option Value} {d8 : Option Value} : Rl n σ h → okS n a2 → okX n as0 → b_X4_countOnLine_40 n x1 a2 x3 x4 as0 σ = some r → Go G mX4_countOnLine 40 [d0, some (.int x1), some (.ref a2), some (.int x3), some (.int x4), d5, d6, d7, d8] [.ref as0] h (fun v h' => xRok (xRt mX4_countOnLine) v ∧ v = some (.int r.1) ∧ Rl n r.2 h') := by
  intro R g2 gs0 hf
  rw [b_X4_countOnLine_40] at hf
  refine go_astore (pc' := 42) dX4_countOnLine_40 rfl (by decide) rfl ?_
  refine go_iload (pc' := 44) dX4_countOnLine_42 rfl rfl ?_
  refine go_if_eq (pc' := 47) (tgt := 54) dX4_countOnLine_44 (by decide) rfl (fun c101 => ?_) (fun c101 => ?_)
  · have hf := it c101 hf
    refine go_aload_n (i := 2) (pc' := 55) dX4_countOnLine_54 rfl rfl rfl ?_
    refine go_getS (pc' := 58) dX4_countOnLine_55 rfl gf_LandBase_Plane_15 R g2.at (by decide) rfl ?_
    exact t_X4_countOnLine_58 R gs0 g2.y hf
  · have hf := ie c101 hf
    refine go_aload_n (i := 2) (pc' := 48) dX4_countOnLine_47 rfl rfl rfl ?_
    refine go_getS (pc' := 51) dX4_countOnLine_48 rfl gf_LandBase_Plane_9 R g2.at (by decide) rfl ?_
    refine go_goto (pc' := 0) (tgt := 58) dX4_countOnLine_51 (by decide) ?_
    exact t_X4_countOnLine_58 R gs0 g2.x hf
def b_X4_countOnLine_22 (n : Nat) (a0 : Nat) (x1 : Int32) (a2 : Nat) (x3 : Int32) (xs0 : Int32) (σ : xσ) : Option (Int32 × xσ) := if xs0 = 0 then b_X4_countOnLine_40 n x1 a2 x3 xs0 (a0 + 2) σ else b_X4_countOnLine_40 n x1 a2 x3 xs0 (a0 + 1) σ
set_option maxRecDepth 100000 in
set_option maxHeartbeats 4000000 in
theorem t_X4_countOnLine_22 {G : xG} {n : Nat} {a0 : Nat} {x1 : Int32} {a2 : Nat} {x3 : Int32} {xs0 : Int32} {σ : xσ} {h : xH} {r : Int32 × xσ} {d4 : Option Value} {d5 : Option Value} {d6 : Option Value} {d7 : Option Value} {d8 : Option Value} : Rl n σ h → okS n a0 → okS n a2 → b_X4_countOnLine_22 n a0 x1 a2 x3 xs0 σ = some r → Go G mX4_countOnLine 22 [some (.ref a0), some (.int x1), some (.ref a2), some (.int x3), d4, d5, d6, d7, d8] [.int xs0] h (fun v h' => xRok (xRt mX4_countOnLine) v ∧ v = some (.int r.1) ∧ Rl n r.2 h') := by
  intro R g0 g2 hf
  rw [b_X4_countOnLine_22] at hf
  refine go_istoreE rfl (pc' := 24) dX4_countOnLine_22 rfl (by decide) rfl ?_
  refine go_iload (pc' := 26) dX4_countOnLine_24 rfl rfl ?_
  refine go_if_eq (pc' := 29) (tgt := 36) dX4_countOnLine_26 (by decide) rfl (fun c101 => ?_) (fun c101 => ?_)
  · have hf := it c101 hf
    refine go_aload_n (i := 0) (pc' := 37) dX4_countOnLine_36 rfl rfl rfl ?_
    refine go_getS (pc' := 40) dX4_countOnLine_37 rfl gf_LandBase_Plane_15 R g0.at (by decide) rfl ?_
    exact t_X4_countOnLine_40 R g2 g0.y hf
  · have hf := ie c101 hf
    refine go_aload_n (i := 0) (pc' := 30) dX4_countOnLine_29 rfl rfl rfl ?_
    refine go_getS (pc' := 33) dX4_countOnLine_30 rfl gf_LandBase_Plane_9 R g0.at (by decide) rfl ?_
    refine go_goto (pc' := 0) (tgt := 40) dX4_countOnLine_33 (by decide) ?_
    exact t_X4_countOnLine_40 R g2 g0.x hf
def f_X4_countOnLine (n : Nat) (a0 : Nat) (x1 : Int32) (a2 : Nat) (x3 : Int32) (σ : xσ) : Option (Int32 × xσ) := gd (okS n a0) (gd (okS n a2) (gd (inb x1 40) (gd (inb (x1 + 1) 40) (if (sI σ (a0 + 1) x1.toNatClampNeg) = (sI σ (a0 + 1) (x1 + 1).toNatClampNeg) then b_X4_countOnLine_22 n a0 x1 a2 x3 0 σ else b_X4_countOnLine_22 n a0 x1 a2 x3 1 σ))))
set_option maxRecDepth 100000 in
set_option maxHeartbeats 4000000 in
theorem c_X4_countOnLine {G : xG} {n : Nat} {σ : xσ} {h : xH} {a0 : Nat} {x1 : Int32} {a2 : Nat} {x3 : Int32} {v1 : Int32} {σ1 : xσ} (R : Rl n σ h) (hf : f_X4_countOnLine n a0 x1 a2 x3 σ = some (v1, σ1)) : Ca G mX4_countOnLine [.ref a0, .int x1, .ref a2, .int x3] h (fun v h' => v = some (.int v1) ∧ Rl n σ1 h') := by
  refine Ca.of rfl (Nat.le_of_ble_eq_true rfl) ?_
  generalize hr : (v1, σ1) = r at hf
  suffices q : Go G mX4_countOnLine 0 (xent (xMl mX4_countOnLine) [.ref a0, .int x1, .ref a2, .int x3]) [] h (fun v h' => xRok (xRt mX4_countOnLine) v ∧ v = some (.int r.1) ∧ Rl n r.2 h') by
    subst hr
    exact q
  clear hr
  rw [f_X4_countOnLine] at hf
  obtain ⟨g0, hf⟩ := gd_some hf
  obtain ⟨g2, hf⟩ := gd_some hf
  refine go_aload_n (i := 0) (pc' := 1) dX4_countOnLine_0 rfl rfl rfl ?_
  refine go_getS (pc' := 4) dX4_countOnLine_1 rfl gf_LandBase_Plane_9 R g0.at (by decide) rfl ?_
  refine go_iload_n (i := 1) (pc' := 5) dX4_countOnLine_4 rfl rfl rfl ?_
  obtain ⟨g101, hf⟩ := gd_some hf
  refine go_ialoadS (pc' := 6) dX4_countOnLine_5 rfl R g0.x g101 ?_
  refine go_aload_n (i := 0) (pc' := 7) dX4_countOnLine_6 rfl rfl rfl ?_
  refine go_getS (pc' := 10) dX4_countOnLine_7 rfl gf_LandBase_Plane_9 R g0.at (by decide) rfl ?_
  refine go_iload_n (i := 1) (pc' := 11) dX4_countOnLine_10 rfl rfl rfl ?_
  refine go_iconst (v := 1) (pc' := 12) dX4_countOnLine_11 rfl (by decide) ?_
  refine go_iadd (pc' := 13) dX4_countOnLine_12 rfl ?_
  obtain ⟨g102, hf⟩ := gd_some hf
  refine go_ialoadS (pc' := 14) dX4_countOnLine_13 rfl R g0.x g102 ?_
  refine go_icmp_eq (pc' := 17) (tgt := 21) dX4_countOnLine_14 (by decide) rfl (fun c103 => ?_) (fun c103 => ?_)
  · have hf := it c103 hf
    refine go_iconst (v := 0) (pc' := 22) dX4_countOnLine_21 rfl (by decide) ?_
    exact t_X4_countOnLine_22 R g0 g2 hf
  · have hf := ie c103 hf
    refine go_iconst (v := 1) (pc' := 18) dX4_countOnLine_17 rfl (by decide) ?_
    refine go_goto (pc' := 0) (tgt := 22) dX4_countOnLine_18 (by decide) ?_
    exact t_X4_countOnLine_22 R g0 g2 hf
def f_X4_countCommon (n : Nat) (a0 : Nat) (x1 : Int32) (a2 : Nat) (x3 : Int32) (σ : xσ) : Option (Int32 × xσ) := gd (okS n a0) (gd (okS n a2) (bd (f_X4_areBoxesApart n a0 x1 a2 x3 σ) (fun v101 σ102 => if v101 = 0 then gd (inb x3 40) (gd (inb x3 40) (bd (f_X4_sideOf n a0 x1 ((sI σ102 (a2 + 1) x3.toNatClampNeg).toInt64) ((sI σ102 (a2 + 2) x3.toNatClampNeg).toInt64) σ102) (fun v109 σ110 => gd (inb (x3 + 1) 40) (gd (inb (x3 + 1) 40) (bd (f_X4_sideOf n a0 x1 ((sI σ110 (a2 + 1) (x3 + 1).toNatClampNeg).toInt64) ((sI σ110 (a2 + 2) (x3 + 1).toNatClampNeg).toInt64) σ110) (fun v116 σ117 => if (lg_cmp v109 ((0 : Int64))) = 0 then if (lg_cmp v116 ((0 : Int64))) = 0 then bd (f_X4_countOnLine n a0 x1 a2 x3 σ117) (fun v295 σ296 => some (v295, σ296)) else if (lg_cmp v109 ((0 : Int64))) ≤ 0 then if 0 ≤ (lg_cmp v109 ((0 : Int64))) then gd (inb x1 40) (gd (inb x1 40) (bd (f_X4_sideOf n a2 x3 ((sI σ117 (a0 + 1) x1.toNatClampNeg).toInt64) ((sI σ117 (a0 + 2) x1.toNatClampNeg).toInt64) σ117) (fun v213 σ214 => gd (inb (x1 + 1) 40) (gd (inb (x1 + 1) 40) (bd (f_X4_sideOf n a2 x3 ((sI σ214 (a0 + 1) (x1 + 1).toNatClampNeg).toInt64) ((sI σ214 (a0 + 2) (x1 + 1).toNatClampNeg).toInt64) σ214) (fun v220 σ221 => if (lg_cmp v213 ((0 : Int64))) ≤ 0 then if 0 ≤ (lg_cmp v213 ((0 : Int64))) then some (1, σ221) else if 0 ≤ (lg_cmp v220 ((0 : Int64))) then some (1, σ221) else some (0, σ221) else if 0 < (lg_cmp v220 ((0 : Int64))) then some (0, σ221) else if 0 ≤ (lg_cmp v213 ((0 : Int64))) then some (1, σ221) else if 0 ≤ (lg_cmp v220 ((0 : Int64))) then some (1, σ221) else some (0, σ221))))))) else if 0 ≤ (lg_cmp v116 ((0 : Int64))) then gd (inb x1 40) (gd (inb x1 40) (bd (f_X4_sideOf n a2 x3 ((sI σ117 (a0 + 1) x1.toNatClampNeg).toInt64) ((sI σ117 (a0 + 2) x1.toNatClampNeg).toInt64) σ117) (fun v234 σ235 => gd (inb (x1 + 1) 40) (gd (inb (x1 + 1) 40) (bd (f_X4_sideOf n a2 x3 ((sI σ235 (a0 + 1) (x1 + 1).toNatClampNeg).toInt64) ((sI σ235 (a0 + 2) (x1 + 1).toNatClampNeg).toInt64) σ235) (fun v241 σ242 => if (lg_cmp v234 ((0 : Int64))) ≤ 0 then if 0 ≤ (lg_cmp v234 ((0 : Int64))) then some (1, σ242) else if 0 ≤ (lg_cmp v241 ((0 : Int64))) then some (1, σ242) else some (0, σ242) else if 0 < (lg_cmp v241 ((0 : Int64))) then some (0, σ242) else if 0 ≤ (lg_cmp v234 ((0 : Int64))) then some (1, σ242) else if 0 ≤ (lg_cmp v241 ((0 : Int64))) then some (1, σ242) else some (0, σ242))))))) else some (0, σ117) else if 0 < (lg_cmp v116 ((0 : Int64))) then some (0, σ117) else if 0 ≤ (lg_cmp v109 ((0 : Int64))) then gd (inb x1 40) (gd (inb x1 40) (bd (f_X4_sideOf n a2 x3 ((sI σ117 (a0 + 1) x1.toNatClampNeg).toInt64) ((sI σ117 (a0 + 2) x1.toNatClampNeg).toInt64) σ117) (fun v256 σ257 => gd (inb (x1 + 1) 40) (gd (inb (x1 + 1) 40) (bd (f_X4_sideOf n a2 x3 ((sI σ257 (a0 + 1) (x1 + 1).toNatClampNeg).toInt64) ((sI σ257 (a0 + 2) (x1 + 1).toNatClampNeg).toInt64) σ257) (fun v263 σ264 => if (lg_cmp v256 ((0 : Int64))) ≤ 0 then if 0 ≤ (lg_cmp v256 ((0 : Int64))) then some (1, σ264) else if 0 ≤ (lg_cmp v263 ((0 : Int64))) then some (1, σ264) else some (0, σ264) else if 0 < (lg_cmp v263 ((0 : Int64))) then some (0, σ264) else if 0 ≤ (lg_cmp v256 ((0 : Int64))) then some (1, σ264) else if 0 ≤ (lg_cmp v263 ((0 : Int64))) then some (1, σ264) else some (0, σ264))))))) else if 0 ≤ (lg_cmp v116 ((0 : Int64))) then gd (inb x1 40) (gd (inb x1 40) (bd (f_X4_sideOf n a2 x3 ((sI σ117 (a0 + 1) x1.toNatClampNeg).toInt64) ((sI σ117 (a0 + 2) x1.toNatClampNeg).toInt64) σ117) (fun v277 σ278 => gd (inb (x1 + 1) 40) (gd (inb (x1 + 1) 40) (bd (f_X4_sideOf n a2 x3 ((sI σ278 (a0 + 1) (x1 + 1).toNatClampNeg).toInt64) ((sI σ278 (a0 + 2) (x1 + 1).toNatClampNeg).toInt64) σ278) (fun v284 σ285 => if (lg_cmp v277 ((0 : Int64))) ≤ 0 then if 0 ≤ (lg_cmp v277 ((0 : Int64))) then some (1, σ285) else if 0 ≤ (lg_cmp v284 ((0 : Int64))) then some (1, σ285) else some (0, σ285) else if 0 < (lg_cmp v284 ((0 : Int64))) then some (0, σ285) else if 0 ≤ (lg_cmp v277 ((0 : Int64))) then some (1, σ285) else if 0 ≤ (lg_cmp v284 ((0 : Int64))) then some (1, σ285) else some (0, σ285))))))) else some (0, σ117) else if (lg_cmp v109 ((0 : Int64))) ≤ 0 then if 0 ≤ (lg_cmp v109 ((0 : Int64))) then gd (inb x1 40) (gd (inb x1 40) (bd (f_X4_sideOf n a2 x3 ((sI σ117 (a0 + 1) x1.toNatClampNeg).toInt64) ((sI σ117 (a0 + 2) x1.toNatClampNeg).toInt64) σ117) (fun v126 σ127 => gd (inb (x1 + 1) 40) (gd (inb (x1 + 1) 40) (bd (f_X4_sideOf n a2 x3 ((sI σ127 (a0 + 1) (x1 + 1).toNatClampNeg).toInt64) ((sI σ127 (a0 + 2) (x1 + 1).toNatClampNeg).toInt64) σ127) (fun v133 σ134 => if (lg_cmp v126 ((0 : Int64))) ≤ 0 then if 0 ≤ (lg_cmp v126 ((0 : Int64))) then some (1, σ134) else if 0 ≤ (lg_cmp v133 ((0 : Int64))) then some (1, σ134) else some (0, σ134) else if 0 < (lg_cmp v133 ((0 : Int64))) then some (0, σ134) else if 0 ≤ (lg_cmp v126 ((0 : Int64))) then some (1, σ134) else if 0 ≤ (lg_cmp v133 ((0 : Int64))) then some (1, σ134) else some (0, σ134))))))) else if 0 ≤ (lg_cmp v116 ((0 : Int64))) then gd (inb x1 40) (gd (inb x1 40) (bd (f_X4_sideOf n a2 x3 ((sI σ117 (a0 + 1) x1.toNatClampNeg).toInt64) ((sI σ117 (a0 + 2) x1.toNatClampNeg).toInt64) σ117) (fun v147 σ148 => gd (inb (x1 + 1) 40) (gd (inb (x1 + 1) 40) (bd (f_X4_sideOf n a2 x3 ((sI σ148 (a0 + 1) (x1 + 1).toNatClampNeg).toInt64) ((sI σ148 (a0 + 2) (x1 + 1).toNatClampNeg).toInt64) σ148) (fun v154 σ155 => if (lg_cmp v147 ((0 : Int64))) ≤ 0 then if 0 ≤ (lg_cmp v147 ((0 : Int64))) then some (1, σ155) else if 0 ≤ (lg_cmp v154 ((0 : Int64))) then some (1, σ155) else some (0, σ155) else if 0 < (lg_cmp v154 ((0 : Int64))) then some (0, σ155) else if 0 ≤ (lg_cmp v147 ((0 : Int64))) then some (1, σ155) else if 0 ≤ (lg_cmp v154 ((0 : Int64))) then some (1, σ155) else some (0, σ155))))))) else some (0, σ117) else if 0 < (lg_cmp v116 ((0 : Int64))) then some (0, σ117) else if 0 ≤ (lg_cmp v109 ((0 : Int64))) then gd (inb x1 40) (gd (inb x1 40) (bd (f_X4_sideOf n a2 x3 ((sI σ117 (a0 + 1) x1.toNatClampNeg).toInt64) ((sI σ117 (a0 + 2) x1.toNatClampNeg).toInt64) σ117) (fun v169 σ170 => gd (inb (x1 + 1) 40) (gd (inb (x1 + 1) 40) (bd (f_X4_sideOf n a2 x3 ((sI σ170 (a0 + 1) (x1 + 1).toNatClampNeg).toInt64) ((sI σ170 (a0 + 2) (x1 + 1).toNatClampNeg).toInt64) σ170) (fun v176 σ177 => if (lg_cmp v169 ((0 : Int64))) ≤ 0 then if 0 ≤ (lg_cmp v169 ((0 : Int64))) then some (1, σ177) else if 0 ≤ (lg_cmp v176 ((0 : Int64))) then some (1, σ177) else some (0, σ177) else if 0 < (lg_cmp v176 ((0 : Int64))) then some (0, σ177) else if 0 ≤ (lg_cmp v169 ((0 : Int64))) then some (1, σ177) else if 0 ≤ (lg_cmp v176 ((0 : Int64))) then some (1, σ177) else some (0, σ177))))))) else if 0 ≤ (lg_cmp v116 ((0 : Int64))) then gd (inb x1 40) (gd (inb x1 40) (bd (f_X4_sideOf n a2 x3 ((sI σ117 (a0 + 1) x1.toNatClampNeg).toInt64) ((sI σ117 (a0 + 2) x1.toNatClampNeg).toInt64) σ117) (fun v190 σ191 => gd (inb (x1 + 1) 40) (gd (inb (x1 + 1) 40) (bd (f_X4_sideOf n a2 x3 ((sI σ191 (a0 + 1) (x1 + 1).toNatClampNeg).toInt64) ((sI σ191 (a0 + 2) (x1 + 1).toNatClampNeg).toInt64) σ191) (fun v197 σ198 => if (lg_cmp v190 ((0 : Int64))) ≤ 0 then if 0 ≤ (lg_cmp v190 ((0 : Int64))) then some (1, σ198) else if 0 ≤ (lg_cmp v197 ((0 : Int64))) then some (1, σ198) else some (0, σ198) else if 0 < (lg_cmp v197 ((0 : Int64))) then some (0, σ198) else if 0 ≤ (lg_cmp v190 ((0 : Int64))) then some (1, σ198) else if 0 ≤ (lg_cmp v197 ((0 : Int64))) then some (1, σ198) else some (0, σ198))))))) else some (0, σ117))))))) else some (0, σ102))))
set_option maxRecDepth 100000 in
set_option maxHeartbeats 4000000 in
theorem c_X4_countCommon {G : xG} {n : Nat} {σ : xσ} {h : xH} {a0 : Nat} {x1 : Int32} {a2 : Nat} {x3 : Int32} {v1 : Int32} {σ1 : xσ} (R : Rl n σ h) (hf : f_X4_countCommon n a0 x1 a2 x3 σ = some (v1, σ1)) : Ca G mX4_countCommon [.ref a0, .int x1, .ref a2, .int x3] h (fun v h' => v = some (.int v1) ∧ Rl n σ1 h') := by
  refine Ca.of rfl (Nat.le_of_ble_eq_true rfl) ?_
  generalize hr : (v1, σ1) = r at hf
  suffices q : Go G mX4_countCommon 0 (xent (xMl mX4_countCommon) [.ref a0, .int x1, .ref a2, .int x3]) [] h (fun v h' => xRok (xRt mX4_countCommon) v ∧ v = some (.int r.1) ∧ Rl n r.2 h') by
    subst hr
    exact q
  clear hr
  rw [f_X4_countCommon] at hf
  obtain ⟨g0, hf⟩ := gd_some hf
  obtain ⟨g2, hf⟩ := gd_some hf
  refine go_aload_n (i := 0) (pc' := 1) dX4_countCommon_0 rfl rfl rfl ?_
  refine go_iload_n (i := 1) (pc' := 2) dX4_countCommon_1 rfl rfl rfl ?_
  refine go_aload_n (i := 2) (pc' := 3) dX4_countCommon_2 rfl rfl rfl ?_
  refine go_iload_n (i := 3) (pc' := 4) dX4_countCommon_3 rfl rfl rfl ?_
  obtain ⟨v101, σ102, e103, hf⟩ := bd_some hf
  refine go_invS (As := [_, _, _, _]) (pc' := 7) dX4_countCommon_4 rfl cf_X4_countCommon_65 rfl rfl (Nat.le_of_ble_eq_true rfl) (c_X4_areBoxesApart R e103) (fun q104v h105 q104 => ?_)
  obtain ⟨rfl, R⟩ := q104
  refine go_if_eq (pc' := 10) (tgt := 12) dX4_countCommon_7 (by decide) rfl (fun c106 => ?_) (fun c106 => ?_)
  · have hf := it c106 hf
    refine go_aload_n (i := 0) (pc' := 13) dX4_countCommon_12 rfl rfl rfl ?_
    refine go_iload_n (i := 1) (pc' := 14) dX4_countCommon_13 rfl rfl rfl ?_
    refine go_aload_n (i := 2) (pc' := 15) dX4_countCommon_14 rfl rfl rfl ?_
    refine go_getS (pc' := 18) dX4_countCommon_15 rfl gf_LandBase_Plane_9 R g2.at (by decide) rfl ?_
    refine go_iload_n (i := 3) (pc' := 19) dX4_countCommon_18 rfl rfl rfl ?_
    obtain ⟨g107, hf⟩ := gd_some hf
    refine go_ialoadS (pc' := 20) dX4_countCommon_19 rfl R g2.x g107 ?_
    refine go_i2l (pc' := 21) dX4_countCommon_20 rfl rfl ?_
    refine go_aload_n (i := 2) (pc' := 22) dX4_countCommon_21 rfl rfl rfl ?_
    refine go_getS (pc' := 25) dX4_countCommon_22 rfl gf_LandBase_Plane_15 R g2.at (by decide) rfl ?_
    refine go_iload_n (i := 3) (pc' := 26) dX4_countCommon_25 rfl rfl rfl ?_
    obtain ⟨g108, hf⟩ := gd_some hf
    refine go_ialoadS (pc' := 27) dX4_countCommon_26 rfl R g2.y g108 ?_
    refine go_i2l (pc' := 28) dX4_countCommon_27 rfl rfl ?_
    obtain ⟨v109, σ110, e111, hf⟩ := bd_some hf
    refine go_invS (As := [_, _, _, _]) (pc' := 31) dX4_countCommon_28 rfl cf_X4_countCommon_24 rfl rfl (Nat.le_of_ble_eq_true rfl) (c_X4_sideOf R e111) (fun q112v h113 q112 => ?_)
    obtain ⟨rfl, R⟩ := q112
    refine go_lstoreE rfl (pc' := 33) dX4_countCommon_31 rfl (by decide) rfl ?_
    refine go_aload_n (i := 0) (pc' := 34) dX4_countCommon_33 rfl rfl rfl ?_
    refine go_iload_n (i := 1) (pc' := 35) dX4_countCommon_34 rfl rfl rfl ?_
    refine go_aload_n (i := 2) (pc' := 36) dX4_countCommon_35 rfl rfl rfl ?_
    refine go_getS (pc' := 39) dX4_countCommon_36 rfl gf_LandBase_Plane_9 R g2.at (by decide) rfl ?_
    refine go_iload_n (i := 3) (pc' := 40) dX4_countCommon_39 rfl rfl rfl ?_
    refine go_iconst (v := 1) (pc' := 41) dX4_countCommon_40 rfl (by decide) ?_
    refine go_iadd (pc' := 42) dX4_countCommon_41 rfl ?_
    obtain ⟨g114, hf⟩ := gd_some hf
    refine go_ialoadS (pc' := 43) dX4_countCommon_42 rfl R g2.x g114 ?_
    refine go_i2l (pc' := 44) dX4_countCommon_43 rfl rfl ?_
    refine go_aload_n (i := 2) (pc' := 45) dX4_countCommon_44 rfl rfl rfl ?_
    refine go_getS (pc' := 48) dX4_countCommon_45 rfl gf_LandBase_Plane_15 R g2.at (by decide) rfl ?_
    refine go_iload_n (i := 3) (pc' := 49) dX4_countCommon_48 rfl rfl rfl ?_
    refine go_iconst (v := 1) (pc' := 50) dX4_countCommon_49 rfl (by decide) ?_
    refine go_iadd (pc' := 51) dX4_countCommon_50 rfl ?_
    obtain ⟨g115, hf⟩ := gd_some hf
    refine go_ialoadS (pc' := 52) dX4_countCommon_51 rfl R g2.y g115 ?_
    refine go_i2l (pc' := 53) dX4_countCommon_52 rfl rfl ?_
    obtain ⟨v116, σ117, e118, hf⟩ := bd_some hf
    refine go_invS (As := [_, _, _, _]) (pc' := 56) dX4_countCommon_53 rfl cf_X4_countCommon_24 rfl rfl (Nat.le_of_ble_eq_true rfl) (c_X4_sideOf R e118) (fun q119v h120 q119 => ?_)
    obtain ⟨rfl, R⟩ := q119
    refine go_lstoreE rfl (pc' := 58) dX4_countCommon_56 rfl (by decide) rfl ?_
    refine go_lload (pc' := 60) dX4_countCommon_58 rfl rfl ?_
    refine go_lconst (v := 0) (pc' := 61) dX4_countCommon_60 rfl (by decide) ?_
    refine go_lcmp (pc' := 62) dX4_countCommon_61 rfl ?_
    refine go_if_ne (pc' := 65) (tgt := 80) dX4_countCommon_62 (by decide) rfl (fun c121 => ?_) (fun c121 => ?_)
    · have hf := ie c121 hf
      refine go_lload (pc' := 82) dX4_countCommon_80 rfl rfl ?_
      refine go_lconst (v := 0) (pc' := 83) dX4_countCommon_82 rfl (by decide) ?_
      refine go_lcmp (pc' := 84) dX4_countCommon_83 rfl ?_
      refine go_if_le (pc' := 87) (tgt := 94) dX4_countCommon_84 (by decide) rfl (fun c122 => ?_) (fun c122 => ?_)
      · have hf := it c122 hf
        refine go_lload (pc' := 96) dX4_countCommon_94 rfl rfl ?_
        refine go_lconst (v := 0) (pc' := 97) dX4_countCommon_96 rfl (by decide) ?_
        refine go_lcmp (pc' := 98) dX4_countCommon_97 rfl ?_
        refine go_if_ge (pc' := 101) (tgt := 110) dX4_countCommon_98 (by decide) rfl (fun c123 => ?_) (fun c123 => ?_)
        · have hf := it c123 hf
          refine go_aload_n (i := 2) (pc' := 111) dX4_countCommon_110 rfl rfl rfl ?_
          refine go_iload_n (i := 3) (pc' := 112) dX4_countCommon_111 rfl rfl rfl ?_
          refine go_aload_n (i := 0) (pc' := 113) dX4_countCommon_112 rfl rfl rfl ?_
          refine go_getS (pc' := 116) dX4_countCommon_113 rfl gf_LandBase_Plane_9 R g0.at (by decide) rfl ?_
          refine go_iload_n (i := 1) (pc' := 117) dX4_countCommon_116 rfl rfl rfl ?_
          obtain ⟨g124, hf⟩ := gd_some hf
          refine go_ialoadS (pc' := 118) dX4_countCommon_117 rfl R g0.x g124 ?_
          refine go_i2l (pc' := 119) dX4_countCommon_118 rfl rfl ?_
          refine go_aload_n (i := 0) (pc' := 120) dX4_countCommon_119 rfl rfl rfl ?_
          refine go_getS (pc' := 123) dX4_countCommon_120 rfl gf_LandBase_Plane_15 R g0.at (by decide) rfl ?_
          refine go_iload_n (i := 1) (pc' := 124) dX4_countCommon_123 rfl rfl rfl ?_
          obtain ⟨g125, hf⟩ := gd_some hf
          refine go_ialoadS (pc' := 125) dX4_countCommon_124 rfl R g0.y g125 ?_
          refine go_i2l (pc' := 126) dX4_countCommon_125 rfl rfl ?_
          obtain ⟨v126, σ127, e128, hf⟩ := bd_some hf
          refine go_invS (As := [_, _, _, _]) (pc' := 129) dX4_countCommon_126 rfl cf_X4_countCommon_24 rfl rfl (Nat.le_of_ble_eq_true rfl) (c_X4_sideOf R e128) (fun q129v h130 q129 => ?_)
          obtain ⟨rfl, R⟩ := q129
          refine go_lstoreE rfl (pc' := 131) dX4_countCommon_129 rfl (by decide) rfl ?_
          refine go_aload_n (i := 2) (pc' := 132) dX4_countCommon_131 rfl rfl rfl ?_
          refine go_iload_n (i := 3) (pc' := 133) dX4_countCommon_132 rfl rfl rfl ?_
          refine go_aload_n (i := 0) (pc' := 134) dX4_countCommon_133 rfl rfl rfl ?_
          refine go_getS (pc' := 137) dX4_countCommon_134 rfl gf_LandBase_Plane_9 R g0.at (by decide) rfl ?_
          refine go_iload_n (i := 1) (pc' := 138) dX4_countCommon_137 rfl rfl rfl ?_
          refine go_iconst (v := 1) (pc' := 139) dX4_countCommon_138 rfl (by decide) ?_
          refine go_iadd (pc' := 140) dX4_countCommon_139 rfl ?_
          obtain ⟨g131, hf⟩ := gd_some hf
          refine go_ialoadS (pc' := 141) dX4_countCommon_140 rfl R g0.x g131 ?_
          refine go_i2l (pc' := 142) dX4_countCommon_141 rfl rfl ?_
          refine go_aload_n (i := 0) (pc' := 143) dX4_countCommon_142 rfl rfl rfl ?_
          refine go_getS (pc' := 146) dX4_countCommon_143 rfl gf_LandBase_Plane_15 R g0.at (by decide) rfl ?_
          refine go_iload_n (i := 1) (pc' := 147) dX4_countCommon_146 rfl rfl rfl ?_
          refine go_iconst (v := 1) (pc' := 148) dX4_countCommon_147 rfl (by decide) ?_
          refine go_iadd (pc' := 149) dX4_countCommon_148 rfl ?_
          obtain ⟨g132, hf⟩ := gd_some hf
          refine go_ialoadS (pc' := 150) dX4_countCommon_149 rfl R g0.y g132 ?_
          refine go_i2l (pc' := 151) dX4_countCommon_150 rfl rfl ?_
          obtain ⟨v133, σ134, e135, hf⟩ := bd_some hf
          refine go_invS (As := [_, _, _, _]) (pc' := 154) dX4_countCommon_151 rfl cf_X4_countCommon_24 rfl rfl (Nat.le_of_ble_eq_true rfl) (c_X4_sideOf R e135) (fun q136v h137 q136 => ?_)
          obtain ⟨rfl, R⟩ := q136
          refine go_lstoreE rfl (pc' := 156) dX4_countCommon_154 rfl (by decide) rfl ?_
          refine go_lload (pc' := 158) dX4_countCommon_156 rfl rfl ?_
          refine go_lconst (v := 0) (pc' := 159) dX4_countCommon_158 rfl (by decide) ?_
          refine go_lcmp (pc' := 160) dX4_countCommon_159 rfl ?_
          refine go_if_le (pc' := 163) (tgt := 170) dX4_countCommon_160 (by decide) rfl (fun c138 => ?_) (fun c138 => ?_)
          · have hf := it c138 hf
            refine go_lload (pc' := 172) dX4_countCommon_170 rfl rfl ?_
            refine go_lconst (v := 0) (pc' := 173) dX4_countCommon_172 rfl (by decide) ?_
            refine go_lcmp (pc' := 174) dX4_countCommon_173 rfl ?_
            refine go_if_ge (pc' := 177) (tgt := 188) dX4_countCommon_174 (by decide) rfl (fun c139 => ?_) (fun c139 => ?_)
            · have hf := it c139 hf
              refine go_iconst (v := 1) (pc' := 189) dX4_countCommon_188 rfl (by decide) ?_
              obtain rfl := Option.some.inj hf
              exact Go.ret (v := some (.int _)) dX4_countCommon_189 ⟨_, rfl⟩ ⟨rfl, rfl, R⟩
            · have hf := ie c139 hf
              refine go_lload (pc' := 179) dX4_countCommon_177 rfl rfl ?_
              refine go_lconst (v := 0) (pc' := 180) dX4_countCommon_179 rfl (by decide) ?_
              refine go_lcmp (pc' := 181) dX4_countCommon_180 rfl ?_
              refine go_if_ge (pc' := 184) (tgt := 188) dX4_countCommon_181 (by decide) rfl (fun c140 => ?_) (fun c140 => ?_)
              · have hf := it c140 hf
                refine go_iconst (v := 1) (pc' := 189) dX4_countCommon_188 rfl (by decide) ?_
                obtain rfl := Option.some.inj hf
                exact Go.ret (v := some (.int _)) dX4_countCommon_189 ⟨_, rfl⟩ ⟨rfl, rfl, R⟩
              · have hf := ie c140 hf
                refine go_iconst (v := 0) (pc' := 185) dX4_countCommon_184 rfl (by decide) ?_
                refine go_goto (pc' := 0) (tgt := 189) dX4_countCommon_185 (by decide) ?_
                obtain rfl := Option.some.inj hf
                exact Go.ret (v := some (.int _)) dX4_countCommon_189 ⟨_, rfl⟩ ⟨rfl, rfl, R⟩
          · have hf := ie c138 hf
            refine go_lload (pc' := 165) dX4_countCommon_163 rfl rfl ?_
            refine go_lconst (v := 0) (pc' := 166) dX4_countCommon_165 rfl (by decide) ?_
            refine go_lcmp (pc' := 167) dX4_countCommon_166 rfl ?_
            refine go_if_gt (pc' := 170) (tgt := 184) dX4_countCommon_167 (by decide) rfl (fun c141 => ?_) (fun c141 => ?_)
            · have hf := it c141 hf
              refine go_iconst (v := 0) (pc' := 185) dX4_countCommon_184 rfl (by decide) ?_
              refine go_goto (pc' := 0) (tgt := 189) dX4_countCommon_185 (by decide) ?_
              obtain rfl := Option.some.inj hf
              exact Go.ret (v := some (.int _)) dX4_countCommon_189 ⟨_, rfl⟩ ⟨rfl, rfl, R⟩
            · have hf := ie c141 hf
              refine go_lload (pc' := 172) dX4_countCommon_170 rfl rfl ?_
              refine go_lconst (v := 0) (pc' := 173) dX4_countCommon_172 rfl (by decide) ?_
              refine go_lcmp (pc' := 174) dX4_countCommon_173 rfl ?_
              refine go_if_ge (pc' := 177) (tgt := 188) dX4_countCommon_174 (by decide) rfl (fun c142 => ?_) (fun c142 => ?_)
              · have hf := it c142 hf
                refine go_iconst (v := 1) (pc' := 189) dX4_countCommon_188 rfl (by decide) ?_
                obtain rfl := Option.some.inj hf
                exact Go.ret (v := some (.int _)) dX4_countCommon_189 ⟨_, rfl⟩ ⟨rfl, rfl, R⟩
              · have hf := ie c142 hf
                refine go_lload (pc' := 179) dX4_countCommon_177 rfl rfl ?_
                refine go_lconst (v := 0) (pc' := 180) dX4_countCommon_179 rfl (by decide) ?_
                refine go_lcmp (pc' := 181) dX4_countCommon_180 rfl ?_
                refine go_if_ge (pc' := 184) (tgt := 188) dX4_countCommon_181 (by decide) rfl (fun c143 => ?_) (fun c143 => ?_)
                · have hf := it c143 hf
                  refine go_iconst (v := 1) (pc' := 189) dX4_countCommon_188 rfl (by decide) ?_
                  obtain rfl := Option.some.inj hf
                  exact Go.ret (v := some (.int _)) dX4_countCommon_189 ⟨_, rfl⟩ ⟨rfl, rfl, R⟩
                · have hf := ie c143 hf
                  refine go_iconst (v := 0) (pc' := 185) dX4_countCommon_184 rfl (by decide) ?_
                  refine go_goto (pc' := 0) (tgt := 189) dX4_countCommon_185 (by decide) ?_
                  obtain rfl := Option.some.inj hf
                  exact Go.ret (v := some (.int _)) dX4_countCommon_189 ⟨_, rfl⟩ ⟨rfl, rfl, R⟩
        · have hf := ie c123 hf
          refine go_lload (pc' := 103) dX4_countCommon_101 rfl rfl ?_
          refine go_lconst (v := 0) (pc' := 104) dX4_countCommon_103 rfl (by decide) ?_
          refine go_lcmp (pc' := 105) dX4_countCommon_104 rfl ?_
          refine go_if_ge (pc' := 108) (tgt := 110) dX4_countCommon_105 (by decide) rfl (fun c144 => ?_) (fun c144 => ?_)
          · have hf := it c144 hf
            refine go_aload_n (i := 2) (pc' := 111) dX4_countCommon_110 rfl rfl rfl ?_
            refine go_iload_n (i := 3) (pc' := 112) dX4_countCommon_111 rfl rfl rfl ?_
            refine go_aload_n (i := 0) (pc' := 113) dX4_countCommon_112 rfl rfl rfl ?_
            refine go_getS (pc' := 116) dX4_countCommon_113 rfl gf_LandBase_Plane_9 R g0.at (by decide) rfl ?_
            refine go_iload_n (i := 1) (pc' := 117) dX4_countCommon_116 rfl rfl rfl ?_
            obtain ⟨g145, hf⟩ := gd_some hf
            refine go_ialoadS (pc' := 118) dX4_countCommon_117 rfl R g0.x g145 ?_
            refine go_i2l (pc' := 119) dX4_countCommon_118 rfl rfl ?_
            refine go_aload_n (i := 0) (pc' := 120) dX4_countCommon_119 rfl rfl rfl ?_
            refine go_getS (pc' := 123) dX4_countCommon_120 rfl gf_LandBase_Plane_15 R g0.at (by decide) rfl ?_
            refine go_iload_n (i := 1) (pc' := 124) dX4_countCommon_123 rfl rfl rfl ?_
            obtain ⟨g146, hf⟩ := gd_some hf
            refine go_ialoadS (pc' := 125) dX4_countCommon_124 rfl R g0.y g146 ?_
            refine go_i2l (pc' := 126) dX4_countCommon_125 rfl rfl ?_
            obtain ⟨v147, σ148, e149, hf⟩ := bd_some hf
            refine go_invS (As := [_, _, _, _]) (pc' := 129) dX4_countCommon_126 rfl cf_X4_countCommon_24 rfl rfl (Nat.le_of_ble_eq_true rfl) (c_X4_sideOf R e149) (fun q150v h151 q150 => ?_)
            obtain ⟨rfl, R⟩ := q150
            refine go_lstoreE rfl (pc' := 131) dX4_countCommon_129 rfl (by decide) rfl ?_
            refine go_aload_n (i := 2) (pc' := 132) dX4_countCommon_131 rfl rfl rfl ?_
            refine go_iload_n (i := 3) (pc' := 133) dX4_countCommon_132 rfl rfl rfl ?_
            refine go_aload_n (i := 0) (pc' := 134) dX4_countCommon_133 rfl rfl rfl ?_
            refine go_getS (pc' := 137) dX4_countCommon_134 rfl gf_LandBase_Plane_9 R g0.at (by decide) rfl ?_
            refine go_iload_n (i := 1) (pc' := 138) dX4_countCommon_137 rfl rfl rfl ?_
            refine go_iconst (v := 1) (pc' := 139) dX4_countCommon_138 rfl (by decide) ?_
            refine go_iadd (pc' := 140) dX4_countCommon_139 rfl ?_
            obtain ⟨g152, hf⟩ := gd_some hf
            refine go_ialoadS (pc' := 141) dX4_countCommon_140 rfl R g0.x g152 ?_
            refine go_i2l (pc' := 142) dX4_countCommon_141 rfl rfl ?_
            refine go_aload_n (i := 0) (pc' := 143) dX4_countCommon_142 rfl rfl rfl ?_
            refine go_getS (pc' := 146) dX4_countCommon_143 rfl gf_LandBase_Plane_15 R g0.at (by decide) rfl ?_
            refine go_iload_n (i := 1) (pc' := 147) dX4_countCommon_146 rfl rfl rfl ?_
            refine go_iconst (v := 1) (pc' := 148) dX4_countCommon_147 rfl (by decide) ?_
            refine go_iadd (pc' := 149) dX4_countCommon_148 rfl ?_
            obtain ⟨g153, hf⟩ := gd_some hf
            refine go_ialoadS (pc' := 150) dX4_countCommon_149 rfl R g0.y g153 ?_
            refine go_i2l (pc' := 151) dX4_countCommon_150 rfl rfl ?_
            obtain ⟨v154, σ155, e156, hf⟩ := bd_some hf
            refine go_invS (As := [_, _, _, _]) (pc' := 154) dX4_countCommon_151 rfl cf_X4_countCommon_24 rfl rfl (Nat.le_of_ble_eq_true rfl) (c_X4_sideOf R e156) (fun q157v h158 q157 => ?_)
            obtain ⟨rfl, R⟩ := q157
            refine go_lstoreE rfl (pc' := 156) dX4_countCommon_154 rfl (by decide) rfl ?_
            refine go_lload (pc' := 158) dX4_countCommon_156 rfl rfl ?_
            refine go_lconst (v := 0) (pc' := 159) dX4_countCommon_158 rfl (by decide) ?_
            refine go_lcmp (pc' := 160) dX4_countCommon_159 rfl ?_
            refine go_if_le (pc' := 163) (tgt := 170) dX4_countCommon_160 (by decide) rfl (fun c159 => ?_) (fun c159 => ?_)
            · have hf := it c159 hf
              refine go_lload (pc' := 172) dX4_countCommon_170 rfl rfl ?_
              refine go_lconst (v := 0) (pc' := 173) dX4_countCommon_172 rfl (by decide) ?_
              refine go_lcmp (pc' := 174) dX4_countCommon_173 rfl ?_
              refine go_if_ge (pc' := 177) (tgt := 188) dX4_countCommon_174 (by decide) rfl (fun c160 => ?_) (fun c160 => ?_)
              · have hf := it c160 hf
                refine go_iconst (v := 1) (pc' := 189) dX4_countCommon_188 rfl (by decide) ?_
                obtain rfl := Option.some.inj hf
                exact Go.ret (v := some (.int _)) dX4_countCommon_189 ⟨_, rfl⟩ ⟨rfl, rfl, R⟩
              · have hf := ie c160 hf
                refine go_lload (pc' := 179) dX4_countCommon_177 rfl rfl ?_
                refine go_lconst (v := 0) (pc' := 180) dX4_countCommon_179 rfl (by decide) ?_
                refine go_lcmp (pc' := 181) dX4_countCommon_180 rfl ?_
                refine go_if_ge (pc' := 184) (tgt := 188) dX4_countCommon_181 (by decide) rfl (fun c161 => ?_) (fun c161 => ?_)
                · have hf := it c161 hf
                  refine go_iconst (v := 1) (pc' := 189) dX4_countCommon_188 rfl (by decide) ?_
                  obtain rfl := Option.some.inj hf
                  exact Go.ret (v := some (.int _)) dX4_countCommon_189 ⟨_, rfl⟩ ⟨rfl, rfl, R⟩
                · have hf := ie c161 hf
                  refine go_iconst (v := 0) (pc' := 185) dX4_countCommon_184 rfl (by decide) ?_
                  refine go_goto (pc' := 0) (tgt := 189) dX4_countCommon_185 (by decide) ?_
                  obtain rfl := Option.some.inj hf
                  exact Go.ret (v := some (.int _)) dX4_countCommon_189 ⟨_, rfl⟩ ⟨rfl, rfl, R⟩
            · have hf := ie c159 hf
              refine go_lload (pc' := 165) dX4_countCommon_163 rfl rfl ?_
              refine go_lconst (v := 0) (pc' := 166) dX4_countCommon_165 rfl (by decide) ?_
              refine go_lcmp (pc' := 167) dX4_countCommon_166 rfl ?_
              refine go_if_gt (pc' := 170) (tgt := 184) dX4_countCommon_167 (by decide) rfl (fun c162 => ?_) (fun c162 => ?_)
              · have hf := it c162 hf
                refine go_iconst (v := 0) (pc' := 185) dX4_countCommon_184 rfl (by decide) ?_
                refine go_goto (pc' := 0) (tgt := 189) dX4_countCommon_185 (by decide) ?_
                obtain rfl := Option.some.inj hf
                exact Go.ret (v := some (.int _)) dX4_countCommon_189 ⟨_, rfl⟩ ⟨rfl, rfl, R⟩
              · have hf := ie c162 hf
                refine go_lload (pc' := 172) dX4_countCommon_170 rfl rfl ?_
                refine go_lconst (v := 0) (pc' := 173) dX4_countCommon_172 rfl (by decide) ?_
                refine go_lcmp (pc' := 174) dX4_countCommon_173 rfl ?_
                refine go_if_ge (pc' := 177) (tgt := 188) dX4_countCommon_174 (by decide) rfl (fun c163 => ?_) (fun c163 => ?_)
                · have hf := it c163 hf
                  refine go_iconst (v := 1) (pc' := 189) dX4_countCommon_188 rfl (by decide) ?_
                  obtain rfl := Option.some.inj hf
                  exact Go.ret (v := some (.int _)) dX4_countCommon_189 ⟨_, rfl⟩ ⟨rfl, rfl, R⟩
                · have hf := ie c163 hf
                  refine go_lload (pc' := 179) dX4_countCommon_177 rfl rfl ?_
                  refine go_lconst (v := 0) (pc' := 180) dX4_countCommon_179 rfl (by decide) ?_
                  refine go_lcmp (pc' := 181) dX4_countCommon_180 rfl ?_
                  refine go_if_ge (pc' := 184) (tgt := 188) dX4_countCommon_181 (by decide) rfl (fun c164 => ?_) (fun c164 => ?_)
                  · have hf := it c164 hf
                    refine go_iconst (v := 1) (pc' := 189) dX4_countCommon_188 rfl (by decide) ?_
                    obtain rfl := Option.some.inj hf
                    exact Go.ret (v := some (.int _)) dX4_countCommon_189 ⟨_, rfl⟩ ⟨rfl, rfl, R⟩
                  · have hf := ie c164 hf
                    refine go_iconst (v := 0) (pc' := 185) dX4_countCommon_184 rfl (by decide) ?_
                    refine go_goto (pc' := 0) (tgt := 189) dX4_countCommon_185 (by decide) ?_
                    obtain rfl := Option.some.inj hf
                    exact Go.ret (v := some (.int _)) dX4_countCommon_189 ⟨_, rfl⟩ ⟨rfl, rfl, R⟩
          · have hf := ie c144 hf
            refine go_iconst (v := 0) (pc' := 109) dX4_countCommon_108 rfl (by decide) ?_
            obtain rfl := Option.some.inj hf
            exact Go.ret (v := some (.int _)) dX4_countCommon_109 ⟨_, rfl⟩ ⟨rfl, rfl, R⟩
      · have hf := ie c122 hf
        refine go_lload (pc' := 89) dX4_countCommon_87 rfl rfl ?_
        refine go_lconst (v := 0) (pc' := 90) dX4_countCommon_89 rfl (by decide) ?_
        refine go_lcmp (pc' := 91) dX4_countCommon_90 rfl ?_
        refine go_if_gt (pc' := 94) (tgt := 108) dX4_countCommon_91 (by decide) rfl (fun c165 => ?_) (fun c165 => ?_)
        · have hf := it c165 hf
          refine go_iconst (v := 0) (pc' := 109) dX4_countCommon_108 rfl (by decide) ?_
          obtain rfl := Option.some.inj hf
          exact Go.ret (v := some (.int _)) dX4_countCommon_109 ⟨_, rfl⟩ ⟨rfl, rfl, R⟩
        · have hf := ie c165 hf
          refine go_lload (pc' := 96) dX4_countCommon_94 rfl rfl ?_
          refine go_lconst (v := 0) (pc' := 97) dX4_countCommon_96 rfl (by decide) ?_
          refine go_lcmp (pc' := 98) dX4_countCommon_97 rfl ?_
          refine go_if_ge (pc' := 101) (tgt := 110) dX4_countCommon_98 (by decide) rfl (fun c166 => ?_) (fun c166 => ?_)
          · have hf := it c166 hf
            refine go_aload_n (i := 2) (pc' := 111) dX4_countCommon_110 rfl rfl rfl ?_
            refine go_iload_n (i := 3) (pc' := 112) dX4_countCommon_111 rfl rfl rfl ?_
            refine go_aload_n (i := 0) (pc' := 113) dX4_countCommon_112 rfl rfl rfl ?_
            refine go_getS (pc' := 116) dX4_countCommon_113 rfl gf_LandBase_Plane_9 R g0.at (by decide) rfl ?_
            refine go_iload_n (i := 1) (pc' := 117) dX4_countCommon_116 rfl rfl rfl ?_
            obtain ⟨g167, hf⟩ := gd_some hf
            refine go_ialoadS (pc' := 118) dX4_countCommon_117 rfl R g0.x g167 ?_
            refine go_i2l (pc' := 119) dX4_countCommon_118 rfl rfl ?_
            refine go_aload_n (i := 0) (pc' := 120) dX4_countCommon_119 rfl rfl rfl ?_
            refine go_getS (pc' := 123) dX4_countCommon_120 rfl gf_LandBase_Plane_15 R g0.at (by decide) rfl ?_
            refine go_iload_n (i := 1) (pc' := 124) dX4_countCommon_123 rfl rfl rfl ?_
            obtain ⟨g168, hf⟩ := gd_some hf
            refine go_ialoadS (pc' := 125) dX4_countCommon_124 rfl R g0.y g168 ?_
            refine go_i2l (pc' := 126) dX4_countCommon_125 rfl rfl ?_
            obtain ⟨v169, σ170, e171, hf⟩ := bd_some hf
            refine go_invS (As := [_, _, _, _]) (pc' := 129) dX4_countCommon_126 rfl cf_X4_countCommon_24 rfl rfl (Nat.le_of_ble_eq_true rfl) (c_X4_sideOf R e171) (fun q172v h173 q172 => ?_)
            obtain ⟨rfl, R⟩ := q172
            refine go_lstoreE rfl (pc' := 131) dX4_countCommon_129 rfl (by decide) rfl ?_
            refine go_aload_n (i := 2) (pc' := 132) dX4_countCommon_131 rfl rfl rfl ?_
            refine go_iload_n (i := 3) (pc' := 133) dX4_countCommon_132 rfl rfl rfl ?_
            refine go_aload_n (i := 0) (pc' := 134) dX4_countCommon_133 rfl rfl rfl ?_
            refine go_getS (pc' := 137) dX4_countCommon_134 rfl gf_LandBase_Plane_9 R g0.at (by decide) rfl ?_
            refine go_iload_n (i := 1) (pc' := 138) dX4_countCommon_137 rfl rfl rfl ?_
            refine go_iconst (v := 1) (pc' := 139) dX4_countCommon_138 rfl (by decide) ?_
            refine go_iadd (pc' := 140) dX4_countCommon_139 rfl ?_
            obtain ⟨g174, hf⟩ := gd_some hf
            refine go_ialoadS (pc' := 141) dX4_countCommon_140 rfl R g0.x g174 ?_
            refine go_i2l (pc' := 142) dX4_countCommon_141 rfl rfl ?_
            refine go_aload_n (i := 0) (pc' := 143) dX4_countCommon_142 rfl rfl rfl ?_
            refine go_getS (pc' := 146) dX4_countCommon_143 rfl gf_LandBase_Plane_15 R g0.at (by decide) rfl ?_
            refine go_iload_n (i := 1) (pc' := 147) dX4_countCommon_146 rfl rfl rfl ?_
            refine go_iconst (v := 1) (pc' := 148) dX4_countCommon_147 rfl (by decide) ?_
            refine go_iadd (pc' := 149) dX4_countCommon_148 rfl ?_
            obtain ⟨g175, hf⟩ := gd_some hf
            refine go_ialoadS (pc' := 150) dX4_countCommon_149 rfl R g0.y g175 ?_
            refine go_i2l (pc' := 151) dX4_countCommon_150 rfl rfl ?_
            obtain ⟨v176, σ177, e178, hf⟩ := bd_some hf
            refine go_invS (As := [_, _, _, _]) (pc' := 154) dX4_countCommon_151 rfl cf_X4_countCommon_24 rfl rfl (Nat.le_of_ble_eq_true rfl) (c_X4_sideOf R e178) (fun q179v h180 q179 => ?_)
            obtain ⟨rfl, R⟩ := q179
            refine go_lstoreE rfl (pc' := 156) dX4_countCommon_154 rfl (by decide) rfl ?_
            refine go_lload (pc' := 158) dX4_countCommon_156 rfl rfl ?_
            refine go_lconst (v := 0) (pc' := 159) dX4_countCommon_158 rfl (by decide) ?_
            refine go_lcmp (pc' := 160) dX4_countCommon_159 rfl ?_
            refine go_if_le (pc' := 163) (tgt := 170) dX4_countCommon_160 (by decide) rfl (fun c181 => ?_) (fun c181 => ?_)
            · have hf := it c181 hf
              refine go_lload (pc' := 172) dX4_countCommon_170 rfl rfl ?_
              refine go_lconst (v := 0) (pc' := 173) dX4_countCommon_172 rfl (by decide) ?_
              refine go_lcmp (pc' := 174) dX4_countCommon_173 rfl ?_
              refine go_if_ge (pc' := 177) (tgt := 188) dX4_countCommon_174 (by decide) rfl (fun c182 => ?_) (fun c182 => ?_)
              · have hf := it c182 hf
                refine go_iconst (v := 1) (pc' := 189) dX4_countCommon_188 rfl (by decide) ?_
                obtain rfl := Option.some.inj hf
                exact Go.ret (v := some (.int _)) dX4_countCommon_189 ⟨_, rfl⟩ ⟨rfl, rfl, R⟩
              · have hf := ie c182 hf
                refine go_lload (pc' := 179) dX4_countCommon_177 rfl rfl ?_
                refine go_lconst (v := 0) (pc' := 180) dX4_countCommon_179 rfl (by decide) ?_
                refine go_lcmp (pc' := 181) dX4_countCommon_180 rfl ?_
                refine go_if_ge (pc' := 184) (tgt := 188) dX4_countCommon_181 (by decide) rfl (fun c183 => ?_) (fun c183 => ?_)
                · have hf := it c183 hf
                  refine go_iconst (v := 1) (pc' := 189) dX4_countCommon_188 rfl (by decide) ?_
                  obtain rfl := Option.some.inj hf
                  exact Go.ret (v := some (.int _)) dX4_countCommon_189 ⟨_, rfl⟩ ⟨rfl, rfl, R⟩
                · have hf := ie c183 hf
                  refine go_iconst (v := 0) (pc' := 185) dX4_countCommon_184 rfl (by decide) ?_
                  refine go_goto (pc' := 0) (tgt := 189) dX4_countCommon_185 (by decide) ?_
                  obtain rfl := Option.some.inj hf
                  exact Go.ret (v := some (.int _)) dX4_countCommon_189 ⟨_, rfl⟩ ⟨rfl, rfl, R⟩
            · have hf := ie c181 hf
              refine go_lload (pc' := 165) dX4_countCommon_163 rfl rfl ?_
              refine go_lconst (v := 0) (pc' := 166) dX4_countCommon_165 rfl (by decide) ?_
              refine go_lcmp (pc' := 167) dX4_countCommon_166 rfl ?_
              refine go_if_gt (pc' := 170) (tgt := 184) dX4_countCommon_167 (by decide) rfl (fun c184 => ?_) (fun c184 => ?_)
              · have hf := it c184 hf
                refine go_iconst (v := 0) (pc' := 185) dX4_countCommon_184 rfl (by decide) ?_
                refine go_goto (pc' := 0) (tgt := 189) dX4_countCommon_185 (by decide) ?_
                obtain rfl := Option.some.inj hf
                exact Go.ret (v := some (.int _)) dX4_countCommon_189 ⟨_, rfl⟩ ⟨rfl, rfl, R⟩
              · have hf := ie c184 hf
                refine go_lload (pc' := 172) dX4_countCommon_170 rfl rfl ?_
                refine go_lconst (v := 0) (pc' := 173) dX4_countCommon_172 rfl (by decide) ?_
                refine go_lcmp (pc' := 174) dX4_countCommon_173 rfl ?_
                refine go_if_ge (pc' := 177) (tgt := 188) dX4_countCommon_174 (by decide) rfl (fun c185 => ?_) (fun c185 => ?_)
                · have hf := it c185 hf
                  refine go_iconst (v := 1) (pc' := 189) dX4_countCommon_188 rfl (by decide) ?_
                  obtain rfl := Option.some.inj hf
                  exact Go.ret (v := some (.int _)) dX4_countCommon_189 ⟨_, rfl⟩ ⟨rfl, rfl, R⟩
                · have hf := ie c185 hf
                  refine go_lload (pc' := 179) dX4_countCommon_177 rfl rfl ?_
                  refine go_lconst (v := 0) (pc' := 180) dX4_countCommon_179 rfl (by decide) ?_
                  refine go_lcmp (pc' := 181) dX4_countCommon_180 rfl ?_
                  refine go_if_ge (pc' := 184) (tgt := 188) dX4_countCommon_181 (by decide) rfl (fun c186 => ?_) (fun c186 => ?_)
                  · have hf := it c186 hf
                    refine go_iconst (v := 1) (pc' := 189) dX4_countCommon_188 rfl (by decide) ?_
                    obtain rfl := Option.some.inj hf
                    exact Go.ret (v := some (.int _)) dX4_countCommon_189 ⟨_, rfl⟩ ⟨rfl, rfl, R⟩
                  · have hf := ie c186 hf
                    refine go_iconst (v := 0) (pc' := 185) dX4_countCommon_184 rfl (by decide) ?_
                    refine go_goto (pc' := 0) (tgt := 189) dX4_countCommon_185 (by decide) ?_
                    obtain rfl := Option.some.inj hf
                    exact Go.ret (v := some (.int _)) dX4_countCommon_189 ⟨_, rfl⟩ ⟨rfl, rfl, R⟩
          · have hf := ie c166 hf
            refine go_lload (pc' := 103) dX4_countCommon_101 rfl rfl ?_
            refine go_lconst (v := 0) (pc' := 104) dX4_countCommon_103 rfl (by decide) ?_
            refine go_lcmp (pc' := 105) dX4_countCommon_104 rfl ?_
            refine go_if_ge (pc' := 108) (tgt := 110) dX4_countCommon_105 (by decide) rfl (fun c187 => ?_) (fun c187 => ?_)
            · have hf := it c187 hf
              refine go_aload_n (i := 2) (pc' := 111) dX4_countCommon_110 rfl rfl rfl ?_
              refine go_iload_n (i := 3) (pc' := 112) dX4_countCommon_111 rfl rfl rfl ?_
              refine go_aload_n (i := 0) (pc' := 113) dX4_countCommon_112 rfl rfl rfl ?_
              refine go_getS (pc' := 116) dX4_countCommon_113 rfl gf_LandBase_Plane_9 R g0.at (by decide) rfl ?_
              refine go_iload_n (i := 1) (pc' := 117) dX4_countCommon_116 rfl rfl rfl ?_
              obtain ⟨g188, hf⟩ := gd_some hf
              refine go_ialoadS (pc' := 118) dX4_countCommon_117 rfl R g0.x g188 ?_
              refine go_i2l (pc' := 119) dX4_countCommon_118 rfl rfl ?_
              refine go_aload_n (i := 0) (pc' := 120) dX4_countCommon_119 rfl rfl rfl ?_
              refine go_getS (pc' := 123) dX4_countCommon_120 rfl gf_LandBase_Plane_15 R g0.at (by decide) rfl ?_
              refine go_iload_n (i := 1) (pc' := 124) dX4_countCommon_123 rfl rfl rfl ?_
              obtain ⟨g189, hf⟩ := gd_some hf
              refine go_ialoadS (pc' := 125) dX4_countCommon_124 rfl R g0.y g189 ?_
              refine go_i2l (pc' := 126) dX4_countCommon_125 rfl rfl ?_
              obtain ⟨v190, σ191, e192, hf⟩ := bd_some hf
              refine go_invS (As := [_, _, _, _]) (pc' := 129) dX4_countCommon_126 rfl cf_X4_countCommon_24 rfl rfl (Nat.le_of_ble_eq_true rfl) (c_X4_sideOf R e192) (fun q193v h194 q193 => ?_)
              obtain ⟨rfl, R⟩ := q193
              refine go_lstoreE rfl (pc' := 131) dX4_countCommon_129 rfl (by decide) rfl ?_
              refine go_aload_n (i := 2) (pc' := 132) dX4_countCommon_131 rfl rfl rfl ?_
              refine go_iload_n (i := 3) (pc' := 133) dX4_countCommon_132 rfl rfl rfl ?_
              refine go_aload_n (i := 0) (pc' := 134) dX4_countCommon_133 rfl rfl rfl ?_
              refine go_getS (pc' := 137) dX4_countCommon_134 rfl gf_LandBase_Plane_9 R g0.at (by decide) rfl ?_
              refine go_iload_n (i := 1) (pc' := 138) dX4_countCommon_137 rfl rfl rfl ?_
              refine go_iconst (v := 1) (pc' := 139) dX4_countCommon_138 rfl (by decide) ?_
              refine go_iadd (pc' := 140) dX4_countCommon_139 rfl ?_
              obtain ⟨g195, hf⟩ := gd_some hf
              refine go_ialoadS (pc' := 141) dX4_countCommon_140 rfl R g0.x g195 ?_
              refine go_i2l (pc' := 142) dX4_countCommon_141 rfl rfl ?_
              refine go_aload_n (i := 0) (pc' := 143) dX4_countCommon_142 rfl rfl rfl ?_
              refine go_getS (pc' := 146) dX4_countCommon_143 rfl gf_LandBase_Plane_15 R g0.at (by decide) rfl ?_
              refine go_iload_n (i := 1) (pc' := 147) dX4_countCommon_146 rfl rfl rfl ?_
              refine go_iconst (v := 1) (pc' := 148) dX4_countCommon_147 rfl (by decide) ?_
              refine go_iadd (pc' := 149) dX4_countCommon_148 rfl ?_
              obtain ⟨g196, hf⟩ := gd_some hf
              refine go_ialoadS (pc' := 150) dX4_countCommon_149 rfl R g0.y g196 ?_
              refine go_i2l (pc' := 151) dX4_countCommon_150 rfl rfl ?_
              obtain ⟨v197, σ198, e199, hf⟩ := bd_some hf
              refine go_invS (As := [_, _, _, _]) (pc' := 154) dX4_countCommon_151 rfl cf_X4_countCommon_24 rfl rfl (Nat.le_of_ble_eq_true rfl) (c_X4_sideOf R e199) (fun q200v h201 q200 => ?_)
              obtain ⟨rfl, R⟩ := q200
              refine go_lstoreE rfl (pc' := 156) dX4_countCommon_154 rfl (by decide) rfl ?_
              refine go_lload (pc' := 158) dX4_countCommon_156 rfl rfl ?_
              refine go_lconst (v := 0) (pc' := 159) dX4_countCommon_158 rfl (by decide) ?_
              refine go_lcmp (pc' := 160) dX4_countCommon_159 rfl ?_
              refine go_if_le (pc' := 163) (tgt := 170) dX4_countCommon_160 (by decide) rfl (fun c202 => ?_) (fun c202 => ?_)
              · have hf := it c202 hf
                refine go_lload (pc' := 172) dX4_countCommon_170 rfl rfl ?_
                refine go_lconst (v := 0) (pc' := 173) dX4_countCommon_172 rfl (by decide) ?_
                refine go_lcmp (pc' := 174) dX4_countCommon_173 rfl ?_
                refine go_if_ge (pc' := 177) (tgt := 188) dX4_countCommon_174 (by decide) rfl (fun c203 => ?_) (fun c203 => ?_)
                · have hf := it c203 hf
                  refine go_iconst (v := 1) (pc' := 189) dX4_countCommon_188 rfl (by decide) ?_
                  obtain rfl := Option.some.inj hf
                  exact Go.ret (v := some (.int _)) dX4_countCommon_189 ⟨_, rfl⟩ ⟨rfl, rfl, R⟩
                · have hf := ie c203 hf
                  refine go_lload (pc' := 179) dX4_countCommon_177 rfl rfl ?_
                  refine go_lconst (v := 0) (pc' := 180) dX4_countCommon_179 rfl (by decide) ?_
                  refine go_lcmp (pc' := 181) dX4_countCommon_180 rfl ?_
                  refine go_if_ge (pc' := 184) (tgt := 188) dX4_countCommon_181 (by decide) rfl (fun c204 => ?_) (fun c204 => ?_)
                  · have hf := it c204 hf
                    refine go_iconst (v := 1) (pc' := 189) dX4_countCommon_188 rfl (by decide) ?_
                    obtain rfl := Option.some.inj hf
                    exact Go.ret (v := some (.int _)) dX4_countCommon_189 ⟨_, rfl⟩ ⟨rfl, rfl, R⟩
                  · have hf := ie c204 hf
                    refine go_iconst (v := 0) (pc' := 185) dX4_countCommon_184 rfl (by decide) ?_
                    refine go_goto (pc' := 0) (tgt := 189) dX4_countCommon_185 (by decide) ?_
                    obtain rfl := Option.some.inj hf
                    exact Go.ret (v := some (.int _)) dX4_countCommon_189 ⟨_, rfl⟩ ⟨rfl, rfl, R⟩
              · have hf := ie c202 hf
                refine go_lload (pc' := 165) dX4_countCommon_163 rfl rfl ?_
                refine go_lconst (v := 0) (pc' := 166) dX4_countCommon_165 rfl (by decide) ?_
                refine go_lcmp (pc' := 167) dX4_countCommon_166 rfl ?_
                refine go_if_gt (pc' := 170) (tgt := 184) dX4_countCommon_167 (by decide) rfl (fun c205 => ?_) (fun c205 => ?_)
                · have hf := it c205 hf
                  refine go_iconst (v := 0) (pc' := 185) dX4_countCommon_184 rfl (by decide) ?_
                  refine go_goto (pc' := 0) (tgt := 189) dX4_countCommon_185 (by decide) ?_
                  obtain rfl := Option.some.inj hf
                  exact Go.ret (v := some (.int _)) dX4_countCommon_189 ⟨_, rfl⟩ ⟨rfl, rfl, R⟩
                · have hf := ie c205 hf
                  refine go_lload (pc' := 172) dX4_countCommon_170 rfl rfl ?_
                  refine go_lconst (v := 0) (pc' := 173) dX4_countCommon_172 rfl (by decide) ?_
                  refine go_lcmp (pc' := 174) dX4_countCommon_173 rfl ?_
                  refine go_if_ge (pc' := 177) (tgt := 188) dX4_countCommon_174 (by decide) rfl (fun c206 => ?_) (fun c206 => ?_)
                  · have hf := it c206 hf
                    refine go_iconst (v := 1) (pc' := 189) dX4_countCommon_188 rfl (by decide) ?_
                    obtain rfl := Option.some.inj hf
                    exact Go.ret (v := some (.int _)) dX4_countCommon_189 ⟨_, rfl⟩ ⟨rfl, rfl, R⟩
                  · have hf := ie c206 hf
                    refine go_lload (pc' := 179) dX4_countCommon_177 rfl rfl ?_
                    refine go_lconst (v := 0) (pc' := 180) dX4_countCommon_179 rfl (by decide) ?_
                    refine go_lcmp (pc' := 181) dX4_countCommon_180 rfl ?_
                    refine go_if_ge (pc' := 184) (tgt := 188) dX4_countCommon_181 (by decide) rfl (fun c207 => ?_) (fun c207 => ?_)
                    · have hf := it c207 hf
                      refine go_iconst (v := 1) (pc' := 189) dX4_countCommon_188 rfl (by decide) ?_
                      obtain rfl := Option.some.inj hf
                      exact Go.ret (v := some (.int _)) dX4_countCommon_189 ⟨_, rfl⟩ ⟨rfl, rfl, R⟩
                    · have hf := ie c207 hf
                      refine go_iconst (v := 0) (pc' := 185) dX4_countCommon_184 rfl (by decide) ?_
                      refine go_goto (pc' := 0) (tgt := 189) dX4_countCommon_185 (by decide) ?_
                      obtain rfl := Option.some.inj hf
                      exact Go.ret (v := some (.int _)) dX4_countCommon_189 ⟨_, rfl⟩ ⟨rfl, rfl, R⟩
            · have hf := ie c187 hf
              refine go_iconst (v := 0) (pc' := 109) dX4_countCommon_108 rfl (by decide) ?_
              obtain rfl := Option.some.inj hf
              exact Go.ret (v := some (.int _)) dX4_countCommon_109 ⟨_, rfl⟩ ⟨rfl, rfl, R⟩
    · have hf := it c121 hf
      refine go_lload (pc' := 67) dX4_countCommon_65 rfl rfl ?_
      refine go_lconst (v := 0) (pc' := 68) dX4_countCommon_67 rfl (by decide) ?_
      refine go_lcmp (pc' := 69) dX4_countCommon_68 rfl ?_
      refine go_if_ne (pc' := 72) (tgt := 80) dX4_countCommon_69 (by decide) rfl (fun c208 => ?_) (fun c208 => ?_)
      · have hf := ie c208 hf
        refine go_lload (pc' := 82) dX4_countCommon_80 rfl rfl ?_
        refine go_lconst (v := 0) (pc' := 83) dX4_countCommon_82 rfl (by decide) ?_
        refine go_lcmp (pc' := 84) dX4_countCommon_83 rfl ?_
        refine go_if_le (pc' := 87) (tgt := 94) dX4_countCommon_84 (by decide) rfl (fun c209 => ?_) (fun c209 => ?_)
        · have hf := it c209 hf
          refine go_lload (pc' := 96) dX4_countCommon_94 rfl rfl ?_
          refine go_lconst (v := 0) (pc' := 97) dX4_countCommon_96 rfl (by decide) ?_
          refine go_lcmp (pc' := 98) dX4_countCommon_97 rfl ?_
          refine go_if_ge (pc' := 101) (tgt := 110) dX4_countCommon_98 (by decide) rfl (fun c210 => ?_) (fun c210 => ?_)
          · have hf := it c210 hf
            refine go_aload_n (i := 2) (pc' := 111) dX4_countCommon_110 rfl rfl rfl ?_
            refine go_iload_n (i := 3) (pc' := 112) dX4_countCommon_111 rfl rfl rfl ?_
            refine go_aload_n (i := 0) (pc' := 113) dX4_countCommon_112 rfl rfl rfl ?_
            refine go_getS (pc' := 116) dX4_countCommon_113 rfl gf_LandBase_Plane_9 R g0.at (by decide) rfl ?_
            refine go_iload_n (i := 1) (pc' := 117) dX4_countCommon_116 rfl rfl rfl ?_
            obtain ⟨g211, hf⟩ := gd_some hf
            refine go_ialoadS (pc' := 118) dX4_countCommon_117 rfl R g0.x g211 ?_
            refine go_i2l (pc' := 119) dX4_countCommon_118 rfl rfl ?_
            refine go_aload_n (i := 0) (pc' := 120) dX4_countCommon_119 rfl rfl rfl ?_
            refine go_getS (pc' := 123) dX4_countCommon_120 rfl gf_LandBase_Plane_15 R g0.at (by decide) rfl ?_
            refine go_iload_n (i := 1) (pc' := 124) dX4_countCommon_123 rfl rfl rfl ?_
            obtain ⟨g212, hf⟩ := gd_some hf
            refine go_ialoadS (pc' := 125) dX4_countCommon_124 rfl R g0.y g212 ?_
            refine go_i2l (pc' := 126) dX4_countCommon_125 rfl rfl ?_
            obtain ⟨v213, σ214, e215, hf⟩ := bd_some hf
            refine go_invS (As := [_, _, _, _]) (pc' := 129) dX4_countCommon_126 rfl cf_X4_countCommon_24 rfl rfl (Nat.le_of_ble_eq_true rfl) (c_X4_sideOf R e215) (fun q216v h217 q216 => ?_)
            obtain ⟨rfl, R⟩ := q216
            refine go_lstoreE rfl (pc' := 131) dX4_countCommon_129 rfl (by decide) rfl ?_
            refine go_aload_n (i := 2) (pc' := 132) dX4_countCommon_131 rfl rfl rfl ?_
            refine go_iload_n (i := 3) (pc' := 133) dX4_countCommon_132 rfl rfl rfl ?_
            refine go_aload_n (i := 0) (pc' := 134) dX4_countCommon_133 rfl rfl rfl ?_
            refine go_getS (pc' := 137) dX4_countCommon_134 rfl gf_LandBase_Plane_9 R g0.at (by decide) rfl ?_
            refine go_iload_n (i := 1) (pc' := 138) dX4_countCommon_137 rfl rfl rfl ?_
            refine go_iconst (v := 1) (pc' := 139) dX4_countCommon_138 rfl (by decide) ?_
            refine go_iadd (pc' := 140) dX4_countCommon_139 rfl ?_
            obtain ⟨g218, hf⟩ := gd_some hf
            refine go_ialoadS (pc' := 141) dX4_countCommon_140 rfl R g0.x g218 ?_
            refine go_i2l (pc' := 142) dX4_countCommon_141 rfl rfl ?_
            refine go_aload_n (i := 0) (pc' := 143) dX4_countCommon_142 rfl rfl rfl ?_
            refine go_getS (pc' := 146) dX4_countCommon_143 rfl gf_LandBase_Plane_15 R g0.at (by decide) rfl ?_
            refine go_iload_n (i := 1) (pc' := 147) dX4_countCommon_146 rfl rfl rfl ?_
            refine go_iconst (v := 1) (pc' := 148) dX4_countCommon_147 rfl (by decide) ?_
            refine go_iadd (pc' := 149) dX4_countCommon_148 rfl ?_
            obtain ⟨g219, hf⟩ := gd_some hf
            refine go_ialoadS (pc' := 150) dX4_countCommon_149 rfl R g0.y g219 ?_
            refine go_i2l (pc' := 151) dX4_countCommon_150 rfl rfl ?_
            obtain ⟨v220, σ221, e222, hf⟩ := bd_some hf
            refine go_invS (As := [_, _, _, _]) (pc' := 154) dX4_countCommon_151 rfl cf_X4_countCommon_24 rfl rfl (Nat.le_of_ble_eq_true rfl) (c_X4_sideOf R e222) (fun q223v h224 q223 => ?_)
            obtain ⟨rfl, R⟩ := q223
            refine go_lstoreE rfl (pc' := 156) dX4_countCommon_154 rfl (by decide) rfl ?_
            refine go_lload (pc' := 158) dX4_countCommon_156 rfl rfl ?_
            refine go_lconst (v := 0) (pc' := 159) dX4_countCommon_158 rfl (by decide) ?_
            refine go_lcmp (pc' := 160) dX4_countCommon_159 rfl ?_
            refine go_if_le (pc' := 163) (tgt := 170) dX4_countCommon_160 (by decide) rfl (fun c225 => ?_) (fun c225 => ?_)
            · have hf := it c225 hf
              refine go_lload (pc' := 172) dX4_countCommon_170 rfl rfl ?_
              refine go_lconst (v := 0) (pc' := 173) dX4_countCommon_172 rfl (by decide) ?_
              refine go_lcmp (pc' := 174) dX4_countCommon_173 rfl ?_
              refine go_if_ge (pc' := 177) (tgt := 188) dX4_countCommon_174 (by decide) rfl (fun c226 => ?_) (fun c226 => ?_)
              · have hf := it c226 hf
                refine go_iconst (v := 1) (pc' := 189) dX4_countCommon_188 rfl (by decide) ?_
                obtain rfl := Option.some.inj hf
                exact Go.ret (v := some (.int _)) dX4_countCommon_189 ⟨_, rfl⟩ ⟨rfl, rfl, R⟩
              · have hf := ie c226 hf
                refine go_lload (pc' := 179) dX4_countCommon_177 rfl rfl ?_
                refine go_lconst (v := 0) (pc' := 180) dX4_countCommon_179 rfl (by decide) ?_
                refine go_lcmp (pc' := 181) dX4_countCommon_180 rfl ?_
                refine go_if_ge (pc' := 184) (tgt := 188) dX4_countCommon_181 (by decide) rfl (fun c227 => ?_) (fun c227 => ?_)
                · have hf := it c227 hf
                  refine go_iconst (v := 1) (pc' := 189) dX4_countCommon_188 rfl (by decide) ?_
                  obtain rfl := Option.some.inj hf
                  exact Go.ret (v := some (.int _)) dX4_countCommon_189 ⟨_, rfl⟩ ⟨rfl, rfl, R⟩
                · have hf := ie c227 hf
                  refine go_iconst (v := 0) (pc' := 185) dX4_countCommon_184 rfl (by decide) ?_
                  refine go_goto (pc' := 0) (tgt := 189) dX4_countCommon_185 (by decide) ?_
                  obtain rfl := Option.some.inj hf
                  exact Go.ret (v := some (.int _)) dX4_countCommon_189 ⟨_, rfl⟩ ⟨rfl, rfl, R⟩
            · have hf := ie c225 hf
              refine go_lload (pc' := 165) dX4_countCommon_163 rfl rfl ?_
              refine go_lconst (v := 0) (pc' := 166) dX4_countCommon_165 rfl (by decide) ?_
              refine go_lcmp (pc' := 167) dX4_countCommon_166 rfl ?_
              refine go_if_gt (pc' := 170) (tgt := 184) dX4_countCommon_167 (by decide) rfl (fun c228 => ?_) (fun c228 => ?_)
              · have hf := it c228 hf
                refine go_iconst (v := 0) (pc' := 185) dX4_countCommon_184 rfl (by decide) ?_
                refine go_goto (pc' := 0) (tgt := 189) dX4_countCommon_185 (by decide) ?_
                obtain rfl := Option.some.inj hf
                exact Go.ret (v := some (.int _)) dX4_countCommon_189 ⟨_, rfl⟩ ⟨rfl, rfl, R⟩
              · have hf := ie c228 hf
                refine go_lload (pc' := 172) dX4_countCommon_170 rfl rfl ?_
                refine go_lconst (v := 0) (pc' := 173) dX4_countCommon_172 rfl (by decide) ?_
                refine go_lcmp (pc' := 174) dX4_countCommon_173 rfl ?_
                refine go_if_ge (pc' := 177) (tgt := 188) dX4_countCommon_174 (by decide) rfl (fun c229 => ?_) (fun c229 => ?_)
                · have hf := it c229 hf
                  refine go_iconst (v := 1) (pc' := 189) dX4_countCommon_188 rfl (by decide) ?_
                  obtain rfl := Option.some.inj hf
                  exact Go.ret (v := some (.int _)) dX4_countCommon_189 ⟨_, rfl⟩ ⟨rfl, rfl, R⟩
                · have hf := ie c229 hf
                  refine go_lload (pc' := 179) dX4_countCommon_177 rfl rfl ?_
                  refine go_lconst (v := 0) (pc' := 180) dX4_countCommon_179 rfl (by decide) ?_
                  refine go_lcmp (pc' := 181) dX4_countCommon_180 rfl ?_
                  refine go_if_ge (pc' := 184) (tgt := 188) dX4_countCommon_181 (by decide) rfl (fun c230 => ?_) (fun c230 => ?_)
                  · have hf := it c230 hf
                    refine go_iconst (v := 1) (pc' := 189) dX4_countCommon_188 rfl (by decide) ?_
                    obtain rfl := Option.some.inj hf
                    exact Go.ret (v := some (.int _)) dX4_countCommon_189 ⟨_, rfl⟩ ⟨rfl, rfl, R⟩
                  · have hf := ie c230 hf
                    refine go_iconst (v := 0) (pc' := 185) dX4_countCommon_184 rfl (by decide) ?_
                    refine go_goto (pc' := 0) (tgt := 189) dX4_countCommon_185 (by decide) ?_
                    obtain rfl := Option.some.inj hf
                    exact Go.ret (v := some (.int _)) dX4_countCommon_189 ⟨_, rfl⟩ ⟨rfl, rfl, R⟩
          · have hf := ie c210 hf
            refine go_lload (pc' := 103) dX4_countCommon_101 rfl rfl ?_
            refine go_lconst (v := 0) (pc' := 104) dX4_countCommon_103 rfl (by decide) ?_
            refine go_lcmp (pc' := 105) dX4_countCommon_104 rfl ?_
            refine go_if_ge (pc' := 108) (tgt := 110) dX4_countCommon_105 (by decide) rfl (fun c231 => ?_) (fun c231 => ?_)
            · have hf := it c231 hf
              refine go_aload_n (i := 2) (pc' := 111) dX4_countCommon_110 rfl rfl rfl ?_
              refine go_iload_n (i := 3) (pc' := 112) dX4_countCommon_111 rfl rfl rfl ?_
              refine go_aload_n (i := 0) (pc' := 113) dX4_countCommon_112 rfl rfl rfl ?_
              refine go_getS (pc' := 116) dX4_countCommon_113 rfl gf_LandBase_Plane_9 R g0.at (by decide) rfl ?_
              refine go_iload_n (i := 1) (pc' := 117) dX4_countCommon_116 rfl rfl rfl ?_
              obtain ⟨g232, hf⟩ := gd_some hf
              refine go_ialoadS (pc' := 118) dX4_countCommon_117 rfl R g0.x g232 ?_
              refine go_i2l (pc' := 119) dX4_countCommon_118 rfl rfl ?_
              refine go_aload_n (i := 0) (pc' := 120) dX4_countCommon_119 rfl rfl rfl ?_
              refine go_getS (pc' := 123) dX4_countCommon_120 rfl gf_LandBase_Plane_15 R g0.at (by decide) rfl ?_
              refine go_iload_n (i := 1) (pc' := 124) dX4_countCommon_123 rfl rfl rfl ?_
              obtain ⟨g233, hf⟩ := gd_some hf
              refine go_ialoadS (pc' := 125) dX4_countCommon_124 rfl R g0.y g233 ?_
              refine go_i2l (pc' := 126) dX4_countCommon_125 rfl rfl ?_
              obtain ⟨v234, σ235, e236, hf⟩ := bd_some hf
              refine go_invS (As := [_, _, _, _]) (pc' := 129) dX4_countCommon_126 rfl cf_X4_countCommon_24 rfl rfl (Nat.le_of_ble_eq_true rfl) (c_X4_sideOf R e236) (fun q237v h238 q237 => ?_)
              obtain ⟨rfl, R⟩ := q237
              refine go_lstoreE rfl (pc' := 131) dX4_countCommon_129 rfl (by decide) rfl ?_
              refine go_aload_n (i := 2) (pc' := 132) dX4_countCommon_131 rfl rfl rfl ?_
              refine go_iload_n (i := 3) (pc' := 133) dX4_countCommon_132 rfl rfl rfl ?_
              refine go_aload_n (i := 0) (pc' := 134) dX4_countCommon_133 rfl rfl rfl ?_
              refine go_getS (pc' := 137) dX4_countCommon_134 rfl gf_LandBase_Plane_9 R g0.at (by decide) rfl ?_
              refine go_iload_n (i := 1) (pc' := 138) dX4_countCommon_137 rfl rfl rfl ?_
              refine go_iconst (v := 1) (pc' := 139) dX4_countCommon_138 rfl (by decide) ?_
              refine go_iadd (pc' := 140) dX4_countCommon_139 rfl ?_
              obtain ⟨g239, hf⟩ := gd_some hf
              refine go_ialoadS (pc' := 141) dX4_countCommon_140 rfl R g0.x g239 ?_
              refine go_i2l (pc' := 142) dX4_countCommon_141 rfl rfl ?_
              refine go_aload_n (i := 0) (pc' := 143) dX4_countCommon_142 rfl rfl rfl ?_
              refine go_getS (pc' := 146) dX4_countCommon_143 rfl gf_LandBase_Plane_15 R g0.at (by decide) rfl ?_
              refine go_iload_n (i := 1) (pc' := 147) dX4_countCommon_146 rfl rfl rfl ?_
              refine go_iconst (v := 1) (pc' := 148) dX4_countCommon_147 rfl (by decide) ?_
              refine go_iadd (pc' := 149) dX4_countCommon_148 rfl ?_
              obtain ⟨g240, hf⟩ := gd_some hf
              refine go_ialoadS (pc' := 150) dX4_countCommon_149 rfl R g0.y g240 ?_
              refine go_i2l (pc' := 151) dX4_countCommon_150 rfl rfl ?_
              obtain ⟨v241, σ242, e243, hf⟩ := bd_some hf
              refine go_invS (As := [_, _, _, _]) (pc' := 154) dX4_countCommon_151 rfl cf_X4_countCommon_24 rfl rfl (Nat.le_of_ble_eq_true rfl) (c_X4_sideOf R e243) (fun q244v h245 q244 => ?_)
              obtain ⟨rfl, R⟩ := q244
              refine go_lstoreE rfl (pc' := 156) dX4_countCommon_154 rfl (by decide) rfl ?_
              refine go_lload (pc' := 158) dX4_countCommon_156 rfl rfl ?_
              refine go_lconst (v := 0) (pc' := 159) dX4_countCommon_158 rfl (by decide) ?_
              refine go_lcmp (pc' := 160) dX4_countCommon_159 rfl ?_
              refine go_if_le (pc' := 163) (tgt := 170) dX4_countCommon_160 (by decide) rfl (fun c246 => ?_) (fun c246 => ?_)
              · have hf := it c246 hf
                refine go_lload (pc' := 172) dX4_countCommon_170 rfl rfl ?_
                refine go_lconst (v := 0) (pc' := 173) dX4_countCommon_172 rfl (by decide) ?_
                refine go_lcmp (pc' := 174) dX4_countCommon_173 rfl ?_
                refine go_if_ge (pc' := 177) (tgt := 188) dX4_countCommon_174 (by decide) rfl (fun c247 => ?_) (fun c247 => ?_)
                · have hf := it c247 hf
                  refine go_iconst (v := 1) (pc' := 189) dX4_countCommon_188 rfl (by decide) ?_
                  obtain rfl := Option.some.inj hf
                  exact Go.ret (v := some (.int _)) dX4_countCommon_189 ⟨_, rfl⟩ ⟨rfl, rfl, R⟩
                · have hf := ie c247 hf
                  refine go_lload (pc' := 179) dX4_countCommon_177 rfl rfl ?_
                  refine go_lconst (v := 0) (pc' := 180) dX4_countCommon_179 rfl (by decide) ?_
                  refine go_lcmp (pc' := 181) dX4_countCommon_180 rfl ?_
                  refine go_if_ge (pc' := 184) (tgt := 188) dX4_countCommon_181 (by decide) rfl (fun c248 => ?_) (fun c248 => ?_)
                  · have hf := it c248 hf
                    refine go_iconst (v := 1) (pc' := 189) dX4_countCommon_188 rfl (by decide) ?_
                    obtain rfl := Option.some.inj hf
                    exact Go.ret (v := some (.int _)) dX4_countCommon_189 ⟨_, rfl⟩ ⟨rfl, rfl, R⟩
                  · have hf := ie c248 hf
                    refine go_iconst (v := 0) (pc' := 185) dX4_countCommon_184 rfl (by decide) ?_
                    refine go_goto (pc' := 0) (tgt := 189) dX4_countCommon_185 (by decide) ?_
                    obtain rfl := Option.some.inj hf
                    exact Go.ret (v := some (.int _)) dX4_countCommon_189 ⟨_, rfl⟩ ⟨rfl, rfl, R⟩
              · have hf := ie c246 hf
                refine go_lload (pc' := 165) dX4_countCommon_163 rfl rfl ?_
                refine go_lconst (v := 0) (pc' := 166) dX4_countCommon_165 rfl (by decide) ?_
                refine go_lcmp (pc' := 167) dX4_countCommon_166 rfl ?_
                refine go_if_gt (pc' := 170) (tgt := 184) dX4_countCommon_167 (by decide) rfl (fun c249 => ?_) (fun c249 => ?_)
                · have hf := it c249 hf
                  refine go_iconst (v := 0) (pc' := 185) dX4_countCommon_184 rfl (by decide) ?_
                  refine go_goto (pc' := 0) (tgt := 189) dX4_countCommon_185 (by decide) ?_
                  obtain rfl := Option.some.inj hf
                  exact Go.ret (v := some (.int _)) dX4_countCommon_189 ⟨_, rfl⟩ ⟨rfl, rfl, R⟩
                · have hf := ie c249 hf
                  refine go_lload (pc' := 172) dX4_countCommon_170 rfl rfl ?_
                  refine go_lconst (v := 0) (pc' := 173) dX4_countCommon_172 rfl (by decide) ?_
                  refine go_lcmp (pc' := 174) dX4_countCommon_173 rfl ?_
                  refine go_if_ge (pc' := 177) (tgt := 188) dX4_countCommon_174 (by decide) rfl (fun c250 => ?_) (fun c250 => ?_)
                  · have hf := it c250 hf
                    refine go_iconst (v := 1) (pc' := 189) dX4_countCommon_188 rfl (by decide) ?_
                    obtain rfl := Option.some.inj hf
                    exact Go.ret (v := some (.int _)) dX4_countCommon_189 ⟨_, rfl⟩ ⟨rfl, rfl, R⟩
                  · have hf := ie c250 hf
                    refine go_lload (pc' := 179) dX4_countCommon_177 rfl rfl ?_
                    refine go_lconst (v := 0) (pc' := 180) dX4_countCommon_179 rfl (by decide) ?_
                    refine go_lcmp (pc' := 181) dX4_countCommon_180 rfl ?_
                    refine go_if_ge (pc' := 184) (tgt := 188) dX4_countCommon_181 (by decide) rfl (fun c251 => ?_) (fun c251 => ?_)
                    · have hf := it c251 hf
                      refine go_iconst (v := 1) (pc' := 189) dX4_countCommon_188 rfl (by decide) ?_
                      obtain rfl := Option.some.inj hf
                      exact Go.ret (v := some (.int _)) dX4_countCommon_189 ⟨_, rfl⟩ ⟨rfl, rfl, R⟩
                    · have hf := ie c251 hf
                      refine go_iconst (v := 0) (pc' := 185) dX4_countCommon_184 rfl (by decide) ?_
                      refine go_goto (pc' := 0) (tgt := 189) dX4_countCommon_185 (by decide) ?_
                      obtain rfl := Option.some.inj hf
                      exact Go.ret (v := some (.int _)) dX4_countCommon_189 ⟨_, rfl⟩ ⟨rfl, rfl, R⟩
            · have hf := ie c231 hf
              refine go_iconst (v := 0) (pc' := 109) dX4_countCommon_108 rfl (by decide) ?_
              obtain rfl := Option.some.inj hf
              exact Go.ret (v := some (.int _)) dX4_countCommon_109 ⟨_, rfl⟩ ⟨rfl, rfl, R⟩
        · have hf := ie c209 hf
          refine go_lload (pc' := 89) dX4_countCommon_87 rfl rfl ?_
          refine go_lconst (v := 0) (pc' := 90) dX4_countCommon_89 rfl (by decide) ?_
          refine go_lcmp (pc' := 91) dX4_countCommon_90 rfl ?_
          refine go_if_gt (pc' := 94) (tgt := 108) dX4_countCommon_91 (by decide) rfl (fun c252 => ?_) (fun c252 => ?_)
          · have hf := it c252 hf
            refine go_iconst (v := 0) (pc' := 109) dX4_countCommon_108 rfl (by decide) ?_
            obtain rfl := Option.some.inj hf
            exact Go.ret (v := some (.int _)) dX4_countCommon_109 ⟨_, rfl⟩ ⟨rfl, rfl, R⟩
          · have hf := ie c252 hf
            refine go_lload (pc' := 96) dX4_countCommon_94 rfl rfl ?_
            refine go_lconst (v := 0) (pc' := 97) dX4_countCommon_96 rfl (by decide) ?_
            refine go_lcmp (pc' := 98) dX4_countCommon_97 rfl ?_
            refine go_if_ge (pc' := 101) (tgt := 110) dX4_countCommon_98 (by decide) rfl (fun c253 => ?_) (fun c253 => ?_)
            · have hf := it c253 hf
              refine go_aload_n (i := 2) (pc' := 111) dX4_countCommon_110 rfl rfl rfl ?_
              refine go_iload_n (i := 3) (pc' := 112) dX4_countCommon_111 rfl rfl rfl ?_
              refine go_aload_n (i := 0) (pc' := 113) dX4_countCommon_112 rfl rfl rfl ?_
              refine go_getS (pc' := 116) dX4_countCommon_113 rfl gf_LandBase_Plane_9 R g0.at (by decide) rfl ?_
              refine go_iload_n (i := 1) (pc' := 117) dX4_countCommon_116 rfl rfl rfl ?_
              obtain ⟨g254, hf⟩ := gd_some hf
              refine go_ialoadS (pc' := 118) dX4_countCommon_117 rfl R g0.x g254 ?_
              refine go_i2l (pc' := 119) dX4_countCommon_118 rfl rfl ?_
              refine go_aload_n (i := 0) (pc' := 120) dX4_countCommon_119 rfl rfl rfl ?_
              refine go_getS (pc' := 123) dX4_countCommon_120 rfl gf_LandBase_Plane_15 R g0.at (by decide) rfl ?_
              refine go_iload_n (i := 1) (pc' := 124) dX4_countCommon_123 rfl rfl rfl ?_
              obtain ⟨g255, hf⟩ := gd_some hf
              refine go_ialoadS (pc' := 125) dX4_countCommon_124 rfl R g0.y g255 ?_
              refine go_i2l (pc' := 126) dX4_countCommon_125 rfl rfl ?_
              obtain ⟨v256, σ257, e258, hf⟩ := bd_some hf
              refine go_invS (As := [_, _, _, _]) (pc' := 129) dX4_countCommon_126 rfl cf_X4_countCommon_24 rfl rfl (Nat.le_of_ble_eq_true rfl) (c_X4_sideOf R e258) (fun q259v h260 q259 => ?_)
              obtain ⟨rfl, R⟩ := q259
              refine go_lstoreE rfl (pc' := 131) dX4_countCommon_129 rfl (by decide) rfl ?_
              refine go_aload_n (i := 2) (pc' := 132) dX4_countCommon_131 rfl rfl rfl ?_
              refine go_iload_n (i := 3) (pc' := 133) dX4_countCommon_132 rfl rfl rfl ?_
              refine go_aload_n (i := 0) (pc' := 134) dX4_countCommon_133 rfl rfl rfl ?_
              refine go_getS (pc' := 137) dX4_countCommon_134 rfl gf_LandBase_Plane_9 R g0.at (by decide) rfl ?_
              refine go_iload_n (i := 1) (pc' := 138) dX4_countCommon_137 rfl rfl rfl ?_
              refine go_iconst (v := 1) (pc' := 139) dX4_countCommon_138 rfl (by decide) ?_
              refine go_iadd (pc' := 140) dX4_countCommon_139 rfl ?_
              obtain ⟨g261, hf⟩ := gd_some hf
              refine go_ialoadS (pc' := 141) dX4_countCommon_140 rfl R g0.x g261 ?_
              refine go_i2l (pc' := 142) dX4_countCommon_141 rfl rfl ?_
              refine go_aload_n (i := 0) (pc' := 143) dX4_countCommon_142 rfl rfl rfl ?_
              refine go_getS (pc' := 146) dX4_countCommon_143 rfl gf_LandBase_Plane_15 R g0.at (by decide) rfl ?_
              refine go_iload_n (i := 1) (pc' := 147) dX4_countCommon_146 rfl rfl rfl ?_
              refine go_iconst (v := 1) (pc' := 148) dX4_countCommon_147 rfl (by decide) ?_
              refine go_iadd (pc' := 149) dX4_countCommon_148 rfl ?_
              obtain ⟨g262, hf⟩ := gd_some hf
              refine go_ialoadS (pc' := 150) dX4_countCommon_149 rfl R g0.y g262 ?_
              refine go_i2l (pc' := 151) dX4_countCommon_150 rfl rfl ?_
              obtain ⟨v263, σ264, e265, hf⟩ := bd_some hf
              refine go_invS (As := [_, _, _, _]) (pc' := 154) dX4_countCommon_151 rfl cf_X4_countCommon_24 rfl rfl (Nat.le_of_ble_eq_true rfl) (c_X4_sideOf R e265) (fun q266v h267 q266 => ?_)
              obtain ⟨rfl, R⟩ := q266
              refine go_lstoreE rfl (pc' := 156) dX4_countCommon_154 rfl (by decide) rfl ?_
              refine go_lload (pc' := 158) dX4_countCommon_156 rfl rfl ?_
              refine go_lconst (v := 0) (pc' := 159) dX4_countCommon_158 rfl (by decide) ?_
              refine go_lcmp (pc' := 160) dX4_countCommon_159 rfl ?_
              refine go_if_le (pc' := 163) (tgt := 170) dX4_countCommon_160 (by decide) rfl (fun c268 => ?_) (fun c268 => ?_)
              · have hf := it c268 hf
                refine go_lload (pc' := 172) dX4_countCommon_170 rfl rfl ?_
                refine go_lconst (v := 0) (pc' := 173) dX4_countCommon_172 rfl (by decide) ?_
                refine go_lcmp (pc' := 174) dX4_countCommon_173 rfl ?_
                refine go_if_ge (pc' := 177) (tgt := 188) dX4_countCommon_174 (by decide) rfl (fun c269 => ?_) (fun c269 => ?_)
                · have hf := it c269 hf
                  refine go_iconst (v := 1) (pc' := 189) dX4_countCommon_188 rfl (by decide) ?_
                  obtain rfl := Option.some.inj hf
                  exact Go.ret (v := some (.int _)) dX4_countCommon_189 ⟨_, rfl⟩ ⟨rfl, rfl, R⟩
                · have hf := ie c269 hf
                  refine go_lload (pc' := 179) dX4_countCommon_177 rfl rfl ?_
                  refine go_lconst (v := 0) (pc' := 180) dX4_countCommon_179 rfl (by decide) ?_
                  refine go_lcmp (pc' := 181) dX4_countCommon_180 rfl ?_
                  refine go_if_ge (pc' := 184) (tgt := 188) dX4_countCommon_181 (by decide) rfl (fun c270 => ?_) (fun c270 => ?_)
                  · have hf := it c270 hf
                    refine go_iconst (v := 1) (pc' := 189) dX4_countCommon_188 rfl (by decide) ?_
                    obtain rfl := Option.some.inj hf
                    exact Go.ret (v := some (.int _)) dX4_countCommon_189 ⟨_, rfl⟩ ⟨rfl, rfl, R⟩
                  · have hf := ie c270 hf
                    refine go_iconst (v := 0) (pc' := 185) dX4_countCommon_184 rfl (by decide) ?_
                    refine go_goto (pc' := 0) (tgt := 189) dX4_countCommon_185 (by decide) ?_
                    obtain rfl := Option.some.inj hf
                    exact Go.ret (v := some (.int _)) dX4_countCommon_189 ⟨_, rfl⟩ ⟨rfl, rfl, R⟩
              · have hf := ie c268 hf
                refine go_lload (pc' := 165) dX4_countCommon_163 rfl rfl ?_
                refine go_lconst (v := 0) (pc' := 166) dX4_countCommon_165 rfl (by decide) ?_
                refine go_lcmp (pc' := 167) dX4_countCommon_166 rfl ?_
                refine go_if_gt (pc' := 170) (tgt := 184) dX4_countCommon_167 (by decide) rfl (fun c271 => ?_) (fun c271 => ?_)
                · have hf := it c271 hf
                  refine go_iconst (v := 0) (pc' := 185) dX4_countCommon_184 rfl (by decide) ?_
                  refine go_goto (pc' := 0) (tgt := 189) dX4_countCommon_185 (by decide) ?_
                  obtain rfl := Option.some.inj hf
                  exact Go.ret (v := some (.int _)) dX4_countCommon_189 ⟨_, rfl⟩ ⟨rfl, rfl, R⟩
                · have hf := ie c271 hf
                  refine go_lload (pc' := 172) dX4_countCommon_170 rfl rfl ?_
                  refine go_lconst (v := 0) (pc' := 173) dX4_countCommon_172 rfl (by decide) ?_
                  refine go_lcmp (pc' := 174) dX4_countCommon_173 rfl ?_
                  refine go_if_ge (pc' := 177) (tgt := 188) dX4_countCommon_174 (by decide) rfl (fun c272 => ?_) (fun c272 => ?_)
                  · have hf := it c272 hf
                    refine go_iconst (v := 1) (pc' := 189) dX4_countCommon_188 rfl (by decide) ?_
                    obtain rfl := Option.some.inj hf
                    exact Go.ret (v := some (.int _)) dX4_countCommon_189 ⟨_, rfl⟩ ⟨rfl, rfl, R⟩
                  · have hf := ie c272 hf
                    refine go_lload (pc' := 179) dX4_countCommon_177 rfl rfl ?_
                    refine go_lconst (v := 0) (pc' := 180) dX4_countCommon_179 rfl (by decide) ?_
                    refine go_lcmp (pc' := 181) dX4_countCommon_180 rfl ?_
                    refine go_if_ge (pc' := 184) (tgt := 188) dX4_countCommon_181 (by decide) rfl (fun c273 => ?_) (fun c273 => ?_)
                    · have hf := it c273 hf
                      refine go_iconst (v := 1) (pc' := 189) dX4_countCommon_188 rfl (by decide) ?_
                      obtain rfl := Option.some.inj hf
                      exact Go.ret (v := some (.int _)) dX4_countCommon_189 ⟨_, rfl⟩ ⟨rfl, rfl, R⟩
                    · have hf := ie c273 hf
                      refine go_iconst (v := 0) (pc' := 185) dX4_countCommon_184 rfl (by decide) ?_
                      refine go_goto (pc' := 0) (tgt := 189) dX4_countCommon_185 (by decide) ?_
                      obtain rfl := Option.some.inj hf
                      exact Go.ret (v := some (.int _)) dX4_countCommon_189 ⟨_, rfl⟩ ⟨rfl, rfl, R⟩
            · have hf := ie c253 hf
              refine go_lload (pc' := 103) dX4_countCommon_101 rfl rfl ?_
              refine go_lconst (v := 0) (pc' := 104) dX4_countCommon_103 rfl (by decide) ?_
              refine go_lcmp (pc' := 105) dX4_countCommon_104 rfl ?_
              refine go_if_ge (pc' := 108) (tgt := 110) dX4_countCommon_105 (by decide) rfl (fun c274 => ?_) (fun c274 => ?_)
              · have hf := it c274 hf
                refine go_aload_n (i := 2) (pc' := 111) dX4_countCommon_110 rfl rfl rfl ?_
                refine go_iload_n (i := 3) (pc' := 112) dX4_countCommon_111 rfl rfl rfl ?_
                refine go_aload_n (i := 0) (pc' := 113) dX4_countCommon_112 rfl rfl rfl ?_
                refine go_getS (pc' := 116) dX4_countCommon_113 rfl gf_LandBase_Plane_9 R g0.at (by decide) rfl ?_
                refine go_iload_n (i := 1) (pc' := 117) dX4_countCommon_116 rfl rfl rfl ?_
                obtain ⟨g275, hf⟩ := gd_some hf
                refine go_ialoadS (pc' := 118) dX4_countCommon_117 rfl R g0.x g275 ?_
                refine go_i2l (pc' := 119) dX4_countCommon_118 rfl rfl ?_
                refine go_aload_n (i := 0) (pc' := 120) dX4_countCommon_119 rfl rfl rfl ?_
                refine go_getS (pc' := 123) dX4_countCommon_120 rfl gf_LandBase_Plane_15 R g0.at (by decide) rfl ?_
                refine go_iload_n (i := 1) (pc' := 124) dX4_countCommon_123 rfl rfl rfl ?_
                obtain ⟨g276, hf⟩ := gd_some hf
                refine go_ialoadS (pc' := 125) dX4_countCommon_124 rfl R g0.y g276 ?_
                refine go_i2l (pc' := 126) dX4_countCommon_125 rfl rfl ?_
                obtain ⟨v277, σ278, e279, hf⟩ := bd_some hf
                refine go_invS (As := [_, _, _, _]) (pc' := 129) dX4_countCommon_126 rfl cf_X4_countCommon_24 rfl rfl (Nat.le_of_ble_eq_true rfl) (c_X4_sideOf R e279) (fun q280v h281 q280 => ?_)
                obtain ⟨rfl, R⟩ := q280
                refine go_lstoreE rfl (pc' := 131) dX4_countCommon_129 rfl (by decide) rfl ?_
                refine go_aload_n (i := 2) (pc' := 132) dX4_countCommon_131 rfl rfl rfl ?_
                refine go_iload_n (i := 3) (pc' := 133) dX4_countCommon_132 rfl rfl rfl ?_
                refine go_aload_n (i := 0) (pc' := 134) dX4_countCommon_133 rfl rfl rfl ?_
                refine go_getS (pc' := 137) dX4_countCommon_134 rfl gf_LandBase_Plane_9 R g0.at (by decide) rfl ?_
                refine go_iload_n (i := 1) (pc' := 138) dX4_countCommon_137 rfl rfl rfl ?_
                refine go_iconst (v := 1) (pc' := 139) dX4_countCommon_138 rfl (by decide) ?_
                refine go_iadd (pc' := 140) dX4_countCommon_139 rfl ?_
                obtain ⟨g282, hf⟩ := gd_some hf
                refine go_ialoadS (pc' := 141) dX4_countCommon_140 rfl R g0.x g282 ?_
                refine go_i2l (pc' := 142) dX4_countCommon_141 rfl rfl ?_
                refine go_aload_n (i := 0) (pc' := 143) dX4_countCommon_142 rfl rfl rfl ?_
                refine go_getS (pc' := 146) dX4_countCommon_143 rfl gf_LandBase_Plane_15 R g0.at (by decide) rfl ?_
                refine go_iload_n (i := 1) (pc' := 147) dX4_countCommon_146 rfl rfl rfl ?_
                refine go_iconst (v := 1) (pc' := 148) dX4_countCommon_147 rfl (by decide) ?_
                refine go_iadd (pc' := 149) dX4_countCommon_148 rfl ?_
                obtain ⟨g283, hf⟩ := gd_some hf
                refine go_ialoadS (pc' := 150) dX4_countCommon_149 rfl R g0.y g283 ?_
                refine go_i2l (pc' := 151) dX4_countCommon_150 rfl rfl ?_
                obtain ⟨v284, σ285, e286, hf⟩ := bd_some hf
                refine go_invS (As := [_, _, _, _]) (pc' := 154) dX4_countCommon_151 rfl cf_X4_countCommon_24 rfl rfl (Nat.le_of_ble_eq_true rfl) (c_X4_sideOf R e286) (fun q287v h288 q287 => ?_)
                obtain ⟨rfl, R⟩ := q287
                refine go_lstoreE rfl (pc' := 156) dX4_countCommon_154 rfl (by decide) rfl ?_
                refine go_lload (pc' := 158) dX4_countCommon_156 rfl rfl ?_
                refine go_lconst (v := 0) (pc' := 159) dX4_countCommon_158 rfl (by decide) ?_
                refine go_lcmp (pc' := 160) dX4_countCommon_159 rfl ?_
                refine go_if_le (pc' := 163) (tgt := 170) dX4_countCommon_160 (by decide) rfl (fun c289 => ?_) (fun c289 => ?_)
                · have hf := it c289 hf
                  refine go_lload (pc' := 172) dX4_countCommon_170 rfl rfl ?_
                  refine go_lconst (v := 0) (pc' := 173) dX4_countCommon_172 rfl (by decide) ?_
                  refine go_lcmp (pc' := 174) dX4_countCommon_173 rfl ?_
                  refine go_if_ge (pc' := 177) (tgt := 188) dX4_countCommon_174 (by decide) rfl (fun c290 => ?_) (fun c290 => ?_)
                  · have hf := it c290 hf
                    refine go_iconst (v := 1) (pc' := 189) dX4_countCommon_188 rfl (by decide) ?_
                    obtain rfl := Option.some.inj hf
                    exact Go.ret (v := some (.int _)) dX4_countCommon_189 ⟨_, rfl⟩ ⟨rfl, rfl, R⟩
                  · have hf := ie c290 hf
                    refine go_lload (pc' := 179) dX4_countCommon_177 rfl rfl ?_
                    refine go_lconst (v := 0) (pc' := 180) dX4_countCommon_179 rfl (by decide) ?_
                    refine go_lcmp (pc' := 181) dX4_countCommon_180 rfl ?_
                    refine go_if_ge (pc' := 184) (tgt := 188) dX4_countCommon_181 (by decide) rfl (fun c291 => ?_) (fun c291 => ?_)
                    · have hf := it c291 hf
                      refine go_iconst (v := 1) (pc' := 189) dX4_countCommon_188 rfl (by decide) ?_
                      obtain rfl := Option.some.inj hf
                      exact Go.ret (v := some (.int _)) dX4_countCommon_189 ⟨_, rfl⟩ ⟨rfl, rfl, R⟩
                    · have hf := ie c291 hf
                      refine go_iconst (v := 0) (pc' := 185) dX4_countCommon_184 rfl (by decide) ?_
                      refine go_goto (pc' := 0) (tgt := 189) dX4_countCommon_185 (by decide) ?_
                      obtain rfl := Option.some.inj hf
                      exact Go.ret (v := some (.int _)) dX4_countCommon_189 ⟨_, rfl⟩ ⟨rfl, rfl, R⟩
                · have hf := ie c289 hf
                  refine go_lload (pc' := 165) dX4_countCommon_163 rfl rfl ?_
                  refine go_lconst (v := 0) (pc' := 166) dX4_countCommon_165 rfl (by decide) ?_
                  refine go_lcmp (pc' := 167) dX4_countCommon_166 rfl ?_
                  refine go_if_gt (pc' := 170) (tgt := 184) dX4_countCommon_167 (by decide) rfl (fun c292 => ?_) (fun c292 => ?_)
                  · have hf := it c292 hf
                    refine go_iconst (v := 0) (pc' := 185) dX4_countCommon_184 rfl (by decide) ?_
                    refine go_goto (pc' := 0) (tgt := 189) dX4_countCommon_185 (by decide) ?_
                    obtain rfl := Option.some.inj hf
                    exact Go.ret (v := some (.int _)) dX4_countCommon_189 ⟨_, rfl⟩ ⟨rfl, rfl, R⟩
                  · have hf := ie c292 hf
                    refine go_lload (pc' := 172) dX4_countCommon_170 rfl rfl ?_
                    refine go_lconst (v := 0) (pc' := 173) dX4_countCommon_172 rfl (by decide) ?_
                    refine go_lcmp (pc' := 174) dX4_countCommon_173 rfl ?_
                    refine go_if_ge (pc' := 177) (tgt := 188) dX4_countCommon_174 (by decide) rfl (fun c293 => ?_) (fun c293 => ?_)
                    · have hf := it c293 hf
                      refine go_iconst (v := 1) (pc' := 189) dX4_countCommon_188 rfl (by decide) ?_
                      obtain rfl := Option.some.inj hf
                      exact Go.ret (v := some (.int _)) dX4_countCommon_189 ⟨_, rfl⟩ ⟨rfl, rfl, R⟩
                    · have hf := ie c293 hf
                      refine go_lload (pc' := 179) dX4_countCommon_177 rfl rfl ?_
                      refine go_lconst (v := 0) (pc' := 180) dX4_countCommon_179 rfl (by decide) ?_
                      refine go_lcmp (pc' := 181) dX4_countCommon_180 rfl ?_
                      refine go_if_ge (pc' := 184) (tgt := 188) dX4_countCommon_181 (by decide) rfl (fun c294 => ?_) (fun c294 => ?_)
                      · have hf := it c294 hf
                        refine go_iconst (v := 1) (pc' := 189) dX4_countCommon_188 rfl (by decide) ?_
                        obtain rfl := Option.some.inj hf
                        exact Go.ret (v := some (.int _)) dX4_countCommon_189 ⟨_, rfl⟩ ⟨rfl, rfl, R⟩
                      · have hf := ie c294 hf
                        refine go_iconst (v := 0) (pc' := 185) dX4_countCommon_184 rfl (by decide) ?_
                        refine go_goto (pc' := 0) (tgt := 189) dX4_countCommon_185 (by decide) ?_
                        obtain rfl := Option.some.inj hf
                        exact Go.ret (v := some (.int _)) dX4_countCommon_189 ⟨_, rfl⟩ ⟨rfl, rfl, R⟩
              · have hf := ie c274 hf
                refine go_iconst (v := 0) (pc' := 109) dX4_countCommon_108 rfl (by decide) ?_
                obtain rfl := Option.some.inj hf
                exact Go.ret (v := some (.int _)) dX4_countCommon_109 ⟨_, rfl⟩ ⟨rfl, rfl, R⟩
      · have hf := it c208 hf
        refine go_aload_n (i := 0) (pc' := 73) dX4_countCommon_72 rfl rfl rfl ?_
        refine go_iload_n (i := 1) (pc' := 74) dX4_countCommon_73 rfl rfl rfl ?_
        refine go_aload_n (i := 2) (pc' := 75) dX4_countCommon_74 rfl rfl rfl ?_
        refine go_iload_n (i := 3) (pc' := 76) dX4_countCommon_75 rfl rfl rfl ?_
        obtain ⟨v295, σ296, e297, hf⟩ := bd_some hf
        refine go_invS (As := [_, _, _, _]) (pc' := 79) dX4_countCommon_76 rfl cf_X4_countCommon_69 rfl rfl (Nat.le_of_ble_eq_true rfl) (c_X4_countOnLine R e297) (fun q298v h299 q298 => ?_)
        obtain ⟨rfl, R⟩ := q298
        obtain rfl := Option.some.inj hf
        exact Go.ret (v := some (.int _)) dX4_countCommon_79 ⟨_, rfl⟩ ⟨rfl, rfl, R⟩
  · have hf := ie c106 hf
    refine go_iconst (v := 0) (pc' := 11) dX4_countCommon_10 rfl (by decide) ?_
    obtain rfl := Option.some.inj hf
    exact Go.ret (v := some (.int _)) dX4_countCommon_11 ⟨_, rfl⟩ ⟨rfl, rfl, R⟩
def b_X0_isRing_97 (n : Nat) (k31 : Nat → Int32 → Int32 → Int32 → xσ → Option (Int32 × xσ)) (k43 : Nat → Int32 → Int32 → Int32 → Int32 → xσ → Option (Int32 × xσ)) (a0 : Nat) (x1 : Int32) (x2 : Int32) (x3 : Int32) (x4 : Int32) (xs0 : Int32) (xs1 : Int32) (σ : xσ) : Option (Int32 × xσ) := if xs1 ≤ xs0 then k43 a0 x1 x2 x3 (x4 + 1) σ else some (0, σ)
set_option maxRecDepth 100000 in
set_option maxHeartbeats 4000000 in
theorem t_X0_isRing_97 {G : xG} {n : Nat} {k31 : Nat → Int32 → Int32 → Int32 → xσ → Option (Int32 × xσ)} {k43 : Nat → Int32 → Int32 → Int32 → Int32 → xσ → Option (Int32 × xσ)} (hk31 : ∀ {a0 : Nat} {x1 : Int32} {x2 : Int32} {x3 : Int32} {σ : xσ} {h : xH} {r : Int32 × xσ} {d4 : Option Value} {d5 : Option Value}, Rl n σ h → okS n a0 → k31 a0 x1 x2 x3 σ = some r → Go G mX0_isRing 31 [some (.ref a0), some (.int x1), some (.int x2), some (.int x3), d4, d5] [] h (fun v h' => xRok (xRt mX0_isRing) v ∧ v = some (.int r.1) ∧ Rl n r.2 h')) (hk43 : ∀ {a0 : Nat} {x1 : Int32} {x2 : Int32} {x3 : Int32} {x4 : Int32} {σ : xσ} {h : xH} {r : Int32 × xσ} {d5 : Option Value}, Rl n σ h → okS n a0 → k43 a0 x1 x2 x3 x4 σ = some r → Go G mX0_isRing 43 [some (.ref a0), some (.int x1), some (.int x2), some (.int x3), some (.int x4), d5] [] h (fun v h' => xRok (xRt mX0_isRing) v ∧ v = some (.int r.1) ∧ Rl n r.2 h')) {a0 : Nat} {x1 : Int32} {x2 : Int32} {x3 : Int32} {x4 : Int32} {xs0 : Int32} {xs1 : Int32} {σ : xσ} {h : xH} {r : Int32 × xσ} {d5 : Option Value} : Rl n σ h → okS n a0 → b_X0_isRing_97 n k31 k43 a0 x1 x2 x3 x4 xs0 xs1 σ = some r → Go G mX0_isRing 97 [some (.ref a0), some (.int x1), some (.int x2), some (.int x3), some (.int x4), d5] [.int xs0, .int xs1] h (fun v h' => xRok (xRt mX0_isRing) v ∧ v = some (.int r.1) ∧ Rl n r.2 h') := by
  intro R g0 hf
  rw [b_X0_isRing_97] at hf
  refine go_icmp_le (pc' := 100) (tgt := 102) dX0_isRing_97 (by decide) rfl (fun c101 => ?_) (fun c101 => ?_)
  · have hf := it c101 hf
    refine go_iincC (kk := 1) (pc' := 105) dX0_isRing_102 rfl rfl (by decide) (by decide) rfl ?_
    refine go_goto (pc' := 0) (tgt := 43) dX0_isRing_105 (by decide) ?_
    exact hk43 R g0 hf
  · have hf := ie c101 hf
    refine go_iconst (v := 0) (pc' := 101) dX0_isRing_100 rfl (by decide) ?_
    obtain rfl := Option.some.inj hf
    exact Go.ret (v := some (.int _)) dX0_isRing_101 ⟨_, rfl⟩ ⟨rfl, rfl, R⟩
def b_X0_isRing_77 (n : Nat) (k31 : Nat → Int32 → Int32 → Int32 → xσ → Option (Int32 × xσ)) (k43 : Nat → Int32 → Int32 → Int32 → Int32 → xσ → Option (Int32 × xσ)) (a0 : Nat) (x1 : Int32) (x2 : Int32) (x3 : Int32) (x4 : Int32) (xs0 : Int32) (σ : xσ) : Option (Int32 × xσ) := bd (f_X4_countCommon n a0 x3 a0 x4 σ) (fun v101 σ102 => if xs0 = 0 then b_X0_isRing_97 n k31 k43 a0 x1 x2 x3 x4 0 v101 σ102 else b_X0_isRing_97 n k31 k43 a0 x1 x2 x3 x4 1 v101 σ102)
set_option maxRecDepth 100000 in
set_option maxHeartbeats 4000000 in
theorem t_X0_isRing_77 {G : xG} {n : Nat} {k31 : Nat → Int32 → Int32 → Int32 → xσ → Option (Int32 × xσ)} {k43 : Nat → Int32 → Int32 → Int32 → Int32 → xσ → Option (Int32 × xσ)} (hk31 : ∀ {a0 : Nat} {x1 : Int32} {x2 : Int32} {x3 : Int32} {σ : xσ} {h : xH} {r : Int32 × xσ} {d4 : Option Value} {d5 : Option Value}, Rl n σ h → okS n a0 → k31 a0 x1 x2 x3 σ = some r → Go G mX0_isRing 31 [some (.ref a0), some (.int x1), some (.int x2), some (.int x3), d4, d5] [] h (fun v h' => xRok (xRt mX0_isRing) v ∧ v = some (.int r.1) ∧ Rl n r.2 h')) (hk43 : ∀ {a0 : Nat} {x1 : Int32} {x2 : Int32} {x3 : Int32} {x4 : Int32} {σ : xσ} {h : xH} {r : Int32 × xσ} {d5 : Option Value}, Rl n σ h → okS n a0 → k43 a0 x1 x2 x3 x4 σ = some r → Go G mX0_isRing 43 [some (.ref a0), some (.int x1), some (.int x2), some (.int x3), some (.int x4), d5] [] h (fun v h' => xRok (xRt mX0_isRing) v ∧ v = some (.int r.1) ∧ Rl n r.2 h')) {a0 : Nat} {x1 : Int32} {x2 : Int32} {x3 : Int32} {x4 : Int32} {xs0 : Int32} {σ : xσ} {h : xH} {r : Int32 × xσ} {d5 : Option Value} : Rl n σ h → okS n a0 → b_X0_isRing_77 n k31 k43 a0 x1 x2 x3 x4 xs0 σ = some r → Go G mX0_isRing 77 [some (.ref a0), some (.int x1), some (.int x2), some (.int x3), some (.int x4), d5] [.int xs0] h (fun v h' => xRok (xRt mX0_isRing) v ∧ v = some (.int r.1) ∧ Rl n r.2 h') := by
  intro R g0 hf
  rw [b_X0_isRing_77] at hf
  refine go_istoreE rfl (pc' := 79) dX0_isRing_77 rfl (by decide) rfl ?_
  refine go_aload_n (i := 0) (pc' := 80) dX0_isRing_79 rfl rfl rfl ?_
  refine go_iload_n (i := 3) (pc' := 81) dX0_isRing_80 rfl rfl rfl ?_
  refine go_aload_n (i := 0) (pc' := 82) dX0_isRing_81 rfl rfl rfl ?_
  refine go_iload (pc' := 84) dX0_isRing_82 rfl rfl ?_
  obtain ⟨v101, σ102, e103, hf⟩ := bd_some hf
  refine go_invS (As := [_, _, _, _]) (pc' := 87) dX0_isRing_84 rfl cf_X0_isRing_56 rfl rfl (Nat.le_of_ble_eq_true rfl) (c_X4_countCommon R e103) (fun q104v h105 q104 => ?_)
  obtain ⟨rfl, R⟩ := q104
  refine go_iload (pc' := 89) dX0_isRing_87 rfl rfl ?_
  refine go_if_eq (pc' := 92) (tgt := 96) dX0_isRing_89 (by decide) rfl (fun c106 => ?_) (fun c106 => ?_)
  · have hf := it c106 hf
    refine go_iconst (v := 0) (pc' := 97) dX0_isRing_96 rfl (by decide) ?_
    exact t_X0_isRing_97 @hk31 @hk43 R g0 hf
  · have hf := ie c106 hf
    refine go_iconst (v := 1) (pc' := 93) dX0_isRing_92 rfl (by decide) ?_
    refine go_goto (pc' := 0) (tgt := 97) dX0_isRing_93 (by decide) ?_
    exact t_X0_isRing_97 @hk31 @hk43 R g0 hf
def l_X0_isRing_43 (n : Nat) (k31 : Nat → Int32 → Int32 → Int32 → xσ → Option (Int32 × xσ)) : Nat → Nat → Int32 → Int32 → Int32 → Int32 → xσ → Option (Int32 × xσ)
  | 0, _, _, _, _, _, _ => none
  | f + 1, a0, x1, x2, x3, x4, σ => if x2 ≤ (x4 + 1) then k31 a0 x1 x2 (x3 + 1) σ else if x4 = (x3 + 1) then b_X0_isRing_77 n k31 (l_X0_isRing_43 n k31 f) a0 x1 x2 x3 x4 1 σ else if x3 = x1 then if (x4 + 2) = x2 then b_X0_isRing_77 n k31 (l_X0_isRing_43 n k31 f) a0 x1 x2 x3 x4 1 σ else b_X0_isRing_77 n k31 (l_X0_isRing_43 n k31 f) a0 x1 x2 x3 x4 0 σ else b_X0_isRing_77 n k31 (l_X0_isRing_43 n k31 f) a0 x1 x2 x3 x4 0 σ
set_option maxRecDepth 100000 in
set_option maxHeartbeats 4000000 in
theorem t_X0_isRing_43 {G : xG} {n : Nat} {k31 : Nat → Int32 → Int32 → Int32 → xσ → Option (Int32 × xσ)} (hk31 : ∀ {a0 : Nat} {x1 : Int32} {x2 : Int32} {x3 : Int32} {σ : xσ} {h : xH} {r : Int32 × xσ} {d4 : Option Value} {d5 : Option Value}, Rl n σ h → okS n a0 → k31 a0 x1 x2 x3 σ = some r → Go G mX0_isRing 31 [some (.ref a0), some (.int x1), some (.int x2), some (.int x3), d4, d5] [] h (fun v h' => xRok (xRt mX0_isRing) v ∧ v = some (.int r.1) ∧ Rl n r.2 h')) : ∀ (f : Nat) {a0 : Nat} {x1 : Int32} {x2 : Int32} {x3 : Int32} {x4 : Int32} {σ : xσ} {h : xH} {r : Int32 × xσ} {d5 : Option Value}, Rl n σ h → okS n a0 → l_X0_isRing_43 n k31 f a0 x1 x2 x3 x4 σ = some r → Go G mX0_isRing 43 [some (.ref a0), some (.int x1), some (.int x2), some (.int x3), some (.int x4), d5] [] h (fun v h' => xRok (xRt mX0_isRing) v ∧ v = some (.int r.1) ∧ Rl n r.2 h') := by
  intro f
  induction f with
  | zero =>
    intros
    rename _ = some _ => hf
    rw [l_X0_isRing_43] at hf
    cases hf
  | succ f ih =>
    intro a0 x1 x2 x3 x4 σ h r d5 R g0 hf
    rw [l_X0_isRing_43] at hf
    refine go_iload (pc' := 45) dX0_isRing_43 rfl rfl ?_
    refine go_iconst (v := 1) (pc' := 46) dX0_isRing_45 rfl (by decide) ?_
    refine go_iadd (pc' := 47) dX0_isRing_46 rfl ?_
    refine go_iload_n (i := 2) (pc' := 48) dX0_isRing_47 rfl rfl rfl ?_
    refine go_icmp_ge (pc' := 51) (tgt := 108) dX0_isRing_48 (by decide) rfl (fun c101 => ?_) (fun c101 => ?_)
    · have hf := it c101 hf
      refine go_iincC (kk := 1) (pc' := 111) dX0_isRing_108 rfl rfl (by decide) (by decide) rfl ?_
      refine go_goto (pc' := 0) (tgt := 31) dX0_isRing_111 (by decide) ?_
      exact hk31 R g0 hf
    · have hf := ie c101 hf
      refine go_iload (pc' := 53) dX0_isRing_51 rfl rfl ?_
      refine go_iload_n (i := 3) (pc' := 54) dX0_isRing_53 rfl rfl rfl ?_
      refine go_iconst (v := 1) (pc' := 55) dX0_isRing_54 rfl (by decide) ?_
      refine go_iadd (pc' := 56) dX0_isRing_55 rfl ?_
      refine go_icmp_eq (pc' := 59) (tgt := 72) dX0_isRing_56 (by decide) rfl (fun c102 => ?_) (fun c102 => ?_)
      · have hf := it c102 hf
        refine go_iconst (v := 1) (pc' := 73) dX0_isRing_72 rfl (by decide) ?_
        refine go_goto (pc' := 0) (tgt := 77) dX0_isRing_73 (by decide) ?_
        exact t_X0_isRing_77 @hk31 @ih R g0 hf
      · have hf := ie c102 hf
        refine go_iload_n (i := 3) (pc' := 60) dX0_isRing_59 rfl rfl rfl ?_
        refine go_iload_n (i := 1) (pc' := 61) dX0_isRing_60 rfl rfl rfl ?_
        refine go_icmp_ne (pc' := 64) (tgt := 76) dX0_isRing_61 (by decide) rfl (fun c103 => ?_) (fun c103 => ?_)
        · have hf := ie c103 hf
          refine go_iconst (v := 0) (pc' := 77) dX0_isRing_76 rfl (by decide) ?_
          exact t_X0_isRing_77 @hk31 @ih R g0 hf
        · have hf := it c103 hf
          refine go_iload (pc' := 66) dX0_isRing_64 rfl rfl ?_
          refine go_iconst (v := 2) (pc' := 67) dX0_isRing_66 rfl (by decide) ?_
          refine go_iadd (pc' := 68) dX0_isRing_67 rfl ?_
          refine go_iload_n (i := 2) (pc' := 69) dX0_isRing_68 rfl rfl rfl ?_
          refine go_icmp_ne (pc' := 72) (tgt := 76) dX0_isRing_69 (by decide) rfl (fun c104 => ?_) (fun c104 => ?_)
          · have hf := ie c104 hf
            refine go_iconst (v := 0) (pc' := 77) dX0_isRing_76 rfl (by decide) ?_
            exact t_X0_isRing_77 @hk31 @ih R g0 hf
          · have hf := it c104 hf
            refine go_iconst (v := 1) (pc' := 73) dX0_isRing_72 rfl (by decide) ?_
            refine go_goto (pc' := 0) (tgt := 77) dX0_isRing_73 (by decide) ?_
            exact t_X0_isRing_77 @hk31 @ih R g0 hf
def l_X0_isRing_31 (n : Nat) : Nat → Nat → Int32 → Int32 → Int32 → xσ → Option (Int32 × xσ)
  | 0, _, _, _, _, _ => none
  | f + 1, a0, x1, x2, x3, σ => if x2 ≤ (x3 + 1) then some (1, σ) else st (x3 + 1) (fun x102 => l_X0_isRing_43 n (l_X0_isRing_31 n f) xFU a0 x1 x2 x3 x102 σ)
set_option maxRecDepth 100000 in
set_option maxHeartbeats 4000000 in
theorem t_X0_isRing_31 {G : xG} {n : Nat} : ∀ (f : Nat) {a0 : Nat} {x1 : Int32} {x2 : Int32} {x3 : Int32} {σ : xσ} {h : xH} {r : Int32 × xσ} {d4 : Option Value} {d5 : Option Value}, Rl n σ h → okS n a0 → l_X0_isRing_31 n f a0 x1 x2 x3 σ = some r → Go G mX0_isRing 31 [some (.ref a0), some (.int x1), some (.int x2), some (.int x3), d4, d5] [] h (fun v h' => xRok (xRt mX0_isRing) v ∧ v = some (.int r.1) ∧ Rl n r.2 h') := by
  intro f
  induction f with
  | zero =>
    intros
    rename _ = some _ => hf
    rw [l_X0_isRing_31] at hf
    cases hf
  | succ f ih =>
    intro a0 x1 x2 x3 σ h r d4 d5 R g0 hf
    rw [l_X0_isRing_31] at hf
    refine go_iload_n (i := 3) (pc' := 32) dX0_isRing_31 rfl rfl rfl ?_
    refine go_iconst (v := 1) (pc' := 33) dX0_isRing_32 rfl (by decide) ?_
    refine go_iadd (pc' := 34) dX0_isRing_33 rfl ?_
    refine go_iload_n (i := 2) (pc' := 35) dX0_isRing_34 rfl rfl rfl ?_
    refine go_icmp_ge (pc' := 38) (tgt := 114) dX0_isRing_35 (by decide) rfl (fun c101 => ?_) (fun c101 => ?_)
    · have hf := it c101 hf
      refine go_iconst (v := 1) (pc' := 115) dX0_isRing_114 rfl (by decide) ?_
      obtain rfl := Option.some.inj hf
      exact Go.ret (v := some (.int _)) dX0_isRing_115 ⟨_, rfl⟩ ⟨rfl, rfl, R⟩
    · have hf := ie c101 hf
      refine go_iload_n (i := 3) (pc' := 39) dX0_isRing_38 rfl rfl rfl ?_
      refine go_iconst (v := 1) (pc' := 40) dX0_isRing_39 rfl (by decide) ?_
      refine go_iadd (pc' := 41) dX0_isRing_40 rfl ?_
      obtain ⟨x102, e103, hf⟩ := st_some hf
      refine go_istoreE e103 (pc' := 43) dX0_isRing_41 rfl (by decide) rfl ?_
      exact t_X0_isRing_43 @ih xFU R g0 hf
def f_X0_isRing (n : Nat) (a0 : Nat) (x1 : Int32) (x2 : Int32) (σ : xσ) : Option (Int32 × xσ) := gd (okS n a0) (if (x2 - x1) < 4 then some (0, σ) else bd (f_X7_isAlike n a0 x1 (x2 - 1) σ) (fun v102 σ103 => if v102 = 0 then some (0, σ103) else bd (f_X0_hasPauses n a0 x1 x2 σ103) (fun v108 σ109 => if v108 = 0 then l_X0_isRing_31 n xFU a0 x1 x2 x1 σ109 else some (0, σ109))))
set_option maxRecDepth 100000 in
set_option maxHeartbeats 4000000 in
theorem c_X0_isRing {G : xG} {n : Nat} {σ : xσ} {h : xH} {a0 : Nat} {x1 : Int32} {x2 : Int32} {v1 : Int32} {σ1 : xσ} (R : Rl n σ h) (hf : f_X0_isRing n a0 x1 x2 σ = some (v1, σ1)) : Ca G mX0_isRing [.ref a0, .int x1, .int x2] h (fun v h' => v = some (.int v1) ∧ Rl n σ1 h') := by
  refine Ca.of rfl (Nat.le_of_ble_eq_true rfl) ?_
  generalize hr : (v1, σ1) = r at hf
  suffices q : Go G mX0_isRing 0 (xent (xMl mX0_isRing) [.ref a0, .int x1, .int x2]) [] h (fun v h' => xRok (xRt mX0_isRing) v ∧ v = some (.int r.1) ∧ Rl n r.2 h') by
    subst hr
    exact q
  clear hr
  rw [f_X0_isRing] at hf
  obtain ⟨g0, hf⟩ := gd_some hf
  refine go_iload_n (i := 2) (pc' := 1) dX0_isRing_0 rfl rfl rfl ?_
  refine go_iload_n (i := 1) (pc' := 2) dX0_isRing_1 rfl rfl rfl ?_
  refine go_isub (pc' := 3) dX0_isRing_2 rfl ?_
  refine go_iconst (v := 4) (pc' := 4) dX0_isRing_3 rfl (by decide) ?_
  refine go_icmp_lt (pc' := 7) (tgt := 27) dX0_isRing_4 (by decide) rfl (fun c101 => ?_) (fun c101 => ?_)
  · have hf := it c101 hf
    refine go_iconst (v := 0) (pc' := 28) dX0_isRing_27 rfl (by decide) ?_
    obtain rfl := Option.some.inj hf
    exact Go.ret (v := some (.int _)) dX0_isRing_28 ⟨_, rfl⟩ ⟨rfl, rfl, R⟩
  · have hf := ie c101 hf
    refine go_aload_n (i := 0) (pc' := 8) dX0_isRing_7 rfl rfl rfl ?_
    refine go_iload_n (i := 1) (pc' := 9) dX0_isRing_8 rfl rfl rfl ?_
    refine go_iload_n (i := 2) (pc' := 10) dX0_isRing_9 rfl rfl rfl ?_
    refine go_iconst (v := 1) (pc' := 11) dX0_isRing_10 rfl (by decide) ?_
    refine go_isub (pc' := 12) dX0_isRing_11 rfl ?_
    obtain ⟨v102, σ103, e104, hf⟩ := bd_some hf
    refine go_invV (As := [_, _]) (pc' := 15) dX0_isRing_12 rfl cf_X0_isRing_52 rfl (R.ob g0.at) rfl rfl (Nat.le_of_ble_eq_true rfl) (c_X7_isAlike R e104) (fun q105v h106 q105 => ?_)
    obtain ⟨rfl, R⟩ := q105
    refine go_if_eq (pc' := 18) (tgt := 27) dX0_isRing_15 (by decide) rfl (fun c107 => ?_) (fun c107 => ?_)
    · have hf := it c107 hf
      refine go_iconst (v := 0) (pc' := 28) dX0_isRing_27 rfl (by decide) ?_
      obtain rfl := Option.some.inj hf
      exact Go.ret (v := some (.int _)) dX0_isRing_28 ⟨_, rfl⟩ ⟨rfl, rfl, R⟩
    · have hf := ie c107 hf
      refine go_aload_n (i := 0) (pc' := 19) dX0_isRing_18 rfl rfl rfl ?_
      refine go_iload_n (i := 1) (pc' := 20) dX0_isRing_19 rfl rfl rfl ?_
      refine go_iload_n (i := 2) (pc' := 21) dX0_isRing_20 rfl rfl rfl ?_
      obtain ⟨v108, σ109, e110, hf⟩ := bd_some hf
      refine go_invS (As := [_, _, _]) (pc' := 24) dX0_isRing_21 rfl cf_X0_isRing_28 rfl rfl (Nat.le_of_ble_eq_true rfl) (c_X0_hasPauses R e110) (fun q111v h112 q111 => ?_)
      obtain ⟨rfl, R⟩ := q111
      refine go_if_eq (pc' := 27) (tgt := 29) dX0_isRing_24 (by decide) rfl (fun c113 => ?_) (fun c113 => ?_)
      · have hf := it c113 hf
        refine go_iload_n (i := 1) (pc' := 30) dX0_isRing_29 rfl rfl rfl ?_
        refine go_istore_nE rfl (i := 3) (pc' := 31) dX0_isRing_30 rfl rfl (by decide) rfl ?_
        exact t_X0_isRing_31 xFU R g0 hf
      · have hf := ie c113 hf
        refine go_iconst (v := 0) (pc' := 28) dX0_isRing_27 rfl (by decide) ?_
        obtain rfl := Option.some.inj hf
        exact Go.ret (v := some (.int _)) dX0_isRing_28 ⟨_, rfl⟩ ⟨rfl, rfl, R⟩
def l_X1_aim_86 (n : Nat) : Nat → Nat → Int32 → xσ → Option (Unit × xσ)
  | 0, _, _, _ => none
  | f + 1, a1, x4, σ => if (sI σ 18 2) ≤ x4 then some ((), σ) else gd (inb x4 40) (st (wI σ 18 3 (imin (sI σ 18 3) (sI σ (a1 + 1) x4.toNatClampNeg))) (fun σ103 => gd (inb x4 40) (st (wI σ103 18 5 (imax (sI σ103 18 5) (sI σ103 (a1 + 1) x4.toNatClampNeg))) (fun σ107 => gd (inb x4 40) (st (wI σ107 18 4 (imin (sI σ107 18 4) (sI σ107 (a1 + 2) x4.toNatClampNeg))) (fun σ111 => gd (inb x4 40) (st (wI σ111 18 6 (imax (sI σ111 18 6) (sI σ111 (a1 + 2) x4.toNatClampNeg))) (fun σ115 => (l_X1_aim_86 n f) a1 (x4 + 1) σ115))))))))
set_option maxRecDepth 100000 in
set_option maxHeartbeats 4000000 in
theorem t_X1_aim_86 {G : xG} {n : Nat} : ∀ (f : Nat) {a1 : Nat} {x4 : Int32} {σ : xσ} {h : xH} {r : Unit × xσ} {d2 : Option Value} {d3 : Option Value}, Rl n σ h → okS n a1 → l_X1_aim_86 n f a1 x4 σ = some r → Go G mX1_aim 86 [some (.ref 18), some (.ref a1), d2, d3, some (.int x4)] [] h (fun v h' => xRok (xRt mX1_aim) v ∧ v = none ∧ Rl n r.2 h') := by
  intro f
  induction f with
  | zero =>
    intros
    rename _ = some _ => hf
    rw [l_X1_aim_86] at hf
    cases hf
  | succ f ih =>
    intro a1 x4 σ h r d2 d3 R g1 hf
    rw [l_X1_aim_86] at hf
    refine go_iload (pc' := 88) dX1_aim_86 rfl rfl ?_
    refine go_aload_n (i := 0) (pc' := 89) dX1_aim_88 rfl rfl rfl ?_
    refine go_getS (pc' := 92) dX1_aim_89 rfl gf_LandBase_Cutter_42 R (R.at rfl (by decide)) (by decide) rfl ?_
    refine go_icmp_ge (pc' := 95) (tgt := 173) dX1_aim_92 (by decide) rfl (fun c101 => ?_) (fun c101 => ?_)
    · have hf := it c101 hf
      obtain rfl := Option.some.inj hf
      exact Go.ret (v := none) dX1_aim_173 rfl ⟨trivial, rfl, R⟩
    · have hf := ie c101 hf
      refine go_aload_n (i := 0) (pc' := 96) dX1_aim_95 rfl rfl rfl ?_
      refine go_aload_n (i := 0) (pc' := 97) dX1_aim_96 rfl rfl rfl ?_
      refine go_getS (pc' := 100) dX1_aim_97 rfl gf_LandBase_Cutter_48 R (R.at rfl (by decide)) (by decide) rfl ?_
      refine go_aload_n (i := 1) (pc' := 101) dX1_aim_100 rfl rfl rfl ?_
      refine go_getS (pc' := 104) dX1_aim_101 rfl gf_LandBase_Cutter_45 R g1.at (by decide) rfl ?_
      refine go_iload (pc' := 106) dX1_aim_104 rfl rfl ?_
      obtain ⟨g102, hf⟩ := gd_some hf
      refine go_ialoadS (pc' := 107) dX1_aim_106 rfl R g1.x g102 ?_
      refine go_mmin (pc' := 110) dX1_aim_107 rfl cf_X1_aim_36 (Nat.le_of_ble_eq_true rfl) ?_
      obtain ⟨σ103, e104, hf⟩ := st_some hf
      refine go_putI (pc' := 113) dX1_aim_110 rfl pf_LandBase_Cutter_48 R (R.at rfl (by decide)) (by decide) rfl rfl rfl (fun h105 R => ?_)
      have R := Rl.cast e104 R
      refine go_aload_n (i := 0) (pc' := 114) dX1_aim_113 rfl rfl rfl ?_
      refine go_aload_n (i := 0) (pc' := 115) dX1_aim_114 rfl rfl rfl ?_
      refine go_getS (pc' := 118) dX1_aim_115 rfl gf_LandBase_Cutter_51 R (R.at rfl (by decide)) (by decide) rfl ?_
      refine go_aload_n (i := 1) (pc' := 119) dX1_aim_118 rfl rfl rfl ?_
      refine go_getS (pc' := 122) dX1_aim_119 rfl gf_LandBase_Cutter_45 R g1.at (by decide) rfl ?_
      refine go_iload (pc' := 124) dX1_aim_122 rfl rfl ?_
      obtain ⟨g106, hf⟩ := gd_some hf
      refine go_ialoadS (pc' := 125) dX1_aim_124 rfl R g1.x g106 ?_
      refine go_mmax (pc' := 128) dX1_aim_125 rfl cf_X1_aim_63 (Nat.le_of_ble_eq_true rfl) ?_
      obtain ⟨σ107, e108, hf⟩ := st_some hf
      refine go_putI (pc' := 131) dX1_aim_128 rfl pf_LandBase_Cutter_51 R (R.at rfl (by decide)) (by decide) rfl rfl rfl (fun h109 R => ?_)
      have R := Rl.cast e108 R
      refine go_aload_n (i := 0) (pc' := 132) dX1_aim_131 rfl rfl rfl ?_
      refine go_aload_n (i := 0) (pc' := 133) dX1_aim_132 rfl rfl rfl ?_
      refine go_getS (pc' := 136) dX1_aim_133 rfl gf_LandBase_Cutter_57 R (R.at rfl (by decide)) (by decide) rfl ?_
      refine go_aload_n (i := 1) (pc' := 137) dX1_aim_136 rfl rfl rfl ?_
      refine go_getS (pc' := 140) dX1_aim_137 rfl gf_LandBase_Cutter_54 R g1.at (by decide) rfl ?_
      refine go_iload (pc' := 142) dX1_aim_140 rfl rfl ?_
      obtain ⟨g110, hf⟩ := gd_some hf
      refine go_ialoadS (pc' := 143) dX1_aim_142 rfl R g1.y g110 ?_
      refine go_mmin (pc' := 146) dX1_aim_143 rfl cf_X1_aim_36 (Nat.le_of_ble_eq_true rfl) ?_
      obtain ⟨σ111, e112, hf⟩ := st_some hf
      refine go_putI (pc' := 149) dX1_aim_146 rfl pf_LandBase_Cutter_57 R (R.at rfl (by decide)) (by decide) rfl rfl rfl (fun h113 R => ?_)
      have R := Rl.cast e112 R
      refine go_aload_n (i := 0) (pc' := 150) dX1_aim_149 rfl rfl rfl ?_
      refine go_aload_n (i := 0) (pc' := 151) dX1_aim_150 rfl rfl rfl ?_
      refine go_getS (pc' := 154) dX1_aim_151 rfl gf_LandBase_Cutter_60 R (R.at rfl (by decide)) (by decide) rfl ?_
      refine go_aload_n (i := 1) (pc' := 155) dX1_aim_154 rfl rfl rfl ?_
      refine go_getS (pc' := 158) dX1_aim_155 rfl gf_LandBase_Cutter_54 R g1.at (by decide) rfl ?_
      refine go_iload (pc' := 160) dX1_aim_158 rfl rfl ?_
      obtain ⟨g114, hf⟩ := gd_some hf
      refine go_ialoadS (pc' := 161) dX1_aim_160 rfl R g1.y g114 ?_
      refine go_mmax (pc' := 164) dX1_aim_161 rfl cf_X1_aim_63 (Nat.le_of_ble_eq_true rfl) ?_
      obtain ⟨σ115, e116, hf⟩ := st_some hf
      refine go_putI (pc' := 167) dX1_aim_164 rfl pf_LandBase_Cutter_60 R (R.at rfl (by decide)) (by decide) rfl rfl rfl (fun h117 R => ?_)
      have R := Rl.cast e116 R
      refine go_iincC (kk := 1) (pc' := 170) dX1_aim_167 rfl rfl (by decide) (by decide) rfl ?_
      refine go_goto (pc' := 0) (tgt := 86) dX1_aim_170 (by decide) ?_
      exact ih R g1 hf
def b_X1_aim_23 (n : Nat) (a1 : Nat) (x3 : Int32) (xs0 : Int32) (σ : xσ) : Option (Unit × xσ) := st (wI σ 18 1 xs0) (fun σ101 => st (wI σ101 18 2 (imin x3 (sI σ101 a1 1))) (fun σ104 => gd (inb (sI σ104 18 1) 40) (st (wI σ104 18 3 (sI σ104 (a1 + 1) (sI σ104 18 1).toNatClampNeg)) (fun σ108 => st (wI σ108 18 5 (sI σ108 18 3)) (fun σ111 => gd (inb (sI σ111 18 1) 40) (st (wI σ111 18 4 (sI σ111 (a1 + 2) (sI σ111 18 1).toNatClampNeg)) (fun σ115 => st (wI σ115 18 6 (sI σ115 18 4)) (fun σ118 => st (sI σ118 18 1) (fun x121 => l_X1_aim_86 n xFU a1 x121 σ118)))))))))
set_option maxRecDepth 100000 in
set_option maxHeartbeats 4000000 in
theorem t_X1_aim_23 {G : xG} {n : Nat} {a1 : Nat} {x3 : Int32} {xs0 : Int32} {σ : xσ} {h : xH} {r : Unit × xσ} {d2 : Option Value} {d4 : Option Value} : Rl n σ h → okS n a1 → b_X1_aim_23 n a1 x3 xs0 σ = some r → Go G mX1_aim 23 [some (.ref 18), some (.ref a1), d2, some (.int x3), d4] [.int xs0, .ref 18] h (fun v h' => xRok (xRt mX1_aim) v ∧ v = none ∧ Rl n r.2 h') := by
  intro R g1 hf
  rw [b_X1_aim_23] at hf
  obtain ⟨σ101, e102, hf⟩ := st_some hf
  refine go_putI (pc' := 26) dX1_aim_23 rfl pf_LandBase_Cutter_33 R (R.at rfl (by decide)) (by decide) rfl rfl rfl (fun h103 R => ?_)
  have R := Rl.cast e102 R
  refine go_aload_n (i := 0) (pc' := 27) dX1_aim_26 rfl rfl rfl ?_
  refine go_iload_n (i := 3) (pc' := 28) dX1_aim_27 rfl rfl rfl ?_
  refine go_aload_n (i := 1) (pc' := 29) dX1_aim_28 rfl rfl rfl ?_
  refine go_getS (pc' := 32) dX1_aim_29 rfl gf_LandBase_Cutter_29 R g1.at (by decide) rfl ?_
  refine go_mmin (pc' := 35) dX1_aim_32 rfl cf_X1_aim_36 (Nat.le_of_ble_eq_true rfl) ?_
  obtain ⟨σ104, e105, hf⟩ := st_some hf
  refine go_putI (pc' := 38) dX1_aim_35 rfl pf_LandBase_Cutter_42 R (R.at rfl (by decide)) (by decide) rfl rfl rfl (fun h106 R => ?_)
  have R := Rl.cast e105 R
  refine go_aload_n (i := 0) (pc' := 39) dX1_aim_38 rfl rfl rfl ?_
  refine go_aload_n (i := 1) (pc' := 40) dX1_aim_39 rfl rfl rfl ?_
  refine go_getS (pc' := 43) dX1_aim_40 rfl gf_LandBase_Cutter_45 R g1.at (by decide) rfl ?_
  refine go_aload_n (i := 0) (pc' := 44) dX1_aim_43 rfl rfl rfl ?_
  refine go_getS (pc' := 47) dX1_aim_44 rfl gf_LandBase_Cutter_33 R (R.at rfl (by decide)) (by decide) rfl ?_
  obtain ⟨g107, hf⟩ := gd_some hf
  refine go_ialoadS (pc' := 48) dX1_aim_47 rfl R g1.x g107 ?_
  obtain ⟨σ108, e109, hf⟩ := st_some hf
  refine go_putI (pc' := 51) dX1_aim_48 rfl pf_LandBase_Cutter_48 R (R.at rfl (by decide)) (by decide) rfl rfl rfl (fun h110 R => ?_)
  have R := Rl.cast e109 R
  refine go_aload_n (i := 0) (pc' := 52) dX1_aim_51 rfl rfl rfl ?_
  refine go_aload_n (i := 0) (pc' := 53) dX1_aim_52 rfl rfl rfl ?_
  refine go_getS (pc' := 56) dX1_aim_53 rfl gf_LandBase_Cutter_48 R (R.at rfl (by decide)) (by decide) rfl ?_
  obtain ⟨σ111, e112, hf⟩ := st_some hf
  refine go_putI (pc' := 59) dX1_aim_56 rfl pf_LandBase_Cutter_51 R (R.at rfl (by decide)) (by decide) rfl rfl rfl (fun h113 R => ?_)
  have R := Rl.cast e112 R
  refine go_aload_n (i := 0) (pc' := 60) dX1_aim_59 rfl rfl rfl ?_
  refine go_aload_n (i := 1) (pc' := 61) dX1_aim_60 rfl rfl rfl ?_
  refine go_getS (pc' := 64) dX1_aim_61 rfl gf_LandBase_Cutter_54 R g1.at (by decide) rfl ?_
  refine go_aload_n (i := 0) (pc' := 65) dX1_aim_64 rfl rfl rfl ?_
  refine go_getS (pc' := 68) dX1_aim_65 rfl gf_LandBase_Cutter_33 R (R.at rfl (by decide)) (by decide) rfl ?_
  obtain ⟨g114, hf⟩ := gd_some hf
  refine go_ialoadS (pc' := 69) dX1_aim_68 rfl R g1.y g114 ?_
  obtain ⟨σ115, e116, hf⟩ := st_some hf
  refine go_putI (pc' := 72) dX1_aim_69 rfl pf_LandBase_Cutter_57 R (R.at rfl (by decide)) (by decide) rfl rfl rfl (fun h117 R => ?_)
  have R := Rl.cast e116 R
  refine go_aload_n (i := 0) (pc' := 73) dX1_aim_72 rfl rfl rfl ?_
  refine go_aload_n (i := 0) (pc' := 74) dX1_aim_73 rfl rfl rfl ?_
  refine go_getS (pc' := 77) dX1_aim_74 rfl gf_LandBase_Cutter_57 R (R.at rfl (by decide)) (by decide) rfl ?_
  obtain ⟨σ118, e119, hf⟩ := st_some hf
  refine go_putI (pc' := 80) dX1_aim_77 rfl pf_LandBase_Cutter_60 R (R.at rfl (by decide)) (by decide) rfl rfl rfl (fun h120 R => ?_)
  have R := Rl.cast e119 R
  refine go_aload_n (i := 0) (pc' := 81) dX1_aim_80 rfl rfl rfl ?_
  refine go_getS (pc' := 84) dX1_aim_81 rfl gf_LandBase_Cutter_33 R (R.at rfl (by decide)) (by decide) rfl ?_
  obtain ⟨x121, e122, hf⟩ := st_some hf
  refine go_istoreE e122 (pc' := 86) dX1_aim_84 rfl (by decide) rfl ?_
  exact t_X1_aim_86 xFU R g1 hf
def f_X1_aim (n : Nat) (a1 : Nat) (x2 : Int32) (x3 : Int32) (σ : xσ) : Option (Unit × xσ) := gd (okS n a1) (st (wR σ 18 0 (some a1)) (fun σ101 => if x2 < 0 then b_X1_aim_23 n a1 x3 0 σ101 else if x2 < (sI σ101 a1 1) then b_X1_aim_23 n a1 x3 x2 σ101 else b_X1_aim_23 n a1 x3 0 σ101))
set_option maxRecDepth 100000 in
set_option maxHeartbeats 4000000 in
theorem c_X1_aim {G : xG} {n : Nat} {σ : xσ} {h : xH} {a1 : Nat} {x2 : Int32} {x3 : Int32} {v1 : Unit} {σ1 : xσ} (R : Rl n σ h) (hf : f_X1_aim n a1 x2 x3 σ = some (v1, σ1)) : Ca G mX1_aim [.ref 18, .ref a1, .int x2, .int x3] h (fun v h' => v = none ∧ Rl n σ1 h') := by
  refine Ca.of rfl (Nat.le_of_ble_eq_true rfl) ?_
  generalize hr : (v1, σ1) = r at hf
  suffices q : Go G mX1_aim 0 (xent (xMl mX1_aim) [.ref 18, .ref a1, .int x2, .int x3]) [] h (fun v h' => xRok (xRt mX1_aim) v ∧ v = none ∧ Rl n r.2 h') by
    subst hr
    exact q
  clear hr
  rw [f_X1_aim] at hf
  obtain ⟨g1, hf⟩ := gd_some hf
  refine go_aload_n (i := 0) (pc' := 1) dX1_aim_0 rfl rfl rfl ?_
  refine go_aload_n (i := 1) (pc' := 2) dX1_aim_1 rfl rfl rfl ?_
  obtain ⟨σ101, e102, hf⟩ := st_some hf
  refine go_putR (pc' := 5) dX1_aim_2 rfl pf_LandBase_Cutter_12 R (R.at rfl (by decide)) (by decide) rfl (fun _ => rfl) (fun _ => rfl) (fun h103 R => ?_)
  have R := Rl.cast e102 R
  refine go_aload_n (i := 0) (pc' := 6) dX1_aim_5 rfl rfl rfl ?_
  refine go_iload_n (i := 2) (pc' := 7) dX1_aim_6 rfl rfl rfl ?_
  refine go_if_lt (pc' := 10) (tgt := 18) dX1_aim_7 (by decide) rfl (fun c104 => ?_) (fun c104 => ?_)
  · have hf := it c104 hf
    refine go_iconst (v := 0) (pc' := 19) dX1_aim_18 rfl (by decide) ?_
    refine go_goto (pc' := 0) (tgt := 23) dX1_aim_19 (by decide) ?_
    exact t_X1_aim_23 R g1 hf
  · have hf := ie c104 hf
    refine go_iload_n (i := 2) (pc' := 11) dX1_aim_10 rfl rfl rfl ?_
    refine go_aload_n (i := 1) (pc' := 12) dX1_aim_11 rfl rfl rfl ?_
    refine go_getS (pc' := 15) dX1_aim_12 rfl gf_LandBase_Cutter_29 R g1.at (by decide) rfl ?_
    refine go_icmp_lt (pc' := 18) (tgt := 22) dX1_aim_15 (by decide) rfl (fun c105 => ?_) (fun c105 => ?_)
    · have hf := it c105 hf
      refine go_iload_n (i := 2) (pc' := 23) dX1_aim_22 rfl rfl rfl ?_
      exact t_X1_aim_23 R g1 hf
    · have hf := ie c105 hf
      refine go_iconst (v := 0) (pc' := 19) dX1_aim_18 rfl (by decide) ?_
      refine go_goto (pc' := 0) (tgt := 23) dX1_aim_19 (by decide) ?_
      exact t_X1_aim_23 R g1 hf
def f_X1_isWayApart (n : Nat) (a1 : Nat) (x2 : Int32) (σ : xσ) : Option (Int32 × xσ) := gd (okS n a1) (gd (inb x2 40) (gd (inb (x2 + 1) 40) (if (imax (sI σ (a1 + 1) x2.toNatClampNeg) (sI σ (a1 + 1) (x2 + 1).toNatClampNeg)) < (sI σ 18 3) then some (1, σ) else gd (inb x2 40) (gd (inb (x2 + 1) 40) (if (sI σ 18 5) < (imin (sI σ (a1 + 1) x2.toNatClampNeg) (sI σ (a1 + 1) (x2 + 1).toNatClampNeg)) then some (1, σ) else gd (inb x2 40) (gd (inb (x2 + 1) 40) (if (imax (sI σ (a1 + 2) x2.toNatClampNeg) (sI σ (a1 + 2) (x2 + 1).toNatClampNeg)) < (sI σ 18 4) then some (1, σ) else gd (inb x2 40) (gd (inb (x2 + 1) 40) (if (imin (sI σ (a1 + 2) x2.toNatClampNeg) (sI σ (a1 + 2) (x2 + 1).toNatClampNeg)) ≤ (sI σ 18 6) then some (0, σ) else some (1, σ))))))))))
set_option maxRecDepth 100000 in
set_option maxHeartbeats 4000000 in
theorem c_X1_isWayApart {G : xG} {n : Nat} {σ : xσ} {h : xH} {a1 : Nat} {x2 : Int32} {v1 : Int32} {σ1 : xσ} (R : Rl n σ h) (hf : f_X1_isWayApart n a1 x2 σ = some (v1, σ1)) : Ca G mX1_isWayApart [.ref 18, .ref a1, .int x2] h (fun v h' => v = some (.int v1) ∧ Rl n σ1 h') := by
  refine Ca.of rfl (Nat.le_of_ble_eq_true rfl) ?_
  generalize hr : (v1, σ1) = r at hf
  suffices q : Go G mX1_isWayApart 0 (xent (xMl mX1_isWayApart) [.ref 18, .ref a1, .int x2]) [] h (fun v h' => xRok (xRt mX1_isWayApart) v ∧ v = some (.int r.1) ∧ Rl n r.2 h') by
    subst hr
    exact q
  clear hr
  rw [f_X1_isWayApart] at hf
  obtain ⟨g1, hf⟩ := gd_some hf
  refine go_aload_n (i := 1) (pc' := 1) dX1_isWayApart_0 rfl rfl rfl ?_
  refine go_getS (pc' := 4) dX1_isWayApart_1 rfl gf_LandBase_Cutter_45 R g1.at (by decide) rfl ?_
  refine go_iload_n (i := 2) (pc' := 5) dX1_isWayApart_4 rfl rfl rfl ?_
  obtain ⟨g101, hf⟩ := gd_some hf
  refine go_ialoadS (pc' := 6) dX1_isWayApart_5 rfl R g1.x g101 ?_
  refine go_aload_n (i := 1) (pc' := 7) dX1_isWayApart_6 rfl rfl rfl ?_
  refine go_getS (pc' := 10) dX1_isWayApart_7 rfl gf_LandBase_Cutter_45 R g1.at (by decide) rfl ?_
  refine go_iload_n (i := 2) (pc' := 11) dX1_isWayApart_10 rfl rfl rfl ?_
  refine go_iconst (v := 1) (pc' := 12) dX1_isWayApart_11 rfl (by decide) ?_
  refine go_iadd (pc' := 13) dX1_isWayApart_12 rfl ?_
  obtain ⟨g102, hf⟩ := gd_some hf
  refine go_ialoadS (pc' := 14) dX1_isWayApart_13 rfl R g1.x g102 ?_
  refine go_mmax (pc' := 17) dX1_isWayApart_14 rfl cf_X1_isWayApart_63 (Nat.le_of_ble_eq_true rfl) ?_
  refine go_aload_n (i := 0) (pc' := 18) dX1_isWayApart_17 rfl rfl rfl ?_
  refine go_getS (pc' := 21) dX1_isWayApart_18 rfl gf_LandBase_Cutter_48 R (R.at rfl (by decide)) (by decide) rfl ?_
  refine go_icmp_lt (pc' := 24) (tgt := 96) dX1_isWayApart_21 (by decide) rfl (fun c103 => ?_) (fun c103 => ?_)
  · have hf := it c103 hf
    refine go_iconst (v := 1) (pc' := 97) dX1_isWayApart_96 rfl (by decide) ?_
    refine go_goto (pc' := 0) (tgt := 101) dX1_isWayApart_97 (by decide) ?_
    obtain rfl := Option.some.inj hf
    exact Go.ret (v := some (.int _)) dX1_isWayApart_101 ⟨_, rfl⟩ ⟨rfl, rfl, R⟩
  · have hf := ie c103 hf
    refine go_aload_n (i := 1) (pc' := 25) dX1_isWayApart_24 rfl rfl rfl ?_
    refine go_getS (pc' := 28) dX1_isWayApart_25 rfl gf_LandBase_Cutter_45 R g1.at (by decide) rfl ?_
    refine go_iload_n (i := 2) (pc' := 29) dX1_isWayApart_28 rfl rfl rfl ?_
    obtain ⟨g104, hf⟩ := gd_some hf
    refine go_ialoadS (pc' := 30) dX1_isWayApart_29 rfl R g1.x g104 ?_
    refine go_aload_n (i := 1) (pc' := 31) dX1_isWayApart_30 rfl rfl rfl ?_
    refine go_getS (pc' := 34) dX1_isWayApart_31 rfl gf_LandBase_Cutter_45 R g1.at (by decide) rfl ?_
    refine go_iload_n (i := 2) (pc' := 35) dX1_isWayApart_34 rfl rfl rfl ?_
    refine go_iconst (v := 1) (pc' := 36) dX1_isWayApart_35 rfl (by decide) ?_
    refine go_iadd (pc' := 37) dX1_isWayApart_36 rfl ?_
    obtain ⟨g105, hf⟩ := gd_some hf
    refine go_ialoadS (pc' := 38) dX1_isWayApart_37 rfl R g1.x g105 ?_
    refine go_mmin (pc' := 41) dX1_isWayApart_38 rfl cf_X1_isWayApart_36 (Nat.le_of_ble_eq_true rfl) ?_
    refine go_aload_n (i := 0) (pc' := 42) dX1_isWayApart_41 rfl rfl rfl ?_
    refine go_getS (pc' := 45) dX1_isWayApart_42 rfl gf_LandBase_Cutter_51 R (R.at rfl (by decide)) (by decide) rfl ?_
    refine go_icmp_gt (pc' := 48) (tgt := 96) dX1_isWayApart_45 (by decide) rfl (fun c106 => ?_) (fun c106 => ?_)
    · have hf := it c106 hf
      refine go_iconst (v := 1) (pc' := 97) dX1_isWayApart_96 rfl (by decide) ?_
      refine go_goto (pc' := 0) (tgt := 101) dX1_isWayApart_97 (by decide) ?_
      obtain rfl := Option.some.inj hf
      exact Go.ret (v := some (.int _)) dX1_isWayApart_101 ⟨_, rfl⟩ ⟨rfl, rfl, R⟩
    · have hf := ie c106 hf
      refine go_aload_n (i := 1) (pc' := 49) dX1_isWayApart_48 rfl rfl rfl ?_
      refine go_getS (pc' := 52) dX1_isWayApart_49 rfl gf_LandBase_Cutter_54 R g1.at (by decide) rfl ?_
      refine go_iload_n (i := 2) (pc' := 53) dX1_isWayApart_52 rfl rfl rfl ?_
      obtain ⟨g107, hf⟩ := gd_some hf
      refine go_ialoadS (pc' := 54) dX1_isWayApart_53 rfl R g1.y g107 ?_
      refine go_aload_n (i := 1) (pc' := 55) dX1_isWayApart_54 rfl rfl rfl ?_
      refine go_getS (pc' := 58) dX1_isWayApart_55 rfl gf_LandBase_Cutter_54 R g1.at (by decide) rfl ?_
      refine go_iload_n (i := 2) (pc' := 59) dX1_isWayApart_58 rfl rfl rfl ?_
      refine go_iconst (v := 1) (pc' := 60) dX1_isWayApart_59 rfl (by decide) ?_
      refine go_iadd (pc' := 61) dX1_isWayApart_60 rfl ?_
      obtain ⟨g108, hf⟩ := gd_some hf
      refine go_ialoadS (pc' := 62) dX1_isWayApart_61 rfl R g1.y g108 ?_
      refine go_mmax (pc' := 65) dX1_isWayApart_62 rfl cf_X1_isWayApart_63 (Nat.le_of_ble_eq_true rfl) ?_
      refine go_aload_n (i := 0) (pc' := 66) dX1_isWayApart_65 rfl rfl rfl ?_
      refine go_getS (pc' := 69) dX1_isWayApart_66 rfl gf_LandBase_Cutter_57 R (R.at rfl (by decide)) (by decide) rfl ?_
      refine go_icmp_lt (pc' := 72) (tgt := 96) dX1_isWayApart_69 (by decide) rfl (fun c109 => ?_) (fun c109 => ?_)
      · have hf := it c109 hf
        refine go_iconst (v := 1) (pc' := 97) dX1_isWayApart_96 rfl (by decide) ?_
        refine go_goto (pc' := 0) (tgt := 101) dX1_isWayApart_97 (by decide) ?_
        obtain rfl := Option.some.inj hf
        exact Go.ret (v := some (.int _)) dX1_isWayApart_101 ⟨_, rfl⟩ ⟨rfl, rfl, R⟩
      · have hf := ie c109 hf
        refine go_aload_n (i := 1) (pc' := 73) dX1_isWayApart_72 rfl rfl rfl ?_
        refine go_getS (pc' := 76) dX1_isWayApart_73 rfl gf_LandBase_Cutter_54 R g1.at (by decide) rfl ?_
        refine go_iload_n (i := 2) (pc' := 77) dX1_isWayApart_76 rfl rfl rfl ?_
        obtain ⟨g110, hf⟩ := gd_some hf
        refine go_ialoadS (pc' := 78) dX1_isWayApart_77 rfl R g1.y g110 ?_
        refine go_aload_n (i := 1) (pc' := 79) dX1_isWayApart_78 rfl rfl rfl ?_
        refine go_getS (pc' := 82) dX1_isWayApart_79 rfl gf_LandBase_Cutter_54 R g1.at (by decide) rfl ?_
        refine go_iload_n (i := 2) (pc' := 83) dX1_isWayApart_82 rfl rfl rfl ?_
        refine go_iconst (v := 1) (pc' := 84) dX1_isWayApart_83 rfl (by decide) ?_
        refine go_iadd (pc' := 85) dX1_isWayApart_84 rfl ?_
        obtain ⟨g111, hf⟩ := gd_some hf
        refine go_ialoadS (pc' := 86) dX1_isWayApart_85 rfl R g1.y g111 ?_
        refine go_mmin (pc' := 89) dX1_isWayApart_86 rfl cf_X1_isWayApart_36 (Nat.le_of_ble_eq_true rfl) ?_
        refine go_aload_n (i := 0) (pc' := 90) dX1_isWayApart_89 rfl rfl rfl ?_
        refine go_getS (pc' := 93) dX1_isWayApart_90 rfl gf_LandBase_Cutter_60 R (R.at rfl (by decide)) (by decide) rfl ?_
        refine go_icmp_le (pc' := 96) (tgt := 100) dX1_isWayApart_93 (by decide) rfl (fun c112 => ?_) (fun c112 => ?_)
        · have hf := it c112 hf
          refine go_iconst (v := 0) (pc' := 101) dX1_isWayApart_100 rfl (by decide) ?_
          obtain rfl := Option.some.inj hf
          exact Go.ret (v := some (.int _)) dX1_isWayApart_101 ⟨_, rfl⟩ ⟨rfl, rfl, R⟩
        · have hf := ie c112 hf
          refine go_iconst (v := 1) (pc' := 97) dX1_isWayApart_96 rfl (by decide) ?_
          refine go_goto (pc' := 0) (tgt := 101) dX1_isWayApart_97 (by decide) ?_
          obtain rfl := Option.some.inj hf
          exact Go.ret (v := some (.int _)) dX1_isWayApart_101 ⟨_, rfl⟩ ⟨rfl, rfl, R⟩

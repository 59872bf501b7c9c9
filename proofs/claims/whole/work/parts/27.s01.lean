/-! methods as functions, by program (gen/dcmall.py) -/
def b_X4_isInBoxOf_49 (n : Nat) (a0 : Nat) (x1 : Int32) (x3 : Int32) (xs0 : Int32) (σ : xσ) : Option (Int32 × xσ) := if xs0 = 0 then some (0, σ) else gd (inb x1 40) (if x3 < (sI σ (a0 + 2) x1.toNatClampNeg) then gd (inb (x1 + 1) 40) (if x3 < (sI σ (a0 + 2) (x1 + 1).toNatClampNeg) then some (0, σ) else gd (inb x1 40) (if (sI σ (a0 + 2) x1.toNatClampNeg) < x3 then some (0, σ) else some (1, σ))) else gd (inb (x1 + 1) 40) (if x3 ≤ (sI σ (a0 + 2) (x1 + 1).toNatClampNeg) then some (1, σ) else gd (inb (x1 + 1) 40) (if x3 < (sI σ (a0 + 2) (x1 + 1).toNatClampNeg) then some (0, σ) else gd (inb x1 40) (if (sI σ (a0 + 2) x1.toNatClampNeg) < x3 then some (0, σ) else some (1, σ)))))
set_option maxRecDepth 100000 in
set_option maxHeartbeats 4000000 in
theorem t_X4_isInBoxOf_49 {G : xG} {n : Nat} {a0 : Nat} {x1 : Int32} {x3 : Int32} {xs0 : Int32} {σ : xσ} {h : xH} {r : Int32 × xσ} {d2 : Option Value} {d4 : Option Value} : Rl n σ h → okS n a0 → b_X4_isInBoxOf_49 n a0 x1 x3 xs0 σ = some r → Go G mX4_isInBoxOf 49 [some (.ref a0), some (.int x1), d2, some (.int x3), d4] [.int xs0] h (fun v h' => xRok (xRt mX4_isInBoxOf) v ∧ v = some (.int r.1) ∧ Rl n r.2 h') := by
  intro R g0 hf
  rw [b_X4_isInBoxOf_49] at hf
  refine go_istoreE rfl (pc' := 51) dX4_isInBoxOf_49 rfl (by decide) rfl ?_
  refine go_iload (pc' := 53) dX4_isInBoxOf_51 rfl rfl ?_
  refine go_if_eq (pc' := 56) (tgt := 104) dX4_isInBoxOf_53 (by decide) rfl (fun c101 => ?_) (fun c101 => ?_)
  · have hf := it c101 hf
    refine go_iconst (v := 0) (pc' := 105) dX4_isInBoxOf_104 rfl (by decide) ?_
    obtain rfl := Option.some.inj hf
    exact Go.ret (v := some (.int _)) dX4_isInBoxOf_105 ⟨_, rfl⟩ ⟨rfl, rfl, R⟩
  · have hf := ie c101 hf
    refine go_aload_n (i := 0) (pc' := 57) dX4_isInBoxOf_56 rfl rfl rfl ?_
    refine go_getS (pc' := 60) dX4_isInBoxOf_57 rfl gf_LandBase_Plane_15 R g0.at (by decide) rfl ?_
    refine go_iload_n (i := 1) (pc' := 61) dX4_isInBoxOf_60 rfl rfl rfl ?_
    obtain ⟨g102, hf⟩ := gd_some hf
    refine go_ialoadS (pc' := 62) dX4_isInBoxOf_61 rfl R g0.y g102 ?_
    refine go_iload_n (i := 3) (pc' := 63) dX4_isInBoxOf_62 rfl rfl rfl ?_
    refine go_icmp_gt (pc' := 66) (tgt := 78) dX4_isInBoxOf_63 (by decide) rfl (fun c103 => ?_) (fun c103 => ?_)
    · have hf := it c103 hf
      refine go_aload_n (i := 0) (pc' := 79) dX4_isInBoxOf_78 rfl rfl rfl ?_
      refine go_getS (pc' := 82) dX4_isInBoxOf_79 rfl gf_LandBase_Plane_15 R g0.at (by decide) rfl ?_
      refine go_iload_n (i := 1) (pc' := 83) dX4_isInBoxOf_82 rfl rfl rfl ?_
      refine go_iconst (v := 1) (pc' := 84) dX4_isInBoxOf_83 rfl (by decide) ?_
      refine go_iadd (pc' := 85) dX4_isInBoxOf_84 rfl ?_
      obtain ⟨g104, hf⟩ := gd_some hf
      refine go_ialoadS (pc' := 86) dX4_isInBoxOf_85 rfl R g0.y g104 ?_
      refine go_iload_n (i := 3) (pc' := 87) dX4_isInBoxOf_86 rfl rfl rfl ?_
      refine go_icmp_gt (pc' := 90) (tgt := 104) dX4_isInBoxOf_87 (by decide) rfl (fun c105 => ?_) (fun c105 => ?_)
      · have hf := it c105 hf
        refine go_iconst (v := 0) (pc' := 105) dX4_isInBoxOf_104 rfl (by decide) ?_
        obtain rfl := Option.some.inj hf
        exact Go.ret (v := some (.int _)) dX4_isInBoxOf_105 ⟨_, rfl⟩ ⟨rfl, rfl, R⟩
      · have hf := ie c105 hf
        refine go_iload_n (i := 3) (pc' := 91) dX4_isInBoxOf_90 rfl rfl rfl ?_
        refine go_aload_n (i := 0) (pc' := 92) dX4_isInBoxOf_91 rfl rfl rfl ?_
        refine go_getS (pc' := 95) dX4_isInBoxOf_92 rfl gf_LandBase_Plane_15 R g0.at (by decide) rfl ?_
        refine go_iload_n (i := 1) (pc' := 96) dX4_isInBoxOf_95 rfl rfl rfl ?_
        obtain ⟨g106, hf⟩ := gd_some hf
        refine go_ialoadS (pc' := 97) dX4_isInBoxOf_96 rfl R g0.y g106 ?_
        refine go_icmp_gt (pc' := 100) (tgt := 104) dX4_isInBoxOf_97 (by decide) rfl (fun c107 => ?_) (fun c107 => ?_)
        · have hf := it c107 hf
          refine go_iconst (v := 0) (pc' := 105) dX4_isInBoxOf_104 rfl (by decide) ?_
          obtain rfl := Option.some.inj hf
          exact Go.ret (v := some (.int _)) dX4_isInBoxOf_105 ⟨_, rfl⟩ ⟨rfl, rfl, R⟩
        · have hf := ie c107 hf
          refine go_iconst (v := 1) (pc' := 101) dX4_isInBoxOf_100 rfl (by decide) ?_
          refine go_goto (pc' := 0) (tgt := 105) dX4_isInBoxOf_101 (by decide) ?_
          obtain rfl := Option.some.inj hf
          exact Go.ret (v := some (.int _)) dX4_isInBoxOf_105 ⟨_, rfl⟩ ⟨rfl, rfl, R⟩
    · have hf := ie c103 hf
      refine go_iload_n (i := 3) (pc' := 67) dX4_isInBoxOf_66 rfl rfl rfl ?_
      refine go_aload_n (i := 0) (pc' := 68) dX4_isInBoxOf_67 rfl rfl rfl ?_
      refine go_getS (pc' := 71) dX4_isInBoxOf_68 rfl gf_LandBase_Plane_15 R g0.at (by decide) rfl ?_
      refine go_iload_n (i := 1) (pc' := 72) dX4_isInBoxOf_71 rfl rfl rfl ?_
      refine go_iconst (v := 1) (pc' := 73) dX4_isInBoxOf_72 rfl (by decide) ?_
      refine go_iadd (pc' := 74) dX4_isInBoxOf_73 rfl ?_
      obtain ⟨g108, hf⟩ := gd_some hf
      refine go_ialoadS (pc' := 75) dX4_isInBoxOf_74 rfl R g0.y g108 ?_
      refine go_icmp_le (pc' := 78) (tgt := 100) dX4_isInBoxOf_75 (by decide) rfl (fun c109 => ?_) (fun c109 => ?_)
      · have hf := it c109 hf
        refine go_iconst (v := 1) (pc' := 101) dX4_isInBoxOf_100 rfl (by decide) ?_
        refine go_goto (pc' := 0) (tgt := 105) dX4_isInBoxOf_101 (by decide) ?_
        obtain rfl := Option.some.inj hf
        exact Go.ret (v := some (.int _)) dX4_isInBoxOf_105 ⟨_, rfl⟩ ⟨rfl, rfl, R⟩
      · have hf := ie c109 hf
        refine go_aload_n (i := 0) (pc' := 79) dX4_isInBoxOf_78 rfl rfl rfl ?_
        refine go_getS (pc' := 82) dX4_isInBoxOf_79 rfl gf_LandBase_Plane_15 R g0.at (by decide) rfl ?_
        refine go_iload_n (i := 1) (pc' := 83) dX4_isInBoxOf_82 rfl rfl rfl ?_
        refine go_iconst (v := 1) (pc' := 84) dX4_isInBoxOf_83 rfl (by decide) ?_
        refine go_iadd (pc' := 85) dX4_isInBoxOf_84 rfl ?_
        obtain ⟨g110, hf⟩ := gd_some hf
        refine go_ialoadS (pc' := 86) dX4_isInBoxOf_85 rfl R g0.y g110 ?_
        refine go_iload_n (i := 3) (pc' := 87) dX4_isInBoxOf_86 rfl rfl rfl ?_
        refine go_icmp_gt (pc' := 90) (tgt := 104) dX4_isInBoxOf_87 (by decide) rfl (fun c111 => ?_) (fun c111 => ?_)
        · have hf := it c111 hf
          refine go_iconst (v := 0) (pc' := 105) dX4_isInBoxOf_104 rfl (by decide) ?_
          obtain rfl := Option.some.inj hf
          exact Go.ret (v := some (.int _)) dX4_isInBoxOf_105 ⟨_, rfl⟩ ⟨rfl, rfl, R⟩
        · have hf := ie c111 hf
          refine go_iload_n (i := 3) (pc' := 91) dX4_isInBoxOf_90 rfl rfl rfl ?_
          refine go_aload_n (i := 0) (pc' := 92) dX4_isInBoxOf_91 rfl rfl rfl ?_
          refine go_getS (pc' := 95) dX4_isInBoxOf_92 rfl gf_LandBase_Plane_15 R g0.at (by decide) rfl ?_
          refine go_iload_n (i := 1) (pc' := 96) dX4_isInBoxOf_95 rfl rfl rfl ?_
          obtain ⟨g112, hf⟩ := gd_some hf
          refine go_ialoadS (pc' := 97) dX4_isInBoxOf_96 rfl R g0.y g112 ?_
          refine go_icmp_gt (pc' := 100) (tgt := 104) dX4_isInBoxOf_97 (by decide) rfl (fun c113 => ?_) (fun c113 => ?_)
          · have hf := it c113 hf
            refine go_iconst (v := 0) (pc' := 105) dX4_isInBoxOf_104 rfl (by decide) ?_
            obtain rfl := Option.some.inj hf
            exact Go.ret (v := some (.int _)) dX4_isInBoxOf_105 ⟨_, rfl⟩ ⟨rfl, rfl, R⟩
          · have hf := ie c113 hf
            refine go_iconst (v := 1) (pc' := 101) dX4_isInBoxOf_100 rfl (by decide) ?_
            refine go_goto (pc' := 0) (tgt := 105) dX4_isInBoxOf_101 (by decide) ?_
            obtain rfl := Option.some.inj hf
            exact Go.ret (v := some (.int _)) dX4_isInBoxOf_105 ⟨_, rfl⟩ ⟨rfl, rfl, R⟩
def f_X4_isInBoxOf (n : Nat) (a0 : Nat) (x1 : Int32) (x2 : Int32) (x3 : Int32) (σ : xσ) : Option (Int32 × xσ) := gd (okS n a0) (gd (inb x1 40) (if x2 < (sI σ (a0 + 1) x1.toNatClampNeg) then gd (inb (x1 + 1) 40) (if x2 < (sI σ (a0 + 1) (x1 + 1).toNatClampNeg) then b_X4_isInBoxOf_49 n a0 x1 x3 0 σ else gd (inb x1 40) (if (sI σ (a0 + 1) x1.toNatClampNeg) < x2 then b_X4_isInBoxOf_49 n a0 x1 x3 0 σ else b_X4_isInBoxOf_49 n a0 x1 x3 1 σ)) else gd (inb (x1 + 1) 40) (if x2 ≤ (sI σ (a0 + 1) (x1 + 1).toNatClampNeg) then b_X4_isInBoxOf_49 n a0 x1 x3 1 σ else gd (inb (x1 + 1) 40) (if x2 < (sI σ (a0 + 1) (x1 + 1).toNatClampNeg) then b_X4_isInBoxOf_49 n a0 x1 x3 0 σ else gd (inb x1 40) (if (sI σ (a0 + 1) x1.toNatClampNeg) < x2 then b_X4_isInBoxOf_49 n a0 x1 x3 0 σ else b_X4_isInBoxOf_49 n a0 x1 x3 1 σ)))))
set_option maxRecDepth 100000 in
set_option maxHeartbeats 4000000 in
theorem c_X4_isInBoxOf {G : xG} {n : Nat} {σ : xσ} {h : xH} {a0 : Nat} {x1 : Int32} {x2 : Int32} {x3 : Int32} {v1 : Int32} {σ1 : xσ} (R : Rl n σ h) (hf : f_X4_isInBoxOf n a0 x1 x2 x3 σ = some (v1, σ1)) : Ca G mX4_isInBoxOf [.ref a0, .int x1, .int x2, .int x3] h (fun v h' => v = some (.int v1) ∧ Rl n σ1 h') := by
  refine Ca.of rfl (Nat.le_of_ble_eq_true rfl) ?_
  generalize hr : (v1, σ1) = r at hf
  suffices q : Go G mX4_isInBoxOf 0 (xent (xMl mX4_isInBoxOf) [.ref a0, .int x1, .int x2, .int x3]) [] h (fun v h' => xRok (xRt mX4_isInBoxOf) v ∧ v = some (.int r.1) ∧ Rl n r.2 h') by
    subst hr
    exact q
  clear hr
  rw [f_X4_isInBoxOf] at hf
  obtain ⟨g0, hf⟩ := gd_some hf
  refine go_aload_n (i := 0) (pc' := 1) dX4_isInBoxOf_0 rfl rfl rfl ?_
  refine go_getS (pc' := 4) dX4_isInBoxOf_1 rfl gf_LandBase_Plane_9 R g0.at (by decide) rfl ?_
  refine go_iload_n (i := 1) (pc' := 5) dX4_isInBoxOf_4 rfl rfl rfl ?_
  obtain ⟨g101, hf⟩ := gd_some hf
  refine go_ialoadS (pc' := 6) dX4_isInBoxOf_5 rfl R g0.x g101 ?_
  refine go_iload_n (i := 2) (pc' := 7) dX4_isInBoxOf_6 rfl rfl rfl ?_
  refine go_icmp_gt (pc' := 10) (tgt := 22) dX4_isInBoxOf_7 (by decide) rfl (fun c102 => ?_) (fun c102 => ?_)
  · have hf := it c102 hf
    refine go_aload_n (i := 0) (pc' := 23) dX4_isInBoxOf_22 rfl rfl rfl ?_
    refine go_getS (pc' := 26) dX4_isInBoxOf_23 rfl gf_LandBase_Plane_9 R g0.at (by decide) rfl ?_
    refine go_iload_n (i := 1) (pc' := 27) dX4_isInBoxOf_26 rfl rfl rfl ?_
    refine go_iconst (v := 1) (pc' := 28) dX4_isInBoxOf_27 rfl (by decide) ?_
    refine go_iadd (pc' := 29) dX4_isInBoxOf_28 rfl ?_
    obtain ⟨g103, hf⟩ := gd_some hf
    refine go_ialoadS (pc' := 30) dX4_isInBoxOf_29 rfl R g0.x g103 ?_
    refine go_iload_n (i := 2) (pc' := 31) dX4_isInBoxOf_30 rfl rfl rfl ?_
    refine go_icmp_gt (pc' := 34) (tgt := 48) dX4_isInBoxOf_31 (by decide) rfl (fun c104 => ?_) (fun c104 => ?_)
    · have hf := it c104 hf
      refine go_iconst (v := 0) (pc' := 49) dX4_isInBoxOf_48 rfl (by decide) ?_
      exact t_X4_isInBoxOf_49 R g0 hf
    · have hf := ie c104 hf
      refine go_iload_n (i := 2) (pc' := 35) dX4_isInBoxOf_34 rfl rfl rfl ?_
      refine go_aload_n (i := 0) (pc' := 36) dX4_isInBoxOf_35 rfl rfl rfl ?_
      refine go_getS (pc' := 39) dX4_isInBoxOf_36 rfl gf_LandBase_Plane_9 R g0.at (by decide) rfl ?_
      refine go_iload_n (i := 1) (pc' := 40) dX4_isInBoxOf_39 rfl rfl rfl ?_
      obtain ⟨g105, hf⟩ := gd_some hf
      refine go_ialoadS (pc' := 41) dX4_isInBoxOf_40 rfl R g0.x g105 ?_
      refine go_icmp_gt (pc' := 44) (tgt := 48) dX4_isInBoxOf_41 (by decide) rfl (fun c106 => ?_) (fun c106 => ?_)
      · have hf := it c106 hf
        refine go_iconst (v := 0) (pc' := 49) dX4_isInBoxOf_48 rfl (by decide) ?_
        exact t_X4_isInBoxOf_49 R g0 hf
      · have hf := ie c106 hf
        refine go_iconst (v := 1) (pc' := 45) dX4_isInBoxOf_44 rfl (by decide) ?_
        refine go_goto (pc' := 0) (tgt := 49) dX4_isInBoxOf_45 (by decide) ?_
        exact t_X4_isInBoxOf_49 R g0 hf
  · have hf := ie c102 hf
    refine go_iload_n (i := 2) (pc' := 11) dX4_isInBoxOf_10 rfl rfl rfl ?_
    refine go_aload_n (i := 0) (pc' := 12) dX4_isInBoxOf_11 rfl rfl rfl ?_
    refine go_getS (pc' := 15) dX4_isInBoxOf_12 rfl gf_LandBase_Plane_9 R g0.at (by decide) rfl ?_
    refine go_iload_n (i := 1) (pc' := 16) dX4_isInBoxOf_15 rfl rfl rfl ?_
    refine go_iconst (v := 1) (pc' := 17) dX4_isInBoxOf_16 rfl (by decide) ?_
    refine go_iadd (pc' := 18) dX4_isInBoxOf_17 rfl ?_
    obtain ⟨g107, hf⟩ := gd_some hf
    refine go_ialoadS (pc' := 19) dX4_isInBoxOf_18 rfl R g0.x g107 ?_
    refine go_icmp_le (pc' := 22) (tgt := 44) dX4_isInBoxOf_19 (by decide) rfl (fun c108 => ?_) (fun c108 => ?_)
    · have hf := it c108 hf
      refine go_iconst (v := 1) (pc' := 45) dX4_isInBoxOf_44 rfl (by decide) ?_
      refine go_goto (pc' := 0) (tgt := 49) dX4_isInBoxOf_45 (by decide) ?_
      exact t_X4_isInBoxOf_49 R g0 hf
    · have hf := ie c108 hf
      refine go_aload_n (i := 0) (pc' := 23) dX4_isInBoxOf_22 rfl rfl rfl ?_
      refine go_getS (pc' := 26) dX4_isInBoxOf_23 rfl gf_LandBase_Plane_9 R g0.at (by decide) rfl ?_
      refine go_iload_n (i := 1) (pc' := 27) dX4_isInBoxOf_26 rfl rfl rfl ?_
      refine go_iconst (v := 1) (pc' := 28) dX4_isInBoxOf_27 rfl (by decide) ?_
      refine go_iadd (pc' := 29) dX4_isInBoxOf_28 rfl ?_
      obtain ⟨g109, hf⟩ := gd_some hf
      refine go_ialoadS (pc' := 30) dX4_isInBoxOf_29 rfl R g0.x g109 ?_
      refine go_iload_n (i := 2) (pc' := 31) dX4_isInBoxOf_30 rfl rfl rfl ?_
      refine go_icmp_gt (pc' := 34) (tgt := 48) dX4_isInBoxOf_31 (by decide) rfl (fun c110 => ?_) (fun c110 => ?_)
      · have hf := it c110 hf
        refine go_iconst (v := 0) (pc' := 49) dX4_isInBoxOf_48 rfl (by decide) ?_
        exact t_X4_isInBoxOf_49 R g0 hf
      · have hf := ie c110 hf
        refine go_iload_n (i := 2) (pc' := 35) dX4_isInBoxOf_34 rfl rfl rfl ?_
        refine go_aload_n (i := 0) (pc' := 36) dX4_isInBoxOf_35 rfl rfl rfl ?_
        refine go_getS (pc' := 39) dX4_isInBoxOf_36 rfl gf_LandBase_Plane_9 R g0.at (by decide) rfl ?_
        refine go_iload_n (i := 1) (pc' := 40) dX4_isInBoxOf_39 rfl rfl rfl ?_
        obtain ⟨g111, hf⟩ := gd_some hf
        refine go_ialoadS (pc' := 41) dX4_isInBoxOf_40 rfl R g0.x g111 ?_
        refine go_icmp_gt (pc' := 44) (tgt := 48) dX4_isInBoxOf_41 (by decide) rfl (fun c112 => ?_) (fun c112 => ?_)
        · have hf := it c112 hf
          refine go_iconst (v := 0) (pc' := 49) dX4_isInBoxOf_48 rfl (by decide) ?_
          exact t_X4_isInBoxOf_49 R g0 hf
        · have hf := ie c112 hf
          refine go_iconst (v := 1) (pc' := 45) dX4_isInBoxOf_44 rfl (by decide) ?_
          refine go_goto (pc' := 0) (tgt := 49) dX4_isInBoxOf_45 (by decide) ?_
          exact t_X4_isInBoxOf_49 R g0 hf
def f_X1_noteCut (n : Nat) (l1 : Int64) (l3 : Int64) (x5 : Int32) (σ : xσ) : Option (Unit × xσ) := if 80 ≤ (sI σ 18 10) then some ((), σ) else gd (inb (sI σ 18 10) 80) (st (wJ σ 24 (sI σ 18 10).toNatClampNeg l1) (fun σ103 => gd (inb (sI σ103 18 10) 80) (st (wJ σ103 25 (sI σ103 18 10).toNatClampNeg l3) (fun σ107 => gd (inb (sI σ107 18 10) 80) (st (wI σ107 26 (sI σ107 18 10).toNatClampNeg x5) (fun σ111 => st (wI σ111 18 10 ((sI σ111 18 10) + 1)) (fun σ114 => some ((), σ114))))))))
set_option maxRecDepth 100000 in
set_option maxHeartbeats 4000000 in
theorem c_X1_noteCut {G : xG} {n : Nat} {σ : xσ} {h : xH} {l1 : Int64} {l3 : Int64} {x5 : Int32} {v1 : Unit} {σ1 : xσ} (R : Rl n σ h) (hf : f_X1_noteCut n l1 l3 x5 σ = some (v1, σ1)) : Ca G mX1_noteCut [.ref 18, .long l1, .long l3, .int x5] h (fun v h' => v = none ∧ Rl n σ1 h') := by
  refine Ca.of rfl (Nat.le_of_ble_eq_true rfl) ?_
  generalize hr : (v1, σ1) = r at hf
  suffices q : Go G mX1_noteCut 0 (xent (xMl mX1_noteCut) [.ref 18, .long l1, .long l3, .int x5]) [] h (fun v h' => xRok (xRt mX1_noteCut) v ∧ v = none ∧ Rl n r.2 h') by
    subst hr
    exact q
  clear hr
  rw [f_X1_noteCut] at hf
  refine go_aload_n (i := 0) (pc' := 1) dX1_noteCut_0 rfl rfl rfl ?_
  refine go_getS (pc' := 4) dX1_noteCut_1 rfl gf_LandBase_Cutter_89 R (R.at rfl (by decide)) (by decide) rfl ?_
  refine go_bipush (v := 80) (pc' := 6) dX1_noteCut_4 rfl (by decide) ?_
  refine go_icmp_ge (pc' := 9) (tgt := 50) dX1_noteCut_6 (by decide) rfl (fun c101 => ?_) (fun c101 => ?_)
  · have hf := it c101 hf
    obtain rfl := Option.some.inj hf
    exact Go.ret (v := none) dX1_noteCut_50 rfl ⟨trivial, rfl, R⟩
  · have hf := ie c101 hf
    refine go_aload_n (i := 0) (pc' := 10) dX1_noteCut_9 rfl rfl rfl ?_
    refine go_getS (pc' := 13) dX1_noteCut_10 rfl gf_LandBase_Cutter_18 R (R.at rfl (by decide)) (by decide) rfl ?_
    refine go_aload_n (i := 0) (pc' := 14) dX1_noteCut_13 rfl rfl rfl ?_
    refine go_getS (pc' := 17) dX1_noteCut_14 rfl gf_LandBase_Cutter_89 R (R.at rfl (by decide)) (by decide) rfl ?_
    refine go_lload_n (i := 1) (pc' := 18) dX1_noteCut_17 rfl rfl rfl ?_
    obtain ⟨g102, hf⟩ := gd_some hf
    obtain ⟨σ103, e104, hf⟩ := st_some hf
    refine go_lastoreS (pc' := 19) dX1_noteCut_18 rfl R (R.aa rfl (by decide)) g102 (fun h105 R => ?_)
    have R := Rl.cast e104 R
    refine go_aload_n (i := 0) (pc' := 20) dX1_noteCut_19 rfl rfl rfl ?_
    refine go_getS (pc' := 23) dX1_noteCut_20 rfl gf_LandBase_Cutter_22 R (R.at rfl (by decide)) (by decide) rfl ?_
    refine go_aload_n (i := 0) (pc' := 24) dX1_noteCut_23 rfl rfl rfl ?_
    refine go_getS (pc' := 27) dX1_noteCut_24 rfl gf_LandBase_Cutter_89 R (R.at rfl (by decide)) (by decide) rfl ?_
    refine go_lload_n (i := 3) (pc' := 28) dX1_noteCut_27 rfl rfl rfl ?_
    obtain ⟨g106, hf⟩ := gd_some hf
    obtain ⟨σ107, e108, hf⟩ := st_some hf
    refine go_lastoreS (pc' := 29) dX1_noteCut_28 rfl R (R.aa rfl (by decide)) g106 (fun h109 R => ?_)
    have R := Rl.cast e108 R
    refine go_aload_n (i := 0) (pc' := 30) dX1_noteCut_29 rfl rfl rfl ?_
    refine go_getS (pc' := 33) dX1_noteCut_30 rfl gf_LandBase_Cutter_25 R (R.at rfl (by decide)) (by decide) rfl ?_
    refine go_aload_n (i := 0) (pc' := 34) dX1_noteCut_33 rfl rfl rfl ?_
    refine go_getS (pc' := 37) dX1_noteCut_34 rfl gf_LandBase_Cutter_89 R (R.at rfl (by decide)) (by decide) rfl ?_
    refine go_iload (pc' := 39) dX1_noteCut_37 rfl rfl ?_
    obtain ⟨g110, hf⟩ := gd_some hf
    obtain ⟨σ111, e112, hf⟩ := st_some hf
    refine go_iastoreS (pc' := 40) dX1_noteCut_39 rfl R (R.aa rfl (by decide)) g110 (fun h113 R => ?_)
    have R := Rl.cast e112 R
    refine go_aload_n (i := 0) (pc' := 41) dX1_noteCut_40 rfl rfl rfl ?_
    refine go_dup (pc' := 42) dX1_noteCut_41 rfl rfl ?_
    refine go_getS (pc' := 45) dX1_noteCut_42 rfl gf_LandBase_Cutter_89 R (R.at rfl (by decide)) (by decide) rfl ?_
    refine go_iconst (v := 1) (pc' := 46) dX1_noteCut_45 rfl (by decide) ?_
    refine go_iadd (pc' := 47) dX1_noteCut_46 rfl ?_
    obtain ⟨σ114, e115, hf⟩ := st_some hf
    refine go_putI (pc' := 50) dX1_noteCut_47 rfl pf_LandBase_Cutter_89 R (R.at rfl (by decide)) (by decide) rfl rfl rfl (fun h116 R => ?_)
    have R := Rl.cast e115 R
    obtain rfl := Option.some.inj hf
    exact Go.ret (v := none) dX1_noteCut_50 rfl ⟨trivial, rfl, R⟩
def b_X1_cross_143 (n : Nat) (l10 : Int64) (l12 : Int64) (σ : xσ) : Option (Unit × xσ) := if (lg_cmp l10 ((0 : Int64))) ≤ 0 then some ((), σ) else if 0 ≤ (lg_cmp l10 l12) then some ((), σ) else bd (f_X1_noteCut n l10 l12 0 σ) (fun v103 σ104 => some ((), σ104))
set_option maxRecDepth 100000 in
set_option maxHeartbeats 4000000 in
theorem t_X1_cross_143 {G : xG} {n : Nat} {l10 : Int64} {l12 : Int64} {σ : xσ} {h : xH} {r : Unit × xσ} {d1 : Option Value} {d2 : Option Value} {d3 : Option Value} {d4 : Option Value} {d5 : Option Value} {d6 : Option Value} {d7 : Option Value} {d8 : Option Value} {d9 : Option Value} : Rl n σ h → b_X1_cross_143 n l10 l12 σ = some r → Go G mX1_cross 143 [some (.ref 18), d1, d2, d3, d4, d5, d6, d7, d8, d9, some (.long l10), none, some (.long l12), none] [] h (fun v h' => xRok (xRt mX1_cross) v ∧ v = none ∧ Rl n r.2 h') := by
  intro R hf
  rw [b_X1_cross_143] at hf
  refine go_lload (pc' := 145) dX1_cross_143 rfl rfl ?_
  refine go_lconst (v := 0) (pc' := 146) dX1_cross_145 rfl (by decide) ?_
  refine go_lcmp (pc' := 147) dX1_cross_146 rfl ?_
  refine go_if_le (pc' := 150) (tgt := 167) dX1_cross_147 (by decide) rfl (fun c101 => ?_) (fun c101 => ?_)
  · have hf := it c101 hf
    obtain rfl := Option.some.inj hf
    exact Go.ret (v := none) dX1_cross_167 rfl ⟨trivial, rfl, R⟩
  · have hf := ie c101 hf
    refine go_lload (pc' := 152) dX1_cross_150 rfl rfl ?_
    refine go_lload (pc' := 154) dX1_cross_152 rfl rfl ?_
    refine go_lcmp (pc' := 155) dX1_cross_154 rfl ?_
    refine go_if_ge (pc' := 158) (tgt := 167) dX1_cross_155 (by decide) rfl (fun c102 => ?_) (fun c102 => ?_)
    · have hf := it c102 hf
      obtain rfl := Option.some.inj hf
      exact Go.ret (v := none) dX1_cross_167 rfl ⟨trivial, rfl, R⟩
    · have hf := ie c102 hf
      refine go_aload_n (i := 0) (pc' := 159) dX1_cross_158 rfl rfl rfl ?_
      refine go_lload (pc' := 161) dX1_cross_159 rfl rfl ?_
      refine go_lload (pc' := 163) dX1_cross_161 rfl rfl ?_
      refine go_iconst (v := 0) (pc' := 164) dX1_cross_163 rfl (by decide) ?_
      obtain ⟨v103, σ104, e105, hf⟩ := bd_some hf
      refine go_invV (As := [_, _, _]) (pc' := 167) dX1_cross_164 rfl cf_X1_cross_116 rfl (R.ob (R.at rfl (by decide))) rfl rfl (Nat.le_of_ble_eq_true rfl) (c_X1_noteCut R e105) (fun q106v h107 q106 => ?_)
      obtain ⟨rfl, R⟩ := q106
      obtain rfl := Option.some.inj hf
      exact Go.ret (v := none) dX1_cross_167 rfl ⟨trivial, rfl, R⟩
def b_X1_cross_140 (n : Nat) (l10 : Int64) (l12 : Int64) (xs0 : Int32) (σ : xσ) : Option (Unit × xσ) := gd (xs0 = 0 ∨ xs0 = 1) (st (wI σ 18 11 xs0) (fun σ102 => b_X1_cross_143 n l10 l12 σ102))
set_option maxRecDepth 100000 in
set_option maxHeartbeats 4000000 in
theorem t_X1_cross_140 {G : xG} {n : Nat} {l10 : Int64} {l12 : Int64} {xs0 : Int32} {σ : xσ} {h : xH} {r : Unit × xσ} {d1 : Option Value} {d2 : Option Value} {d3 : Option Value} {d4 : Option Value} {d5 : Option Value} {d6 : Option Value} {d7 : Option Value} {d8 : Option Value} {d9 : Option Value} : Rl n σ h → b_X1_cross_140 n l10 l12 xs0 σ = some r → Go G mX1_cross 140 [some (.ref 18), d1, d2, d3, d4, d5, d6, d7, d8, d9, some (.long l10), none, some (.long l12), none] [.int xs0, .ref 18] h (fun v h' => xRok (xRt mX1_cross) v ∧ v = none ∧ Rl n r.2 h') := by
  intro R hf
  rw [b_X1_cross_140] at hf
  obtain ⟨g101, hf⟩ := gd_some hf
  obtain ⟨σ102, e103, hf⟩ := st_some hf
  refine go_putI (pc' := 143) dX1_cross_140 rfl pf_LandBase_Cutter_92 R (R.at rfl (by decide)) (by decide) rfl (nb g101) (nf g101) (fun h104 R => ?_)
  have R := Rl.cast e103 R
  exact t_X1_cross_143 R hf
def b_X1_cross_120 (n : Nat) (l10 : Int64) (l12 : Int64) (σ : xσ) : Option (Unit × xσ) := if (lg_cmp l10 ((0 : Int64))) ≤ 0 then if (lg_cmp l10 ((0 : Int64))) ≤ 0 then some ((), σ) else if 0 ≤ (lg_cmp l10 l12) then some ((), σ) else bd (f_X1_noteCut n l10 l12 0 σ) (fun v104 σ105 => some ((), σ105)) else if (sI σ 18 11) = 0 then b_X1_cross_140 n l10 l12 1 σ else b_X1_cross_140 n l10 l12 0 σ
set_option maxRecDepth 100000 in
set_option maxHeartbeats 4000000 in
theorem t_X1_cross_120 {G : xG} {n : Nat} {l10 : Int64} {l12 : Int64} {σ : xσ} {h : xH} {r : Unit × xσ} {d1 : Option Value} {d2 : Option Value} {d3 : Option Value} {d4 : Option Value} {d5 : Option Value} {d6 : Option Value} {d7 : Option Value} {d8 : Option Value} {d9 : Option Value} : Rl n σ h → b_X1_cross_120 n l10 l12 σ = some r → Go G mX1_cross 120 [some (.ref 18), d1, d2, d3, d4, d5, d6, d7, d8, d9, some (.long l10), none, some (.long l12), none] [] h (fun v h' => xRok (xRt mX1_cross) v ∧ v = none ∧ Rl n r.2 h') := by
  intro R hf
  rw [b_X1_cross_120] at hf
  refine go_lload (pc' := 122) dX1_cross_120 rfl rfl ?_
  refine go_lconst (v := 0) (pc' := 123) dX1_cross_122 rfl (by decide) ?_
  refine go_lcmp (pc' := 124) dX1_cross_123 rfl ?_
  refine go_if_le (pc' := 127) (tgt := 143) dX1_cross_124 (by decide) rfl (fun c101 => ?_) (fun c101 => ?_)
  · have hf := it c101 hf
    refine go_lload (pc' := 145) dX1_cross_143 rfl rfl ?_
    refine go_lconst (v := 0) (pc' := 146) dX1_cross_145 rfl (by decide) ?_
    refine go_lcmp (pc' := 147) dX1_cross_146 rfl ?_
    refine go_if_le (pc' := 150) (tgt := 167) dX1_cross_147 (by decide) rfl (fun c102 => ?_) (fun c102 => ?_)
    · have hf := it c102 hf
      obtain rfl := Option.some.inj hf
      exact Go.ret (v := none) dX1_cross_167 rfl ⟨trivial, rfl, R⟩
    · have hf := ie c102 hf
      refine go_lload (pc' := 152) dX1_cross_150 rfl rfl ?_
      refine go_lload (pc' := 154) dX1_cross_152 rfl rfl ?_
      refine go_lcmp (pc' := 155) dX1_cross_154 rfl ?_
      refine go_if_ge (pc' := 158) (tgt := 167) dX1_cross_155 (by decide) rfl (fun c103 => ?_) (fun c103 => ?_)
      · have hf := it c103 hf
        obtain rfl := Option.some.inj hf
        exact Go.ret (v := none) dX1_cross_167 rfl ⟨trivial, rfl, R⟩
      · have hf := ie c103 hf
        refine go_aload_n (i := 0) (pc' := 159) dX1_cross_158 rfl rfl rfl ?_
        refine go_lload (pc' := 161) dX1_cross_159 rfl rfl ?_
        refine go_lload (pc' := 163) dX1_cross_161 rfl rfl ?_
        refine go_iconst (v := 0) (pc' := 164) dX1_cross_163 rfl (by decide) ?_
        obtain ⟨v104, σ105, e106, hf⟩ := bd_some hf
        refine go_invV (As := [_, _, _]) (pc' := 167) dX1_cross_164 rfl cf_X1_cross_116 rfl (R.ob (R.at rfl (by decide))) rfl rfl (Nat.le_of_ble_eq_true rfl) (c_X1_noteCut R e106) (fun q107v h108 q107 => ?_)
        obtain ⟨rfl, R⟩ := q107
        obtain rfl := Option.some.inj hf
        exact Go.ret (v := none) dX1_cross_167 rfl ⟨trivial, rfl, R⟩
  · have hf := ie c101 hf
    refine go_aload_n (i := 0) (pc' := 128) dX1_cross_127 rfl rfl rfl ?_
    refine go_aload_n (i := 0) (pc' := 129) dX1_cross_128 rfl rfl rfl ?_
    refine go_getS (pc' := 132) dX1_cross_129 rfl gf_LandBase_Cutter_92 R (R.at rfl (by decide)) (by decide) rfl ?_
    refine go_if_ne (pc' := 135) (tgt := 139) dX1_cross_132 (by decide) rfl (fun c109 => ?_) (fun c109 => ?_)
    · have hf := ie c109 hf
      refine go_iconst (v := 0) (pc' := 140) dX1_cross_139 rfl (by decide) ?_
      exact t_X1_cross_140 R hf
    · have hf := it c109 hf
      refine go_iconst (v := 1) (pc' := 136) dX1_cross_135 rfl (by decide) ?_
      refine go_goto (pc' := 0) (tgt := 140) dX1_cross_136 (by decide) ?_
      exact t_X1_cross_140 R hf
def b_X1_cross_100 (n : Nat) (l10 : Int64) (l12 : Int64) (σ : xσ) : Option (Unit × xσ) := if (lg_cmp l10 ((0 : Int64))) < 0 then if (lg_cmp l10 ((0 : Int64))) ≤ 0 then if (lg_cmp l10 ((0 : Int64))) ≤ 0 then some ((), σ) else if 0 ≤ (lg_cmp l10 l12) then some ((), σ) else bd (f_X1_noteCut n l10 l12 0 σ) (fun v105 σ106 => some ((), σ106)) else if (sI σ 18 11) = 0 then b_X1_cross_140 n l10 l12 1 σ else b_X1_cross_140 n l10 l12 0 σ else if 0 < (lg_cmp l10 l12) then if (lg_cmp l10 ((0 : Int64))) ≤ 0 then if (lg_cmp l10 ((0 : Int64))) ≤ 0 then some ((), σ) else if 0 ≤ (lg_cmp l10 l12) then some ((), σ) else bd (f_X1_noteCut n l10 l12 0 σ) (fun v115 σ116 => some ((), σ116)) else if (sI σ 18 11) = 0 then b_X1_cross_140 n l10 l12 1 σ else b_X1_cross_140 n l10 l12 0 σ else st (wI σ 18 13 1) (fun σ121 => b_X1_cross_120 n l10 l12 σ121)
set_option maxRecDepth 100000 in
set_option maxHeartbeats 4000000 in
theorem t_X1_cross_100 {G : xG} {n : Nat} {l10 : Int64} {l12 : Int64} {σ : xσ} {h : xH} {r : Unit × xσ} {d1 : Option Value} {d2 : Option Value} {d3 : Option Value} {d4 : Option Value} {d5 : Option Value} {d6 : Option Value} {d7 : Option Value} {d8 : Option Value} {d9 : Option Value} : Rl n σ h → b_X1_cross_100 n l10 l12 σ = some r → Go G mX1_cross 100 [some (.ref 18), d1, d2, d3, d4, d5, d6, d7, d8, d9, some (.long l10), none, some (.long l12), none] [] h (fun v h' => xRok (xRt mX1_cross) v ∧ v = none ∧ Rl n r.2 h') := by
  intro R hf
  rw [b_X1_cross_100] at hf
  refine go_lload (pc' := 102) dX1_cross_100 rfl rfl ?_
  refine go_lconst (v := 0) (pc' := 103) dX1_cross_102 rfl (by decide) ?_
  refine go_lcmp (pc' := 104) dX1_cross_103 rfl ?_
  refine go_if_lt (pc' := 107) (tgt := 120) dX1_cross_104 (by decide) rfl (fun c101 => ?_) (fun c101 => ?_)
  · have hf := it c101 hf
    refine go_lload (pc' := 122) dX1_cross_120 rfl rfl ?_
    refine go_lconst (v := 0) (pc' := 123) dX1_cross_122 rfl (by decide) ?_
    refine go_lcmp (pc' := 124) dX1_cross_123 rfl ?_
    refine go_if_le (pc' := 127) (tgt := 143) dX1_cross_124 (by decide) rfl (fun c102 => ?_) (fun c102 => ?_)
    · have hf := it c102 hf
      refine go_lload (pc' := 145) dX1_cross_143 rfl rfl ?_
      refine go_lconst (v := 0) (pc' := 146) dX1_cross_145 rfl (by decide) ?_
      refine go_lcmp (pc' := 147) dX1_cross_146 rfl ?_
      refine go_if_le (pc' := 150) (tgt := 167) dX1_cross_147 (by decide) rfl (fun c103 => ?_) (fun c103 => ?_)
      · have hf := it c103 hf
        obtain rfl := Option.some.inj hf
        exact Go.ret (v := none) dX1_cross_167 rfl ⟨trivial, rfl, R⟩
      · have hf := ie c103 hf
        refine go_lload (pc' := 152) dX1_cross_150 rfl rfl ?_
        refine go_lload (pc' := 154) dX1_cross_152 rfl rfl ?_
        refine go_lcmp (pc' := 155) dX1_cross_154 rfl ?_
        refine go_if_ge (pc' := 158) (tgt := 167) dX1_cross_155 (by decide) rfl (fun c104 => ?_) (fun c104 => ?_)
        · have hf := it c104 hf
          obtain rfl := Option.some.inj hf
          exact Go.ret (v := none) dX1_cross_167 rfl ⟨trivial, rfl, R⟩
        · have hf := ie c104 hf
          refine go_aload_n (i := 0) (pc' := 159) dX1_cross_158 rfl rfl rfl ?_
          refine go_lload (pc' := 161) dX1_cross_159 rfl rfl ?_
          refine go_lload (pc' := 163) dX1_cross_161 rfl rfl ?_
          refine go_iconst (v := 0) (pc' := 164) dX1_cross_163 rfl (by decide) ?_
          obtain ⟨v105, σ106, e107, hf⟩ := bd_some hf
          refine go_invV (As := [_, _, _]) (pc' := 167) dX1_cross_164 rfl cf_X1_cross_116 rfl (R.ob (R.at rfl (by decide))) rfl rfl (Nat.le_of_ble_eq_true rfl) (c_X1_noteCut R e107) (fun q108v h109 q108 => ?_)
          obtain ⟨rfl, R⟩ := q108
          obtain rfl := Option.some.inj hf
          exact Go.ret (v := none) dX1_cross_167 rfl ⟨trivial, rfl, R⟩
    · have hf := ie c102 hf
      refine go_aload_n (i := 0) (pc' := 128) dX1_cross_127 rfl rfl rfl ?_
      refine go_aload_n (i := 0) (pc' := 129) dX1_cross_128 rfl rfl rfl ?_
      refine go_getS (pc' := 132) dX1_cross_129 rfl gf_LandBase_Cutter_92 R (R.at rfl (by decide)) (by decide) rfl ?_
      refine go_if_ne (pc' := 135) (tgt := 139) dX1_cross_132 (by decide) rfl (fun c110 => ?_) (fun c110 => ?_)
      · have hf := ie c110 hf
        refine go_iconst (v := 0) (pc' := 140) dX1_cross_139 rfl (by decide) ?_
        exact t_X1_cross_140 R hf
      · have hf := it c110 hf
        refine go_iconst (v := 1) (pc' := 136) dX1_cross_135 rfl (by decide) ?_
        refine go_goto (pc' := 0) (tgt := 140) dX1_cross_136 (by decide) ?_
        exact t_X1_cross_140 R hf
  · have hf := ie c101 hf
    refine go_lload (pc' := 109) dX1_cross_107 rfl rfl ?_
    refine go_lload (pc' := 111) dX1_cross_109 rfl rfl ?_
    refine go_lcmp (pc' := 112) dX1_cross_111 rfl ?_
    refine go_if_gt (pc' := 115) (tgt := 120) dX1_cross_112 (by decide) rfl (fun c111 => ?_) (fun c111 => ?_)
    · have hf := it c111 hf
      refine go_lload (pc' := 122) dX1_cross_120 rfl rfl ?_
      refine go_lconst (v := 0) (pc' := 123) dX1_cross_122 rfl (by decide) ?_
      refine go_lcmp (pc' := 124) dX1_cross_123 rfl ?_
      refine go_if_le (pc' := 127) (tgt := 143) dX1_cross_124 (by decide) rfl (fun c112 => ?_) (fun c112 => ?_)
      · have hf := it c112 hf
        refine go_lload (pc' := 145) dX1_cross_143 rfl rfl ?_
        refine go_lconst (v := 0) (pc' := 146) dX1_cross_145 rfl (by decide) ?_
        refine go_lcmp (pc' := 147) dX1_cross_146 rfl ?_
        refine go_if_le (pc' := 150) (tgt := 167) dX1_cross_147 (by decide) rfl (fun c113 => ?_) (fun c113 => ?_)
        · have hf := it c113 hf
          obtain rfl := Option.some.inj hf
          exact Go.ret (v := none) dX1_cross_167 rfl ⟨trivial, rfl, R⟩
        · have hf := ie c113 hf
          refine go_lload (pc' := 152) dX1_cross_150 rfl rfl ?_
          refine go_lload (pc' := 154) dX1_cross_152 rfl rfl ?_
          refine go_lcmp (pc' := 155) dX1_cross_154 rfl ?_
          refine go_if_ge (pc' := 158) (tgt := 167) dX1_cross_155 (by decide) rfl (fun c114 => ?_) (fun c114 => ?_)
          · have hf := it c114 hf
            obtain rfl := Option.some.inj hf
            exact Go.ret (v := none) dX1_cross_167 rfl ⟨trivial, rfl, R⟩
          · have hf := ie c114 hf
            refine go_aload_n (i := 0) (pc' := 159) dX1_cross_158 rfl rfl rfl ?_
            refine go_lload (pc' := 161) dX1_cross_159 rfl rfl ?_
            refine go_lload (pc' := 163) dX1_cross_161 rfl rfl ?_
            refine go_iconst (v := 0) (pc' := 164) dX1_cross_163 rfl (by decide) ?_
            obtain ⟨v115, σ116, e117, hf⟩ := bd_some hf
            refine go_invV (As := [_, _, _]) (pc' := 167) dX1_cross_164 rfl cf_X1_cross_116 rfl (R.ob (R.at rfl (by decide))) rfl rfl (Nat.le_of_ble_eq_true rfl) (c_X1_noteCut R e117) (fun q118v h119 q118 => ?_)
            obtain ⟨rfl, R⟩ := q118
            obtain rfl := Option.some.inj hf
            exact Go.ret (v := none) dX1_cross_167 rfl ⟨trivial, rfl, R⟩
      · have hf := ie c112 hf
        refine go_aload_n (i := 0) (pc' := 128) dX1_cross_127 rfl rfl rfl ?_
        refine go_aload_n (i := 0) (pc' := 129) dX1_cross_128 rfl rfl rfl ?_
        refine go_getS (pc' := 132) dX1_cross_129 rfl gf_LandBase_Cutter_92 R (R.at rfl (by decide)) (by decide) rfl ?_
        refine go_if_ne (pc' := 135) (tgt := 139) dX1_cross_132 (by decide) rfl (fun c120 => ?_) (fun c120 => ?_)
        · have hf := ie c120 hf
          refine go_iconst (v := 0) (pc' := 140) dX1_cross_139 rfl (by decide) ?_
          exact t_X1_cross_140 R hf
        · have hf := it c120 hf
          refine go_iconst (v := 1) (pc' := 136) dX1_cross_135 rfl (by decide) ?_
          refine go_goto (pc' := 0) (tgt := 140) dX1_cross_136 (by decide) ?_
          exact t_X1_cross_140 R hf
    · have hf := ie c111 hf
      refine go_aload_n (i := 0) (pc' := 116) dX1_cross_115 rfl rfl rfl ?_
      refine go_iconst (v := 1) (pc' := 117) dX1_cross_116 rfl (by decide) ?_
      obtain ⟨σ121, e122, hf⟩ := st_some hf
      refine go_putI (pc' := 120) dX1_cross_117 rfl pf_LandBase_Cutter_85 R (R.at rfl (by decide)) (by decide) rfl rfl rfl (fun h123 R => ?_)
      have R := Rl.cast e122 R
      exact t_X1_cross_120 R hf
def f_X1_cross (n : Nat) (a1 : Nat) (x2 : Int32) (x3 : Int32) (l4 : Int64) (σ : xσ) : Option (Unit × xσ) := gd (okS n a1) (nn (sR σ 18 0) (fun a101 => gd (okS n a101) (gd (inb (x3 - 1) 40) (st ((sI σ (a101 + 1) (x3 - 1).toNatClampNeg).toInt64) (fun l105 => nn (sR σ 18 0) (fun a107 => gd (okS n a107) (gd (inb (x3 - 1) 40) (st ((sI σ (a107 + 2) (x3 - 1).toNatClampNeg).toInt64) (fun l111 => gd (inb x2 40) (nn (sR σ 18 0) (fun a114 => gd (okS n a114) (gd (inb x3 40) (gd (inb x2 40) (nn (sR σ 18 0) (fun a119 => gd (okS n a119) (gd (inb x3 40) (st (((l105 - ((sI σ (a1 + 1) x2.toNatClampNeg).toInt64)) * (((sI σ (a114 + 2) x3.toNatClampNeg).toInt64) - l111)) - ((l111 - ((sI σ (a1 + 2) x2.toNatClampNeg).toInt64)) * (((sI σ (a119 + 1) x3.toNatClampNeg).toInt64) - l105))) (fun l123 => if 0 ≤ (lg_cmp l4 ((0 : Int64))) then if (lg_cmp l123 ((0 : Int64))) < 0 then if (lg_cmp l123 ((0 : Int64))) ≤ 0 then if (lg_cmp l123 ((0 : Int64))) ≤ 0 then some ((), σ) else if 0 ≤ (lg_cmp l123 l4) then some ((), σ) else bd (f_X1_noteCut n l123 l4 0 σ) (fun v130 σ131 => some ((), σ131)) else if (sI σ 18 11) = 0 then b_X1_cross_140 n l123 l4 1 σ else b_X1_cross_140 n l123 l4 0 σ else if 0 < (lg_cmp l123 l4) then if (lg_cmp l123 ((0 : Int64))) ≤ 0 then if (lg_cmp l123 ((0 : Int64))) ≤ 0 then some ((), σ) else if 0 ≤ (lg_cmp l123 l4) then some ((), σ) else bd (f_X1_noteCut n l123 l4 0 σ) (fun v140 σ141 => some ((), σ141)) else if (sI σ 18 11) = 0 then b_X1_cross_140 n l123 l4 1 σ else b_X1_cross_140 n l123 l4 0 σ else st (wI σ 18 13 1) (fun σ146 => b_X1_cross_120 n l123 l4 σ146) else st (-l4) (fun l149 => st (-l123) (fun l151 => b_X1_cross_100 n l151 l149 σ))))))))))))))))))))
set_option maxRecDepth 100000 in
set_option maxHeartbeats 4000000 in
theorem c_X1_cross {G : xG} {n : Nat} {σ : xσ} {h : xH} {a1 : Nat} {x2 : Int32} {x3 : Int32} {l4 : Int64} {v1 : Unit} {σ1 : xσ} (R : Rl n σ h) (hf : f_X1_cross n a1 x2 x3 l4 σ = some (v1, σ1)) : Ca G mX1_cross [.ref 18, .ref a1, .int x2, .int x3, .long l4] h (fun v h' => v = none ∧ Rl n σ1 h') := by
  refine Ca.of rfl (Nat.le_of_ble_eq_true rfl) ?_
  generalize hr : (v1, σ1) = r at hf
  suffices q : Go G mX1_cross 0 (xent (xMl mX1_cross) [.ref 18, .ref a1, .int x2, .int x3, .long l4]) [] h (fun v h' => xRok (xRt mX1_cross) v ∧ v = none ∧ Rl n r.2 h') by
    subst hr
    exact q
  clear hr
  rw [f_X1_cross] at hf
  obtain ⟨g1, hf⟩ := gd_some hf
  refine go_aload_n (i := 0) (pc' := 1) dX1_cross_0 rfl rfl rfl ?_
  obtain ⟨a101, e102, hf⟩ := nn_some hf
  obtain ⟨g103, hf⟩ := gd_some hf
  refine go_getSR (pc' := 4) dX1_cross_1 rfl gf_LandBase_Cutter_12 R (R.at rfl (by decide)) (by decide) rfl e102 ?_
  refine go_getS (pc' := 7) dX1_cross_4 rfl gf_LandBase_Cutter_45 R g103.at (by decide) rfl ?_
  refine go_iload_n (i := 3) (pc' := 8) dX1_cross_7 rfl rfl rfl ?_
  refine go_iconst (v := 1) (pc' := 9) dX1_cross_8 rfl (by decide) ?_
  refine go_isub (pc' := 10) dX1_cross_9 rfl ?_
  obtain ⟨g104, hf⟩ := gd_some hf
  refine go_ialoadS (pc' := 11) dX1_cross_10 rfl R g103.x g104 ?_
  refine go_i2l (pc' := 12) dX1_cross_11 rfl rfl ?_
  obtain ⟨l105, e106, hf⟩ := st_some hf
  refine go_lstoreE e106 (pc' := 14) dX1_cross_12 rfl (by decide) rfl ?_
  refine go_aload_n (i := 0) (pc' := 15) dX1_cross_14 rfl rfl rfl ?_
  obtain ⟨a107, e108, hf⟩ := nn_some hf
  obtain ⟨g109, hf⟩ := gd_some hf
  refine go_getSR (pc' := 18) dX1_cross_15 rfl gf_LandBase_Cutter_12 R (R.at rfl (by decide)) (by decide) rfl e108 ?_
  refine go_getS (pc' := 21) dX1_cross_18 rfl gf_LandBase_Cutter_54 R g109.at (by decide) rfl ?_
  refine go_iload_n (i := 3) (pc' := 22) dX1_cross_21 rfl rfl rfl ?_
  refine go_iconst (v := 1) (pc' := 23) dX1_cross_22 rfl (by decide) ?_
  refine go_isub (pc' := 24) dX1_cross_23 rfl ?_
  obtain ⟨g110, hf⟩ := gd_some hf
  refine go_ialoadS (pc' := 25) dX1_cross_24 rfl R g109.y g110 ?_
  refine go_i2l (pc' := 26) dX1_cross_25 rfl rfl ?_
  obtain ⟨l111, e112, hf⟩ := st_some hf
  refine go_lstoreE e112 (pc' := 28) dX1_cross_26 rfl (by decide) rfl ?_
  refine go_lload (pc' := 30) dX1_cross_28 rfl rfl ?_
  refine go_aload_n (i := 1) (pc' := 31) dX1_cross_30 rfl rfl rfl ?_
  refine go_getS (pc' := 34) dX1_cross_31 rfl gf_LandBase_Cutter_45 R g1.at (by decide) rfl ?_
  refine go_iload_n (i := 2) (pc' := 35) dX1_cross_34 rfl rfl rfl ?_
  obtain ⟨g113, hf⟩ := gd_some hf
  refine go_ialoadS (pc' := 36) dX1_cross_35 rfl R g1.x g113 ?_
  refine go_i2l (pc' := 37) dX1_cross_36 rfl rfl ?_
  refine go_lsub (pc' := 38) dX1_cross_37 rfl ?_
  refine go_aload_n (i := 0) (pc' := 39) dX1_cross_38 rfl rfl rfl ?_
  obtain ⟨a114, e115, hf⟩ := nn_some hf
  obtain ⟨g116, hf⟩ := gd_some hf
  refine go_getSR (pc' := 42) dX1_cross_39 rfl gf_LandBase_Cutter_12 R (R.at rfl (by decide)) (by decide) rfl e115 ?_
  refine go_getS (pc' := 45) dX1_cross_42 rfl gf_LandBase_Cutter_54 R g116.at (by decide) rfl ?_
  refine go_iload_n (i := 3) (pc' := 46) dX1_cross_45 rfl rfl rfl ?_
  obtain ⟨g117, hf⟩ := gd_some hf
  refine go_ialoadS (pc' := 47) dX1_cross_46 rfl R g116.y g117 ?_
  refine go_i2l (pc' := 48) dX1_cross_47 rfl rfl ?_
  refine go_lload (pc' := 50) dX1_cross_48 rfl rfl ?_
  refine go_lsub (pc' := 51) dX1_cross_50 rfl ?_
  refine go_lmul (pc' := 52) dX1_cross_51 rfl ?_
  refine go_lload (pc' := 54) dX1_cross_52 rfl rfl ?_
  refine go_aload_n (i := 1) (pc' := 55) dX1_cross_54 rfl rfl rfl ?_
  refine go_getS (pc' := 58) dX1_cross_55 rfl gf_LandBase_Cutter_54 R g1.at (by decide) rfl ?_
  refine go_iload_n (i := 2) (pc' := 59) dX1_cross_58 rfl rfl rfl ?_
  obtain ⟨g118, hf⟩ := gd_some hf
  refine go_ialoadS (pc' := 60) dX1_cross_59 rfl R g1.y g118 ?_
  refine go_i2l (pc' := 61) dX1_cross_60 rfl rfl ?_
  refine go_lsub (pc' := 62) dX1_cross_61 rfl ?_
  refine go_aload_n (i := 0) (pc' := 63) dX1_cross_62 rfl rfl rfl ?_
  obtain ⟨a119, e120, hf⟩ := nn_some hf
  obtain ⟨g121, hf⟩ := gd_some hf
  refine go_getSR (pc' := 66) dX1_cross_63 rfl gf_LandBase_Cutter_12 R (R.at rfl (by decide)) (by decide) rfl e120 ?_
  refine go_getS (pc' := 69) dX1_cross_66 rfl gf_LandBase_Cutter_45 R g121.at (by decide) rfl ?_
  refine go_iload_n (i := 3) (pc' := 70) dX1_cross_69 rfl rfl rfl ?_
  obtain ⟨g122, hf⟩ := gd_some hf
  refine go_ialoadS (pc' := 71) dX1_cross_70 rfl R g121.x g122 ?_
  refine go_i2l (pc' := 72) dX1_cross_71 rfl rfl ?_
  refine go_lload (pc' := 74) dX1_cross_72 rfl rfl ?_
  refine go_lsub (pc' := 75) dX1_cross_74 rfl ?_
  refine go_lmul (pc' := 76) dX1_cross_75 rfl ?_
  refine go_lsub (pc' := 77) dX1_cross_76 rfl ?_
  obtain ⟨l123, e124, hf⟩ := st_some hf
  refine go_lstoreE e124 (pc' := 79) dX1_cross_77 rfl (by decide) rfl ?_
  refine go_lload (pc' := 81) dX1_cross_79 rfl rfl ?_
  refine go_lstoreE rfl (pc' := 83) dX1_cross_81 rfl (by decide) rfl ?_
  refine go_lload (pc' := 85) dX1_cross_83 rfl rfl ?_
  refine go_lconst (v := 0) (pc' := 86) dX1_cross_85 rfl (by decide) ?_
  refine go_lcmp (pc' := 87) dX1_cross_86 rfl ?_
  refine go_if_ge (pc' := 90) (tgt := 100) dX1_cross_87 (by decide) rfl (fun c125 => ?_) (fun c125 => ?_)
  · have hf := it c125 hf
    refine go_lload (pc' := 102) dX1_cross_100 rfl rfl ?_
    refine go_lconst (v := 0) (pc' := 103) dX1_cross_102 rfl (by decide) ?_
    refine go_lcmp (pc' := 104) dX1_cross_103 rfl ?_
    refine go_if_lt (pc' := 107) (tgt := 120) dX1_cross_104 (by decide) rfl (fun c126 => ?_) (fun c126 => ?_)
    · have hf := it c126 hf
      refine go_lload (pc' := 122) dX1_cross_120 rfl rfl ?_
      refine go_lconst (v := 0) (pc' := 123) dX1_cross_122 rfl (by decide) ?_
      refine go_lcmp (pc' := 124) dX1_cross_123 rfl ?_
      refine go_if_le (pc' := 127) (tgt := 143) dX1_cross_124 (by decide) rfl (fun c127 => ?_) (fun c127 => ?_)
      · have hf := it c127 hf
        refine go_lload (pc' := 145) dX1_cross_143 rfl rfl ?_
        refine go_lconst (v := 0) (pc' := 146) dX1_cross_145 rfl (by decide) ?_
        refine go_lcmp (pc' := 147) dX1_cross_146 rfl ?_
        refine go_if_le (pc' := 150) (tgt := 167) dX1_cross_147 (by decide) rfl (fun c128 => ?_) (fun c128 => ?_)
        · have hf := it c128 hf
          obtain rfl := Option.some.inj hf
          exact Go.ret (v := none) dX1_cross_167 rfl ⟨trivial, rfl, R⟩
        · have hf := ie c128 hf
          refine go_lload (pc' := 152) dX1_cross_150 rfl rfl ?_
          refine go_lload (pc' := 154) dX1_cross_152 rfl rfl ?_
          refine go_lcmp (pc' := 155) dX1_cross_154 rfl ?_
          refine go_if_ge (pc' := 158) (tgt := 167) dX1_cross_155 (by decide) rfl (fun c129 => ?_) (fun c129 => ?_)
          · have hf := it c129 hf
            obtain rfl := Option.some.inj hf
            exact Go.ret (v := none) dX1_cross_167 rfl ⟨trivial, rfl, R⟩
          · have hf := ie c129 hf
            refine go_aload_n (i := 0) (pc' := 159) dX1_cross_158 rfl rfl rfl ?_
            refine go_lload (pc' := 161) dX1_cross_159 rfl rfl ?_
            refine go_lload (pc' := 163) dX1_cross_161 rfl rfl ?_
            refine go_iconst (v := 0) (pc' := 164) dX1_cross_163 rfl (by decide) ?_
            obtain ⟨v130, σ131, e132, hf⟩ := bd_some hf
            refine go_invV (As := [_, _, _]) (pc' := 167) dX1_cross_164 rfl cf_X1_cross_116 rfl (R.ob (R.at rfl (by decide))) rfl rfl (Nat.le_of_ble_eq_true rfl) (c_X1_noteCut R e132) (fun q133v h134 q133 => ?_)
            obtain ⟨rfl, R⟩ := q133
            obtain rfl := Option.some.inj hf
            exact Go.ret (v := none) dX1_cross_167 rfl ⟨trivial, rfl, R⟩
      · have hf := ie c127 hf
        refine go_aload_n (i := 0) (pc' := 128) dX1_cross_127 rfl rfl rfl ?_
        refine go_aload_n (i := 0) (pc' := 129) dX1_cross_128 rfl rfl rfl ?_
        refine go_getS (pc' := 132) dX1_cross_129 rfl gf_LandBase_Cutter_92 R (R.at rfl (by decide)) (by decide) rfl ?_
        refine go_if_ne (pc' := 135) (tgt := 139) dX1_cross_132 (by decide) rfl (fun c135 => ?_) (fun c135 => ?_)
        · have hf := ie c135 hf
          refine go_iconst (v := 0) (pc' := 140) dX1_cross_139 rfl (by decide) ?_
          exact t_X1_cross_140 R hf
        · have hf := it c135 hf
          refine go_iconst (v := 1) (pc' := 136) dX1_cross_135 rfl (by decide) ?_
          refine go_goto (pc' := 0) (tgt := 140) dX1_cross_136 (by decide) ?_
          exact t_X1_cross_140 R hf
    · have hf := ie c126 hf
      refine go_lload (pc' := 109) dX1_cross_107 rfl rfl ?_
      refine go_lload (pc' := 111) dX1_cross_109 rfl rfl ?_
      refine go_lcmp (pc' := 112) dX1_cross_111 rfl ?_
      refine go_if_gt (pc' := 115) (tgt := 120) dX1_cross_112 (by decide) rfl (fun c136 => ?_) (fun c136 => ?_)
      · have hf := it c136 hf
        refine go_lload (pc' := 122) dX1_cross_120 rfl rfl ?_
        refine go_lconst (v := 0) (pc' := 123) dX1_cross_122 rfl (by decide) ?_
        refine go_lcmp (pc' := 124) dX1_cross_123 rfl ?_
        refine go_if_le (pc' := 127) (tgt := 143) dX1_cross_124 (by decide) rfl (fun c137 => ?_) (fun c137 => ?_)
        · have hf := it c137 hf
          refine go_lload (pc' := 145) dX1_cross_143 rfl rfl ?_
          refine go_lconst (v := 0) (pc' := 146) dX1_cross_145 rfl (by decide) ?_
          refine go_lcmp (pc' := 147) dX1_cross_146 rfl ?_
          refine go_if_le (pc' := 150) (tgt := 167) dX1_cross_147 (by decide) rfl (fun c138 => ?_) (fun c138 => ?_)
          · have hf := it c138 hf
            obtain rfl := Option.some.inj hf
            exact Go.ret (v := none) dX1_cross_167 rfl ⟨trivial, rfl, R⟩
          · have hf := ie c138 hf
            refine go_lload (pc' := 152) dX1_cross_150 rfl rfl ?_
            refine go_lload (pc' := 154) dX1_cross_152 rfl rfl ?_
            refine go_lcmp (pc' := 155) dX1_cross_154 rfl ?_
            refine go_if_ge (pc' := 158) (tgt := 167) dX1_cross_155 (by decide) rfl (fun c139 => ?_) (fun c139 => ?_)
            · have hf := it c139 hf
              obtain rfl := Option.some.inj hf
              exact Go.ret (v := none) dX1_cross_167 rfl ⟨trivial, rfl, R⟩
            · have hf := ie c139 hf
              refine go_aload_n (i := 0) (pc' := 159) dX1_cross_158 rfl rfl rfl ?_
              refine go_lload (pc' := 161) dX1_cross_159 rfl rfl ?_
              refine go_lload (pc' := 163) dX1_cross_161 rfl rfl ?_
              refine go_iconst (v := 0) (pc' := 164) dX1_cross_163 rfl (by decide) ?_
              obtain ⟨v140, σ141, e142, hf⟩ := bd_some hf
              refine go_invV (As := [_, _, _]) (pc' := 167) dX1_cross_164 rfl cf_X1_cross_116 rfl (R.ob (R.at rfl (by decide))) rfl rfl (Nat.le_of_ble_eq_true rfl) (c_X1_noteCut R e142) (fun q143v h144 q143 => ?_)
              obtain ⟨rfl, R⟩ := q143
              obtain rfl := Option.some.inj hf
              exact Go.ret (v := none) dX1_cross_167 rfl ⟨trivial, rfl, R⟩
        · have hf := ie c137 hf
          refine go_aload_n (i := 0) (pc' := 128) dX1_cross_127 rfl rfl rfl ?_
          refine go_aload_n (i := 0) (pc' := 129) dX1_cross_128 rfl rfl rfl ?_
          refine go_getS (pc' := 132) dX1_cross_129 rfl gf_LandBase_Cutter_92 R (R.at rfl (by decide)) (by decide) rfl ?_
          refine go_if_ne (pc' := 135) (tgt := 139) dX1_cross_132 (by decide) rfl (fun c145 => ?_) (fun c145 => ?_)
          · have hf := ie c145 hf
            refine go_iconst (v := 0) (pc' := 140) dX1_cross_139 rfl (by decide) ?_
            exact t_X1_cross_140 R hf
          · have hf := it c145 hf
            refine go_iconst (v := 1) (pc' := 136) dX1_cross_135 rfl (by decide) ?_
            refine go_goto (pc' := 0) (tgt := 140) dX1_cross_136 (by decide) ?_
            exact t_X1_cross_140 R hf
      · have hf := ie c136 hf
        refine go_aload_n (i := 0) (pc' := 116) dX1_cross_115 rfl rfl rfl ?_
        refine go_iconst (v := 1) (pc' := 117) dX1_cross_116 rfl (by decide) ?_
        obtain ⟨σ146, e147, hf⟩ := st_some hf
        refine go_putI (pc' := 120) dX1_cross_117 rfl pf_LandBase_Cutter_85 R (R.at rfl (by decide)) (by decide) rfl rfl rfl (fun h148 R => ?_)
        have R := Rl.cast e147 R
        exact t_X1_cross_120 R hf
  · have hf := ie c125 hf
    refine go_lload (pc' := 92) dX1_cross_90 rfl rfl ?_
    refine go_lneg (pc' := 93) dX1_cross_92 rfl ?_
    obtain ⟨l149, e150, hf⟩ := st_some hf
    refine go_lstoreE e150 (pc' := 95) dX1_cross_93 rfl (by decide) rfl ?_
    refine go_lload (pc' := 97) dX1_cross_95 rfl rfl ?_
    refine go_lneg (pc' := 98) dX1_cross_97 rfl ?_
    obtain ⟨l151, e152, hf⟩ := st_some hf
    refine go_lstoreE e152 (pc' := 100) dX1_cross_98 rfl (by decide) rfl ?_
    exact t_X1_cross_100 R hf
def b_X1_goAlong_194 (n : Nat) (l7 : Int64) (l15 : Int64) (σ : xσ) : Option (Unit × xσ) := if 0 ≤ (lg_cmp l15 l7) then some ((), σ) else bd (f_X1_noteCut n l15 l7 ((-1)) σ) (fun v102 σ103 => some ((), σ103))
set_option maxRecDepth 100000 in
set_option maxHeartbeats 4000000 in
theorem t_X1_goAlong_194 {G : xG} {n : Nat} {l7 : Int64} {l15 : Int64} {σ : xσ} {h : xH} {r : Unit × xσ} {d1 : Option Value} {d2 : Option Value} {d3 : Option Value} {d4 : Option Value} {d5 : Option Value} {d6 : Option Value} {d9 : Option Value} {d10 : Option Value} {d11 : Option Value} {d12 : Option Value} {d13 : Option Value} {d14 : Option Value} : Rl n σ h → b_X1_goAlong_194 n l7 l15 σ = some r → Go G mX1_goAlong 194 [some (.ref 18), d1, d2, d3, d4, d5, d6, some (.long l7), none, d9, d10, d11, d12, d13, d14, some (.long l15), none] [] h (fun v h' => xRok (xRt mX1_goAlong) v ∧ v = none ∧ Rl n r.2 h') := by
  intro R hf
  rw [b_X1_goAlong_194] at hf
  refine go_lload (pc' := 196) dX1_goAlong_194 rfl rfl ?_
  refine go_lload (pc' := 198) dX1_goAlong_196 rfl rfl ?_
  refine go_lcmp (pc' := 199) dX1_goAlong_198 rfl ?_
  refine go_if_ge (pc' := 202) (tgt := 211) dX1_goAlong_199 (by decide) rfl (fun c101 => ?_) (fun c101 => ?_)
  · have hf := it c101 hf
    obtain rfl := Option.some.inj hf
    exact Go.ret (v := none) dX1_goAlong_211 rfl ⟨trivial, rfl, R⟩
  · have hf := ie c101 hf
    refine go_aload_n (i := 0) (pc' := 203) dX1_goAlong_202 rfl rfl rfl ?_
    refine go_lload (pc' := 205) dX1_goAlong_203 rfl rfl ?_
    refine go_lload (pc' := 207) dX1_goAlong_205 rfl rfl ?_
    refine go_iconst (v := (-1)) (pc' := 208) dX1_goAlong_207 rfl (by decide) ?_
    obtain ⟨v102, σ103, e104, hf⟩ := bd_some hf
    refine go_invV (As := [_, _, _]) (pc' := 211) dX1_goAlong_208 rfl cf_X1_goAlong_116 rfl (R.ob (R.at rfl (by decide))) rfl rfl (Nat.le_of_ble_eq_true rfl) (c_X1_noteCut R e104) (fun q105v h106 q105 => ?_)
    obtain ⟨rfl, R⟩ := q105
    obtain rfl := Option.some.inj hf
    exact Go.ret (v := none) dX1_goAlong_211 rfl ⟨trivial, rfl, R⟩
def b_X1_goAlong_131 (n : Nat) (l7 : Int64) (l9 : Int64) (l11 : Int64) (σ : xσ) : Option (Unit × xσ) := st (lmin l9 l11) (fun l101 => st (lmax l9 l11) (fun l103 => if (lg_cmp l103 ((0 : Int64))) ≤ 0 then some ((), σ) else if (lg_cmp l101 l7) < 0 then if (lg_cmp l101 ((0 : Int64))) ≤ 0 then st (wI σ 18 12 ((sI σ 18 12) + 1)) (fun σ108 => b_X1_goAlong_194 n l7 l103 σ108) else bd (f_X1_noteCut n l101 l7 1 σ) (fun v111 σ112 => b_X1_goAlong_194 n l7 l103 σ112) else some ((), σ)))
set_option maxRecDepth 100000 in
set_option maxHeartbeats 4000000 in
theorem t_X1_goAlong_131 {G : xG} {n : Nat} {l7 : Int64} {l9 : Int64} {l11 : Int64} {σ : xσ} {h : xH} {r : Unit × xσ} {d1 : Option Value} {d2 : Option Value} {d3 : Option Value} {d4 : Option Value} {d5 : Option Value} {d6 : Option Value} {d13 : Option Value} {d14 : Option Value} {d15 : Option Value} {d16 : Option Value} : Rl n σ h → b_X1_goAlong_131 n l7 l9 l11 σ = some r → Go G mX1_goAlong 131 [some (.ref 18), d1, d2, d3, d4, d5, d6, some (.long l7), none, some (.long l9), none, some (.long l11), none, d13, d14, d15, d16] [] h (fun v h' => xRok (xRt mX1_goAlong) v ∧ v = none ∧ Rl n r.2 h') := by
  intro R hf
  rw [b_X1_goAlong_131] at hf
  refine go_lload (pc' := 133) dX1_goAlong_131 rfl rfl ?_
  refine go_lload (pc' := 135) dX1_goAlong_133 rfl rfl ?_
  refine go_mlmin (pc' := 138) dX1_goAlong_135 rfl cf_X1_goAlong_120 (Nat.le_of_ble_eq_true rfl) ?_
  obtain ⟨l101, e102, hf⟩ := st_some hf
  refine go_lstoreE e102 (pc' := 140) dX1_goAlong_138 rfl (by decide) rfl ?_
  refine go_lload (pc' := 142) dX1_goAlong_140 rfl rfl ?_
  refine go_lload (pc' := 144) dX1_goAlong_142 rfl rfl ?_
  refine go_mlmax (pc' := 147) dX1_goAlong_144 rfl cf_X1_goAlong_123 (Nat.le_of_ble_eq_true rfl) ?_
  obtain ⟨l103, e104, hf⟩ := st_some hf
  refine go_lstoreE e104 (pc' := 149) dX1_goAlong_147 rfl (by decide) rfl ?_
  refine go_lload (pc' := 151) dX1_goAlong_149 rfl rfl ?_
  refine go_lconst (v := 0) (pc' := 152) dX1_goAlong_151 rfl (by decide) ?_
  refine go_lcmp (pc' := 153) dX1_goAlong_152 rfl ?_
  refine go_if_le (pc' := 156) (tgt := 164) dX1_goAlong_153 (by decide) rfl (fun c105 => ?_) (fun c105 => ?_)
  · have hf := it c105 hf
    obtain rfl := Option.some.inj hf
    exact Go.ret (v := none) dX1_goAlong_164 rfl ⟨trivial, rfl, R⟩
  · have hf := ie c105 hf
    refine go_lload (pc' := 158) dX1_goAlong_156 rfl rfl ?_
    refine go_lload (pc' := 160) dX1_goAlong_158 rfl rfl ?_
    refine go_lcmp (pc' := 161) dX1_goAlong_160 rfl ?_
    refine go_if_lt (pc' := 164) (tgt := 165) dX1_goAlong_161 (by decide) rfl (fun c106 => ?_) (fun c106 => ?_)
    · have hf := it c106 hf
      refine go_lload (pc' := 167) dX1_goAlong_165 rfl rfl ?_
      refine go_lconst (v := 0) (pc' := 168) dX1_goAlong_167 rfl (by decide) ?_
      refine go_lcmp (pc' := 169) dX1_goAlong_168 rfl ?_
      refine go_if_le (pc' := 172) (tgt := 184) dX1_goAlong_169 (by decide) rfl (fun c107 => ?_) (fun c107 => ?_)
      · have hf := it c107 hf
        refine go_aload_n (i := 0) (pc' := 185) dX1_goAlong_184 rfl rfl rfl ?_
        refine go_dup (pc' := 186) dX1_goAlong_185 rfl rfl ?_
        refine go_getS (pc' := 189) dX1_goAlong_186 rfl gf_LandBase_Cutter_95 R (R.at rfl (by decide)) (by decide) rfl ?_
        refine go_iconst (v := 1) (pc' := 190) dX1_goAlong_189 rfl (by decide) ?_
        refine go_iadd (pc' := 191) dX1_goAlong_190 rfl ?_
        obtain ⟨σ108, e109, hf⟩ := st_some hf
        refine go_putI (pc' := 194) dX1_goAlong_191 rfl pf_LandBase_Cutter_95 R (R.at rfl (by decide)) (by decide) rfl rfl rfl (fun h110 R => ?_)
        have R := Rl.cast e109 R
        exact t_X1_goAlong_194 R hf
      · have hf := ie c107 hf
        refine go_aload_n (i := 0) (pc' := 173) dX1_goAlong_172 rfl rfl rfl ?_
        refine go_lload (pc' := 175) dX1_goAlong_173 rfl rfl ?_
        refine go_lload (pc' := 177) dX1_goAlong_175 rfl rfl ?_
        refine go_iconst (v := 1) (pc' := 178) dX1_goAlong_177 rfl (by decide) ?_
        obtain ⟨v111, σ112, e113, hf⟩ := bd_some hf
        refine go_invV (As := [_, _, _]) (pc' := 181) dX1_goAlong_178 rfl cf_X1_goAlong_116 rfl (R.ob (R.at rfl (by decide))) rfl rfl (Nat.le_of_ble_eq_true rfl) (c_X1_noteCut R e113) (fun q114v h115 q114 => ?_)
        obtain ⟨rfl, R⟩ := q114
        refine go_goto (pc' := 0) (tgt := 194) dX1_goAlong_181 (by decide) ?_
        exact t_X1_goAlong_194 R hf
    · have hf := ie c106 hf
      obtain rfl := Option.some.inj hf
      exact Go.ret (v := none) dX1_goAlong_164 rfl ⟨trivial, rfl, R⟩
def b_X1_goAlong_64 (n : Nat) (x2 : Int32) (x3 : Int32) (a5 : Nat) (as0 : Nat) (σ : xσ) : Option (Unit × xσ) := gd (inb (x2 + 1) 40) (gd (inb x2 40) (st (((sI σ a5 (x2 + 1).toNatClampNeg).toInt64) - ((sI σ a5 x2.toNatClampNeg).toInt64)) (fun l103 => gd (inb (x3 - 1) 40) (gd (inb x2 40) (st (((sI σ as0 (x3 - 1).toNatClampNeg).toInt64) - ((sI σ a5 x2.toNatClampNeg).toInt64)) (fun l107 => gd (inb x3 40) (gd (inb x2 40) (st (((sI σ as0 x3.toNatClampNeg).toInt64) - ((sI σ a5 x2.toNatClampNeg).toInt64)) (fun l111 => if 0 ≤ (lg_cmp l103 ((0 : Int64))) then st (lmin l107 l111) (fun l114 => st (lmax l107 l111) (fun l116 => if (lg_cmp l116 ((0 : Int64))) ≤ 0 then some ((), σ) else if (lg_cmp l114 l103) < 0 then if (lg_cmp l114 ((0 : Int64))) ≤ 0 then st (wI σ 18 12 ((sI σ 18 12) + 1)) (fun σ121 => b_X1_goAlong_194 n l103 l116 σ121) else bd (f_X1_noteCut n l114 l103 1 σ) (fun v124 σ125 => b_X1_goAlong_194 n l103 l116 σ125) else some ((), σ))) else st (-l103) (fun l129 => st (-l107) (fun l131 => st (-l111) (fun l133 => b_X1_goAlong_131 n l129 l131 l133 σ))))))))))))
set_option maxRecDepth 100000 in
set_option maxHeartbeats 4000000 in
theorem t_X1_goAlong_64 {G : xG} {n : Nat} {x2 : Int32} {x3 : Int32} {a5 : Nat} {as0 : Nat} {σ : xσ} {h : xH} {r : Unit × xσ} {d1 : Option Value} {d4 : Option Value} {d6 : Option Value} {d7 : Option Value} {d8 : Option Value} {d9 : Option Value} {d10 : Option Value} {d11 : Option Value} {d12 : Option Value} {d13 : Option Value} {d14 : Option Value} {d15 : Option Value} {d16 : Option Value} : Rl n σ h → okX n a5 → okX n as0 → b_X1_goAlong_64 n x2 x3 a5 as0 σ = some r → Go G mX1_goAlong 64 [some (.ref 18), d1, some (.int x2), some (.int x3), d4, some (.ref a5), d6, d7, d8, d9, d10, d11, d12, d13, d14, d15, d16] [.ref as0] h (fun v h' => xRok (xRt mX1_goAlong) v ∧ v = none ∧ Rl n r.2 h') := by
  intro R g5 gs0 hf
  rw [b_X1_goAlong_64] at hf
  refine go_astore (pc' := 66) dX1_goAlong_64 rfl (by decide) rfl ?_
  refine go_aload (pc' := 68) dX1_goAlong_66 rfl rfl ?_
  refine go_iload_n (i := 2) (pc' := 69) dX1_goAlong_68 rfl rfl rfl ?_
  refine go_iconst (v := 1) (pc' := 70) dX1_goAlong_69 rfl (by decide) ?_
  refine go_iadd (pc' := 71) dX1_goAlong_70 rfl ?_
  obtain ⟨g101, hf⟩ := gd_some hf
  refine go_ialoadS (pc' := 72) dX1_goAlong_71 rfl R g5 g101 ?_
  refine go_i2l (pc' := 73) dX1_goAlong_72 rfl rfl ?_
  refine go_aload (pc' := 75) dX1_goAlong_73 rfl rfl ?_
  refine go_iload_n (i := 2) (pc' := 76) dX1_goAlong_75 rfl rfl rfl ?_
  obtain ⟨g102, hf⟩ := gd_some hf
  refine go_ialoadS (pc' := 77) dX1_goAlong_76 rfl R g5 g102 ?_
  refine go_i2l (pc' := 78) dX1_goAlong_77 rfl rfl ?_
  refine go_lsub (pc' := 79) dX1_goAlong_78 rfl ?_
  obtain ⟨l103, e104, hf⟩ := st_some hf
  refine go_lstoreE e104 (pc' := 81) dX1_goAlong_79 rfl (by decide) rfl ?_
  refine go_aload (pc' := 83) dX1_goAlong_81 rfl rfl ?_
  refine go_iload_n (i := 3) (pc' := 84) dX1_goAlong_83 rfl rfl rfl ?_
  refine go_iconst (v := 1) (pc' := 85) dX1_goAlong_84 rfl (by decide) ?_
  refine go_isub (pc' := 86) dX1_goAlong_85 rfl ?_
  obtain ⟨g105, hf⟩ := gd_some hf
  refine go_ialoadS (pc' := 87) dX1_goAlong_86 rfl R gs0 g105 ?_
  refine go_i2l (pc' := 88) dX1_goAlong_87 rfl rfl ?_
  refine go_aload (pc' := 90) dX1_goAlong_88 rfl rfl ?_
  refine go_iload_n (i := 2) (pc' := 91) dX1_goAlong_90 rfl rfl rfl ?_
  obtain ⟨g106, hf⟩ := gd_some hf
  refine go_ialoadS (pc' := 92) dX1_goAlong_91 rfl R g5 g106 ?_
  refine go_i2l (pc' := 93) dX1_goAlong_92 rfl rfl ?_
  refine go_lsub (pc' := 94) dX1_goAlong_93 rfl ?_
  obtain ⟨l107, e108, hf⟩ := st_some hf
  refine go_lstoreE e108 (pc' := 96) dX1_goAlong_94 rfl (by decide) rfl ?_
  refine go_aload (pc' := 98) dX1_goAlong_96 rfl rfl ?_
  refine go_iload_n (i := 3) (pc' := 99) dX1_goAlong_98 rfl rfl rfl ?_
  obtain ⟨g109, hf⟩ := gd_some hf
  refine go_ialoadS (pc' := 100) dX1_goAlong_99 rfl R gs0 g109 ?_
  refine go_i2l (pc' := 101) dX1_goAlong_100 rfl rfl ?_
  refine go_aload (pc' := 103) dX1_goAlong_101 rfl rfl ?_
  refine go_iload_n (i := 2) (pc' := 104) dX1_goAlong_103 rfl rfl rfl ?_
  obtain ⟨g110, hf⟩ := gd_some hf
  refine go_ialoadS (pc' := 105) dX1_goAlong_104 rfl R g5 g110 ?_
  refine go_i2l (pc' := 106) dX1_goAlong_105 rfl rfl ?_
  refine go_lsub (pc' := 107) dX1_goAlong_106 rfl ?_
  obtain ⟨l111, e112, hf⟩ := st_some hf
  refine go_lstoreE e112 (pc' := 109) dX1_goAlong_107 rfl (by decide) rfl ?_
  refine go_lload (pc' := 111) dX1_goAlong_109 rfl rfl ?_
  refine go_lconst (v := 0) (pc' := 112) dX1_goAlong_111 rfl (by decide) ?_
  refine go_lcmp (pc' := 113) dX1_goAlong_112 rfl ?_
  refine go_if_ge (pc' := 116) (tgt := 131) dX1_goAlong_113 (by decide) rfl (fun c113 => ?_) (fun c113 => ?_)
  · have hf := it c113 hf
    refine go_lload (pc' := 133) dX1_goAlong_131 rfl rfl ?_
    refine go_lload (pc' := 135) dX1_goAlong_133 rfl rfl ?_
    refine go_mlmin (pc' := 138) dX1_goAlong_135 rfl cf_X1_goAlong_120 (Nat.le_of_ble_eq_true rfl) ?_
    obtain ⟨l114, e115, hf⟩ := st_some hf
    refine go_lstoreE e115 (pc' := 140) dX1_goAlong_138 rfl (by decide) rfl ?_
    refine go_lload (pc' := 142) dX1_goAlong_140 rfl rfl ?_
    refine go_lload (pc' := 144) dX1_goAlong_142 rfl rfl ?_
    refine go_mlmax (pc' := 147) dX1_goAlong_144 rfl cf_X1_goAlong_123 (Nat.le_of_ble_eq_true rfl) ?_
    obtain ⟨l116, e117, hf⟩ := st_some hf
    refine go_lstoreE e117 (pc' := 149) dX1_goAlong_147 rfl (by decide) rfl ?_
    refine go_lload (pc' := 151) dX1_goAlong_149 rfl rfl ?_
    refine go_lconst (v := 0) (pc' := 152) dX1_goAlong_151 rfl (by decide) ?_
    refine go_lcmp (pc' := 153) dX1_goAlong_152 rfl ?_
    refine go_if_le (pc' := 156) (tgt := 164) dX1_goAlong_153 (by decide) rfl (fun c118 => ?_) (fun c118 => ?_)
    · have hf := it c118 hf
      obtain rfl := Option.some.inj hf
      exact Go.ret (v := none) dX1_goAlong_164 rfl ⟨trivial, rfl, R⟩
    · have hf := ie c118 hf
      refine go_lload (pc' := 158) dX1_goAlong_156 rfl rfl ?_
      refine go_lload (pc' := 160) dX1_goAlong_158 rfl rfl ?_
      refine go_lcmp (pc' := 161) dX1_goAlong_160 rfl ?_
      refine go_if_lt (pc' := 164) (tgt := 165) dX1_goAlong_161 (by decide) rfl (fun c119 => ?_) (fun c119 => ?_)
      · have hf := it c119 hf
        refine go_lload (pc' := 167) dX1_goAlong_165 rfl rfl ?_
        refine go_lconst (v := 0) (pc' := 168) dX1_goAlong_167 rfl (by decide) ?_
        refine go_lcmp (pc' := 169) dX1_goAlong_168 rfl ?_
        refine go_if_le (pc' := 172) (tgt := 184) dX1_goAlong_169 (by decide) rfl (fun c120 => ?_) (fun c120 => ?_)
        · have hf := it c120 hf
          refine go_aload_n (i := 0) (pc' := 185) dX1_goAlong_184 rfl rfl rfl ?_
          refine go_dup (pc' := 186) dX1_goAlong_185 rfl rfl ?_
          refine go_getS (pc' := 189) dX1_goAlong_186 rfl gf_LandBase_Cutter_95 R (R.at rfl (by decide)) (by decide) rfl ?_
          refine go_iconst (v := 1) (pc' := 190) dX1_goAlong_189 rfl (by decide) ?_
          refine go_iadd (pc' := 191) dX1_goAlong_190 rfl ?_
          obtain ⟨σ121, e122, hf⟩ := st_some hf
          refine go_putI (pc' := 194) dX1_goAlong_191 rfl pf_LandBase_Cutter_95 R (R.at rfl (by decide)) (by decide) rfl rfl rfl (fun h123 R => ?_)
          have R := Rl.cast e122 R
          exact t_X1_goAlong_194 R hf
        · have hf := ie c120 hf
          refine go_aload_n (i := 0) (pc' := 173) dX1_goAlong_172 rfl rfl rfl ?_
          refine go_lload (pc' := 175) dX1_goAlong_173 rfl rfl ?_
          refine go_lload (pc' := 177) dX1_goAlong_175 rfl rfl ?_
          refine go_iconst (v := 1) (pc' := 178) dX1_goAlong_177 rfl (by decide) ?_
          obtain ⟨v124, σ125, e126, hf⟩ := bd_some hf
          refine go_invV (As := [_, _, _]) (pc' := 181) dX1_goAlong_178 rfl cf_X1_goAlong_116 rfl (R.ob (R.at rfl (by decide))) rfl rfl (Nat.le_of_ble_eq_true rfl) (c_X1_noteCut R e126) (fun q127v h128 q127 => ?_)
          obtain ⟨rfl, R⟩ := q127
          refine go_goto (pc' := 0) (tgt := 194) dX1_goAlong_181 (by decide) ?_
          exact t_X1_goAlong_194 R hf
      · have hf := ie c119 hf
        obtain rfl := Option.some.inj hf
        exact Go.ret (v := none) dX1_goAlong_164 rfl ⟨trivial, rfl, R⟩
  · have hf := ie c113 hf
    refine go_lload (pc' := 118) dX1_goAlong_116 rfl rfl ?_
    refine go_lneg (pc' := 119) dX1_goAlong_118 rfl ?_
    obtain ⟨l129, e130, hf⟩ := st_some hf
    refine go_lstoreE e130 (pc' := 121) dX1_goAlong_119 rfl (by decide) rfl ?_
    refine go_lload (pc' := 123) dX1_goAlong_121 rfl rfl ?_
    refine go_lneg (pc' := 124) dX1_goAlong_123 rfl ?_
    obtain ⟨l131, e132, hf⟩ := st_some hf
    refine go_lstoreE e132 (pc' := 126) dX1_goAlong_124 rfl (by decide) rfl ?_
    refine go_lload (pc' := 128) dX1_goAlong_126 rfl rfl ?_
    refine go_lneg (pc' := 129) dX1_goAlong_128 rfl ?_
    obtain ⟨l133, e134, hf⟩ := st_some hf
    refine go_lstoreE e134 (pc' := 131) dX1_goAlong_129 rfl (by decide) rfl ?_
    exact t_X1_goAlong_131 R hf
def b_X1_goAlong_40 (n : Nat) (x2 : Int32) (x3 : Int32) (x4 : Int32) (as0 : Nat) (σ : xσ) : Option (Unit × xσ) := if x4 = 0 then nn (sR σ 18 0) (fun a102 => gd (okS n a102) (b_X1_goAlong_64 n x2 x3 as0 (a102 + 2) σ)) else nn (sR σ 18 0) (fun a105 => gd (okS n a105) (b_X1_goAlong_64 n x2 x3 as0 (a105 + 1) σ))
set_option maxRecDepth 100000 in
set_option maxHeartbeats 4000000 in
theorem t_X1_goAlong_40 {G : xG} {n : Nat} {x2 : Int32} {x3 : Int32} {x4 : Int32} {as0 : Nat} {σ : xσ} {h : xH} {r : Unit × xσ} {d1 : Option Value} {d5 : Option Value} {d6 : Option Value} {d7 : Option Value} {d8 : Option Value} {d9 : Option Value} {d10 : Option Value} {d11 : Option Value} {d12 : Option Value} {d13 : Option Value} {d14 : Option Value} {d15 : Option Value} {d16 : Option Value} : Rl n σ h → okX n as0 → b_X1_goAlong_40 n x2 x3 x4 as0 σ = some r → Go G mX1_goAlong 40 [some (.ref 18), d1, some (.int x2), some (.int x3), some (.int x4), d5, d6, d7, d8, d9, d10, d11, d12, d13, d14, d15, d16] [.ref as0] h (fun v h' => xRok (xRt mX1_goAlong) v ∧ v = none ∧ Rl n r.2 h') := by
  intro R gs0 hf
  rw [b_X1_goAlong_40] at hf
  refine go_astore (pc' := 42) dX1_goAlong_40 rfl (by decide) rfl ?_
  refine go_iload (pc' := 44) dX1_goAlong_42 rfl rfl ?_
  refine go_if_eq (pc' := 47) (tgt := 57) dX1_goAlong_44 (by decide) rfl (fun c101 => ?_) (fun c101 => ?_)
  · have hf := it c101 hf
    refine go_aload_n (i := 0) (pc' := 58) dX1_goAlong_57 rfl rfl rfl ?_
    obtain ⟨a102, e103, hf⟩ := nn_some hf
    obtain ⟨g104, hf⟩ := gd_some hf
    refine go_getSR (pc' := 61) dX1_goAlong_58 rfl gf_LandBase_Cutter_12 R (R.at rfl (by decide)) (by decide) rfl e103 ?_
    refine go_getS (pc' := 64) dX1_goAlong_61 rfl gf_LandBase_Cutter_54 R g104.at (by decide) rfl ?_
    exact t_X1_goAlong_64 R gs0 g104.y hf
  · have hf := ie c101 hf
    refine go_aload_n (i := 0) (pc' := 48) dX1_goAlong_47 rfl rfl rfl ?_
    obtain ⟨a105, e106, hf⟩ := nn_some hf
    obtain ⟨g107, hf⟩ := gd_some hf
    refine go_getSR (pc' := 51) dX1_goAlong_48 rfl gf_LandBase_Cutter_12 R (R.at rfl (by decide)) (by decide) rfl e106 ?_
    refine go_getS (pc' := 54) dX1_goAlong_51 rfl gf_LandBase_Cutter_45 R g107.at (by decide) rfl ?_
    refine go_goto (pc' := 0) (tgt := 64) dX1_goAlong_54 (by decide) ?_
    exact t_X1_goAlong_64 R gs0 g107.x hf
def b_X1_goAlong_22 (n : Nat) (a1 : Nat) (x2 : Int32) (x3 : Int32) (xs0 : Int32) (σ : xσ) : Option (Unit × xσ) := if xs0 = 0 then b_X1_goAlong_40 n x2 x3 xs0 (a1 + 2) σ else b_X1_goAlong_40 n x2 x3 xs0 (a1 + 1) σ
set_option maxRecDepth 100000 in
set_option maxHeartbeats 4000000 in
theorem t_X1_goAlong_22 {G : xG} {n : Nat} {a1 : Nat} {x2 : Int32} {x3 : Int32} {xs0 : Int32} {σ : xσ} {h : xH} {r : Unit × xσ} {d4 : Option Value} {d5 : Option Value} {d6 : Option Value} {d7 : Option Value} {d8 : Option Value} {d9 : Option Value} {d10 : Option Value} {d11 : Option Value} {d12 : Option Value} {d13 : Option Value} {d14 : Option Value} {d15 : Option Value} {d16 : Option Value} : Rl n σ h → okS n a1 → b_X1_goAlong_22 n a1 x2 x3 xs0 σ = some r → Go G mX1_goAlong 22 [some (.ref 18), some (.ref a1), some (.int x2), some (.int x3), d4, d5, d6, d7, d8, d9, d10, d11, d12, d13, d14, d15, d16] [.int xs0] h (fun v h' => xRok (xRt mX1_goAlong) v ∧ v = none ∧ Rl n r.2 h') := by
  intro R g1 hf
  rw [b_X1_goAlong_22] at hf
  refine go_istoreE rfl (pc' := 24) dX1_goAlong_22 rfl (by decide) rfl ?_
  refine go_iload (pc' := 26) dX1_goAlong_24 rfl rfl ?_
  refine go_if_eq (pc' := 29) (tgt := 36) dX1_goAlong_26 (by decide) rfl (fun c101 => ?_) (fun c101 => ?_)
  · have hf := it c101 hf
    refine go_aload_n (i := 1) (pc' := 37) dX1_goAlong_36 rfl rfl rfl ?_
    refine go_getS (pc' := 40) dX1_goAlong_37 rfl gf_LandBase_Cutter_54 R g1.at (by decide) rfl ?_
    exact t_X1_goAlong_40 R g1.y hf
  · have hf := ie c101 hf
    refine go_aload_n (i := 1) (pc' := 30) dX1_goAlong_29 rfl rfl rfl ?_
    refine go_getS (pc' := 33) dX1_goAlong_30 rfl gf_LandBase_Cutter_45 R g1.at (by decide) rfl ?_
    refine go_goto (pc' := 0) (tgt := 40) dX1_goAlong_33 (by decide) ?_
    exact t_X1_goAlong_40 R g1.x hf
def f_X1_goAlong (n : Nat) (a1 : Nat) (x2 : Int32) (x3 : Int32) (σ : xσ) : Option (Unit × xσ) := gd (okS n a1) (gd (inb x2 40) (gd (inb (x2 + 1) 40) (if (sI σ (a1 + 1) x2.toNatClampNeg) = (sI σ (a1 + 1) (x2 + 1).toNatClampNeg) then b_X1_goAlong_22 n a1 x2 x3 0 σ else b_X1_goAlong_22 n a1 x2 x3 1 σ)))
set_option maxRecDepth 100000 in
set_option maxHeartbeats 4000000 in
theorem c_X1_goAlong {G : xG} {n : Nat} {σ : xσ} {h : xH} {a1 : Nat} {x2 : Int32} {x3 : Int32} {v1 : Unit} {σ1 : xσ} (R : Rl n σ h) (hf : f_X1_goAlong n a1 x2 x3 σ = some (v1, σ1)) : Ca G mX1_goAlong [.ref 18, .ref a1, .int x2, .int x3] h (fun v h' => v = none ∧ Rl n σ1 h') := by
  refine Ca.of rfl (Nat.le_of_ble_eq_true rfl) ?_
  generalize hr : (v1, σ1) = r at hf
  suffices q : Go G mX1_goAlong 0 (xent (xMl mX1_goAlong) [.ref 18, .ref a1, .int x2, .int x3]) [] h (fun v h' => xRok (xRt mX1_goAlong) v ∧ v = none ∧ Rl n r.2 h') by
    subst hr
    exact q
  clear hr
  rw [f_X1_goAlong] at hf
  obtain ⟨g1, hf⟩ := gd_some hf
  refine go_aload_n (i := 1) (pc' := 1) dX1_goAlong_0 rfl rfl rfl ?_
  refine go_getS (pc' := 4) dX1_goAlong_1 rfl gf_LandBase_Cutter_45 R g1.at (by decide) rfl ?_
  refine go_iload_n (i := 2) (pc' := 5) dX1_goAlong_4 rfl rfl rfl ?_
  obtain ⟨g101, hf⟩ := gd_some hf
  refine go_ialoadS (pc' := 6) dX1_goAlong_5 rfl R g1.x g101 ?_
  refine go_aload_n (i := 1) (pc' := 7) dX1_goAlong_6 rfl rfl rfl ?_
  refine go_getS (pc' := 10) dX1_goAlong_7 rfl gf_LandBase_Cutter_45 R g1.at (by decide) rfl ?_
  refine go_iload_n (i := 2) (pc' := 11) dX1_goAlong_10 rfl rfl rfl ?_
  refine go_iconst (v := 1) (pc' := 12) dX1_goAlong_11 rfl (by decide) ?_
  refine go_iadd (pc' := 13) dX1_goAlong_12 rfl ?_
  obtain ⟨g102, hf⟩ := gd_some hf
  refine go_ialoadS (pc' := 14) dX1_goAlong_13 rfl R g1.x g102 ?_
  refine go_icmp_eq (pc' := 17) (tgt := 21) dX1_goAlong_14 (by decide) rfl (fun c103 => ?_) (fun c103 => ?_)
  · have hf := it c103 hf
    refine go_iconst (v := 0) (pc' := 22) dX1_goAlong_21 rfl (by decide) ?_
    exact t_X1_goAlong_22 R g1 hf
  · have hf := ie c103 hf
    refine go_iconst (v := 1) (pc' := 18) dX1_goAlong_17 rfl (by decide) ?_
    refine go_goto (pc' := 0) (tgt := 22) dX1_goAlong_18 (by decide) ?_
    exact t_X1_goAlong_22 R g1 hf
def b_X1_gather_192 (n : Nat) (k28 : Nat → Int32 → Int64 → Int32 → xσ → Option (Unit × xσ)) (a1 : Nat) (x2 : Int32) (x5 : Int32) (l6 : Int64) (σ : xσ) : Option (Unit × xσ) := k28 a1 x2 l6 (x5 + 1) σ
set_option maxRecDepth 100000 in
set_option maxHeartbeats 4000000 in
theorem t_X1_gather_192 {G : xG} {n : Nat} {k28 : Nat → Int32 → Int64 → Int32 → xσ → Option (Unit × xσ)} (hk28 : ∀ {a1 : Nat} {x2 : Int32} {l3 : Int64} {x5 : Int32} {σ : xσ} {h : xH} {r : Unit × xσ} {d6 : Option Value} {d7 : Option Value}, Rl n σ h → okS n a1 → k28 a1 x2 l3 x5 σ = some r → Go G mX1_gather 28 [some (.ref 18), some (.ref a1), some (.int x2), some (.long l3), none, some (.int x5), d6, d7] [] h (fun v h' => xRok (xRt mX1_gather) v ∧ v = none ∧ Rl n r.2 h')) {a1 : Nat} {x2 : Int32} {x5 : Int32} {l6 : Int64} {σ : xσ} {h : xH} {r : Unit × xσ} {d3 : Option Value} {d4 : Option Value} : Rl n σ h → okS n a1 → b_X1_gather_192 n k28 a1 x2 x5 l6 σ = some r → Go G mX1_gather 192 [some (.ref 18), some (.ref a1), some (.int x2), d3, d4, some (.int x5), some (.long l6), none] [] h (fun v h' => xRok (xRt mX1_gather) v ∧ v = none ∧ Rl n r.2 h') := by
  intro R g1 hf
  rw [b_X1_gather_192] at hf
  refine go_lload (pc' := 194) dX1_gather_192 rfl rfl ?_
  refine go_lstore_nE rfl (i := 3) (pc' := 195) dX1_gather_194 rfl rfl (by decide) rfl ?_
  refine go_iincC (kk := 1) (pc' := 198) dX1_gather_195 rfl rfl (by decide) (by decide) rfl ?_
  refine go_goto (pc' := 0) (tgt := 28) dX1_gather_198 (by decide) ?_
  exact hk28 R g1 hf
def b_X1_gather_153 (n : Nat) (k28 : Nat → Int32 → Int64 → Int32 → xσ → Option (Unit × xσ)) (a1 : Nat) (x2 : Int32) (l3 : Int64) (x5 : Int32) (l6 : Int64) (xs0 : Int32) (xs1 : Int32) (σ : xσ) : Option (Unit × xσ) := if xs1 = xs0 then if (lg_cmp l3 ((0 : Int64))) = 0 then if (lg_cmp l6 ((0 : Int64))) = 0 then bd (f_X1_goAlong n a1 x2 x5 σ) (fun v104 σ105 => b_X1_gather_192 n k28 a1 x2 x5 l6 σ105) else k28 a1 x2 l6 (x5 + 1) σ else k28 a1 x2 l6 (x5 + 1) σ else bd (f_X1_cross n a1 x2 x5 (l6 - l3) σ) (fun v109 σ110 => b_X1_gather_192 n k28 a1 x2 x5 l6 σ110)
set_option maxRecDepth 100000 in
set_option maxHeartbeats 4000000 in
theorem t_X1_gather_153 {G : xG} {n : Nat} {k28 : Nat → Int32 → Int64 → Int32 → xσ → Option (Unit × xσ)} (hk28 : ∀ {a1 : Nat} {x2 : Int32} {l3 : Int64} {x5 : Int32} {σ : xσ} {h : xH} {r : Unit × xσ} {d6 : Option Value} {d7 : Option Value}, Rl n σ h → okS n a1 → k28 a1 x2 l3 x5 σ = some r → Go G mX1_gather 28 [some (.ref 18), some (.ref a1), some (.int x2), some (.long l3), none, some (.int x5), d6, d7] [] h (fun v h' => xRok (xRt mX1_gather) v ∧ v = none ∧ Rl n r.2 h')) {a1 : Nat} {x2 : Int32} {l3 : Int64} {x5 : Int32} {l6 : Int64} {xs0 : Int32} {xs1 : Int32} {σ : xσ} {h : xH} {r : Unit × xσ} : Rl n σ h → okS n a1 → b_X1_gather_153 n k28 a1 x2 l3 x5 l6 xs0 xs1 σ = some r → Go G mX1_gather 153 [some (.ref 18), some (.ref a1), some (.int x2), some (.long l3), none, some (.int x5), some (.long l6), none] [.int xs0, .int xs1] h (fun v h' => xRok (xRt mX1_gather) v ∧ v = none ∧ Rl n r.2 h') := by
  intro R g1 hf
  rw [b_X1_gather_153] at hf
  refine go_icmp_eq (pc' := 156) (tgt := 171) dX1_gather_153 (by decide) rfl (fun c101 => ?_) (fun c101 => ?_)
  · have hf := it c101 hf
    refine go_lload_n (i := 3) (pc' := 172) dX1_gather_171 rfl rfl rfl ?_
    refine go_lconst (v := 0) (pc' := 173) dX1_gather_172 rfl (by decide) ?_
    refine go_lcmp (pc' := 174) dX1_gather_173 rfl ?_
    refine go_if_ne (pc' := 177) (tgt := 192) dX1_gather_174 (by decide) rfl (fun c102 => ?_) (fun c102 => ?_)
    · have hf := ie c102 hf
      refine go_lload (pc' := 194) dX1_gather_192 rfl rfl ?_
      refine go_lstore_nE rfl (i := 3) (pc' := 195) dX1_gather_194 rfl rfl (by decide) rfl ?_
      refine go_iincC (kk := 1) (pc' := 198) dX1_gather_195 rfl rfl (by decide) (by decide) rfl ?_
      refine go_goto (pc' := 0) (tgt := 28) dX1_gather_198 (by decide) ?_
      exact hk28 R g1 hf
    · have hf := it c102 hf
      refine go_lload (pc' := 179) dX1_gather_177 rfl rfl ?_
      refine go_lconst (v := 0) (pc' := 180) dX1_gather_179 rfl (by decide) ?_
      refine go_lcmp (pc' := 181) dX1_gather_180 rfl ?_
      refine go_if_ne (pc' := 184) (tgt := 192) dX1_gather_181 (by decide) rfl (fun c103 => ?_) (fun c103 => ?_)
      · have hf := ie c103 hf
        refine go_lload (pc' := 194) dX1_gather_192 rfl rfl ?_
        refine go_lstore_nE rfl (i := 3) (pc' := 195) dX1_gather_194 rfl rfl (by decide) rfl ?_
        refine go_iincC (kk := 1) (pc' := 198) dX1_gather_195 rfl rfl (by decide) (by decide) rfl ?_
        refine go_goto (pc' := 0) (tgt := 28) dX1_gather_198 (by decide) ?_
        exact hk28 R g1 hf
      · have hf := it c103 hf
        refine go_aload_n (i := 0) (pc' := 185) dX1_gather_184 rfl rfl rfl ?_
        refine go_aload_n (i := 1) (pc' := 186) dX1_gather_185 rfl rfl rfl ?_
        refine go_iload_n (i := 2) (pc' := 187) dX1_gather_186 rfl rfl rfl ?_
        refine go_iload (pc' := 189) dX1_gather_187 rfl rfl ?_
        obtain ⟨v104, σ105, e106, hf⟩ := bd_some hf
        refine go_invV (As := [_, _, _]) (pc' := 192) dX1_gather_189 rfl cf_X1_gather_112 rfl (R.ob (R.at rfl (by decide))) rfl rfl (Nat.le_of_ble_eq_true rfl) (c_X1_goAlong R e106) (fun q107v h108 q107 => ?_)
        obtain ⟨rfl, R⟩ := q107
        exact t_X1_gather_192 @hk28 R g1 hf
  · have hf := ie c101 hf
    refine go_aload_n (i := 0) (pc' := 157) dX1_gather_156 rfl rfl rfl ?_
    refine go_aload_n (i := 1) (pc' := 158) dX1_gather_157 rfl rfl rfl ?_
    refine go_iload_n (i := 2) (pc' := 159) dX1_gather_158 rfl rfl rfl ?_
    refine go_iload (pc' := 161) dX1_gather_159 rfl rfl ?_
    refine go_lload (pc' := 163) dX1_gather_161 rfl rfl ?_
    refine go_lload_n (i := 3) (pc' := 164) dX1_gather_163 rfl rfl rfl ?_
    refine go_lsub (pc' := 165) dX1_gather_164 rfl ?_
    obtain ⟨v109, σ110, e111, hf⟩ := bd_some hf
    refine go_invV (As := [_, _, _, _]) (pc' := 168) dX1_gather_165 rfl cf_X1_gather_108 rfl (R.ob (R.at rfl (by decide))) rfl rfl (Nat.le_of_ble_eq_true rfl) (c_X1_cross R e111) (fun q112v h113 q112 => ?_)
    obtain ⟨rfl, R⟩ := q112
    refine go_goto (pc' := 0) (tgt := 192) dX1_gather_168 (by decide) ?_
    exact t_X1_gather_192 @hk28 R g1 hf
def b_X1_gather_141 (n : Nat) (k28 : Nat → Int32 → Int64 → Int32 → xσ → Option (Unit × xσ)) (a1 : Nat) (x2 : Int32) (l3 : Int64) (x5 : Int32) (l6 : Int64) (xs0 : Int32) (σ : xσ) : Option (Unit × xσ) := if (lg_cmp l6 ((0 : Int64))) ≤ 0 then b_X1_gather_153 n k28 a1 x2 l3 x5 l6 0 xs0 σ else b_X1_gather_153 n k28 a1 x2 l3 x5 l6 1 xs0 σ
set_option maxRecDepth 100000 in
set_option maxHeartbeats 4000000 in
theorem t_X1_gather_141 {G : xG} {n : Nat} {k28 : Nat → Int32 → Int64 → Int32 → xσ → Option (Unit × xσ)} (hk28 : ∀ {a1 : Nat} {x2 : Int32} {l3 : Int64} {x5 : Int32} {σ : xσ} {h : xH} {r : Unit × xσ} {d6 : Option Value} {d7 : Option Value}, Rl n σ h → okS n a1 → k28 a1 x2 l3 x5 σ = some r → Go G mX1_gather 28 [some (.ref 18), some (.ref a1), some (.int x2), some (.long l3), none, some (.int x5), d6, d7] [] h (fun v h' => xRok (xRt mX1_gather) v ∧ v = none ∧ Rl n r.2 h')) {a1 : Nat} {x2 : Int32} {l3 : Int64} {x5 : Int32} {l6 : Int64} {xs0 : Int32} {σ : xσ} {h : xH} {r : Unit × xσ} : Rl n σ h → okS n a1 → b_X1_gather_141 n k28 a1 x2 l3 x5 l6 xs0 σ = some r → Go G mX1_gather 141 [some (.ref 18), some (.ref a1), some (.int x2), some (.long l3), none, some (.int x5), some (.long l6), none] [.int xs0] h (fun v h' => xRok (xRt mX1_gather) v ∧ v = none ∧ Rl n r.2 h') := by
  intro R g1 hf
  rw [b_X1_gather_141] at hf
  refine go_lload (pc' := 143) dX1_gather_141 rfl rfl ?_
  refine go_lconst (v := 0) (pc' := 144) dX1_gather_143 rfl (by decide) ?_
  refine go_lcmp (pc' := 145) dX1_gather_144 rfl ?_
  refine go_if_le (pc' := 148) (tgt := 152) dX1_gather_145 (by decide) rfl (fun c101 => ?_) (fun c101 => ?_)
  · have hf := it c101 hf
    refine go_iconst (v := 0) (pc' := 153) dX1_gather_152 rfl (by decide) ?_
    exact t_X1_gather_153 @hk28 R g1 hf
  · have hf := ie c101 hf
    refine go_iconst (v := 1) (pc' := 149) dX1_gather_148 rfl (by decide) ?_
    refine go_goto (pc' := 0) (tgt := 153) dX1_gather_149 (by decide) ?_
    exact t_X1_gather_153 @hk28 R g1 hf
def b_X1_gather_106 (n : Nat) (k28 : Nat → Int32 → Int64 → Int32 → xσ → Option (Unit × xσ)) (a1 : Nat) (x2 : Int32) (l3 : Int64) (x5 : Int32) (l6 : Int64) (σ : xσ) : Option (Unit × xσ) := if x5 ≤ (sI σ 18 1) then k28 a1 x2 l6 (x5 + 1) σ else nn (sR σ 18 0) (fun a102 => gd (okS n a102) (gd (inb (x5 - 1) 40) (if (sI σ (a102 + 4) (x5 - 1).toNatClampNeg) = 0 then if (lg_cmp l3 ((0 : Int64))) ≤ 0 then b_X1_gather_141 n k28 a1 x2 l3 x5 l6 0 σ else b_X1_gather_141 n k28 a1 x2 l3 x5 l6 1 σ else k28 a1 x2 l6 (x5 + 1) σ)))
set_option maxRecDepth 100000 in
set_option maxHeartbeats 4000000 in
theorem t_X1_gather_106 {G : xG} {n : Nat} {k28 : Nat → Int32 → Int64 → Int32 → xσ → Option (Unit × xσ)} (hk28 : ∀ {a1 : Nat} {x2 : Int32} {l3 : Int64} {x5 : Int32} {σ : xσ} {h : xH} {r : Unit × xσ} {d6 : Option Value} {d7 : Option Value}, Rl n σ h → okS n a1 → k28 a1 x2 l3 x5 σ = some r → Go G mX1_gather 28 [some (.ref 18), some (.ref a1), some (.int x2), some (.long l3), none, some (.int x5), d6, d7] [] h (fun v h' => xRok (xRt mX1_gather) v ∧ v = none ∧ Rl n r.2 h')) {a1 : Nat} {x2 : Int32} {l3 : Int64} {x5 : Int32} {l6 : Int64} {σ : xσ} {h : xH} {r : Unit × xσ} : Rl n σ h → okS n a1 → b_X1_gather_106 n k28 a1 x2 l3 x5 l6 σ = some r → Go G mX1_gather 106 [some (.ref 18), some (.ref a1), some (.int x2), some (.long l3), none, some (.int x5), some (.long l6), none] [] h (fun v h' => xRok (xRt mX1_gather) v ∧ v = none ∧ Rl n r.2 h') := by
  intro R g1 hf
  rw [b_X1_gather_106] at hf
  refine go_iload (pc' := 108) dX1_gather_106 rfl rfl ?_
  refine go_aload_n (i := 0) (pc' := 109) dX1_gather_108 rfl rfl rfl ?_
  refine go_getS (pc' := 112) dX1_gather_109 rfl gf_LandBase_Cutter_33 R (R.at rfl (by decide)) (by decide) rfl ?_
  refine go_icmp_le (pc' := 115) (tgt := 192) dX1_gather_112 (by decide) rfl (fun c101 => ?_) (fun c101 => ?_)
  · have hf := it c101 hf
    refine go_lload (pc' := 194) dX1_gather_192 rfl rfl ?_
    refine go_lstore_nE rfl (i := 3) (pc' := 195) dX1_gather_194 rfl rfl (by decide) rfl ?_
    refine go_iincC (kk := 1) (pc' := 198) dX1_gather_195 rfl rfl (by decide) (by decide) rfl ?_
    refine go_goto (pc' := 0) (tgt := 28) dX1_gather_198 (by decide) ?_
    exact hk28 R g1 hf
  · have hf := ie c101 hf
    refine go_aload_n (i := 0) (pc' := 116) dX1_gather_115 rfl rfl rfl ?_
    obtain ⟨a102, e103, hf⟩ := nn_some hf
    obtain ⟨g104, hf⟩ := gd_some hf
    refine go_getSR (pc' := 119) dX1_gather_116 rfl gf_LandBase_Cutter_12 R (R.at rfl (by decide)) (by decide) rfl e103 ?_
    refine go_getS (pc' := 122) dX1_gather_119 rfl gf_LandBase_Cutter_66 R g104.at (by decide) rfl ?_
    refine go_iload (pc' := 124) dX1_gather_122 rfl rfl ?_
    refine go_iconst (v := 1) (pc' := 125) dX1_gather_124 rfl (by decide) ?_
    refine go_isub (pc' := 126) dX1_gather_125 rfl ?_
    obtain ⟨g105, hf⟩ := gd_some hf
    refine go_zaloadS (pc' := 127) dX1_gather_126 rfl R g104.l g105 ?_
    refine go_if_ne (pc' := 130) (tgt := 192) dX1_gather_127 (by decide) rfl (fun c106 => ?_) (fun c106 => ?_)
    · have hf := ie c106 hf
      refine go_lload (pc' := 194) dX1_gather_192 rfl rfl ?_
      refine go_lstore_nE rfl (i := 3) (pc' := 195) dX1_gather_194 rfl rfl (by decide) rfl ?_
      refine go_iincC (kk := 1) (pc' := 198) dX1_gather_195 rfl rfl (by decide) (by decide) rfl ?_
      refine go_goto (pc' := 0) (tgt := 28) dX1_gather_198 (by decide) ?_
      exact hk28 R g1 hf
    · have hf := it c106 hf
      refine go_lload_n (i := 3) (pc' := 131) dX1_gather_130 rfl rfl rfl ?_
      refine go_lconst (v := 0) (pc' := 132) dX1_gather_131 rfl (by decide) ?_
      refine go_lcmp (pc' := 133) dX1_gather_132 rfl ?_
      refine go_if_le (pc' := 136) (tgt := 140) dX1_gather_133 (by decide) rfl (fun c107 => ?_) (fun c107 => ?_)
      · have hf := it c107 hf
        refine go_iconst (v := 0) (pc' := 141) dX1_gather_140 rfl (by decide) ?_
        exact t_X1_gather_141 @hk28 R g1 hf
      · have hf := ie c107 hf
        refine go_iconst (v := 1) (pc' := 137) dX1_gather_136 rfl (by decide) ?_
        refine go_goto (pc' := 0) (tgt := 141) dX1_gather_137 (by decide) ?_
        exact t_X1_gather_141 @hk28 R g1 hf
def l_X1_gather_28 (n : Nat) : Nat → Nat → Int32 → Int64 → Int32 → xσ → Option (Unit × xσ)
  | 0, _, _, _, _, _ => none
  | f + 1, a1, x2, l3, x5, σ => if (sI σ 18 2) ≤ x5 then some ((), σ) else nn (sR σ 18 0) (fun a102 => gd (okS n a102) (gd (inb x5 40) (nn (sR σ 18 0) (fun a106 => gd (okS n a106) (gd (inb x5 40) (bd (f_X4_sideOf n a1 x2 ((sI σ (a102 + 1) x5.toNatClampNeg).toInt64) ((sI σ (a106 + 2) x5.toNatClampNeg).toInt64) σ) (fun v110 σ111 => if (lg_cmp v110 ((0 : Int64))) = 0 then nn (sR σ111 18 0) (fun a123 => gd (okS n a123) (gd (inb x5 40) (nn (sR σ111 18 0) (fun a127 => gd (okS n a127) (gd (inb x5 40) (bd (f_X4_isInBoxOf n a1 x2 (sI σ111 (a123 + 1) x5.toNatClampNeg) (sI σ111 (a127 + 2) x5.toNatClampNeg) σ111) (fun v131 σ132 => if v131 = 0 then if x5 ≤ (sI σ132 18 1) then (l_X1_gather_28 n f) a1 x2 v110 (x5 + 1) σ132 else nn (sR σ132 18 0) (fun a138 => gd (okS n a138) (gd (inb (x5 - 1) 40) (if (sI σ132 (a138 + 4) (x5 - 1).toNatClampNeg) = 0 then if (lg_cmp l3 ((0 : Int64))) ≤ 0 then b_X1_gather_141 n (l_X1_gather_28 n f) a1 x2 l3 x5 v110 0 σ132 else b_X1_gather_141 n (l_X1_gather_28 n f) a1 x2 l3 x5 v110 1 σ132 else (l_X1_gather_28 n f) a1 x2 v110 (x5 + 1) σ132))) else st (wI σ132 18 13 1) (fun σ144 => b_X1_gather_106 n (l_X1_gather_28 n f) a1 x2 l3 x5 v110 σ144)))))))) else if x5 ≤ (sI σ111 18 1) then (l_X1_gather_28 n f) a1 x2 v110 (x5 + 1) σ111 else nn (sR σ111 18 0) (fun a117 => gd (okS n a117) (gd (inb (x5 - 1) 40) (if (sI σ111 (a117 + 4) (x5 - 1).toNatClampNeg) = 0 then if (lg_cmp l3 ((0 : Int64))) ≤ 0 then b_X1_gather_141 n (l_X1_gather_28 n f) a1 x2 l3 x5 v110 0 σ111 else b_X1_gather_141 n (l_X1_gather_28 n f) a1 x2 l3 x5 v110 1 σ111 else (l_X1_gather_28 n f) a1 x2 v110 (x5 + 1) σ111))))))))))
set_option maxRecDepth 100000 in
set_option maxHeartbeats 4000000 in
theorem t_X1_gather_28 {G : xG} {n : Nat} : ∀ (f : Nat) {a1 : Nat} {x2 : Int32} {l3 : Int64} {x5 : Int32} {σ : xσ} {h : xH} {r : Unit × xσ} {d6 : Option Value} {d7 : Option Value}, Rl n σ h → okS n a1 → l_X1_gather_28 n f a1 x2 l3 x5 σ = some r → Go G mX1_gather 28 [some (.ref 18), some (.ref a1), some (.int x2), some (.long l3), none, some (.int x5), d6, d7] [] h (fun v h' => xRok (xRt mX1_gather) v ∧ v = none ∧ Rl n r.2 h') := by
  intro f
  induction f with
  | zero =>
    intros
    rename _ = some _ => hf
    rw [l_X1_gather_28] at hf
    cases hf
  | succ f ih =>
    intro a1 x2 l3 x5 σ h r d6 d7 R g1 hf
    rw [l_X1_gather_28] at hf
    refine go_iload (pc' := 30) dX1_gather_28 rfl rfl ?_
    refine go_aload_n (i := 0) (pc' := 31) dX1_gather_30 rfl rfl rfl ?_
    refine go_getS (pc' := 34) dX1_gather_31 rfl gf_LandBase_Cutter_42 R (R.at rfl (by decide)) (by decide) rfl ?_
    refine go_icmp_ge (pc' := 37) (tgt := 201) dX1_gather_34 (by decide) rfl (fun c101 => ?_) (fun c101 => ?_)
    · have hf := it c101 hf
      obtain rfl := Option.some.inj hf
      exact Go.ret (v := none) dX1_gather_201 rfl ⟨trivial, rfl, R⟩
    · have hf := ie c101 hf
      refine go_aload_n (i := 1) (pc' := 38) dX1_gather_37 rfl rfl rfl ?_
      refine go_iload_n (i := 2) (pc' := 39) dX1_gather_38 rfl rfl rfl ?_
      refine go_aload_n (i := 0) (pc' := 40) dX1_gather_39 rfl rfl rfl ?_
      obtain ⟨a102, e103, hf⟩ := nn_some hf
      obtain ⟨g104, hf⟩ := gd_some hf
      refine go_getSR (pc' := 43) dX1_gather_40 rfl gf_LandBase_Cutter_12 R (R.at rfl (by decide)) (by decide) rfl e103 ?_
      refine go_getS (pc' := 46) dX1_gather_43 rfl gf_LandBase_Cutter_45 R g104.at (by decide) rfl ?_
      refine go_iload (pc' := 48) dX1_gather_46 rfl rfl ?_
      obtain ⟨g105, hf⟩ := gd_some hf
      refine go_ialoadS (pc' := 49) dX1_gather_48 rfl R g104.x g105 ?_
      refine go_i2l (pc' := 50) dX1_gather_49 rfl rfl ?_
      refine go_aload_n (i := 0) (pc' := 51) dX1_gather_50 rfl rfl rfl ?_
      obtain ⟨a106, e107, hf⟩ := nn_some hf
      obtain ⟨g108, hf⟩ := gd_some hf
      refine go_getSR (pc' := 54) dX1_gather_51 rfl gf_LandBase_Cutter_12 R (R.at rfl (by decide)) (by decide) rfl e107 ?_
      refine go_getS (pc' := 57) dX1_gather_54 rfl gf_LandBase_Cutter_54 R g108.at (by decide) rfl ?_
      refine go_iload (pc' := 59) dX1_gather_57 rfl rfl ?_
      obtain ⟨g109, hf⟩ := gd_some hf
      refine go_ialoadS (pc' := 60) dX1_gather_59 rfl R g108.y g109 ?_
      refine go_i2l (pc' := 61) dX1_gather_60 rfl rfl ?_
      obtain ⟨v110, σ111, e112, hf⟩ := bd_some hf
      refine go_invS (As := [_, _, _, _]) (pc' := 64) dX1_gather_61 rfl cf_X1_gather_98 rfl rfl (Nat.le_of_ble_eq_true rfl) (c_X4_sideOf R e112) (fun q113v h114 q113 => ?_)
      obtain ⟨rfl, R⟩ := q113
      refine go_lstoreE rfl (pc' := 66) dX1_gather_64 rfl (by decide) rfl ?_
      refine go_lload (pc' := 68) dX1_gather_66 rfl rfl ?_
      refine go_lconst (v := 0) (pc' := 69) dX1_gather_68 rfl (by decide) ?_
      refine go_lcmp (pc' := 70) dX1_gather_69 rfl ?_
      refine go_if_ne (pc' := 73) (tgt := 106) dX1_gather_70 (by decide) rfl (fun c115 => ?_) (fun c115 => ?_)
      · have hf := ie c115 hf
        refine go_iload (pc' := 108) dX1_gather_106 rfl rfl ?_
        refine go_aload_n (i := 0) (pc' := 109) dX1_gather_108 rfl rfl rfl ?_
        refine go_getS (pc' := 112) dX1_gather_109 rfl gf_LandBase_Cutter_33 R (R.at rfl (by decide)) (by decide) rfl ?_
        refine go_icmp_le (pc' := 115) (tgt := 192) dX1_gather_112 (by decide) rfl (fun c116 => ?_) (fun c116 => ?_)
        · have hf := it c116 hf
          refine go_lload (pc' := 194) dX1_gather_192 rfl rfl ?_
          refine go_lstore_nE rfl (i := 3) (pc' := 195) dX1_gather_194 rfl rfl (by decide) rfl ?_
          refine go_iincC (kk := 1) (pc' := 198) dX1_gather_195 rfl rfl (by decide) (by decide) rfl ?_
          refine go_goto (pc' := 0) (tgt := 28) dX1_gather_198 (by decide) ?_
          exact ih R g1 hf
        · have hf := ie c116 hf
          refine go_aload_n (i := 0) (pc' := 116) dX1_gather_115 rfl rfl rfl ?_
          obtain ⟨a117, e118, hf⟩ := nn_some hf
          obtain ⟨g119, hf⟩ := gd_some hf
          refine go_getSR (pc' := 119) dX1_gather_116 rfl gf_LandBase_Cutter_12 R (R.at rfl (by decide)) (by decide) rfl e118 ?_
          refine go_getS (pc' := 122) dX1_gather_119 rfl gf_LandBase_Cutter_66 R g119.at (by decide) rfl ?_
          refine go_iload (pc' := 124) dX1_gather_122 rfl rfl ?_
          refine go_iconst (v := 1) (pc' := 125) dX1_gather_124 rfl (by decide) ?_
          refine go_isub (pc' := 126) dX1_gather_125 rfl ?_
          obtain ⟨g120, hf⟩ := gd_some hf
          refine go_zaloadS (pc' := 127) dX1_gather_126 rfl R g119.l g120 ?_
          refine go_if_ne (pc' := 130) (tgt := 192) dX1_gather_127 (by decide) rfl (fun c121 => ?_) (fun c121 => ?_)
          · have hf := ie c121 hf
            refine go_lload (pc' := 194) dX1_gather_192 rfl rfl ?_
            refine go_lstore_nE rfl (i := 3) (pc' := 195) dX1_gather_194 rfl rfl (by decide) rfl ?_
            refine go_iincC (kk := 1) (pc' := 198) dX1_gather_195 rfl rfl (by decide) (by decide) rfl ?_
            refine go_goto (pc' := 0) (tgt := 28) dX1_gather_198 (by decide) ?_
            exact ih R g1 hf
          · have hf := it c121 hf
            refine go_lload_n (i := 3) (pc' := 131) dX1_gather_130 rfl rfl rfl ?_
            refine go_lconst (v := 0) (pc' := 132) dX1_gather_131 rfl (by decide) ?_
            refine go_lcmp (pc' := 133) dX1_gather_132 rfl ?_
            refine go_if_le (pc' := 136) (tgt := 140) dX1_gather_133 (by decide) rfl (fun c122 => ?_) (fun c122 => ?_)
            · have hf := it c122 hf
              refine go_iconst (v := 0) (pc' := 141) dX1_gather_140 rfl (by decide) ?_
              exact t_X1_gather_141 @ih R g1 hf
            · have hf := ie c122 hf
              refine go_iconst (v := 1) (pc' := 137) dX1_gather_136 rfl (by decide) ?_
              refine go_goto (pc' := 0) (tgt := 141) dX1_gather_137 (by decide) ?_
              exact t_X1_gather_141 @ih R g1 hf
      · have hf := it c115 hf
        refine go_aload_n (i := 1) (pc' := 74) dX1_gather_73 rfl rfl rfl ?_
        refine go_iload_n (i := 2) (pc' := 75) dX1_gather_74 rfl rfl rfl ?_
        refine go_aload_n (i := 0) (pc' := 76) dX1_gather_75 rfl rfl rfl ?_
        obtain ⟨a123, e124, hf⟩ := nn_some hf
        obtain ⟨g125, hf⟩ := gd_some hf
        refine go_getSR (pc' := 79) dX1_gather_76 rfl gf_LandBase_Cutter_12 R (R.at rfl (by decide)) (by decide) rfl e124 ?_
        refine go_getS (pc' := 82) dX1_gather_79 rfl gf_LandBase_Cutter_45 R g125.at (by decide) rfl ?_
        refine go_iload (pc' := 84) dX1_gather_82 rfl rfl ?_
        obtain ⟨g126, hf⟩ := gd_some hf
        refine go_ialoadS (pc' := 85) dX1_gather_84 rfl R g125.x g126 ?_
        refine go_aload_n (i := 0) (pc' := 86) dX1_gather_85 rfl rfl rfl ?_
        obtain ⟨a127, e128, hf⟩ := nn_some hf
        obtain ⟨g129, hf⟩ := gd_some hf
        refine go_getSR (pc' := 89) dX1_gather_86 rfl gf_LandBase_Cutter_12 R (R.at rfl (by decide)) (by decide) rfl e128 ?_
        refine go_getS (pc' := 92) dX1_gather_89 rfl gf_LandBase_Cutter_54 R g129.at (by decide) rfl ?_
        refine go_iload (pc' := 94) dX1_gather_92 rfl rfl ?_
        obtain ⟨g130, hf⟩ := gd_some hf
        refine go_ialoadS (pc' := 95) dX1_gather_94 rfl R g129.y g130 ?_
        obtain ⟨v131, σ132, e133, hf⟩ := bd_some hf
        refine go_invS (As := [_, _, _, _]) (pc' := 98) dX1_gather_95 rfl cf_X1_gather_104 rfl rfl (Nat.le_of_ble_eq_true rfl) (c_X4_isInBoxOf R e133) (fun q134v h135 q134 => ?_)
        obtain ⟨rfl, R⟩ := q134
        refine go_if_eq (pc' := 101) (tgt := 106) dX1_gather_98 (by decide) rfl (fun c136 => ?_) (fun c136 => ?_)
        · have hf := it c136 hf
          refine go_iload (pc' := 108) dX1_gather_106 rfl rfl ?_
          refine go_aload_n (i := 0) (pc' := 109) dX1_gather_108 rfl rfl rfl ?_
          refine go_getS (pc' := 112) dX1_gather_109 rfl gf_LandBase_Cutter_33 R (R.at rfl (by decide)) (by decide) rfl ?_
          refine go_icmp_le (pc' := 115) (tgt := 192) dX1_gather_112 (by decide) rfl (fun c137 => ?_) (fun c137 => ?_)
          · have hf := it c137 hf
            refine go_lload (pc' := 194) dX1_gather_192 rfl rfl ?_
            refine go_lstore_nE rfl (i := 3) (pc' := 195) dX1_gather_194 rfl rfl (by decide) rfl ?_
            refine go_iincC (kk := 1) (pc' := 198) dX1_gather_195 rfl rfl (by decide) (by decide) rfl ?_
            refine go_goto (pc' := 0) (tgt := 28) dX1_gather_198 (by decide) ?_
            exact ih R g1 hf
          · have hf := ie c137 hf
            refine go_aload_n (i := 0) (pc' := 116) dX1_gather_115 rfl rfl rfl ?_
            obtain ⟨a138, e139, hf⟩ := nn_some hf
            obtain ⟨g140, hf⟩ := gd_some hf
            refine go_getSR (pc' := 119) dX1_gather_116 rfl gf_LandBase_Cutter_12 R (R.at rfl (by decide)) (by decide) rfl e139 ?_
            refine go_getS (pc' := 122) dX1_gather_119 rfl gf_LandBase_Cutter_66 R g140.at (by decide) rfl ?_
            refine go_iload (pc' := 124) dX1_gather_122 rfl rfl ?_
            refine go_iconst (v := 1) (pc' := 125) dX1_gather_124 rfl (by decide) ?_
            refine go_isub (pc' := 126) dX1_gather_125 rfl ?_
            obtain ⟨g141, hf⟩ := gd_some hf
            refine go_zaloadS (pc' := 127) dX1_gather_126 rfl R g140.l g141 ?_
            refine go_if_ne (pc' := 130) (tgt := 192) dX1_gather_127 (by decide) rfl (fun c142 => ?_) (fun c142 => ?_)
            · have hf := ie c142 hf
              refine go_lload (pc' := 194) dX1_gather_192 rfl rfl ?_
              refine go_lstore_nE rfl (i := 3) (pc' := 195) dX1_gather_194 rfl rfl (by decide) rfl ?_
              refine go_iincC (kk := 1) (pc' := 198) dX1_gather_195 rfl rfl (by decide) (by decide) rfl ?_
              refine go_goto (pc' := 0) (tgt := 28) dX1_gather_198 (by decide) ?_
              exact ih R g1 hf
            · have hf := it c142 hf
              refine go_lload_n (i := 3) (pc' := 131) dX1_gather_130 rfl rfl rfl ?_
              refine go_lconst (v := 0) (pc' := 132) dX1_gather_131 rfl (by decide) ?_
              refine go_lcmp (pc' := 133) dX1_gather_132 rfl ?_
              refine go_if_le (pc' := 136) (tgt := 140) dX1_gather_133 (by decide) rfl (fun c143 => ?_) (fun c143 => ?_)
              · have hf := it c143 hf
                refine go_iconst (v := 0) (pc' := 141) dX1_gather_140 rfl (by decide) ?_
                exact t_X1_gather_141 @ih R g1 hf
              · have hf := ie c143 hf
                refine go_iconst (v := 1) (pc' := 137) dX1_gather_136 rfl (by decide) ?_
                refine go_goto (pc' := 0) (tgt := 141) dX1_gather_137 (by decide) ?_
                exact t_X1_gather_141 @ih R g1 hf
        · have hf := ie c136 hf
          refine go_aload_n (i := 0) (pc' := 102) dX1_gather_101 rfl rfl rfl ?_
          refine go_iconst (v := 1) (pc' := 103) dX1_gather_102 rfl (by decide) ?_
          obtain ⟨σ144, e145, hf⟩ := st_some hf
          refine go_putI (pc' := 106) dX1_gather_103 rfl pf_LandBase_Cutter_85 R (R.at rfl (by decide)) (by decide) rfl rfl rfl (fun h146 R => ?_)
          have R := Rl.cast e145 R
          exact t_X1_gather_106 @ih R g1 hf
def f_X1_gather (n : Nat) (a1 : Nat) (x2 : Int32) (σ : xσ) : Option (Unit × xσ) := gd (okS n a1) (st (wI σ 18 10 0) (fun σ101 => st (wI σ101 18 11 0) (fun σ104 => st (wI σ104 18 12 0) (fun σ107 => st (wI σ107 18 13 0) (fun σ110 => st (sI σ110 18 1) (fun x113 => l_X1_gather_28 n xFU a1 x2 ((0 : Int64)) x113 σ110))))))
set_option maxRecDepth 100000 in
set_option maxHeartbeats 4000000 in
theorem c_X1_gather {G : xG} {n : Nat} {σ : xσ} {h : xH} {a1 : Nat} {x2 : Int32} {v1 : Unit} {σ1 : xσ} (R : Rl n σ h) (hf : f_X1_gather n a1 x2 σ = some (v1, σ1)) : Ca G mX1_gather [.ref 18, .ref a1, .int x2] h (fun v h' => v = none ∧ Rl n σ1 h') := by
  refine Ca.of rfl (Nat.le_of_ble_eq_true rfl) ?_
  generalize hr : (v1, σ1) = r at hf
  suffices q : Go G mX1_gather 0 (xent (xMl mX1_gather) [.ref 18, .ref a1, .int x2]) [] h (fun v h' => xRok (xRt mX1_gather) v ∧ v = none ∧ Rl n r.2 h') by
    subst hr
    exact q
  clear hr
  rw [f_X1_gather] at hf
  obtain ⟨g1, hf⟩ := gd_some hf
  refine go_aload_n (i := 0) (pc' := 1) dX1_gather_0 rfl rfl rfl ?_
  refine go_iconst (v := 0) (pc' := 2) dX1_gather_1 rfl (by decide) ?_
  obtain ⟨σ101, e102, hf⟩ := st_some hf
  refine go_putI (pc' := 5) dX1_gather_2 rfl pf_LandBase_Cutter_89 R (R.at rfl (by decide)) (by decide) rfl rfl rfl (fun h103 R => ?_)
  have R := Rl.cast e102 R
  refine go_aload_n (i := 0) (pc' := 6) dX1_gather_5 rfl rfl rfl ?_
  refine go_iconst (v := 0) (pc' := 7) dX1_gather_6 rfl (by decide) ?_
  obtain ⟨σ104, e105, hf⟩ := st_some hf
  refine go_putI (pc' := 10) dX1_gather_7 rfl pf_LandBase_Cutter_92 R (R.at rfl (by decide)) (by decide) rfl rfl rfl (fun h106 R => ?_)
  have R := Rl.cast e105 R
  refine go_aload_n (i := 0) (pc' := 11) dX1_gather_10 rfl rfl rfl ?_
  refine go_iconst (v := 0) (pc' := 12) dX1_gather_11 rfl (by decide) ?_
  obtain ⟨σ107, e108, hf⟩ := st_some hf
  refine go_putI (pc' := 15) dX1_gather_12 rfl pf_LandBase_Cutter_95 R (R.at rfl (by decide)) (by decide) rfl rfl rfl (fun h109 R => ?_)
  have R := Rl.cast e108 R
  refine go_aload_n (i := 0) (pc' := 16) dX1_gather_15 rfl rfl rfl ?_
  refine go_iconst (v := 0) (pc' := 17) dX1_gather_16 rfl (by decide) ?_
  obtain ⟨σ110, e111, hf⟩ := st_some hf
  refine go_putI (pc' := 20) dX1_gather_17 rfl pf_LandBase_Cutter_85 R (R.at rfl (by decide)) (by decide) rfl rfl rfl (fun h112 R => ?_)
  have R := Rl.cast e111 R
  refine go_lconst (v := 0) (pc' := 21) dX1_gather_20 rfl (by decide) ?_
  refine go_lstore_nE rfl (i := 3) (pc' := 22) dX1_gather_21 rfl rfl (by decide) rfl ?_
  refine go_aload_n (i := 0) (pc' := 23) dX1_gather_22 rfl rfl rfl ?_
  refine go_getS (pc' := 26) dX1_gather_23 rfl gf_LandBase_Cutter_33 R (R.at rfl (by decide)) (by decide) rfl ?_
  obtain ⟨x113, e114, hf⟩ := st_some hf
  refine go_istoreE e114 (pc' := 28) dX1_gather_26 rfl (by decide) rfl ?_
  exact t_X1_gather_28 xFU R g1 hf
def f_X4_upperProduct (n : Nat) (l0 : Int64) (l2 : Int64) (σ : xσ) : Option (Int64 × xσ) := st ((l0.toUInt64 >>> ((32 : Int32).toInt64.toUInt64 &&& Int64.toUInt64 63)).toInt64) (fun l101 => st (l0 &&& ((4294967295 : Int64))) (fun l103 => st ((l2.toUInt64 >>> ((32 : Int32).toInt64.toUInt64 &&& Int64.toUInt64 63)).toInt64) (fun l105 => st (l2 &&& ((4294967295 : Int64))) (fun l107 => st ((l101 * l107) + (((l103 * l107).toUInt64 >>> ((32 : Int32).toInt64.toUInt64 &&& Int64.toUInt64 63)).toInt64)) (fun l109 => st ((l103 * l105) + (l109 &&& ((4294967295 : Int64)))) (fun l111 => some (((l101 * l105) + ((l109.toUInt64 >>> ((32 : Int32).toInt64.toUInt64 &&& Int64.toUInt64 63)).toInt64)) + ((l111.toUInt64 >>> ((32 : Int32).toInt64.toUInt64 &&& Int64.toUInt64 63)).toInt64), σ)))))))
set_option maxRecDepth 100000 in
set_option maxHeartbeats 4000000 in
theorem c_X4_upperProduct {G : xG} {n : Nat} {σ : xσ} {h : xH} {l0 : Int64} {l2 : Int64} {v1 : Int64} {σ1 : xσ} (R : Rl n σ h) (hf : f_X4_upperProduct n l0 l2 σ = some (v1, σ1)) : Ca G mX4_upperProduct [.long l0, .long l2] h (fun v h' => v = some (.long v1) ∧ Rl n σ1 h') := by
  refine Ca.of rfl (Nat.le_of_ble_eq_true rfl) ?_
  generalize hr : (v1, σ1) = r at hf
  suffices q : Go G mX4_upperProduct 0 (xent (xMl mX4_upperProduct) [.long l0, .long l2]) [] h (fun v h' => xRok (xRt mX4_upperProduct) v ∧ v = some (.long r.1) ∧ Rl n r.2 h') by
    subst hr
    exact q
  clear hr
  rw [f_X4_upperProduct] at hf
  refine go_lload_n (i := 0) (pc' := 1) dX4_upperProduct_0 rfl rfl rfl ?_
  refine go_bipush (v := 32) (pc' := 3) dX4_upperProduct_1 rfl (by decide) ?_
  refine go_lushr (pc' := 4) dX4_upperProduct_3 rfl rfl ?_
  obtain ⟨l101, e102, hf⟩ := st_some hf
  refine go_lstoreE e102 (pc' := 6) dX4_upperProduct_4 rfl (by decide) rfl ?_
  refine go_lload_n (i := 0) (pc' := 7) dX4_upperProduct_6 rfl rfl rfl ?_
  refine go_ldc2 (pc' := 10) dX4_upperProduct_7 rfl wd_620 ?_
  refine go_land (pc' := 11) dX4_upperProduct_10 rfl ?_
  obtain ⟨l103, e104, hf⟩ := st_some hf
  refine go_lstoreE e104 (pc' := 13) dX4_upperProduct_11 rfl (by decide) rfl ?_
  refine go_lload_n (i := 2) (pc' := 14) dX4_upperProduct_13 rfl rfl rfl ?_
  refine go_bipush (v := 32) (pc' := 16) dX4_upperProduct_14 rfl (by decide) ?_
  refine go_lushr (pc' := 17) dX4_upperProduct_16 rfl rfl ?_
  obtain ⟨l105, e106, hf⟩ := st_some hf
  refine go_lstoreE e106 (pc' := 19) dX4_upperProduct_17 rfl (by decide) rfl ?_
  refine go_lload_n (i := 2) (pc' := 20) dX4_upperProduct_19 rfl rfl rfl ?_
  refine go_ldc2 (pc' := 23) dX4_upperProduct_20 rfl wd_620 ?_
  refine go_land (pc' := 24) dX4_upperProduct_23 rfl ?_
  obtain ⟨l107, e108, hf⟩ := st_some hf
  refine go_lstoreE e108 (pc' := 26) dX4_upperProduct_24 rfl (by decide) rfl ?_
  refine go_lload (pc' := 28) dX4_upperProduct_26 rfl rfl ?_
  refine go_lload (pc' := 30) dX4_upperProduct_28 rfl rfl ?_
  refine go_lmul (pc' := 31) dX4_upperProduct_30 rfl ?_
  refine go_lload (pc' := 33) dX4_upperProduct_31 rfl rfl ?_
  refine go_lload (pc' := 35) dX4_upperProduct_33 rfl rfl ?_
  refine go_lmul (pc' := 36) dX4_upperProduct_35 rfl ?_
  refine go_bipush (v := 32) (pc' := 38) dX4_upperProduct_36 rfl (by decide) ?_
  refine go_lushr (pc' := 39) dX4_upperProduct_38 rfl rfl ?_
  refine go_ladd (pc' := 40) dX4_upperProduct_39 rfl ?_
  obtain ⟨l109, e110, hf⟩ := st_some hf
  refine go_lstoreE e110 (pc' := 42) dX4_upperProduct_40 rfl (by decide) rfl ?_
  refine go_lload (pc' := 44) dX4_upperProduct_42 rfl rfl ?_
  refine go_lload (pc' := 46) dX4_upperProduct_44 rfl rfl ?_
  refine go_lmul (pc' := 47) dX4_upperProduct_46 rfl ?_
  refine go_lload (pc' := 49) dX4_upperProduct_47 rfl rfl ?_
  refine go_ldc2 (pc' := 52) dX4_upperProduct_49 rfl wd_620 ?_
  refine go_land (pc' := 53) dX4_upperProduct_52 rfl ?_
  refine go_ladd (pc' := 54) dX4_upperProduct_53 rfl ?_
  obtain ⟨l111, e112, hf⟩ := st_some hf
  refine go_lstoreE e112 (pc' := 56) dX4_upperProduct_54 rfl (by decide) rfl ?_
  refine go_lload (pc' := 58) dX4_upperProduct_56 rfl rfl ?_
  refine go_lload (pc' := 60) dX4_upperProduct_58 rfl rfl ?_
  refine go_lmul (pc' := 61) dX4_upperProduct_60 rfl ?_
  refine go_lload (pc' := 63) dX4_upperProduct_61 rfl rfl ?_
  refine go_bipush (v := 32) (pc' := 65) dX4_upperProduct_63 rfl (by decide) ?_
  refine go_lushr (pc' := 66) dX4_upperProduct_65 rfl rfl ?_
  refine go_ladd (pc' := 67) dX4_upperProduct_66 rfl ?_
  refine go_lload (pc' := 69) dX4_upperProduct_67 rfl rfl ?_
  refine go_bipush (v := 32) (pc' := 71) dX4_upperProduct_69 rfl (by decide) ?_
  refine go_lushr (pc' := 72) dX4_upperProduct_71 rfl rfl ?_
  refine go_ladd (pc' := 73) dX4_upperProduct_72 rfl ?_
  obtain rfl := Option.some.inj hf
  exact Go.ret (v := some (.long _)) dX4_upperProduct_73 ⟨_, rfl⟩ ⟨trivial, rfl, R⟩
def f_X4_compareBits (n : Nat) (l0 : Int64) (l2 : Int64) (σ : xσ) : Option (Int32 × xσ) := if (lg_cmp l0 l2) = 0 then some (0, σ) else if 0 ≤ (lg_cmp (l0 ^^^ ((-9223372036854775808 : Int64))) (l2 ^^^ ((-9223372036854775808 : Int64)))) then some (1, σ) else some ((-1), σ)
set_option maxRecDepth 100000 in
set_option maxHeartbeats 4000000 in
theorem c_X4_compareBits {G : xG} {n : Nat} {σ : xσ} {h : xH} {l0 : Int64} {l2 : Int64} {v1 : Int32} {σ1 : xσ} (R : Rl n σ h) (hf : f_X4_compareBits n l0 l2 σ = some (v1, σ1)) : Ca G mX4_compareBits [.long l0, .long l2] h (fun v h' => v = some (.int v1) ∧ Rl n σ1 h') := by
  refine Ca.of rfl (Nat.le_of_ble_eq_true rfl) ?_
  generalize hr : (v1, σ1) = r at hf
  suffices q : Go G mX4_compareBits 0 (xent (xMl mX4_compareBits) [.long l0, .long l2]) [] h (fun v h' => xRok (xRt mX4_compareBits) v ∧ v = some (.int r.1) ∧ Rl n r.2 h') by
    subst hr
    exact q
  clear hr
  rw [f_X4_compareBits] at hf
  refine go_lload_n (i := 0) (pc' := 1) dX4_compareBits_0 rfl rfl rfl ?_
  refine go_lload_n (i := 2) (pc' := 2) dX4_compareBits_1 rfl rfl rfl ?_
  refine go_lcmp (pc' := 3) dX4_compareBits_2 rfl ?_
  refine go_if_ne (pc' := 6) (tgt := 8) dX4_compareBits_3 (by decide) rfl (fun c101 => ?_) (fun c101 => ?_)
  · have hf := ie c101 hf
    refine go_lload_n (i := 0) (pc' := 9) dX4_compareBits_8 rfl rfl rfl ?_
    refine go_ldc2 (pc' := 12) dX4_compareBits_9 rfl wd_624 ?_
    refine go_lxor (pc' := 13) dX4_compareBits_12 rfl ?_
    refine go_lload_n (i := 2) (pc' := 14) dX4_compareBits_13 rfl rfl rfl ?_
    refine go_ldc2 (pc' := 17) dX4_compareBits_14 rfl wd_624 ?_
    refine go_lxor (pc' := 18) dX4_compareBits_17 rfl ?_
    refine go_lcmp (pc' := 19) dX4_compareBits_18 rfl ?_
    refine go_if_ge (pc' := 22) (tgt := 26) dX4_compareBits_19 (by decide) rfl (fun c102 => ?_) (fun c102 => ?_)
    · have hf := it c102 hf
      refine go_iconst (v := 1) (pc' := 27) dX4_compareBits_26 rfl (by decide) ?_
      obtain rfl := Option.some.inj hf
      exact Go.ret (v := some (.int _)) dX4_compareBits_27 ⟨_, rfl⟩ ⟨rfl, rfl, R⟩
    · have hf := ie c102 hf
      refine go_iconst (v := (-1)) (pc' := 23) dX4_compareBits_22 rfl (by decide) ?_
      refine go_goto (pc' := 0) (tgt := 27) dX4_compareBits_23 (by decide) ?_
      obtain rfl := Option.some.inj hf
      exact Go.ret (v := some (.int _)) dX4_compareBits_27 ⟨_, rfl⟩ ⟨rfl, rfl, R⟩
  · have hf := it c101 hf
    refine go_iconst (v := 0) (pc' := 7) dX4_compareBits_6 rfl (by decide) ?_
    obtain rfl := Option.some.inj hf
    exact Go.ret (v := some (.int _)) dX4_compareBits_7 ⟨_, rfl⟩ ⟨rfl, rfl, R⟩
def f_X4_compareProducts (n : Nat) (l0 : Int64) (l2 : Int64) (l4 : Int64) (l6 : Int64) (σ : xσ) : Option (Int32 × xσ) := bd (f_X4_upperProduct n l0 l2 σ) (fun v101 σ102 => bd (f_X4_upperProduct n l4 l6 σ102) (fun v106 σ107 => bd (f_X4_compareBits n v101 v106 σ107) (fun v111 σ112 => if v111 = 0 then bd (f_X4_compareBits n (l0 * l2) (l4 * l6) σ112) (fun v117 σ118 => some (v117, σ118)) else some (v111, σ112))))
set_option maxRecDepth 100000 in
set_option maxHeartbeats 4000000 in
theorem c_X4_compareProducts {G : xG} {n : Nat} {σ : xσ} {h : xH} {l0 : Int64} {l2 : Int64} {l4 : Int64} {l6 : Int64} {v1 : Int32} {σ1 : xσ} (R : Rl n σ h) (hf : f_X4_compareProducts n l0 l2 l4 l6 σ = some (v1, σ1)) : Ca G mX4_compareProducts [.long l0, .long l2, .long l4, .long l6] h (fun v h' => v = some (.int v1) ∧ Rl n σ1 h') := by
  refine Ca.of rfl (Nat.le_of_ble_eq_true rfl) ?_
  generalize hr : (v1, σ1) = r at hf
  suffices q : Go G mX4_compareProducts 0 (xent (xMl mX4_compareProducts) [.long l0, .long l2, .long l4, .long l6]) [] h (fun v h' => xRok (xRt mX4_compareProducts) v ∧ v = some (.int r.1) ∧ Rl n r.2 h') by
    subst hr
    exact q
  clear hr
  rw [f_X4_compareProducts] at hf
  refine go_lload_n (i := 0) (pc' := 1) dX4_compareProducts_0 rfl rfl rfl ?_
  refine go_lload_n (i := 2) (pc' := 2) dX4_compareProducts_1 rfl rfl rfl ?_
  obtain ⟨v101, σ102, e103, hf⟩ := bd_some hf
  refine go_invS (As := [_, _]) (pc' := 5) dX4_compareProducts_2 rfl cf_X4_compareProducts_89 rfl rfl (Nat.le_of_ble_eq_true rfl) (c_X4_upperProduct R e103) (fun q104v h105 q104 => ?_)
  obtain ⟨rfl, R⟩ := q104
  refine go_lload (pc' := 7) dX4_compareProducts_5 rfl rfl ?_
  refine go_lload (pc' := 9) dX4_compareProducts_7 rfl rfl ?_
  obtain ⟨v106, σ107, e108, hf⟩ := bd_some hf
  refine go_invS (As := [_, _]) (pc' := 12) dX4_compareProducts_9 rfl cf_X4_compareProducts_89 rfl rfl (Nat.le_of_ble_eq_true rfl) (c_X4_upperProduct R e108) (fun q109v h110 q109 => ?_)
  obtain ⟨rfl, R⟩ := q109
  obtain ⟨v111, σ112, e113, hf⟩ := bd_some hf
  refine go_invS (As := [_, _]) (pc' := 15) dX4_compareProducts_12 rfl cf_X4_compareProducts_93 rfl rfl (Nat.le_of_ble_eq_true rfl) (c_X4_compareBits R e113) (fun q114v h115 q114 => ?_)
  obtain ⟨rfl, R⟩ := q114
  refine go_istoreE rfl (pc' := 17) dX4_compareProducts_15 rfl (by decide) rfl ?_
  refine go_iload (pc' := 19) dX4_compareProducts_17 rfl rfl ?_
  refine go_if_eq (pc' := 22) (tgt := 27) dX4_compareProducts_19 (by decide) rfl (fun c116 => ?_) (fun c116 => ?_)
  · have hf := it c116 hf
    refine go_lload_n (i := 0) (pc' := 28) dX4_compareProducts_27 rfl rfl rfl ?_
    refine go_lload_n (i := 2) (pc' := 29) dX4_compareProducts_28 rfl rfl rfl ?_
    refine go_lmul (pc' := 30) dX4_compareProducts_29 rfl ?_
    refine go_lload (pc' := 32) dX4_compareProducts_30 rfl rfl ?_
    refine go_lload (pc' := 34) dX4_compareProducts_32 rfl rfl ?_
    refine go_lmul (pc' := 35) dX4_compareProducts_34 rfl ?_
    obtain ⟨v117, σ118, e119, hf⟩ := bd_some hf
    refine go_invS (As := [_, _]) (pc' := 38) dX4_compareProducts_35 rfl cf_X4_compareProducts_93 rfl rfl (Nat.le_of_ble_eq_true rfl) (c_X4_compareBits R e119) (fun q120v h121 q120 => ?_)
    obtain ⟨rfl, R⟩ := q120
    obtain rfl := Option.some.inj hf
    exact Go.ret (v := some (.int _)) dX4_compareProducts_38 ⟨_, rfl⟩ ⟨rfl, rfl, R⟩
  · have hf := ie c116 hf
    refine go_iload (pc' := 24) dX4_compareProducts_22 rfl rfl ?_
    refine go_goto (pc' := 0) (tgt := 38) dX4_compareProducts_24 (by decide) ?_
    obtain rfl := Option.some.inj hf
    exact Go.ret (v := some (.int _)) dX4_compareProducts_38 ⟨_, rfl⟩ ⟨rfl, rfl, R⟩
def l_X1_sortCuts_36 (n : Nat) (k2 : Int32 → xσ → Option (Unit × xσ)) : Nat → Int32 → Int64 → Int64 → Int32 → Int32 → xσ → Option (Unit × xσ)
  | 0, _, _, _, _, _, _ => none
  | f + 1, x1, l2, l4, x6, x7, σ => if x7 ≤ 0 then gd (inb x7 80) (st (wJ σ 24 x7.toNatClampNeg l2) (fun σ103 => gd (inb x7 80) (st (wJ σ103 25 x7.toNatClampNeg l4) (fun σ107 => gd (inb x7 80) (st (wI σ107 26 x7.toNatClampNeg x6) (fun σ111 => k2 (x1 + 1) σ111)))))) else gd (inb (x7 - 1) 80) (gd (inb (x7 - 1) 80) (bd (f_X4_compareProducts n (sJ σ 24 (x7 - 1).toNatClampNeg) l4 l2 (sJ σ 25 (x7 - 1).toNatClampNeg) σ) (fun v116 σ117 => if v116 ≤ 0 then gd (inb x7 80) (st (wJ σ117 24 x7.toNatClampNeg l2) (fun σ123 => gd (inb x7 80) (st (wJ σ123 25 x7.toNatClampNeg l4) (fun σ127 => gd (inb x7 80) (st (wI σ127 26 x7.toNatClampNeg x6) (fun σ131 => k2 (x1 + 1) σ131)))))) else gd (inb (x7 - 1) 80) (gd (inb x7 80) (st (wJ σ117 24 x7.toNatClampNeg (sJ σ117 24 (x7 - 1).toNatClampNeg)) (fun σ136 => gd (inb (x7 - 1) 80) (gd (inb x7 80) (st (wJ σ136 25 x7.toNatClampNeg (sJ σ136 25 (x7 - 1).toNatClampNeg)) (fun σ141 => gd (inb (x7 - 1) 80) (gd (inb x7 80) (st (wI σ141 26 x7.toNatClampNeg (sI σ141 26 (x7 - 1).toNatClampNeg)) (fun σ146 => (l_X1_sortCuts_36 n k2 f) x1 l2 l4 x6 (x7 + (-1)) σ146))))))))))))
set_option maxRecDepth 100000 in
set_option maxHeartbeats 4000000 in
theorem t_X1_sortCuts_36 {G : xG} {n : Nat} {k2 : Int32 → xσ → Option (Unit × xσ)} (hk2 : ∀ {x1 : Int32} {σ : xσ} {h : xH} {r : Unit × xσ} {d2 : Option Value} {d3 : Option Value} {d4 : Option Value} {d5 : Option Value} {d6 : Option Value} {d7 : Option Value}, Rl n σ h → k2 x1 σ = some r → Go G mX1_sortCuts 2 [some (.ref 18), some (.int x1), d2, d3, d4, d5, d6, d7] [] h (fun v h' => xRok (xRt mX1_sortCuts) v ∧ v = none ∧ Rl n r.2 h')) : ∀ (f : Nat) {x1 : Int32} {l2 : Int64} {l4 : Int64} {x6 : Int32} {x7 : Int32} {σ : xσ} {h : xH} {r : Unit × xσ}, Rl n σ h → l_X1_sortCuts_36 n k2 f x1 l2 l4 x6 x7 σ = some r → Go G mX1_sortCuts 36 [some (.ref 18), some (.int x1), some (.long l2), none, some (.long l4), none, some (.int x6), some (.int x7)] [] h (fun v h' => xRok (xRt mX1_sortCuts) v ∧ v = none ∧ Rl n r.2 h') := by
  intro f
  induction f with
  | zero =>
    intros
    rename _ = some _ => hf
    rw [l_X1_sortCuts_36] at hf
    cases hf
  | succ f ih =>
    intro x1 l2 l4 x6 x7 σ h r  R hf
    rw [l_X1_sortCuts_36] at hf
    refine go_iload (pc' := 38) dX1_sortCuts_36 rfl rfl ?_
    refine go_if_le (pc' := 41) (tgt := 122) dX1_sortCuts_38 (by decide) rfl (fun c101 => ?_) (fun c101 => ?_)
    · have hf := it c101 hf
      refine go_aload_n (i := 0) (pc' := 123) dX1_sortCuts_122 rfl rfl rfl ?_
      refine go_getS (pc' := 126) dX1_sortCuts_123 rfl gf_LandBase_Cutter_18 R (R.at rfl (by decide)) (by decide) rfl ?_
      refine go_iload (pc' := 128) dX1_sortCuts_126 rfl rfl ?_
      refine go_lload_n (i := 2) (pc' := 129) dX1_sortCuts_128 rfl rfl rfl ?_
      obtain ⟨g102, hf⟩ := gd_some hf
      obtain ⟨σ103, e104, hf⟩ := st_some hf
      refine go_lastoreS (pc' := 130) dX1_sortCuts_129 rfl R (R.aa rfl (by decide)) g102 (fun h105 R => ?_)
      have R := Rl.cast e104 R
      refine go_aload_n (i := 0) (pc' := 131) dX1_sortCuts_130 rfl rfl rfl ?_
      refine go_getS (pc' := 134) dX1_sortCuts_131 rfl gf_LandBase_Cutter_22 R (R.at rfl (by decide)) (by decide) rfl ?_
      refine go_iload (pc' := 136) dX1_sortCuts_134 rfl rfl ?_
      refine go_lload (pc' := 138) dX1_sortCuts_136 rfl rfl ?_
      obtain ⟨g106, hf⟩ := gd_some hf
      obtain ⟨σ107, e108, hf⟩ := st_some hf
      refine go_lastoreS (pc' := 139) dX1_sortCuts_138 rfl R (R.aa rfl (by decide)) g106 (fun h109 R => ?_)
      have R := Rl.cast e108 R
      refine go_aload_n (i := 0) (pc' := 140) dX1_sortCuts_139 rfl rfl rfl ?_
      refine go_getS (pc' := 143) dX1_sortCuts_140 rfl gf_LandBase_Cutter_25 R (R.at rfl (by decide)) (by decide) rfl ?_
      refine go_iload (pc' := 145) dX1_sortCuts_143 rfl rfl ?_
      refine go_iload (pc' := 147) dX1_sortCuts_145 rfl rfl ?_
      obtain ⟨g110, hf⟩ := gd_some hf
      obtain ⟨σ111, e112, hf⟩ := st_some hf
      refine go_iastoreS (pc' := 148) dX1_sortCuts_147 rfl R (R.aa rfl (by decide)) g110 (fun h113 R => ?_)
      have R := Rl.cast e112 R
      refine go_iincC (kk := 1) (pc' := 151) dX1_sortCuts_148 rfl rfl (by decide) (by decide) rfl ?_
      refine go_goto (pc' := 0) (tgt := 2) dX1_sortCuts_151 (by decide) ?_
      exact hk2 R hf
    · have hf := ie c101 hf
      refine go_aload_n (i := 0) (pc' := 42) dX1_sortCuts_41 rfl rfl rfl ?_
      refine go_getS (pc' := 45) dX1_sortCuts_42 rfl gf_LandBase_Cutter_18 R (R.at rfl (by decide)) (by decide) rfl ?_
      refine go_iload (pc' := 47) dX1_sortCuts_45 rfl rfl ?_
      refine go_iconst (v := 1) (pc' := 48) dX1_sortCuts_47 rfl (by decide) ?_
      refine go_isub (pc' := 49) dX1_sortCuts_48 rfl ?_
      obtain ⟨g114, hf⟩ := gd_some hf
      refine go_laloadS (pc' := 50) dX1_sortCuts_49 rfl R (R.aa rfl (by decide)) g114 ?_
      refine go_lload (pc' := 52) dX1_sortCuts_50 rfl rfl ?_
      refine go_lload_n (i := 2) (pc' := 53) dX1_sortCuts_52 rfl rfl rfl ?_
      refine go_aload_n (i := 0) (pc' := 54) dX1_sortCuts_53 rfl rfl rfl ?_
      refine go_getS (pc' := 57) dX1_sortCuts_54 rfl gf_LandBase_Cutter_22 R (R.at rfl (by decide)) (by decide) rfl ?_
      refine go_iload (pc' := 59) dX1_sortCuts_57 rfl rfl ?_
      refine go_iconst (v := 1) (pc' := 60) dX1_sortCuts_59 rfl (by decide) ?_
      refine go_isub (pc' := 61) dX1_sortCuts_60 rfl ?_
      obtain ⟨g115, hf⟩ := gd_some hf
      refine go_laloadS (pc' := 62) dX1_sortCuts_61 rfl R (R.aa rfl (by decide)) g115 ?_
      obtain ⟨v116, σ117, e118, hf⟩ := bd_some hf
      refine go_invS (As := [_, _, _, _]) (pc' := 65) dX1_sortCuts_62 rfl cf_X1_sortCuts_125 rfl rfl (Nat.le_of_ble_eq_true rfl) (c_X4_compareProducts R e118) (fun q119v h120 q119 => ?_)
      obtain ⟨rfl, R⟩ := q119
      refine go_if_le (pc' := 68) (tgt := 122) dX1_sortCuts_65 (by decide) rfl (fun c121 => ?_) (fun c121 => ?_)
      · have hf := it c121 hf
        refine go_aload_n (i := 0) (pc' := 123) dX1_sortCuts_122 rfl rfl rfl ?_
        refine go_getS (pc' := 126) dX1_sortCuts_123 rfl gf_LandBase_Cutter_18 R (R.at rfl (by decide)) (by decide) rfl ?_
        refine go_iload (pc' := 128) dX1_sortCuts_126 rfl rfl ?_
        refine go_lload_n (i := 2) (pc' := 129) dX1_sortCuts_128 rfl rfl rfl ?_
        obtain ⟨g122, hf⟩ := gd_some hf
        obtain ⟨σ123, e124, hf⟩ := st_some hf
        refine go_lastoreS (pc' := 130) dX1_sortCuts_129 rfl R (R.aa rfl (by decide)) g122 (fun h125 R => ?_)
        have R := Rl.cast e124 R
        refine go_aload_n (i := 0) (pc' := 131) dX1_sortCuts_130 rfl rfl rfl ?_
        refine go_getS (pc' := 134) dX1_sortCuts_131 rfl gf_LandBase_Cutter_22 R (R.at rfl (by decide)) (by decide) rfl ?_
        refine go_iload (pc' := 136) dX1_sortCuts_134 rfl rfl ?_
        refine go_lload (pc' := 138) dX1_sortCuts_136 rfl rfl ?_
        obtain ⟨g126, hf⟩ := gd_some hf
        obtain ⟨σ127, e128, hf⟩ := st_some hf
        refine go_lastoreS (pc' := 139) dX1_sortCuts_138 rfl R (R.aa rfl (by decide)) g126 (fun h129 R => ?_)
        have R := Rl.cast e128 R
        refine go_aload_n (i := 0) (pc' := 140) dX1_sortCuts_139 rfl rfl rfl ?_
        refine go_getS (pc' := 143) dX1_sortCuts_140 rfl gf_LandBase_Cutter_25 R (R.at rfl (by decide)) (by decide) rfl ?_
        refine go_iload (pc' := 145) dX1_sortCuts_143 rfl rfl ?_
        refine go_iload (pc' := 147) dX1_sortCuts_145 rfl rfl ?_
        obtain ⟨g130, hf⟩ := gd_some hf
        obtain ⟨σ131, e132, hf⟩ := st_some hf
        refine go_iastoreS (pc' := 148) dX1_sortCuts_147 rfl R (R.aa rfl (by decide)) g130 (fun h133 R => ?_)
        have R := Rl.cast e132 R
        refine go_iincC (kk := 1) (pc' := 151) dX1_sortCuts_148 rfl rfl (by decide) (by decide) rfl ?_
        refine go_goto (pc' := 0) (tgt := 2) dX1_sortCuts_151 (by decide) ?_
        exact hk2 R hf
      · have hf := ie c121 hf
        refine go_aload_n (i := 0) (pc' := 69) dX1_sortCuts_68 rfl rfl rfl ?_
        refine go_getS (pc' := 72) dX1_sortCuts_69 rfl gf_LandBase_Cutter_18 R (R.at rfl (by decide)) (by decide) rfl ?_
        refine go_iload (pc' := 74) dX1_sortCuts_72 rfl rfl ?_
        refine go_aload_n (i := 0) (pc' := 75) dX1_sortCuts_74 rfl rfl rfl ?_
        refine go_getS (pc' := 78) dX1_sortCuts_75 rfl gf_LandBase_Cutter_18 R (R.at rfl (by decide)) (by decide) rfl ?_
        refine go_iload (pc' := 80) dX1_sortCuts_78 rfl rfl ?_
        refine go_iconst (v := 1) (pc' := 81) dX1_sortCuts_80 rfl (by decide) ?_
        refine go_isub (pc' := 82) dX1_sortCuts_81 rfl ?_
        obtain ⟨g134, hf⟩ := gd_some hf
        refine go_laloadS (pc' := 83) dX1_sortCuts_82 rfl R (R.aa rfl (by decide)) g134 ?_
        obtain ⟨g135, hf⟩ := gd_some hf
        obtain ⟨σ136, e137, hf⟩ := st_some hf
        refine go_lastoreS (pc' := 84) dX1_sortCuts_83 rfl R (R.aa rfl (by decide)) g135 (fun h138 R => ?_)
        have R := Rl.cast e137 R
        refine go_aload_n (i := 0) (pc' := 85) dX1_sortCuts_84 rfl rfl rfl ?_
        refine go_getS (pc' := 88) dX1_sortCuts_85 rfl gf_LandBase_Cutter_22 R (R.at rfl (by decide)) (by decide) rfl ?_
        refine go_iload (pc' := 90) dX1_sortCuts_88 rfl rfl ?_
        refine go_aload_n (i := 0) (pc' := 91) dX1_sortCuts_90 rfl rfl rfl ?_
        refine go_getS (pc' := 94) dX1_sortCuts_91 rfl gf_LandBase_Cutter_22 R (R.at rfl (by decide)) (by decide) rfl ?_
        refine go_iload (pc' := 96) dX1_sortCuts_94 rfl rfl ?_
        refine go_iconst (v := 1) (pc' := 97) dX1_sortCuts_96 rfl (by decide) ?_
        refine go_isub (pc' := 98) dX1_sortCuts_97 rfl ?_
        obtain ⟨g139, hf⟩ := gd_some hf
        refine go_laloadS (pc' := 99) dX1_sortCuts_98 rfl R (R.aa rfl (by decide)) g139 ?_
        obtain ⟨g140, hf⟩ := gd_some hf
        obtain ⟨σ141, e142, hf⟩ := st_some hf
        refine go_lastoreS (pc' := 100) dX1_sortCuts_99 rfl R (R.aa rfl (by decide)) g140 (fun h143 R => ?_)
        have R := Rl.cast e142 R
        refine go_aload_n (i := 0) (pc' := 101) dX1_sortCuts_100 rfl rfl rfl ?_
        refine go_getS (pc' := 104) dX1_sortCuts_101 rfl gf_LandBase_Cutter_25 R (R.at rfl (by decide)) (by decide) rfl ?_
        refine go_iload (pc' := 106) dX1_sortCuts_104 rfl rfl ?_
        refine go_aload_n (i := 0) (pc' := 107) dX1_sortCuts_106 rfl rfl rfl ?_
        refine go_getS (pc' := 110) dX1_sortCuts_107 rfl gf_LandBase_Cutter_25 R (R.at rfl (by decide)) (by decide) rfl ?_
        refine go_iload (pc' := 112) dX1_sortCuts_110 rfl rfl ?_
        refine go_iconst (v := 1) (pc' := 113) dX1_sortCuts_112 rfl (by decide) ?_
        refine go_isub (pc' := 114) dX1_sortCuts_113 rfl ?_
        obtain ⟨g144, hf⟩ := gd_some hf
        refine go_ialoadS (pc' := 115) dX1_sortCuts_114 rfl R (R.aa rfl (by decide)) g144 ?_
        obtain ⟨g145, hf⟩ := gd_some hf
        obtain ⟨σ146, e147, hf⟩ := st_some hf
        refine go_iastoreS (pc' := 116) dX1_sortCuts_115 rfl R (R.aa rfl (by decide)) g145 (fun h148 R => ?_)
        have R := Rl.cast e147 R
        refine go_iincC (kk := (-1)) (pc' := 119) dX1_sortCuts_116 rfl rfl (by decide) (by decide) rfl ?_
        refine go_goto (pc' := 0) (tgt := 36) dX1_sortCuts_119 (by decide) ?_
        exact ih R hf
def l_X1_sortCuts_2 (n : Nat) : Nat → Int32 → xσ → Option (Unit × xσ)
  | 0, _, _ => none
  | f + 1, x1, σ => if (sI σ 18 10) ≤ x1 then some ((), σ) else gd (inb x1 80) (st (sJ σ 24 x1.toNatClampNeg) (fun l103 => gd (inb x1 80) (st (sJ σ 25 x1.toNatClampNeg) (fun l106 => gd (inb x1 80) (st (sI σ 26 x1.toNatClampNeg) (fun x109 => l_X1_sortCuts_36 n (l_X1_sortCuts_2 n f) xFU x1 l103 l106 x109 x1 σ))))))
set_option maxRecDepth 100000 in
set_option maxHeartbeats 4000000 in
theorem t_X1_sortCuts_2 {G : xG} {n : Nat} : ∀ (f : Nat) {x1 : Int32} {σ : xσ} {h : xH} {r : Unit × xσ} {d2 : Option Value} {d3 : Option Value} {d4 : Option Value} {d5 : Option Value} {d6 : Option Value} {d7 : Option Value}, Rl n σ h → l_X1_sortCuts_2 n f x1 σ = some r → Go G mX1_sortCuts 2 [some (.ref 18), some (.int x1), d2, d3, d4, d5, d6, d7] [] h (fun v h' => xRok (xRt mX1_sortCuts) v ∧ v = none ∧ Rl n r.2 h') := by
  intro f
  induction f with
  | zero =>
    intros
    rename _ = some _ => hf
    rw [l_X1_sortCuts_2] at hf
    cases hf
  | succ f ih =>
    intro x1 σ h r d2 d3 d4 d5 d6 d7 R hf
    rw [l_X1_sortCuts_2] at hf
    refine go_iload_n (i := 1) (pc' := 3) dX1_sortCuts_2 rfl rfl rfl ?_
    refine go_aload_n (i := 0) (pc' := 4) dX1_sortCuts_3 rfl rfl rfl ?_
    refine go_getS (pc' := 7) dX1_sortCuts_4 rfl gf_LandBase_Cutter_89 R (R.at rfl (by decide)) (by decide) rfl ?_
    refine go_icmp_ge (pc' := 10) (tgt := 154) dX1_sortCuts_7 (by decide) rfl (fun c101 => ?_) (fun c101 => ?_)
    · have hf := it c101 hf
      obtain rfl := Option.some.inj hf
      exact Go.ret (v := none) dX1_sortCuts_154 rfl ⟨trivial, rfl, R⟩
    · have hf := ie c101 hf
      refine go_aload_n (i := 0) (pc' := 11) dX1_sortCuts_10 rfl rfl rfl ?_
      refine go_getS (pc' := 14) dX1_sortCuts_11 rfl gf_LandBase_Cutter_18 R (R.at rfl (by decide)) (by decide) rfl ?_
      refine go_iload_n (i := 1) (pc' := 15) dX1_sortCuts_14 rfl rfl rfl ?_
      obtain ⟨g102, hf⟩ := gd_some hf
      refine go_laloadS (pc' := 16) dX1_sortCuts_15 rfl R (R.aa rfl (by decide)) g102 ?_
      obtain ⟨l103, e104, hf⟩ := st_some hf
      refine go_lstore_nE e104 (i := 2) (pc' := 17) dX1_sortCuts_16 rfl rfl (by decide) rfl ?_
      refine go_aload_n (i := 0) (pc' := 18) dX1_sortCuts_17 rfl rfl rfl ?_
      refine go_getS (pc' := 21) dX1_sortCuts_18 rfl gf_LandBase_Cutter_22 R (R.at rfl (by decide)) (by decide) rfl ?_
      refine go_iload_n (i := 1) (pc' := 22) dX1_sortCuts_21 rfl rfl rfl ?_
      obtain ⟨g105, hf⟩ := gd_some hf
      refine go_laloadS (pc' := 23) dX1_sortCuts_22 rfl R (R.aa rfl (by decide)) g105 ?_
      obtain ⟨l106, e107, hf⟩ := st_some hf
      refine go_lstoreE e107 (pc' := 25) dX1_sortCuts_23 rfl (by decide) rfl ?_
      refine go_aload_n (i := 0) (pc' := 26) dX1_sortCuts_25 rfl rfl rfl ?_
      refine go_getS (pc' := 29) dX1_sortCuts_26 rfl gf_LandBase_Cutter_25 R (R.at rfl (by decide)) (by decide) rfl ?_
      refine go_iload_n (i := 1) (pc' := 30) dX1_sortCuts_29 rfl rfl rfl ?_
      obtain ⟨g108, hf⟩ := gd_some hf
      refine go_ialoadS (pc' := 31) dX1_sortCuts_30 rfl R (R.aa rfl (by decide)) g108 ?_
      obtain ⟨x109, e110, hf⟩ := st_some hf
      refine go_istoreE e110 (pc' := 33) dX1_sortCuts_31 rfl (by decide) rfl ?_
      refine go_iload_n (i := 1) (pc' := 34) dX1_sortCuts_33 rfl rfl rfl ?_
      refine go_istoreE rfl (pc' := 36) dX1_sortCuts_34 rfl (by decide) rfl ?_
      exact t_X1_sortCuts_36 @ih xFU R hf
def f_X1_sortCuts (n : Nat)  (σ : xσ) : Option (Unit × xσ) := l_X1_sortCuts_2 n xFU 1 σ
set_option maxRecDepth 100000 in
set_option maxHeartbeats 4000000 in
theorem c_X1_sortCuts {G : xG} {n : Nat} {σ : xσ} {h : xH}  {v1 : Unit} {σ1 : xσ} (R : Rl n σ h) (hf : f_X1_sortCuts n σ = some (v1, σ1)) : Ca G mX1_sortCuts [.ref 18] h (fun v h' => v = none ∧ Rl n σ1 h') := by
  refine Ca.of rfl (Nat.le_of_ble_eq_true rfl) ?_
  generalize hr : (v1, σ1) = r at hf
  suffices q : Go G mX1_sortCuts 0 (xent (xMl mX1_sortCuts) [.ref 18]) [] h (fun v h' => xRok (xRt mX1_sortCuts) v ∧ v = none ∧ Rl n r.2 h') by
    subst hr
    exact q
  clear hr
  rw [f_X1_sortCuts] at hf
  refine go_iconst (v := 1) (pc' := 1) dX1_sortCuts_0 rfl (by decide) ?_
  refine go_istore_nE rfl (i := 1) (pc' := 2) dX1_sortCuts_1 rfl rfl (by decide) rfl ?_
  exact t_X1_sortCuts_2 xFU R hf
def f_X1_lieOfPiece (n : Nat)  (σ : xσ) : Option (Int32 × xσ) := if (sI σ 18 12) ≤ 0 then if (sI σ 18 11) = 0 then some (2, σ) else some (1, σ) else some (4, σ)
set_option maxRecDepth 100000 in
set_option maxHeartbeats 4000000 in
theorem c_X1_lieOfPiece {G : xG} {n : Nat} {σ : xσ} {h : xH}  {v1 : Int32} {σ1 : xσ} (R : Rl n σ h) (hf : f_X1_lieOfPiece n σ = some (v1, σ1)) : Ca G mX1_lieOfPiece [.ref 18] h (fun v h' => v = some (.int v1) ∧ Rl n σ1 h') := by
  refine Ca.of rfl (Nat.le_of_ble_eq_true rfl) ?_
  generalize hr : (v1, σ1) = r at hf
  suffices q : Go G mX1_lieOfPiece 0 (xent (xMl mX1_lieOfPiece) [.ref 18]) [] h (fun v h' => xRok (xRt mX1_lieOfPiece) v ∧ v = some (.int r.1) ∧ Rl n r.2 h') by
    subst hr
    exact q
  clear hr
  rw [f_X1_lieOfPiece] at hf
  refine go_aload_n (i := 0) (pc' := 1) dX1_lieOfPiece_0 rfl rfl rfl ?_
  refine go_getS (pc' := 4) dX1_lieOfPiece_1 rfl gf_LandBase_Cutter_95 R (R.at rfl (by decide)) (by decide) rfl ?_
  refine go_if_le (pc' := 7) (tgt := 9) dX1_lieOfPiece_4 (by decide) rfl (fun c101 => ?_) (fun c101 => ?_)
  · have hf := it c101 hf
    refine go_aload_n (i := 0) (pc' := 10) dX1_lieOfPiece_9 rfl rfl rfl ?_
    refine go_getS (pc' := 13) dX1_lieOfPiece_10 rfl gf_LandBase_Cutter_92 R (R.at rfl (by decide)) (by decide) rfl ?_
    refine go_if_eq (pc' := 16) (tgt := 20) dX1_lieOfPiece_13 (by decide) rfl (fun c102 => ?_) (fun c102 => ?_)
    · have hf := it c102 hf
      refine go_iconst (v := 2) (pc' := 21) dX1_lieOfPiece_20 rfl (by decide) ?_
      obtain rfl := Option.some.inj hf
      exact Go.ret (v := some (.int _)) dX1_lieOfPiece_21 ⟨_, rfl⟩ ⟨rfl, rfl, R⟩
    · have hf := ie c102 hf
      refine go_iconst (v := 1) (pc' := 17) dX1_lieOfPiece_16 rfl (by decide) ?_
      refine go_goto (pc' := 0) (tgt := 21) dX1_lieOfPiece_17 (by decide) ?_
      obtain rfl := Option.some.inj hf
      exact Go.ret (v := some (.int _)) dX1_lieOfPiece_21 ⟨_, rfl⟩ ⟨rfl, rfl, R⟩
  · have hf := ie c101 hf
    refine go_iconst (v := 4) (pc' := 8) dX1_lieOfPiece_7 rfl (by decide) ?_
    obtain rfl := Option.some.inj hf
    exact Go.ret (v := some (.int _)) dX1_lieOfPiece_8 ⟨_, rfl⟩ ⟨rfl, rfl, R⟩
def b_X1_sweep_111 (n : Nat) (k10 : Int32 → Int64 → Int64 → Int32 → xσ → Option (Int32 × xσ)) (x1 : Int32) (l2 : Int64) (l4 : Int64) (x6 : Int32) (σ : xσ) : Option (Int32 × xσ) := k10 x1 l2 l4 (x6 + 1) σ
set_option maxRecDepth 100000 in
set_option maxHeartbeats 4000000 in
theorem t_X1_sweep_111 {G : xG} {n : Nat} {k10 : Int32 → Int64 → Int64 → Int32 → xσ → Option (Int32 × xσ)} (hk10 : ∀ {x1 : Int32} {l2 : Int64} {l4 : Int64} {x6 : Int32} {σ : xσ} {h : xH} {r : Int32 × xσ}, Rl n σ h → k10 x1 l2 l4 x6 σ = some r → Go G mX1_sweep 10 [some (.ref 18), some (.int x1), some (.long l2), none, some (.long l4), none, some (.int x6)] [] h (fun v h' => xRok (xRt mX1_sweep) v ∧ v = some (.int r.1) ∧ Rl n r.2 h')) {x1 : Int32} {l2 : Int64} {l4 : Int64} {x6 : Int32} {σ : xσ} {h : xH} {r : Int32 × xσ} : Rl n σ h → b_X1_sweep_111 n k10 x1 l2 l4 x6 σ = some r → Go G mX1_sweep 111 [some (.ref 18), some (.int x1), some (.long l2), none, some (.long l4), none, some (.int x6)] [] h (fun v h' => xRok (xRt mX1_sweep) v ∧ v = some (.int r.1) ∧ Rl n r.2 h') := by
  intro R hf
  rw [b_X1_sweep_111] at hf
  refine go_iincC (kk := 1) (pc' := 114) dX1_sweep_111 rfl rfl (by decide) (by decide) rfl ?_
  refine go_goto (pc' := 0) (tgt := 10) dX1_sweep_114 (by decide) ?_
  exact hk10 R hf
def b_X1_sweep_89 (n : Nat) (k10 : Int32 → Int64 → Int64 → Int32 → xσ → Option (Int32 × xσ)) (x1 : Int32) (l2 : Int64) (l4 : Int64) (x6 : Int32) (xs0 : Int32) (σ : xσ) : Option (Int32 × xσ) := gd (xs0 = 0 ∨ xs0 = 1) (st (wI σ 18 11 xs0) (fun σ102 => b_X1_sweep_111 n k10 x1 l2 l4 x6 σ102))
set_option maxRecDepth 100000 in
set_option maxHeartbeats 4000000 in
theorem t_X1_sweep_89 {G : xG} {n : Nat} {k10 : Int32 → Int64 → Int64 → Int32 → xσ → Option (Int32 × xσ)} (hk10 : ∀ {x1 : Int32} {l2 : Int64} {l4 : Int64} {x6 : Int32} {σ : xσ} {h : xH} {r : Int32 × xσ}, Rl n σ h → k10 x1 l2 l4 x6 σ = some r → Go G mX1_sweep 10 [some (.ref 18), some (.int x1), some (.long l2), none, some (.long l4), none, some (.int x6)] [] h (fun v h' => xRok (xRt mX1_sweep) v ∧ v = some (.int r.1) ∧ Rl n r.2 h')) {x1 : Int32} {l2 : Int64} {l4 : Int64} {x6 : Int32} {xs0 : Int32} {σ : xσ} {h : xH} {r : Int32 × xσ} : Rl n σ h → b_X1_sweep_89 n k10 x1 l2 l4 x6 xs0 σ = some r → Go G mX1_sweep 89 [some (.ref 18), some (.int x1), some (.long l2), none, some (.long l4), none, some (.int x6)] [.int xs0, .ref 18] h (fun v h' => xRok (xRt mX1_sweep) v ∧ v = some (.int r.1) ∧ Rl n r.2 h') := by
  intro R hf
  rw [b_X1_sweep_89] at hf
  obtain ⟨g101, hf⟩ := gd_some hf
  obtain ⟨σ102, e103, hf⟩ := st_some hf
  refine go_putI (pc' := 92) dX1_sweep_89 rfl pf_LandBase_Cutter_92 R (R.at rfl (by decide)) (by decide) rfl (nb g101) (nf g101) (fun h104 R => ?_)
  have R := Rl.cast e103 R
  refine go_goto (pc' := 0) (tgt := 111) dX1_sweep_92 (by decide) ?_
  exact t_X1_sweep_111 @hk10 R hf
def b_X1_sweep_66 (n : Nat) (k10 : Int32 → Int64 → Int64 → Int32 → xσ → Option (Int32 × xσ)) (x1 : Int32) (l2 : Int64) (l4 : Int64) (x6 : Int32) (σ : xσ) : Option (Int32 × xσ) := gd (inb x6 80) (if (sI σ 26 x6.toNatClampNeg) = 0 then if (sI σ 18 11) = 0 then b_X1_sweep_89 n k10 x1 l2 l4 x6 1 σ else b_X1_sweep_89 n k10 x1 l2 l4 x6 0 σ else gd (inb x6 80) (st (wI σ 18 12 ((sI σ 18 12) + (sI σ 26 x6.toNatClampNeg))) (fun σ104 => b_X1_sweep_111 n k10 x1 l2 l4 x6 σ104)))
set_option maxRecDepth 100000 in
set_option maxHeartbeats 4000000 in
theorem t_X1_sweep_66 {G : xG} {n : Nat} {k10 : Int32 → Int64 → Int64 → Int32 → xσ → Option (Int32 × xσ)} (hk10 : ∀ {x1 : Int32} {l2 : Int64} {l4 : Int64} {x6 : Int32} {σ : xσ} {h : xH} {r : Int32 × xσ}, Rl n σ h → k10 x1 l2 l4 x6 σ = some r → Go G mX1_sweep 10 [some (.ref 18), some (.int x1), some (.long l2), none, some (.long l4), none, some (.int x6)] [] h (fun v h' => xRok (xRt mX1_sweep) v ∧ v = some (.int r.1) ∧ Rl n r.2 h')) {x1 : Int32} {l2 : Int64} {l4 : Int64} {x6 : Int32} {σ : xσ} {h : xH} {r : Int32 × xσ} : Rl n σ h → b_X1_sweep_66 n k10 x1 l2 l4 x6 σ = some r → Go G mX1_sweep 66 [some (.ref 18), some (.int x1), some (.long l2), none, some (.long l4), none, some (.int x6)] [] h (fun v h' => xRok (xRt mX1_sweep) v ∧ v = some (.int r.1) ∧ Rl n r.2 h') := by
  intro R hf
  rw [b_X1_sweep_66] at hf
  refine go_aload_n (i := 0) (pc' := 67) dX1_sweep_66 rfl rfl rfl ?_
  refine go_getS (pc' := 70) dX1_sweep_67 rfl gf_LandBase_Cutter_25 R (R.at rfl (by decide)) (by decide) rfl ?_
  refine go_iload (pc' := 72) dX1_sweep_70 rfl rfl ?_
  obtain ⟨g101, hf⟩ := gd_some hf
  refine go_ialoadS (pc' := 73) dX1_sweep_72 rfl R (R.aa rfl (by decide)) g101 ?_
  refine go_if_ne (pc' := 76) (tgt := 95) dX1_sweep_73 (by decide) rfl (fun c102 => ?_) (fun c102 => ?_)
  · have hf := ie c102 hf
    refine go_aload_n (i := 0) (pc' := 96) dX1_sweep_95 rfl rfl rfl ?_
    refine go_dup (pc' := 97) dX1_sweep_96 rfl rfl ?_
    refine go_getS (pc' := 100) dX1_sweep_97 rfl gf_LandBase_Cutter_95 R (R.at rfl (by decide)) (by decide) rfl ?_
    refine go_aload_n (i := 0) (pc' := 101) dX1_sweep_100 rfl rfl rfl ?_
    refine go_getS (pc' := 104) dX1_sweep_101 rfl gf_LandBase_Cutter_25 R (R.at rfl (by decide)) (by decide) rfl ?_
    refine go_iload (pc' := 106) dX1_sweep_104 rfl rfl ?_
    obtain ⟨g103, hf⟩ := gd_some hf
    refine go_ialoadS (pc' := 107) dX1_sweep_106 rfl R (R.aa rfl (by decide)) g103 ?_
    refine go_iadd (pc' := 108) dX1_sweep_107 rfl ?_
    obtain ⟨σ104, e105, hf⟩ := st_some hf
    refine go_putI (pc' := 111) dX1_sweep_108 rfl pf_LandBase_Cutter_95 R (R.at rfl (by decide)) (by decide) rfl rfl rfl (fun h106 R => ?_)
    have R := Rl.cast e105 R
    exact t_X1_sweep_111 @hk10 R hf
  · have hf := it c102 hf
    refine go_aload_n (i := 0) (pc' := 77) dX1_sweep_76 rfl rfl rfl ?_
    refine go_aload_n (i := 0) (pc' := 78) dX1_sweep_77 rfl rfl rfl ?_
    refine go_getS (pc' := 81) dX1_sweep_78 rfl gf_LandBase_Cutter_92 R (R.at rfl (by decide)) (by decide) rfl ?_
    refine go_if_ne (pc' := 84) (tgt := 88) dX1_sweep_81 (by decide) rfl (fun c107 => ?_) (fun c107 => ?_)
    · have hf := ie c107 hf
      refine go_iconst (v := 0) (pc' := 89) dX1_sweep_88 rfl (by decide) ?_
      exact t_X1_sweep_89 @hk10 R hf
    · have hf := it c107 hf
      refine go_iconst (v := 1) (pc' := 85) dX1_sweep_84 rfl (by decide) ?_
      refine go_goto (pc' := 0) (tgt := 89) dX1_sweep_85 (by decide) ?_
      exact t_X1_sweep_89 @hk10 R hf
def l_X1_sweep_10 (n : Nat) : Nat → Int32 → Int64 → Int64 → Int32 → xσ → Option (Int32 × xσ)
  | 0, _, _, _, _, _ => none
  | f + 1, x1, l2, l4, x6, σ => if (sI σ 18 10) ≤ x6 then bd (f_X1_lieOfPiece n σ) (fun v102 σ103 => some (x1 ||| v102, σ103)) else gd (inb x6 80) (gd (inb x6 80) (bd (f_X4_compareProducts n (sJ σ 24 x6.toNatClampNeg) l4 l2 (sJ σ 25 x6.toNatClampNeg) σ) (fun v109 σ110 => if v109 ≤ 0 then gd (inb x6 80) (if (sI σ110 26 x6.toNatClampNeg) = 0 then if (sI σ110 18 11) = 0 then b_X1_sweep_89 n (l_X1_sweep_10 n f) x1 l2 l4 x6 1 σ110 else b_X1_sweep_89 n (l_X1_sweep_10 n f) x1 l2 l4 x6 0 σ110 else gd (inb x6 80) (st (wI σ110 18 12 ((sI σ110 18 12) + (sI σ110 26 x6.toNatClampNeg))) (fun σ118 => b_X1_sweep_111 n (l_X1_sweep_10 n f) x1 l2 l4 x6 σ118))) else bd (f_X1_lieOfPiece n σ110) (fun v122 σ123 => st (x1 ||| v122) (fun x127 => gd (inb x6 80) (st (sJ σ123 24 x6.toNatClampNeg) (fun l130 => gd (inb x6 80) (st (sJ σ123 25 x6.toNatClampNeg) (fun l133 => b_X1_sweep_66 n (l_X1_sweep_10 n f) x127 l130 l133 x6 σ123)))))))))
set_option maxRecDepth 100000 in
set_option maxHeartbeats 4000000 in
theorem t_X1_sweep_10 {G : xG} {n : Nat} : ∀ (f : Nat) {x1 : Int32} {l2 : Int64} {l4 : Int64} {x6 : Int32} {σ : xσ} {h : xH} {r : Int32 × xσ}, Rl n σ h → l_X1_sweep_10 n f x1 l2 l4 x6 σ = some r → Go G mX1_sweep 10 [some (.ref 18), some (.int x1), some (.long l2), none, some (.long l4), none, some (.int x6)] [] h (fun v h' => xRok (xRt mX1_sweep) v ∧ v = some (.int r.1) ∧ Rl n r.2 h') := by
  intro f
  induction f with
  | zero =>
    intros
    rename _ = some _ => hf
    rw [l_X1_sweep_10] at hf
    cases hf
  | succ f ih =>
    intro x1 l2 l4 x6 σ h r  R hf
    rw [l_X1_sweep_10] at hf
    refine go_iload (pc' := 12) dX1_sweep_10 rfl rfl ?_
    refine go_aload_n (i := 0) (pc' := 13) dX1_sweep_12 rfl rfl rfl ?_
    refine go_getS (pc' := 16) dX1_sweep_13 rfl gf_LandBase_Cutter_89 R (R.at rfl (by decide)) (by decide) rfl ?_
    refine go_icmp_ge (pc' := 19) (tgt := 117) dX1_sweep_16 (by decide) rfl (fun c101 => ?_) (fun c101 => ?_)
    · have hf := it c101 hf
      refine go_iload_n (i := 1) (pc' := 118) dX1_sweep_117 rfl rfl rfl ?_
      refine go_aload_n (i := 0) (pc' := 119) dX1_sweep_118 rfl rfl rfl ?_
      obtain ⟨v102, σ103, e104, hf⟩ := bd_some hf
      refine go_invV (As := []) (pc' := 122) dX1_sweep_119 rfl cf_X1_sweep_129 rfl (R.ob (R.at rfl (by decide))) rfl rfl (Nat.le_of_ble_eq_true rfl) (c_X1_lieOfPiece R e104) (fun q105v h106 q105 => ?_)
      obtain ⟨rfl, R⟩ := q105
      refine go_ior (pc' := 123) dX1_sweep_122 rfl ?_
      obtain rfl := Option.some.inj hf
      exact Go.ret (v := some (.int _)) dX1_sweep_123 ⟨_, rfl⟩ ⟨rfl, rfl, R⟩
    · have hf := ie c101 hf
      refine go_aload_n (i := 0) (pc' := 20) dX1_sweep_19 rfl rfl rfl ?_
      refine go_getS (pc' := 23) dX1_sweep_20 rfl gf_LandBase_Cutter_18 R (R.at rfl (by decide)) (by decide) rfl ?_
      refine go_iload (pc' := 25) dX1_sweep_23 rfl rfl ?_
      obtain ⟨g107, hf⟩ := gd_some hf
      refine go_laloadS (pc' := 26) dX1_sweep_25 rfl R (R.aa rfl (by decide)) g107 ?_
      refine go_lload (pc' := 28) dX1_sweep_26 rfl rfl ?_
      refine go_lload_n (i := 2) (pc' := 29) dX1_sweep_28 rfl rfl rfl ?_
      refine go_aload_n (i := 0) (pc' := 30) dX1_sweep_29 rfl rfl rfl ?_
      refine go_getS (pc' := 33) dX1_sweep_30 rfl gf_LandBase_Cutter_22 R (R.at rfl (by decide)) (by decide) rfl ?_
      refine go_iload (pc' := 35) dX1_sweep_33 rfl rfl ?_
      obtain ⟨g108, hf⟩ := gd_some hf
      refine go_laloadS (pc' := 36) dX1_sweep_35 rfl R (R.aa rfl (by decide)) g108 ?_
      obtain ⟨v109, σ110, e111, hf⟩ := bd_some hf
      refine go_invS (As := [_, _, _, _]) (pc' := 39) dX1_sweep_36 rfl cf_X1_sweep_125 rfl rfl (Nat.le_of_ble_eq_true rfl) (c_X4_compareProducts R e111) (fun q112v h113 q112 => ?_)
      obtain ⟨rfl, R⟩ := q112
      refine go_if_le (pc' := 42) (tgt := 66) dX1_sweep_39 (by decide) rfl (fun c114 => ?_) (fun c114 => ?_)
      · have hf := it c114 hf
        refine go_aload_n (i := 0) (pc' := 67) dX1_sweep_66 rfl rfl rfl ?_
        refine go_getS (pc' := 70) dX1_sweep_67 rfl gf_LandBase_Cutter_25 R (R.at rfl (by decide)) (by decide) rfl ?_
        refine go_iload (pc' := 72) dX1_sweep_70 rfl rfl ?_
        obtain ⟨g115, hf⟩ := gd_some hf
        refine go_ialoadS (pc' := 73) dX1_sweep_72 rfl R (R.aa rfl (by decide)) g115 ?_
        refine go_if_ne (pc' := 76) (tgt := 95) dX1_sweep_73 (by decide) rfl (fun c116 => ?_) (fun c116 => ?_)
        · have hf := ie c116 hf
          refine go_aload_n (i := 0) (pc' := 96) dX1_sweep_95 rfl rfl rfl ?_
          refine go_dup (pc' := 97) dX1_sweep_96 rfl rfl ?_
          refine go_getS (pc' := 100) dX1_sweep_97 rfl gf_LandBase_Cutter_95 R (R.at rfl (by decide)) (by decide) rfl ?_
          refine go_aload_n (i := 0) (pc' := 101) dX1_sweep_100 rfl rfl rfl ?_
          refine go_getS (pc' := 104) dX1_sweep_101 rfl gf_LandBase_Cutter_25 R (R.at rfl (by decide)) (by decide) rfl ?_
          refine go_iload (pc' := 106) dX1_sweep_104 rfl rfl ?_
          obtain ⟨g117, hf⟩ := gd_some hf
          refine go_ialoadS (pc' := 107) dX1_sweep_106 rfl R (R.aa rfl (by decide)) g117 ?_
          refine go_iadd (pc' := 108) dX1_sweep_107 rfl ?_
          obtain ⟨σ118, e119, hf⟩ := st_some hf
          refine go_putI (pc' := 111) dX1_sweep_108 rfl pf_LandBase_Cutter_95 R (R.at rfl (by decide)) (by decide) rfl rfl rfl (fun h120 R => ?_)
          have R := Rl.cast e119 R
          exact t_X1_sweep_111 @ih R hf
        · have hf := it c116 hf
          refine go_aload_n (i := 0) (pc' := 77) dX1_sweep_76 rfl rfl rfl ?_
          refine go_aload_n (i := 0) (pc' := 78) dX1_sweep_77 rfl rfl rfl ?_
          refine go_getS (pc' := 81) dX1_sweep_78 rfl gf_LandBase_Cutter_92 R (R.at rfl (by decide)) (by decide) rfl ?_
          refine go_if_ne (pc' := 84) (tgt := 88) dX1_sweep_81 (by decide) rfl (fun c121 => ?_) (fun c121 => ?_)
          · have hf := ie c121 hf
            refine go_iconst (v := 0) (pc' := 89) dX1_sweep_88 rfl (by decide) ?_
            exact t_X1_sweep_89 @ih R hf
          · have hf := it c121 hf
            refine go_iconst (v := 1) (pc' := 85) dX1_sweep_84 rfl (by decide) ?_
            refine go_goto (pc' := 0) (tgt := 89) dX1_sweep_85 (by decide) ?_
            exact t_X1_sweep_89 @ih R hf
      · have hf := ie c114 hf
        refine go_iload_n (i := 1) (pc' := 43) dX1_sweep_42 rfl rfl rfl ?_
        refine go_aload_n (i := 0) (pc' := 44) dX1_sweep_43 rfl rfl rfl ?_
        obtain ⟨v122, σ123, e124, hf⟩ := bd_some hf
        refine go_invV (As := []) (pc' := 47) dX1_sweep_44 rfl cf_X1_sweep_129 rfl (R.ob (R.at rfl (by decide))) rfl rfl (Nat.le_of_ble_eq_true rfl) (c_X1_lieOfPiece R e124) (fun q125v h126 q125 => ?_)
        obtain ⟨rfl, R⟩ := q125
        refine go_ior (pc' := 48) dX1_sweep_47 rfl ?_
        obtain ⟨x127, e128, hf⟩ := st_some hf
        refine go_istore_nE e128 (i := 1) (pc' := 49) dX1_sweep_48 rfl rfl (by decide) rfl ?_
        refine go_aload_n (i := 0) (pc' := 50) dX1_sweep_49 rfl rfl rfl ?_
        refine go_getS (pc' := 53) dX1_sweep_50 rfl gf_LandBase_Cutter_18 R (R.at rfl (by decide)) (by decide) rfl ?_
        refine go_iload (pc' := 55) dX1_sweep_53 rfl rfl ?_
        obtain ⟨g129, hf⟩ := gd_some hf
        refine go_laloadS (pc' := 56) dX1_sweep_55 rfl R (R.aa rfl (by decide)) g129 ?_
        obtain ⟨l130, e131, hf⟩ := st_some hf
        refine go_lstore_nE e131 (i := 2) (pc' := 57) dX1_sweep_56 rfl rfl (by decide) rfl ?_
        refine go_aload_n (i := 0) (pc' := 58) dX1_sweep_57 rfl rfl rfl ?_
        refine go_getS (pc' := 61) dX1_sweep_58 rfl gf_LandBase_Cutter_22 R (R.at rfl (by decide)) (by decide) rfl ?_
        refine go_iload (pc' := 63) dX1_sweep_61 rfl rfl ?_
        obtain ⟨g132, hf⟩ := gd_some hf
        refine go_laloadS (pc' := 64) dX1_sweep_63 rfl R (R.aa rfl (by decide)) g132 ?_
        obtain ⟨l133, e134, hf⟩ := st_some hf
        refine go_lstoreE e134 (pc' := 66) dX1_sweep_64 rfl (by decide) rfl ?_
        exact t_X1_sweep_66 @ih R hf
def f_X1_sweep (n : Nat)  (σ : xσ) : Option (Int32 × xσ) := l_X1_sweep_10 n xFU 0 ((0 : Int64)) ((1 : Int64)) 0 σ
set_option maxRecDepth 100000 in
set_option maxHeartbeats 4000000 in
theorem c_X1_sweep {G : xG} {n : Nat} {σ : xσ} {h : xH}  {v1 : Int32} {σ1 : xσ} (R : Rl n σ h) (hf : f_X1_sweep n σ = some (v1, σ1)) : Ca G mX1_sweep [.ref 18] h (fun v h' => v = some (.int v1) ∧ Rl n σ1 h') := by
  refine Ca.of rfl (Nat.le_of_ble_eq_true rfl) ?_
  generalize hr : (v1, σ1) = r at hf
  suffices q : Go G mX1_sweep 0 (xent (xMl mX1_sweep) [.ref 18]) [] h (fun v h' => xRok (xRt mX1_sweep) v ∧ v = some (.int r.1) ∧ Rl n r.2 h') by
    subst hr
    exact q
  clear hr
  rw [f_X1_sweep] at hf
  refine go_iconst (v := 0) (pc' := 1) dX1_sweep_0 rfl (by decide) ?_
  refine go_istore_nE rfl (i := 1) (pc' := 2) dX1_sweep_1 rfl rfl (by decide) rfl ?_
  refine go_lconst (v := 0) (pc' := 3) dX1_sweep_2 rfl (by decide) ?_
  refine go_lstore_nE rfl (i := 2) (pc' := 4) dX1_sweep_3 rfl rfl (by decide) rfl ?_
  refine go_lconst (v := 1) (pc' := 5) dX1_sweep_4 rfl (by decide) ?_
  refine go_lstoreE rfl (pc' := 7) dX1_sweep_5 rfl (by decide) rfl ?_
  refine go_iconst (v := 0) (pc' := 8) dX1_sweep_7 rfl (by decide) ?_
  refine go_istoreE rfl (pc' := 10) dX1_sweep_8 rfl (by decide) rfl ?_
  exact t_X1_sweep_10 xFU R hf
def b_X1_scan_103 (n : Nat) (k10 : Nat → Int32 → Int32 → Int32 → Int32 → xσ → Option (Int32 × xσ)) (a1 : Nat) (x3 : Int32) (x4 : Int32) (x5 : Int32) (x6 : Int32) (σ : xσ) : Option (Int32 × xσ) := k10 a1 x3 x4 x5 (x6 + 1) σ
set_option maxRecDepth 100000 in
set_option maxHeartbeats 4000000 in
theorem t_X1_scan_103 {G : xG} {n : Nat} {k10 : Nat → Int32 → Int32 → Int32 → Int32 → xσ → Option (Int32 × xσ)} (hk10 : ∀ {a1 : Nat} {x3 : Int32} {x4 : Int32} {x5 : Int32} {x6 : Int32} {σ : xσ} {h : xH} {r : Int32 × xσ} {d2 : Option Value}, Rl n σ h → okS n a1 → k10 a1 x3 x4 x5 x6 σ = some r → Go G mX1_scan 10 [some (.ref 18), some (.ref a1), d2, some (.int x3), some (.int x4), some (.int x5), some (.int x6)] [] h (fun v h' => xRok (xRt mX1_scan) v ∧ v = some (.int r.1) ∧ Rl n r.2 h')) {a1 : Nat} {x3 : Int32} {x4 : Int32} {x5 : Int32} {x6 : Int32} {σ : xσ} {h : xH} {r : Int32 × xσ} {d2 : Option Value} : Rl n σ h → okS n a1 → b_X1_scan_103 n k10 a1 x3 x4 x5 x6 σ = some r → Go G mX1_scan 103 [some (.ref 18), some (.ref a1), d2, some (.int x3), some (.int x4), some (.int x5), some (.int x6)] [] h (fun v h' => xRok (xRt mX1_scan) v ∧ v = some (.int r.1) ∧ Rl n r.2 h') := by
  intro R g1 hf
  rw [b_X1_scan_103] at hf
  refine go_iincC (kk := 1) (pc' := 106) dX1_scan_103 rfl rfl (by decide) (by decide) rfl ?_
  refine go_goto (pc' := 0) (tgt := 10) dX1_scan_106 (by decide) ?_
  exact hk10 R g1 hf
def l_X1_scan_10 (n : Nat) : Nat → Nat → Int32 → Int32 → Int32 → Int32 → xσ → Option (Int32 × xσ)
  | 0, _, _, _, _, _, _ => none
  | f + 1, a1, x3, x4, x5, x6, σ => if x3 ≤ (x6 + 1) then some (x5, σ) else if (sI σ a1 1) ≤ (x6 + 1) then some (x5, σ) else if (x5 &&& x4) = 0 then gd (inb x6 40) (if (sI σ (a1 + 4) x6.toNatClampNeg) = 0 then bd (f_X1_isWayApart n a1 x6 σ) (fun v106 σ107 => if v106 = 0 then bd (f_X1_gather n a1 x6 σ107) (fun v112 σ113 => bd (f_X1_sortCuts n σ113) (fun v117 σ118 => bd (f_X1_sweep n σ118) (fun v122 σ123 => st (x5 ||| v122) (fun x127 => if (sI σ123 18 13) = 0 then (l_X1_scan_10 n f) a1 x3 x4 x127 (x6 + 1) σ123 else st (x127 ||| 8) (fun x130 => b_X1_scan_103 n (l_X1_scan_10 n f) a1 x3 x4 x130 x6 σ123))))) else st (x5 ||| 2) (fun x132 => b_X1_scan_103 n (l_X1_scan_10 n f) a1 x3 x4 x132 x6 σ107)) else b_X1_scan_103 n (l_X1_scan_10 n f) a1 x3 x4 x5 x6 σ) else some (x5, σ)
set_option maxRecDepth 100000 in
set_option maxHeartbeats 4000000 in
theorem t_X1_scan_10 {G : xG} {n : Nat} : ∀ (f : Nat) {a1 : Nat} {x3 : Int32} {x4 : Int32} {x5 : Int32} {x6 : Int32} {σ : xσ} {h : xH} {r : Int32 × xσ} {d2 : Option Value}, Rl n σ h → okS n a1 → l_X1_scan_10 n f a1 x3 x4 x5 x6 σ = some r → Go G mX1_scan 10 [some (.ref 18), some (.ref a1), d2, some (.int x3), some (.int x4), some (.int x5), some (.int x6)] [] h (fun v h' => xRok (xRt mX1_scan) v ∧ v = some (.int r.1) ∧ Rl n r.2 h') := by
  intro f
  induction f with
  | zero =>
    intros
    rename _ = some _ => hf
    rw [l_X1_scan_10] at hf
    cases hf
  | succ f ih =>
    intro a1 x3 x4 x5 x6 σ h r d2 R g1 hf
    rw [l_X1_scan_10] at hf
    refine go_iload (pc' := 12) dX1_scan_10 rfl rfl ?_
    refine go_iconst (v := 1) (pc' := 13) dX1_scan_12 rfl (by decide) ?_
    refine go_iadd (pc' := 14) dX1_scan_13 rfl ?_
    refine go_iload_n (i := 3) (pc' := 15) dX1_scan_14 rfl rfl rfl ?_
    refine go_icmp_ge (pc' := 18) (tgt := 109) dX1_scan_15 (by decide) rfl (fun c101 => ?_) (fun c101 => ?_)
    · have hf := it c101 hf
      refine go_iload (pc' := 111) dX1_scan_109 rfl rfl ?_
      obtain rfl := Option.some.inj hf
      exact Go.ret (v := some (.int _)) dX1_scan_111 ⟨_, rfl⟩ ⟨rfl, rfl, R⟩
    · have hf := ie c101 hf
      refine go_iload (pc' := 20) dX1_scan_18 rfl rfl ?_
      refine go_iconst (v := 1) (pc' := 21) dX1_scan_20 rfl (by decide) ?_
      refine go_iadd (pc' := 22) dX1_scan_21 rfl ?_
      refine go_aload_n (i := 1) (pc' := 23) dX1_scan_22 rfl rfl rfl ?_
      refine go_getS (pc' := 26) dX1_scan_23 rfl gf_LandBase_Cutter_29 R g1.at (by decide) rfl ?_
      refine go_icmp_ge (pc' := 29) (tgt := 109) dX1_scan_26 (by decide) rfl (fun c102 => ?_) (fun c102 => ?_)
      · have hf := it c102 hf
        refine go_iload (pc' := 111) dX1_scan_109 rfl rfl ?_
        obtain rfl := Option.some.inj hf
        exact Go.ret (v := some (.int _)) dX1_scan_111 ⟨_, rfl⟩ ⟨rfl, rfl, R⟩
      · have hf := ie c102 hf
        refine go_iload (pc' := 31) dX1_scan_29 rfl rfl ?_
        refine go_iload (pc' := 33) dX1_scan_31 rfl rfl ?_
        refine go_iand (pc' := 34) dX1_scan_33 rfl ?_
        refine go_if_ne (pc' := 37) (tgt := 109) dX1_scan_34 (by decide) rfl (fun c103 => ?_) (fun c103 => ?_)
        · have hf := ie c103 hf
          refine go_iload (pc' := 111) dX1_scan_109 rfl rfl ?_
          obtain rfl := Option.some.inj hf
          exact Go.ret (v := some (.int _)) dX1_scan_111 ⟨_, rfl⟩ ⟨rfl, rfl, R⟩
        · have hf := it c103 hf
          refine go_aload_n (i := 1) (pc' := 38) dX1_scan_37 rfl rfl rfl ?_
          refine go_getS (pc' := 41) dX1_scan_38 rfl gf_LandBase_Cutter_66 R g1.at (by decide) rfl ?_
          refine go_iload (pc' := 43) dX1_scan_41 rfl rfl ?_
          obtain ⟨g104, hf⟩ := gd_some hf
          refine go_zaloadS (pc' := 44) dX1_scan_43 rfl R g1.l g104 ?_
          refine go_if_eq (pc' := 47) (tgt := 50) dX1_scan_44 (by decide) rfl (fun c105 => ?_) (fun c105 => ?_)
          · have hf := it c105 hf
            refine go_aload_n (i := 0) (pc' := 51) dX1_scan_50 rfl rfl rfl ?_
            refine go_aload_n (i := 1) (pc' := 52) dX1_scan_51 rfl rfl rfl ?_
            refine go_iload (pc' := 54) dX1_scan_52 rfl rfl ?_
            obtain ⟨v106, σ107, e108, hf⟩ := bd_some hf
            refine go_invV (As := [_, _]) (pc' := 57) dX1_scan_54 rfl cf_X1_scan_70 rfl (R.ob (R.at rfl (by decide))) rfl rfl (Nat.le_of_ble_eq_true rfl) (c_X1_isWayApart R e108) (fun q109v h110 q109 => ?_)
            obtain ⟨rfl, R⟩ := q109
            refine go_if_eq (pc' := 60) (tgt := 69) dX1_scan_57 (by decide) rfl (fun c111 => ?_) (fun c111 => ?_)
            · have hf := it c111 hf
              refine go_aload_n (i := 0) (pc' := 70) dX1_scan_69 rfl rfl rfl ?_
              refine go_aload_n (i := 1) (pc' := 71) dX1_scan_70 rfl rfl rfl ?_
              refine go_iload (pc' := 73) dX1_scan_71 rfl rfl ?_
              obtain ⟨v112, σ113, e114, hf⟩ := bd_some hf
              refine go_invV (As := [_, _]) (pc' := 76) dX1_scan_73 rfl cf_X1_scan_74 rfl (R.ob (R.at rfl (by decide))) rfl rfl (Nat.le_of_ble_eq_true rfl) (c_X1_gather R e114) (fun q115v h116 q115 => ?_)
              obtain ⟨rfl, R⟩ := q115
              refine go_aload_n (i := 0) (pc' := 77) dX1_scan_76 rfl rfl rfl ?_
              obtain ⟨v117, σ118, e119, hf⟩ := bd_some hf
              refine go_invV (As := []) (pc' := 80) dX1_scan_77 rfl cf_X1_scan_78 rfl (R.ob (R.at rfl (by decide))) rfl rfl (Nat.le_of_ble_eq_true rfl) (c_X1_sortCuts R e119) (fun q120v h121 q120 => ?_)
              obtain ⟨rfl, R⟩ := q120
              refine go_iload (pc' := 82) dX1_scan_80 rfl rfl ?_
              refine go_aload_n (i := 0) (pc' := 83) dX1_scan_82 rfl rfl rfl ?_
              obtain ⟨v122, σ123, e124, hf⟩ := bd_some hf
              refine go_invV (As := []) (pc' := 86) dX1_scan_83 rfl cf_X1_scan_81 rfl (R.ob (R.at rfl (by decide))) rfl rfl (Nat.le_of_ble_eq_true rfl) (c_X1_sweep R e124) (fun q125v h126 q125 => ?_)
              obtain ⟨rfl, R⟩ := q125
              refine go_ior (pc' := 87) dX1_scan_86 rfl ?_
              obtain ⟨x127, e128, hf⟩ := st_some hf
              refine go_istoreE e128 (pc' := 89) dX1_scan_87 rfl (by decide) rfl ?_
              refine go_aload_n (i := 0) (pc' := 90) dX1_scan_89 rfl rfl rfl ?_
              refine go_getS (pc' := 93) dX1_scan_90 rfl gf_LandBase_Cutter_85 R (R.at rfl (by decide)) (by decide) rfl ?_
              refine go_if_eq (pc' := 96) (tgt := 103) dX1_scan_93 (by decide) rfl (fun c129 => ?_) (fun c129 => ?_)
              · have hf := it c129 hf
                refine go_iincC (kk := 1) (pc' := 106) dX1_scan_103 rfl rfl (by decide) (by decide) rfl ?_
                refine go_goto (pc' := 0) (tgt := 10) dX1_scan_106 (by decide) ?_
                exact ih R g1 hf
              · have hf := ie c129 hf
                refine go_iload (pc' := 98) dX1_scan_96 rfl rfl ?_
                refine go_bipush (v := 8) (pc' := 100) dX1_scan_98 rfl (by decide) ?_
                refine go_ior (pc' := 101) dX1_scan_100 rfl ?_
                obtain ⟨x130, e131, hf⟩ := st_some hf
                refine go_istoreE e131 (pc' := 103) dX1_scan_101 rfl (by decide) rfl ?_
                exact t_X1_scan_103 @ih R g1 hf
            · have hf := ie c111 hf
              refine go_iload (pc' := 62) dX1_scan_60 rfl rfl ?_
              refine go_iconst (v := 2) (pc' := 63) dX1_scan_62 rfl (by decide) ?_
              refine go_ior (pc' := 64) dX1_scan_63 rfl ?_
              obtain ⟨x132, e133, hf⟩ := st_some hf
              refine go_istoreE e133 (pc' := 66) dX1_scan_64 rfl (by decide) rfl ?_
              refine go_goto (pc' := 0) (tgt := 103) dX1_scan_66 (by decide) ?_
              exact t_X1_scan_103 @ih R g1 hf
          · have hf := ie c105 hf
            refine go_goto (pc' := 0) (tgt := 103) dX1_scan_47 (by decide) ?_
            exact t_X1_scan_103 @ih R g1 hf
def f_X1_scan (n : Nat) (a1 : Nat) (x2 : Int32) (x3 : Int32) (x4 : Int32) (σ : xσ) : Option (Int32 × xσ) := gd (okS n a1) (st (imax x2 0) (fun x101 => l_X1_scan_10 n xFU a1 x3 x4 0 x101 σ))
set_option maxRecDepth 100000 in
set_option maxHeartbeats 4000000 in
theorem c_X1_scan {G : xG} {n : Nat} {σ : xσ} {h : xH} {a1 : Nat} {x2 : Int32} {x3 : Int32} {x4 : Int32} {v1 : Int32} {σ1 : xσ} (R : Rl n σ h) (hf : f_X1_scan n a1 x2 x3 x4 σ = some (v1, σ1)) : Ca G mX1_scan [.ref 18, .ref a1, .int x2, .int x3, .int x4] h (fun v h' => v = some (.int v1) ∧ Rl n σ1 h') := by
  refine Ca.of rfl (Nat.le_of_ble_eq_true rfl) ?_
  generalize hr : (v1, σ1) = r at hf
  suffices q : Go G mX1_scan 0 (xent (xMl mX1_scan) [.ref 18, .ref a1, .int x2, .int x3, .int x4]) [] h (fun v h' => xRok (xRt mX1_scan) v ∧ v = some (.int r.1) ∧ Rl n r.2 h') by
    subst hr
    exact q
  clear hr
  rw [f_X1_scan] at hf
  obtain ⟨g1, hf⟩ := gd_some hf
  refine go_iconst (v := 0) (pc' := 1) dX1_scan_0 rfl (by decide) ?_
  refine go_istoreE rfl (pc' := 3) dX1_scan_1 rfl (by decide) rfl ?_
  refine go_iload_n (i := 2) (pc' := 4) dX1_scan_3 rfl rfl rfl ?_
  refine go_iconst (v := 0) (pc' := 5) dX1_scan_4 rfl (by decide) ?_
  refine go_mmax (pc' := 8) dX1_scan_5 rfl cf_X1_scan_63 (Nat.le_of_ble_eq_true rfl) ?_
  obtain ⟨x101, e102, hf⟩ := st_some hf
  refine go_istoreE e102 (pc' := 10) dX1_scan_8 rfl (by decide) rfl ?_
  exact t_X1_scan_10 xFU R g1 hf

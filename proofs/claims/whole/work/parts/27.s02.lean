/-! methods as functions, by program (gen/dcmall.py) -/
def b_X0_doHolesFit_88 (n : Nat) (k2 : Nat → Int32 → xσ → Option (Int32 × xσ)) (k12 : Nat → Int32 → Int32 → xσ → Option (Int32 × xσ)) (a1 : Nat) (x2 : Int32) (x3 : Int32) (σ : xσ) : Option (Int32 × xσ) := k12 a1 x2 (x3 + 1) σ
set_option maxRecDepth 100000 in
set_option maxHeartbeats 4000000 in
theorem t_X0_doHolesFit_88 {G : xG} {n : Nat} {k2 : Nat → Int32 → xσ → Option (Int32 × xσ)} {k12 : Nat → Int32 → Int32 → xσ → Option (Int32 × xσ)} (hk2 : ∀ {a1 : Nat} {x2 : Int32} {σ : xσ} {h : xH} {r : Int32 × xσ} {d3 : Option Value} {d4 : Option Value}, Rl n σ h → okS n a1 → k2 a1 x2 σ = some r → Go G mX0_doHolesFit 2 [some (.ref 27), some (.ref a1), some (.int x2), d3, d4] [] h (fun v h' => xRok (xRt mX0_doHolesFit) v ∧ v = some (.int r.1) ∧ Rl n r.2 h')) (hk12 : ∀ {a1 : Nat} {x2 : Int32} {x3 : Int32} {σ : xσ} {h : xH} {r : Int32 × xσ} {d4 : Option Value}, Rl n σ h → okS n a1 → k12 a1 x2 x3 σ = some r → Go G mX0_doHolesFit 12 [some (.ref 27), some (.ref a1), some (.int x2), some (.int x3), d4] [] h (fun v h' => xRok (xRt mX0_doHolesFit) v ∧ v = some (.int r.1) ∧ Rl n r.2 h')) {a1 : Nat} {x2 : Int32} {x3 : Int32} {σ : xσ} {h : xH} {r : Int32 × xσ} {d4 : Option Value} : Rl n σ h → okS n a1 → b_X0_doHolesFit_88 n k2 k12 a1 x2 x3 σ = some r → Go G mX0_doHolesFit 88 [some (.ref 27), some (.ref a1), some (.int x2), some (.int x3), d4] [] h (fun v h' => xRok (xRt mX0_doHolesFit) v ∧ v = some (.int r.1) ∧ Rl n r.2 h') := by
  intro R g1 hf
  rw [b_X0_doHolesFit_88] at hf
  refine go_iincC (kk := 1) (pc' := 91) dX0_doHolesFit_88 rfl rfl (by decide) (by decide) rfl ?_
  refine go_goto (pc' := 0) (tgt := 12) dX0_doHolesFit_91 (by decide) ?_
  exact hk12 R g1 hf
def b_X0_doHolesFit_30 (n : Nat) (k2 : Nat → Int32 → xσ → Option (Int32 × xσ)) (k12 : Nat → Int32 → Int32 → xσ → Option (Int32 × xσ)) (a1 : Nat) (x2 : Int32) (x3 : Int32) (xs0 : Int32) (σ : xσ) : Option (Int32 × xσ) := if x3 = x2 then b_X0_doHolesFit_88 n k2 k12 a1 x2 x3 σ else bd (f_X7_ringStart n a1 x3 σ) (fun v102 σ103 => gd (inb x3 8) (bd (f_X1_aim n a1 v102 (sI σ103 (a1 + 3) x3.toNatClampNeg) σ103) (fun v108 σ109 => bd (f_X7_ringStart n a1 x2 σ109) (fun v113 σ114 => gd (inb x2 8) (bd (f_X1_scan n a1 v113 (sI σ114 (a1 + 3) x2.toNatClampNeg) xs0 σ114) (fun v119 σ120 => if (v119 &&& xs0) = 0 then k12 a1 x2 (x3 + 1) σ120 else some (0, σ120)))))))
set_option maxRecDepth 100000 in
set_option maxHeartbeats 4000000 in
theorem t_X0_doHolesFit_30 {G : xG} {n : Nat} {k2 : Nat → Int32 → xσ → Option (Int32 × xσ)} {k12 : Nat → Int32 → Int32 → xσ → Option (Int32 × xσ)} (hk2 : ∀ {a1 : Nat} {x2 : Int32} {σ : xσ} {h : xH} {r : Int32 × xσ} {d3 : Option Value} {d4 : Option Value}, Rl n σ h → okS n a1 → k2 a1 x2 σ = some r → Go G mX0_doHolesFit 2 [some (.ref 27), some (.ref a1), some (.int x2), d3, d4] [] h (fun v h' => xRok (xRt mX0_doHolesFit) v ∧ v = some (.int r.1) ∧ Rl n r.2 h')) (hk12 : ∀ {a1 : Nat} {x2 : Int32} {x3 : Int32} {σ : xσ} {h : xH} {r : Int32 × xσ} {d4 : Option Value}, Rl n σ h → okS n a1 → k12 a1 x2 x3 σ = some r → Go G mX0_doHolesFit 12 [some (.ref 27), some (.ref a1), some (.int x2), some (.int x3), d4] [] h (fun v h' => xRok (xRt mX0_doHolesFit) v ∧ v = some (.int r.1) ∧ Rl n r.2 h')) {a1 : Nat} {x2 : Int32} {x3 : Int32} {xs0 : Int32} {σ : xσ} {h : xH} {r : Int32 × xσ} {d4 : Option Value} : Rl n σ h → okS n a1 → b_X0_doHolesFit_30 n k2 k12 a1 x2 x3 xs0 σ = some r → Go G mX0_doHolesFit 30 [some (.ref 27), some (.ref a1), some (.int x2), some (.int x3), d4] [.int xs0] h (fun v h' => xRok (xRt mX0_doHolesFit) v ∧ v = some (.int r.1) ∧ Rl n r.2 h') := by
  intro R g1 hf
  rw [b_X0_doHolesFit_30] at hf
  refine go_istoreE rfl (pc' := 32) dX0_doHolesFit_30 rfl (by decide) rfl ?_
  refine go_iload_n (i := 3) (pc' := 33) dX0_doHolesFit_32 rfl rfl rfl ?_
  refine go_iload_n (i := 2) (pc' := 34) dX0_doHolesFit_33 rfl rfl rfl ?_
  refine go_icmp_ne (pc' := 37) (tgt := 40) dX0_doHolesFit_34 (by decide) rfl (fun c101 => ?_) (fun c101 => ?_)
  · have hf := ie c101 hf
    refine go_aload_n (i := 0) (pc' := 41) dX0_doHolesFit_40 rfl rfl rfl ?_
    refine go_getS (pc' := 44) dX0_doHolesFit_41 rfl gf_LandBase_Checker_9 R (R.at rfl (by decide)) (by decide) rfl ?_
    refine go_aload_n (i := 1) (pc' := 45) dX0_doHolesFit_44 rfl rfl rfl ?_
    refine go_aload_n (i := 1) (pc' := 46) dX0_doHolesFit_45 rfl rfl rfl ?_
    refine go_iload_n (i := 3) (pc' := 47) dX0_doHolesFit_46 rfl rfl rfl ?_
    obtain ⟨v102, σ103, e104, hf⟩ := bd_some hf
    refine go_invV (As := [_]) (pc' := 50) dX0_doHolesFit_47 rfl cf_X0_doHolesFit_35 rfl (R.ob g1.at) rfl rfl (Nat.le_of_ble_eq_true rfl) (c_X7_ringStart R e104) (fun q105v h106 q105 => ?_)
    obtain ⟨rfl, R⟩ := q105
    refine go_aload_n (i := 1) (pc' := 51) dX0_doHolesFit_50 rfl rfl rfl ?_
    refine go_getS (pc' := 54) dX0_doHolesFit_51 rfl gf_LandBase_Checker_39 R g1.at (by decide) rfl ?_
    refine go_iload_n (i := 3) (pc' := 55) dX0_doHolesFit_54 rfl rfl rfl ?_
    obtain ⟨g107, hf⟩ := gd_some hf
    refine go_ialoadS (pc' := 56) dX0_doHolesFit_55 rfl R g1.r g107 ?_
    obtain ⟨v108, σ109, e110, hf⟩ := bd_some hf
    refine go_invV (As := [_, _, _]) (pc' := 59) dX0_doHolesFit_56 rfl cf_X0_doHolesFit_64 rfl (R.ob (R.at rfl (by decide))) rfl rfl (Nat.le_of_ble_eq_true rfl) (c_X1_aim R e110) (fun q111v h112 q111 => ?_)
    obtain ⟨rfl, R⟩ := q111
    refine go_aload_n (i := 0) (pc' := 60) dX0_doHolesFit_59 rfl rfl rfl ?_
    refine go_getS (pc' := 63) dX0_doHolesFit_60 rfl gf_LandBase_Checker_9 R (R.at rfl (by decide)) (by decide) rfl ?_
    refine go_aload_n (i := 1) (pc' := 64) dX0_doHolesFit_63 rfl rfl rfl ?_
    refine go_aload_n (i := 1) (pc' := 65) dX0_doHolesFit_64 rfl rfl rfl ?_
    refine go_iload_n (i := 2) (pc' := 66) dX0_doHolesFit_65 rfl rfl rfl ?_
    obtain ⟨v113, σ114, e115, hf⟩ := bd_some hf
    refine go_invV (As := [_]) (pc' := 69) dX0_doHolesFit_66 rfl cf_X0_doHolesFit_35 rfl (R.ob g1.at) rfl rfl (Nat.le_of_ble_eq_true rfl) (c_X7_ringStart R e115) (fun q116v h117 q116 => ?_)
    obtain ⟨rfl, R⟩ := q116
    refine go_aload_n (i := 1) (pc' := 70) dX0_doHolesFit_69 rfl rfl rfl ?_
    refine go_getS (pc' := 73) dX0_doHolesFit_70 rfl gf_LandBase_Checker_39 R g1.at (by decide) rfl ?_
    refine go_iload_n (i := 2) (pc' := 74) dX0_doHolesFit_73 rfl rfl rfl ?_
    obtain ⟨g118, hf⟩ := gd_some hf
    refine go_ialoadS (pc' := 75) dX0_doHolesFit_74 rfl R g1.r g118 ?_
    refine go_iload (pc' := 77) dX0_doHolesFit_75 rfl rfl ?_
    obtain ⟨v119, σ120, e121, hf⟩ := bd_some hf
    refine go_invV (As := [_, _, _, _]) (pc' := 80) dX0_doHolesFit_77 rfl cf_X0_doHolesFit_68 rfl (R.ob (R.at rfl (by decide))) rfl rfl (Nat.le_of_ble_eq_true rfl) (c_X1_scan R e121) (fun q122v h123 q122 => ?_)
    obtain ⟨rfl, R⟩ := q122
    refine go_iload (pc' := 82) dX0_doHolesFit_80 rfl rfl ?_
    refine go_iand (pc' := 83) dX0_doHolesFit_82 rfl ?_
    refine go_if_eq (pc' := 86) (tgt := 88) dX0_doHolesFit_83 (by decide) rfl (fun c124 => ?_) (fun c124 => ?_)
    · have hf := it c124 hf
      refine go_iincC (kk := 1) (pc' := 91) dX0_doHolesFit_88 rfl rfl (by decide) (by decide) rfl ?_
      refine go_goto (pc' := 0) (tgt := 12) dX0_doHolesFit_91 (by decide) ?_
      exact hk12 R g1 hf
    · have hf := ie c124 hf
      refine go_iconst (v := 0) (pc' := 87) dX0_doHolesFit_86 rfl (by decide) ?_
      obtain rfl := Option.some.inj hf
      exact Go.ret (v := some (.int _)) dX0_doHolesFit_87 ⟨_, rfl⟩ ⟨rfl, rfl, R⟩
  · have hf := it c101 hf
    refine go_goto (pc' := 0) (tgt := 88) dX0_doHolesFit_37 (by decide) ?_
    exact t_X0_doHolesFit_88 @hk2 @hk12 R g1 hf
def l_X0_doHolesFit_12 (n : Nat) (k2 : Nat → Int32 → xσ → Option (Int32 × xσ)) : Nat → Nat → Int32 → Int32 → xσ → Option (Int32 × xσ)
  | 0, _, _, _, _ => none
  | f + 1, a1, x2, x3, σ => if (sI σ a1 2) ≤ x3 then k2 a1 (x2 + 1) σ else if x3 = 0 then b_X0_doHolesFit_30 n k2 (l_X0_doHolesFit_12 n k2 f) a1 x2 x3 6 σ else b_X0_doHolesFit_30 n k2 (l_X0_doHolesFit_12 n k2 f) a1 x2 x3 5 σ
set_option maxRecDepth 100000 in
set_option maxHeartbeats 4000000 in
theorem t_X0_doHolesFit_12 {G : xG} {n : Nat} {k2 : Nat → Int32 → xσ → Option (Int32 × xσ)} (hk2 : ∀ {a1 : Nat} {x2 : Int32} {σ : xσ} {h : xH} {r : Int32 × xσ} {d3 : Option Value} {d4 : Option Value}, Rl n σ h → okS n a1 → k2 a1 x2 σ = some r → Go G mX0_doHolesFit 2 [some (.ref 27), some (.ref a1), some (.int x2), d3, d4] [] h (fun v h' => xRok (xRt mX0_doHolesFit) v ∧ v = some (.int r.1) ∧ Rl n r.2 h')) : ∀ (f : Nat) {a1 : Nat} {x2 : Int32} {x3 : Int32} {σ : xσ} {h : xH} {r : Int32 × xσ} {d4 : Option Value}, Rl n σ h → okS n a1 → l_X0_doHolesFit_12 n k2 f a1 x2 x3 σ = some r → Go G mX0_doHolesFit 12 [some (.ref 27), some (.ref a1), some (.int x2), some (.int x3), d4] [] h (fun v h' => xRok (xRt mX0_doHolesFit) v ∧ v = some (.int r.1) ∧ Rl n r.2 h') := by
  intro f
  induction f with
  | zero =>
    intros
    rename _ = some _ => hf
    rw [l_X0_doHolesFit_12] at hf
    cases hf
  | succ f ih =>
    intro a1 x2 x3 σ h r d4 R g1 hf
    rw [l_X0_doHolesFit_12] at hf
    refine go_iload_n (i := 3) (pc' := 13) dX0_doHolesFit_12 rfl rfl rfl ?_
    refine go_aload_n (i := 1) (pc' := 14) dX0_doHolesFit_13 rfl rfl rfl ?_
    refine go_getS (pc' := 17) dX0_doHolesFit_14 rfl gf_LandBase_Checker_32 R g1.at (by decide) rfl ?_
    refine go_icmp_ge (pc' := 20) (tgt := 94) dX0_doHolesFit_17 (by decide) rfl (fun c101 => ?_) (fun c101 => ?_)
    · have hf := it c101 hf
      refine go_iincC (kk := 1) (pc' := 97) dX0_doHolesFit_94 rfl rfl (by decide) (by decide) rfl ?_
      refine go_goto (pc' := 0) (tgt := 2) dX0_doHolesFit_97 (by decide) ?_
      exact hk2 R g1 hf
    · have hf := ie c101 hf
      refine go_iload_n (i := 3) (pc' := 21) dX0_doHolesFit_20 rfl rfl rfl ?_
      refine go_if_ne (pc' := 24) (tgt := 29) dX0_doHolesFit_21 (by decide) rfl (fun c102 => ?_) (fun c102 => ?_)
      · have hf := ie c102 hf
        refine go_iconst (v := 5) (pc' := 30) dX0_doHolesFit_29 rfl (by decide) ?_
        exact t_X0_doHolesFit_30 @hk2 @ih R g1 hf
      · have hf := it c102 hf
        refine go_bipush (v := 6) (pc' := 26) dX0_doHolesFit_24 rfl (by decide) ?_
        refine go_goto (pc' := 0) (tgt := 30) dX0_doHolesFit_26 (by decide) ?_
        exact t_X0_doHolesFit_30 @hk2 @ih R g1 hf
def l_X0_doHolesFit_2 (n : Nat) : Nat → Nat → Int32 → xσ → Option (Int32 × xσ)
  | 0, _, _, _ => none
  | f + 1, a1, x2, σ => if (sI σ a1 2) ≤ x2 then some (1, σ) else l_X0_doHolesFit_12 n (l_X0_doHolesFit_2 n f) xFU a1 x2 0 σ
set_option maxRecDepth 100000 in
set_option maxHeartbeats 4000000 in
theorem t_X0_doHolesFit_2 {G : xG} {n : Nat} : ∀ (f : Nat) {a1 : Nat} {x2 : Int32} {σ : xσ} {h : xH} {r : Int32 × xσ} {d3 : Option Value} {d4 : Option Value}, Rl n σ h → okS n a1 → l_X0_doHolesFit_2 n f a1 x2 σ = some r → Go G mX0_doHolesFit 2 [some (.ref 27), some (.ref a1), some (.int x2), d3, d4] [] h (fun v h' => xRok (xRt mX0_doHolesFit) v ∧ v = some (.int r.1) ∧ Rl n r.2 h') := by
  intro f
  induction f with
  | zero =>
    intros
    rename _ = some _ => hf
    rw [l_X0_doHolesFit_2] at hf
    cases hf
  | succ f ih =>
    intro a1 x2 σ h r d3 d4 R g1 hf
    rw [l_X0_doHolesFit_2] at hf
    refine go_iload_n (i := 2) (pc' := 3) dX0_doHolesFit_2 rfl rfl rfl ?_
    refine go_aload_n (i := 1) (pc' := 4) dX0_doHolesFit_3 rfl rfl rfl ?_
    refine go_getS (pc' := 7) dX0_doHolesFit_4 rfl gf_LandBase_Checker_32 R g1.at (by decide) rfl ?_
    refine go_icmp_ge (pc' := 10) (tgt := 100) dX0_doHolesFit_7 (by decide) rfl (fun c101 => ?_) (fun c101 => ?_)
    · have hf := it c101 hf
      refine go_iconst (v := 1) (pc' := 101) dX0_doHolesFit_100 rfl (by decide) ?_
      obtain rfl := Option.some.inj hf
      exact Go.ret (v := some (.int _)) dX0_doHolesFit_101 ⟨_, rfl⟩ ⟨rfl, rfl, R⟩
    · have hf := ie c101 hf
      refine go_iconst (v := 0) (pc' := 11) dX0_doHolesFit_10 rfl (by decide) ?_
      refine go_istore_nE rfl (i := 3) (pc' := 12) dX0_doHolesFit_11 rfl rfl (by decide) rfl ?_
      exact t_X0_doHolesFit_12 @ih xFU R g1 hf
def f_X0_doHolesFit (n : Nat) (a1 : Nat) (σ : xσ) : Option (Int32 × xσ) := gd (okS n a1) (l_X0_doHolesFit_2 n xFU a1 1 σ)
set_option maxRecDepth 100000 in
set_option maxHeartbeats 4000000 in
theorem c_X0_doHolesFit {G : xG} {n : Nat} {σ : xσ} {h : xH} {a1 : Nat} {v1 : Int32} {σ1 : xσ} (R : Rl n σ h) (hf : f_X0_doHolesFit n a1 σ = some (v1, σ1)) : Ca G mX0_doHolesFit [.ref 27, .ref a1] h (fun v h' => v = some (.int v1) ∧ Rl n σ1 h') := by
  refine Ca.of rfl (Nat.le_of_ble_eq_true rfl) ?_
  generalize hr : (v1, σ1) = r at hf
  suffices q : Go G mX0_doHolesFit 0 (xent (xMl mX0_doHolesFit) [.ref 27, .ref a1]) [] h (fun v h' => xRok (xRt mX0_doHolesFit) v ∧ v = some (.int r.1) ∧ Rl n r.2 h') by
    subst hr
    exact q
  clear hr
  rw [f_X0_doHolesFit] at hf
  obtain ⟨g1, hf⟩ := gd_some hf
  refine go_iconst (v := 1) (pc' := 1) dX0_doHolesFit_0 rfl (by decide) ?_
  refine go_istore_nE rfl (i := 2) (pc' := 2) dX0_doHolesFit_1 rfl rfl (by decide) rfl ?_
  exact t_X0_doHolesFit_2 xFU R g1 hf
def l_X0_isSeenBefore_2 (n : Nat) : Nat → Nat → Int32 → Int32 → xσ → Option (Int32 × xσ)
  | 0, _, _, _, _ => none
  | f + 1, a0, x1, x2, σ => if x1 ≤ x2 then some (0, σ) else bd (f_X7_isAlike n a0 x1 x2 σ) (fun v102 σ103 => if v102 = 0 then (l_X0_isSeenBefore_2 n f) a0 x1 (x2 + 1) σ103 else some (1, σ103))
set_option maxRecDepth 100000 in
set_option maxHeartbeats 4000000 in
theorem t_X0_isSeenBefore_2 {G : xG} {n : Nat} : ∀ (f : Nat) {a0 : Nat} {x1 : Int32} {x2 : Int32} {σ : xσ} {h : xH} {r : Int32 × xσ}, Rl n σ h → okS n a0 → l_X0_isSeenBefore_2 n f a0 x1 x2 σ = some r → Go G mX0_isSeenBefore 2 [some (.ref a0), some (.int x1), some (.int x2)] [] h (fun v h' => xRok (xRt mX0_isSeenBefore) v ∧ v = some (.int r.1) ∧ Rl n r.2 h') := by
  intro f
  induction f with
  | zero =>
    intros
    rename _ = some _ => hf
    rw [l_X0_isSeenBefore_2] at hf
    cases hf
  | succ f ih =>
    intro a0 x1 x2 σ h r  R g0 hf
    rw [l_X0_isSeenBefore_2] at hf
    refine go_iload_n (i := 2) (pc' := 3) dX0_isSeenBefore_2 rfl rfl rfl ?_
    refine go_iload_n (i := 1) (pc' := 4) dX0_isSeenBefore_3 rfl rfl rfl ?_
    refine go_icmp_ge (pc' := 7) (tgt := 24) dX0_isSeenBefore_4 (by decide) rfl (fun c101 => ?_) (fun c101 => ?_)
    · have hf := it c101 hf
      refine go_iconst (v := 0) (pc' := 25) dX0_isSeenBefore_24 rfl (by decide) ?_
      obtain rfl := Option.some.inj hf
      exact Go.ret (v := some (.int _)) dX0_isSeenBefore_25 ⟨_, rfl⟩ ⟨rfl, rfl, R⟩
    · have hf := ie c101 hf
      refine go_aload_n (i := 0) (pc' := 8) dX0_isSeenBefore_7 rfl rfl rfl ?_
      refine go_iload_n (i := 1) (pc' := 9) dX0_isSeenBefore_8 rfl rfl rfl ?_
      refine go_iload_n (i := 2) (pc' := 10) dX0_isSeenBefore_9 rfl rfl rfl ?_
      obtain ⟨v102, σ103, e104, hf⟩ := bd_some hf
      refine go_invV (As := [_, _]) (pc' := 13) dX0_isSeenBefore_10 rfl cf_X0_isSeenBefore_52 rfl (R.ob g0.at) rfl rfl (Nat.le_of_ble_eq_true rfl) (c_X7_isAlike R e104) (fun q105v h106 q105 => ?_)
      obtain ⟨rfl, R⟩ := q105
      refine go_if_eq (pc' := 16) (tgt := 18) dX0_isSeenBefore_13 (by decide) rfl (fun c107 => ?_) (fun c107 => ?_)
      · have hf := it c107 hf
        refine go_iincC (kk := 1) (pc' := 21) dX0_isSeenBefore_18 rfl rfl (by decide) (by decide) rfl ?_
        refine go_goto (pc' := 0) (tgt := 2) dX0_isSeenBefore_21 (by decide) ?_
        exact ih R g0 hf
      · have hf := ie c107 hf
        refine go_iconst (v := 1) (pc' := 17) dX0_isSeenBefore_16 rfl (by decide) ?_
        obtain rfl := Option.some.inj hf
        exact Go.ret (v := some (.int _)) dX0_isSeenBefore_17 ⟨_, rfl⟩ ⟨rfl, rfl, R⟩
def f_X0_isSeenBefore (n : Nat) (a0 : Nat) (x1 : Int32) (σ : xσ) : Option (Int32 × xσ) := gd (okS n a0) (l_X0_isSeenBefore_2 n xFU a0 x1 0 σ)
set_option maxRecDepth 100000 in
set_option maxHeartbeats 4000000 in
theorem c_X0_isSeenBefore {G : xG} {n : Nat} {σ : xσ} {h : xH} {a0 : Nat} {x1 : Int32} {v1 : Int32} {σ1 : xσ} (R : Rl n σ h) (hf : f_X0_isSeenBefore n a0 x1 σ = some (v1, σ1)) : Ca G mX0_isSeenBefore [.ref a0, .int x1] h (fun v h' => v = some (.int v1) ∧ Rl n σ1 h') := by
  refine Ca.of rfl (Nat.le_of_ble_eq_true rfl) ?_
  generalize hr : (v1, σ1) = r at hf
  suffices q : Go G mX0_isSeenBefore 0 (xent (xMl mX0_isSeenBefore) [.ref a0, .int x1]) [] h (fun v h' => xRok (xRt mX0_isSeenBefore) v ∧ v = some (.int r.1) ∧ Rl n r.2 h') by
    subst hr
    exact q
  clear hr
  rw [f_X0_isSeenBefore] at hf
  obtain ⟨g0, hf⟩ := gd_some hf
  refine go_iconst (v := 0) (pc' := 1) dX0_isSeenBefore_0 rfl (by decide) ?_
  refine go_istore_nE rfl (i := 2) (pc' := 2) dX0_isSeenBefore_1 rfl rfl (by decide) rfl ?_
  exact t_X0_isSeenBefore_2 xFU R g0 hf
def f_X4_isOnWay (n : Nat) (a0 : Nat) (x1 : Int32) (x2 : Int32) (x3 : Int32) (σ : xσ) : Option (Int32 × xσ) := gd (okS n a0) (bd (f_X4_isInBoxOf n a0 x1 x2 x3 σ) (fun v101 σ102 => if v101 = 0 then some (0, σ102) else bd (f_X4_sideOf n a0 x1 (x2.toInt64) (x3.toInt64) σ102) (fun v107 σ108 => if (lg_cmp v107 ((0 : Int64))) = 0 then some (1, σ108) else some (0, σ108))))
set_option maxRecDepth 100000 in
set_option maxHeartbeats 4000000 in
theorem c_X4_isOnWay {G : xG} {n : Nat} {σ : xσ} {h : xH} {a0 : Nat} {x1 : Int32} {x2 : Int32} {x3 : Int32} {v1 : Int32} {σ1 : xσ} (R : Rl n σ h) (hf : f_X4_isOnWay n a0 x1 x2 x3 σ = some (v1, σ1)) : Ca G mX4_isOnWay [.ref a0, .int x1, .int x2, .int x3] h (fun v h' => v = some (.int v1) ∧ Rl n σ1 h') := by
  refine Ca.of rfl (Nat.le_of_ble_eq_true rfl) ?_
  generalize hr : (v1, σ1) = r at hf
  suffices q : Go G mX4_isOnWay 0 (xent (xMl mX4_isOnWay) [.ref a0, .int x1, .int x2, .int x3]) [] h (fun v h' => xRok (xRt mX4_isOnWay) v ∧ v = some (.int r.1) ∧ Rl n r.2 h') by
    subst hr
    exact q
  clear hr
  rw [f_X4_isOnWay] at hf
  obtain ⟨g0, hf⟩ := gd_some hf
  refine go_aload_n (i := 0) (pc' := 1) dX4_isOnWay_0 rfl rfl rfl ?_
  refine go_iload_n (i := 1) (pc' := 2) dX4_isOnWay_1 rfl rfl rfl ?_
  refine go_iload_n (i := 2) (pc' := 3) dX4_isOnWay_2 rfl rfl rfl ?_
  refine go_iload_n (i := 3) (pc' := 4) dX4_isOnWay_3 rfl rfl rfl ?_
  obtain ⟨v101, σ102, e103, hf⟩ := bd_some hf
  refine go_invS (As := [_, _, _, _]) (pc' := 7) dX4_isOnWay_4 rfl cf_X4_isOnWay_18 rfl rfl (Nat.le_of_ble_eq_true rfl) (c_X4_isInBoxOf R e103) (fun q104v h105 q104 => ?_)
  obtain ⟨rfl, R⟩ := q104
  refine go_if_eq (pc' := 10) (tgt := 28) dX4_isOnWay_7 (by decide) rfl (fun c106 => ?_) (fun c106 => ?_)
  · have hf := it c106 hf
    refine go_iconst (v := 0) (pc' := 29) dX4_isOnWay_28 rfl (by decide) ?_
    obtain rfl := Option.some.inj hf
    exact Go.ret (v := some (.int _)) dX4_isOnWay_29 ⟨_, rfl⟩ ⟨rfl, rfl, R⟩
  · have hf := ie c106 hf
    refine go_aload_n (i := 0) (pc' := 11) dX4_isOnWay_10 rfl rfl rfl ?_
    refine go_iload_n (i := 1) (pc' := 12) dX4_isOnWay_11 rfl rfl rfl ?_
    refine go_iload_n (i := 2) (pc' := 13) dX4_isOnWay_12 rfl rfl rfl ?_
    refine go_i2l (pc' := 14) dX4_isOnWay_13 rfl rfl ?_
    refine go_iload_n (i := 3) (pc' := 15) dX4_isOnWay_14 rfl rfl rfl ?_
    refine go_i2l (pc' := 16) dX4_isOnWay_15 rfl rfl ?_
    obtain ⟨v107, σ108, e109, hf⟩ := bd_some hf
    refine go_invS (As := [_, _, _, _]) (pc' := 19) dX4_isOnWay_16 rfl cf_X4_isOnWay_24 rfl rfl (Nat.le_of_ble_eq_true rfl) (c_X4_sideOf R e109) (fun q110v h111 q110 => ?_)
    obtain ⟨rfl, R⟩ := q110
    refine go_lconst (v := 0) (pc' := 20) dX4_isOnWay_19 rfl (by decide) ?_
    refine go_lcmp (pc' := 21) dX4_isOnWay_20 rfl ?_
    refine go_if_ne (pc' := 24) (tgt := 28) dX4_isOnWay_21 (by decide) rfl (fun c112 => ?_) (fun c112 => ?_)
    · have hf := ie c112 hf
      refine go_iconst (v := 0) (pc' := 29) dX4_isOnWay_28 rfl (by decide) ?_
      obtain rfl := Option.some.inj hf
      exact Go.ret (v := some (.int _)) dX4_isOnWay_29 ⟨_, rfl⟩ ⟨rfl, rfl, R⟩
    · have hf := it c112 hf
      refine go_iconst (v := 1) (pc' := 25) dX4_isOnWay_24 rfl (by decide) ?_
      refine go_goto (pc' := 0) (tgt := 29) dX4_isOnWay_25 (by decide) ?_
      obtain rfl := Option.some.inj hf
      exact Go.ret (v := some (.int _)) dX4_isOnWay_29 ⟨_, rfl⟩ ⟨rfl, rfl, R⟩
def l_X0_isOnRing_7 (n : Nat) : Nat → Nat → Int32 → Int32 → Int32 → Int32 → xσ → Option (Int32 × xσ)
  | 0, _, _, _, _, _, _ => none
  | f + 1, a0, x1, x2, x3, x4, σ => gd (inb x1 8) (if (sI σ (a0 + 3) x1.toNatClampNeg) ≤ (x4 + 1) then some (0, σ) else bd (f_X4_isOnWay n a0 x4 x2 x3 σ) (fun v103 σ104 => if v103 = 0 then (l_X0_isOnRing_7 n f) a0 x1 x2 x3 (x4 + 1) σ104 else some (1, σ104)))
set_option maxRecDepth 100000 in
set_option maxHeartbeats 4000000 in
theorem t_X0_isOnRing_7 {G : xG} {n : Nat} : ∀ (f : Nat) {a0 : Nat} {x1 : Int32} {x2 : Int32} {x3 : Int32} {x4 : Int32} {σ : xσ} {h : xH} {r : Int32 × xσ}, Rl n σ h → okS n a0 → l_X0_isOnRing_7 n f a0 x1 x2 x3 x4 σ = some r → Go G mX0_isOnRing 7 [some (.ref a0), some (.int x1), some (.int x2), some (.int x3), some (.int x4)] [] h (fun v h' => xRok (xRt mX0_isOnRing) v ∧ v = some (.int r.1) ∧ Rl n r.2 h') := by
  intro f
  induction f with
  | zero =>
    intros
    rename _ = some _ => hf
    rw [l_X0_isOnRing_7] at hf
    cases hf
  | succ f ih =>
    intro a0 x1 x2 x3 x4 σ h r  R g0 hf
    rw [l_X0_isOnRing_7] at hf
    refine go_iload (pc' := 9) dX0_isOnRing_7 rfl rfl ?_
    refine go_iconst (v := 1) (pc' := 10) dX0_isOnRing_9 rfl (by decide) ?_
    refine go_iadd (pc' := 11) dX0_isOnRing_10 rfl ?_
    refine go_aload_n (i := 0) (pc' := 12) dX0_isOnRing_11 rfl rfl rfl ?_
    refine go_getS (pc' := 15) dX0_isOnRing_12 rfl gf_LandBase_Checker_39 R g0.at (by decide) rfl ?_
    refine go_iload_n (i := 1) (pc' := 16) dX0_isOnRing_15 rfl rfl rfl ?_
    obtain ⟨g101, hf⟩ := gd_some hf
    refine go_ialoadS (pc' := 17) dX0_isOnRing_16 rfl R g0.r g101 ?_
    refine go_icmp_ge (pc' := 20) (tgt := 39) dX0_isOnRing_17 (by decide) rfl (fun c102 => ?_) (fun c102 => ?_)
    · have hf := it c102 hf
      refine go_iconst (v := 0) (pc' := 40) dX0_isOnRing_39 rfl (by decide) ?_
      obtain rfl := Option.some.inj hf
      exact Go.ret (v := some (.int _)) dX0_isOnRing_40 ⟨_, rfl⟩ ⟨rfl, rfl, R⟩
    · have hf := ie c102 hf
      refine go_aload_n (i := 0) (pc' := 21) dX0_isOnRing_20 rfl rfl rfl ?_
      refine go_iload (pc' := 23) dX0_isOnRing_21 rfl rfl ?_
      refine go_iload_n (i := 2) (pc' := 24) dX0_isOnRing_23 rfl rfl rfl ?_
      refine go_iload_n (i := 3) (pc' := 25) dX0_isOnRing_24 rfl rfl rfl ?_
      obtain ⟨v103, σ104, e105, hf⟩ := bd_some hf
      refine go_invS (As := [_, _, _, _]) (pc' := 28) dX0_isOnRing_25 rfl cf_X0_isOnRing_93 rfl rfl (Nat.le_of_ble_eq_true rfl) (c_X4_isOnWay R e105) (fun q106v h107 q106 => ?_)
      obtain ⟨rfl, R⟩ := q106
      refine go_if_eq (pc' := 31) (tgt := 33) dX0_isOnRing_28 (by decide) rfl (fun c108 => ?_) (fun c108 => ?_)
      · have hf := it c108 hf
        refine go_iincC (kk := 1) (pc' := 36) dX0_isOnRing_33 rfl rfl (by decide) (by decide) rfl ?_
        refine go_goto (pc' := 0) (tgt := 7) dX0_isOnRing_36 (by decide) ?_
        exact ih R g0 hf
      · have hf := ie c108 hf
        refine go_iconst (v := 1) (pc' := 32) dX0_isOnRing_31 rfl (by decide) ?_
        obtain rfl := Option.some.inj hf
        exact Go.ret (v := some (.int _)) dX0_isOnRing_32 ⟨_, rfl⟩ ⟨rfl, rfl, R⟩
def f_X0_isOnRing (n : Nat) (a0 : Nat) (x1 : Int32) (x2 : Int32) (x3 : Int32) (σ : xσ) : Option (Int32 × xσ) := gd (okS n a0) (bd (f_X7_ringStart n a0 x1 σ) (fun v101 σ102 => l_X0_isOnRing_7 n xFU a0 x1 x2 x3 v101 σ102))
set_option maxRecDepth 100000 in
set_option maxHeartbeats 4000000 in
theorem c_X0_isOnRing {G : xG} {n : Nat} {σ : xσ} {h : xH} {a0 : Nat} {x1 : Int32} {x2 : Int32} {x3 : Int32} {v1 : Int32} {σ1 : xσ} (R : Rl n σ h) (hf : f_X0_isOnRing n a0 x1 x2 x3 σ = some (v1, σ1)) : Ca G mX0_isOnRing [.ref a0, .int x1, .int x2, .int x3] h (fun v h' => v = some (.int v1) ∧ Rl n σ1 h') := by
  refine Ca.of rfl (Nat.le_of_ble_eq_true rfl) ?_
  generalize hr : (v1, σ1) = r at hf
  suffices q : Go G mX0_isOnRing 0 (xent (xMl mX0_isOnRing) [.ref a0, .int x1, .int x2, .int x3]) [] h (fun v h' => xRok (xRt mX0_isOnRing) v ∧ v = some (.int r.1) ∧ Rl n r.2 h') by
    subst hr
    exact q
  clear hr
  rw [f_X0_isOnRing] at hf
  obtain ⟨g0, hf⟩ := gd_some hf
  refine go_aload_n (i := 0) (pc' := 1) dX0_isOnRing_0 rfl rfl rfl ?_
  refine go_iload_n (i := 1) (pc' := 2) dX0_isOnRing_1 rfl rfl rfl ?_
  obtain ⟨v101, σ102, e103, hf⟩ := bd_some hf
  refine go_invV (As := [_]) (pc' := 5) dX0_isOnRing_2 rfl cf_X0_isOnRing_35 rfl (R.ob g0.at) rfl rfl (Nat.le_of_ble_eq_true rfl) (c_X7_ringStart R e103) (fun q104v h105 q104 => ?_)
  obtain ⟨rfl, R⟩ := q104
  refine go_istoreE rfl (pc' := 7) dX0_isOnRing_5 rfl (by decide) rfl ?_
  exact t_X0_isOnRing_7 xFU R g0 hf
def b_X0_joinGroups_25 (n : Nat) (k2 : Int32 → Int32 → Int32 → xσ → Option (Unit × xσ)) (x1 : Int32) (x2 : Int32) (x3 : Int32) (σ : xσ) : Option (Unit × xσ) := k2 x1 x2 (x3 + 1) σ
set_option maxRecDepth 100000 in
set_option maxHeartbeats 4000000 in
theorem t_X0_joinGroups_25 {G : xG} {n : Nat} {k2 : Int32 → Int32 → Int32 → xσ → Option (Unit × xσ)} (hk2 : ∀ {x1 : Int32} {x2 : Int32} {x3 : Int32} {σ : xσ} {h : xH} {r : Unit × xσ}, Rl n σ h → k2 x1 x2 x3 σ = some r → Go G mX0_joinGroups 2 [some (.ref 27), some (.int x1), some (.int x2), some (.int x3)] [] h (fun v h' => xRok (xRt mX0_joinGroups) v ∧ v = none ∧ Rl n r.2 h')) {x1 : Int32} {x2 : Int32} {x3 : Int32} {σ : xσ} {h : xH} {r : Unit × xσ} : Rl n σ h → b_X0_joinGroups_25 n k2 x1 x2 x3 σ = some r → Go G mX0_joinGroups 25 [some (.ref 27), some (.int x1), some (.int x2), some (.int x3)] [] h (fun v h' => xRok (xRt mX0_joinGroups) v ∧ v = none ∧ Rl n r.2 h') := by
  intro R hf
  rw [b_X0_joinGroups_25] at hf
  refine go_iincC (kk := 1) (pc' := 28) dX0_joinGroups_25 rfl rfl (by decide) (by decide) rfl ?_
  refine go_goto (pc' := 0) (tgt := 2) dX0_joinGroups_28 (by decide) ?_
  exact hk2 R hf
def l_X0_joinGroups_2 (n : Nat) : Nat → Int32 → Int32 → Int32 → xσ → Option (Unit × xσ)
  | 0, _, _, _, _ => none
  | f + 1, x1, x2, x3, σ => if 8 ≤ x3 then some ((), σ) else gd (inb x3 8) (if (sI σ 28 x3.toNatClampNeg) = x1 then gd (inb x3 8) (st (wI σ 28 x3.toNatClampNeg x2) (fun σ105 => b_X0_joinGroups_25 n (l_X0_joinGroups_2 n f) x1 x2 x3 σ105)) else (l_X0_joinGroups_2 n f) x1 x2 (x3 + 1) σ)
set_option maxRecDepth 100000 in
set_option maxHeartbeats 4000000 in
theorem t_X0_joinGroups_2 {G : xG} {n : Nat} : ∀ (f : Nat) {x1 : Int32} {x2 : Int32} {x3 : Int32} {σ : xσ} {h : xH} {r : Unit × xσ}, Rl n σ h → l_X0_joinGroups_2 n f x1 x2 x3 σ = some r → Go G mX0_joinGroups 2 [some (.ref 27), some (.int x1), some (.int x2), some (.int x3)] [] h (fun v h' => xRok (xRt mX0_joinGroups) v ∧ v = none ∧ Rl n r.2 h') := by
  intro f
  induction f with
  | zero =>
    intros
    rename _ = some _ => hf
    rw [l_X0_joinGroups_2] at hf
    cases hf
  | succ f ih =>
    intro x1 x2 x3 σ h r  R hf
    rw [l_X0_joinGroups_2] at hf
    refine go_iload_n (i := 3) (pc' := 3) dX0_joinGroups_2 rfl rfl rfl ?_
    refine go_bipush (v := 8) (pc' := 5) dX0_joinGroups_3 rfl (by decide) ?_
    refine go_icmp_ge (pc' := 8) (tgt := 31) dX0_joinGroups_5 (by decide) rfl (fun c101 => ?_) (fun c101 => ?_)
    · have hf := it c101 hf
      obtain rfl := Option.some.inj hf
      exact Go.ret (v := none) dX0_joinGroups_31 rfl ⟨trivial, rfl, R⟩
    · have hf := ie c101 hf
      refine go_aload_n (i := 0) (pc' := 9) dX0_joinGroups_8 rfl rfl rfl ?_
      refine go_getS (pc' := 12) dX0_joinGroups_9 rfl gf_LandBase_Checker_15 R (R.at rfl (by decide)) (by decide) rfl ?_
      refine go_iload_n (i := 3) (pc' := 13) dX0_joinGroups_12 rfl rfl rfl ?_
      obtain ⟨g102, hf⟩ := gd_some hf
      refine go_ialoadS (pc' := 14) dX0_joinGroups_13 rfl R (R.aa rfl (by decide)) g102 ?_
      refine go_iload_n (i := 1) (pc' := 15) dX0_joinGroups_14 rfl rfl rfl ?_
      refine go_icmp_ne (pc' := 18) (tgt := 25) dX0_joinGroups_15 (by decide) rfl (fun c103 => ?_) (fun c103 => ?_)
      · have hf := ie c103 hf
        refine go_iincC (kk := 1) (pc' := 28) dX0_joinGroups_25 rfl rfl (by decide) (by decide) rfl ?_
        refine go_goto (pc' := 0) (tgt := 2) dX0_joinGroups_28 (by decide) ?_
        exact ih R hf
      · have hf := it c103 hf
        refine go_aload_n (i := 0) (pc' := 19) dX0_joinGroups_18 rfl rfl rfl ?_
        refine go_getS (pc' := 22) dX0_joinGroups_19 rfl gf_LandBase_Checker_15 R (R.at rfl (by decide)) (by decide) rfl ?_
        refine go_iload_n (i := 3) (pc' := 23) dX0_joinGroups_22 rfl rfl rfl ?_
        refine go_iload_n (i := 2) (pc' := 24) dX0_joinGroups_23 rfl rfl rfl ?_
        obtain ⟨g104, hf⟩ := gd_some hf
        obtain ⟨σ105, e106, hf⟩ := st_some hf
        refine go_iastoreS (pc' := 25) dX0_joinGroups_24 rfl R (R.aa rfl (by decide)) g104 (fun h107 R => ?_)
        have R := Rl.cast e106 R
        exact t_X0_joinGroups_25 @ih R hf
def f_X0_joinGroups (n : Nat) (x1 : Int32) (x2 : Int32) (σ : xσ) : Option (Unit × xσ) := l_X0_joinGroups_2 n xFU x1 x2 0 σ
set_option maxRecDepth 100000 in
set_option maxHeartbeats 4000000 in
theorem c_X0_joinGroups {G : xG} {n : Nat} {σ : xσ} {h : xH} {x1 : Int32} {x2 : Int32} {v1 : Unit} {σ1 : xσ} (R : Rl n σ h) (hf : f_X0_joinGroups n x1 x2 σ = some (v1, σ1)) : Ca G mX0_joinGroups [.ref 27, .int x1, .int x2] h (fun v h' => v = none ∧ Rl n σ1 h') := by
  refine Ca.of rfl (Nat.le_of_ble_eq_true rfl) ?_
  generalize hr : (v1, σ1) = r at hf
  suffices q : Go G mX0_joinGroups 0 (xent (xMl mX0_joinGroups) [.ref 27, .int x1, .int x2]) [] h (fun v h' => xRok (xRt mX0_joinGroups) v ∧ v = none ∧ Rl n r.2 h') by
    subst hr
    exact q
  clear hr
  rw [f_X0_joinGroups] at hf
  refine go_iconst (v := 0) (pc' := 1) dX0_joinGroups_0 rfl (by decide) ?_
  refine go_istore_nE rfl (i := 3) (pc' := 2) dX0_joinGroups_1 rfl rfl (by decide) rfl ?_
  exact t_X0_joinGroups_2 xFU R hf
def b_X0_closesCircle_78 (n : Nat) (k5 : Nat → Int32 → Int32 → Int32 → xσ → Option (Int32 × xσ)) (a1 : Nat) (x2 : Int32) (x3 : Int32) (x4 : Int32) (σ : xσ) : Option (Int32 × xσ) := k5 a1 x2 x3 (x4 + 1) σ
set_option maxRecDepth 100000 in
set_option maxHeartbeats 4000000 in
theorem t_X0_closesCircle_78 {G : xG} {n : Nat} {k5 : Nat → Int32 → Int32 → Int32 → xσ → Option (Int32 × xσ)} (hk5 : ∀ {a1 : Nat} {x2 : Int32} {x3 : Int32} {x4 : Int32} {σ : xσ} {h : xH} {r : Int32 × xσ}, Rl n σ h → okS n a1 → k5 a1 x2 x3 x4 σ = some r → Go G mX0_closesCircle 5 [some (.ref 27), some (.ref a1), some (.int x2), some (.int x3), some (.int x4)] [] h (fun v h' => xRok (xRt mX0_closesCircle) v ∧ v = some (.int r.1) ∧ Rl n r.2 h')) {a1 : Nat} {x2 : Int32} {x3 : Int32} {x4 : Int32} {σ : xσ} {h : xH} {r : Int32 × xσ} : Rl n σ h → okS n a1 → b_X0_closesCircle_78 n k5 a1 x2 x3 x4 σ = some r → Go G mX0_closesCircle 78 [some (.ref 27), some (.ref a1), some (.int x2), some (.int x3), some (.int x4)] [] h (fun v h' => xRok (xRt mX0_closesCircle) v ∧ v = some (.int r.1) ∧ Rl n r.2 h') := by
  intro R g1 hf
  rw [b_X0_closesCircle_78] at hf
  refine go_iincC (kk := 1) (pc' := 81) dX0_closesCircle_78 rfl rfl (by decide) (by decide) rfl ?_
  refine go_goto (pc' := 0) (tgt := 5) dX0_closesCircle_81 (by decide) ?_
  exact hk5 R g1 hf
def l_X0_closesCircle_5 (n : Nat) : Nat → Nat → Int32 → Int32 → Int32 → xσ → Option (Int32 × xσ)
  | 0, _, _, _, _, _ => none
  | f + 1, a1, x2, x3, x4, σ => if (sI σ a1 2) ≤ x4 then some (0, σ) else gd (inb x2 40) (gd (inb x2 40) (bd (f_X0_isOnRing n a1 x4 (sI σ (a1 + 1) x2.toNatClampNeg) (sI σ (a1 + 2) x2.toNatClampNeg) σ) (fun v104 σ105 => if v104 = 0 then b_X0_closesCircle_78 n (l_X0_closesCircle_5 n f) a1 x2 x3 x4 σ105 else if 0 ≤ x3 then gd (inb x4 8) (if (sI σ105 28 x4.toNatClampNeg) = x3 then some (1, σ105) else gd (inb x4 8) (bd (f_X0_joinGroups n (sI σ105 28 x4.toNatClampNeg) x3 σ105) (fun v114 σ115 => b_X0_closesCircle_78 n (l_X0_closesCircle_5 n f) a1 x2 x3 x4 σ115))) else gd (inb x4 8) (st (sI σ105 28 x4.toNatClampNeg) (fun x120 => b_X0_closesCircle_78 n (l_X0_closesCircle_5 n f) a1 x2 x120 x4 σ105)))))
set_option maxRecDepth 100000 in
set_option maxHeartbeats 4000000 in
theorem t_X0_closesCircle_5 {G : xG} {n : Nat} : ∀ (f : Nat) {a1 : Nat} {x2 : Int32} {x3 : Int32} {x4 : Int32} {σ : xσ} {h : xH} {r : Int32 × xσ}, Rl n σ h → okS n a1 → l_X0_closesCircle_5 n f a1 x2 x3 x4 σ = some r → Go G mX0_closesCircle 5 [some (.ref 27), some (.ref a1), some (.int x2), some (.int x3), some (.int x4)] [] h (fun v h' => xRok (xRt mX0_closesCircle) v ∧ v = some (.int r.1) ∧ Rl n r.2 h') := by
  intro f
  induction f with
  | zero =>
    intros
    rename _ = some _ => hf
    rw [l_X0_closesCircle_5] at hf
    cases hf
  | succ f ih =>
    intro a1 x2 x3 x4 σ h r  R g1 hf
    rw [l_X0_closesCircle_5] at hf
    refine go_iload (pc' := 7) dX0_closesCircle_5 rfl rfl ?_
    refine go_aload_n (i := 1) (pc' := 8) dX0_closesCircle_7 rfl rfl rfl ?_
    refine go_getS (pc' := 11) dX0_closesCircle_8 rfl gf_LandBase_Checker_32 R g1.at (by decide) rfl ?_
    refine go_icmp_ge (pc' := 14) (tgt := 84) dX0_closesCircle_11 (by decide) rfl (fun c101 => ?_) (fun c101 => ?_)
    · have hf := it c101 hf
      refine go_iconst (v := 0) (pc' := 85) dX0_closesCircle_84 rfl (by decide) ?_
      obtain rfl := Option.some.inj hf
      exact Go.ret (v := some (.int _)) dX0_closesCircle_85 ⟨_, rfl⟩ ⟨rfl, rfl, R⟩
    · have hf := ie c101 hf
      refine go_aload_n (i := 1) (pc' := 15) dX0_closesCircle_14 rfl rfl rfl ?_
      refine go_iload (pc' := 17) dX0_closesCircle_15 rfl rfl ?_
      refine go_aload_n (i := 1) (pc' := 18) dX0_closesCircle_17 rfl rfl rfl ?_
      refine go_getS (pc' := 21) dX0_closesCircle_18 rfl gf_LandBase_Checker_79 R g1.at (by decide) rfl ?_
      refine go_iload_n (i := 2) (pc' := 22) dX0_closesCircle_21 rfl rfl rfl ?_
      obtain ⟨g102, hf⟩ := gd_some hf
      refine go_ialoadS (pc' := 23) dX0_closesCircle_22 rfl R g1.x g102 ?_
      refine go_aload_n (i := 1) (pc' := 24) dX0_closesCircle_23 rfl rfl rfl ?_
      refine go_getS (pc' := 27) dX0_closesCircle_24 rfl gf_LandBase_Checker_82 R g1.at (by decide) rfl ?_
      refine go_iload_n (i := 2) (pc' := 28) dX0_closesCircle_27 rfl rfl rfl ?_
      obtain ⟨g103, hf⟩ := gd_some hf
      refine go_ialoadS (pc' := 29) dX0_closesCircle_28 rfl R g1.y g103 ?_
      obtain ⟨v104, σ105, e106, hf⟩ := bd_some hf
      refine go_invS (As := [_, _, _, _]) (pc' := 32) dX0_closesCircle_29 rfl cf_X0_closesCircle_85 rfl rfl (Nat.le_of_ble_eq_true rfl) (c_X0_isOnRing R e106) (fun q107v h108 q107 => ?_)
      obtain ⟨rfl, R⟩ := q107
      refine go_if_ne (pc' := 35) (tgt := 38) dX0_closesCircle_32 (by decide) rfl (fun c109 => ?_) (fun c109 => ?_)
      · have hf := ie c109 hf
        refine go_iload_n (i := 3) (pc' := 39) dX0_closesCircle_38 rfl rfl rfl ?_
        refine go_if_ge (pc' := 42) (tgt := 53) dX0_closesCircle_39 (by decide) rfl (fun c110 => ?_) (fun c110 => ?_)
        · have hf := it c110 hf
          refine go_aload_n (i := 0) (pc' := 54) dX0_closesCircle_53 rfl rfl rfl ?_
          refine go_getS (pc' := 57) dX0_closesCircle_54 rfl gf_LandBase_Checker_15 R (R.at rfl (by decide)) (by decide) rfl ?_
          refine go_iload (pc' := 59) dX0_closesCircle_57 rfl rfl ?_
          obtain ⟨g111, hf⟩ := gd_some hf
          refine go_ialoadS (pc' := 60) dX0_closesCircle_59 rfl R (R.aa rfl (by decide)) g111 ?_
          refine go_iload_n (i := 3) (pc' := 61) dX0_closesCircle_60 rfl rfl rfl ?_
          refine go_icmp_ne (pc' := 64) (tgt := 66) dX0_closesCircle_61 (by decide) rfl (fun c112 => ?_) (fun c112 => ?_)
          · have hf := ie c112 hf
            refine go_aload_n (i := 0) (pc' := 67) dX0_closesCircle_66 rfl rfl rfl ?_
            refine go_aload_n (i := 0) (pc' := 68) dX0_closesCircle_67 rfl rfl rfl ?_
            refine go_getS (pc' := 71) dX0_closesCircle_68 rfl gf_LandBase_Checker_15 R (R.at rfl (by decide)) (by decide) rfl ?_
            refine go_iload (pc' := 73) dX0_closesCircle_71 rfl rfl ?_
            obtain ⟨g113, hf⟩ := gd_some hf
            refine go_ialoadS (pc' := 74) dX0_closesCircle_73 rfl R (R.aa rfl (by decide)) g113 ?_
            refine go_iload_n (i := 3) (pc' := 75) dX0_closesCircle_74 rfl rfl rfl ?_
            obtain ⟨v114, σ115, e116, hf⟩ := bd_some hf
            refine go_invV (As := [_, _]) (pc' := 78) dX0_closesCircle_75 rfl cf_X0_closesCircle_89 rfl (R.ob (R.at rfl (by decide))) rfl rfl (Nat.le_of_ble_eq_true rfl) (c_X0_joinGroups R e116) (fun q117v h118 q117 => ?_)
            obtain ⟨rfl, R⟩ := q117
            exact t_X0_closesCircle_78 @ih R g1 hf
          · have hf := it c112 hf
            refine go_iconst (v := 1) (pc' := 65) dX0_closesCircle_64 rfl (by decide) ?_
            obtain rfl := Option.some.inj hf
            exact Go.ret (v := some (.int _)) dX0_closesCircle_65 ⟨_, rfl⟩ ⟨rfl, rfl, R⟩
        · have hf := ie c110 hf
          refine go_aload_n (i := 0) (pc' := 43) dX0_closesCircle_42 rfl rfl rfl ?_
          refine go_getS (pc' := 46) dX0_closesCircle_43 rfl gf_LandBase_Checker_15 R (R.at rfl (by decide)) (by decide) rfl ?_
          refine go_iload (pc' := 48) dX0_closesCircle_46 rfl rfl ?_
          obtain ⟨g119, hf⟩ := gd_some hf
          refine go_ialoadS (pc' := 49) dX0_closesCircle_48 rfl R (R.aa rfl (by decide)) g119 ?_
          obtain ⟨x120, e121, hf⟩ := st_some hf
          refine go_istore_nE e121 (i := 3) (pc' := 50) dX0_closesCircle_49 rfl rfl (by decide) rfl ?_
          refine go_goto (pc' := 0) (tgt := 78) dX0_closesCircle_50 (by decide) ?_
          exact t_X0_closesCircle_78 @ih R g1 hf
      · have hf := it c109 hf
        refine go_goto (pc' := 0) (tgt := 78) dX0_closesCircle_35 (by decide) ?_
        exact t_X0_closesCircle_78 @ih R g1 hf
def f_X0_closesCircle (n : Nat) (a1 : Nat) (x2 : Int32) (σ : xσ) : Option (Int32 × xσ) := gd (okS n a1) (l_X0_closesCircle_5 n xFU a1 x2 ((-1)) 0 σ)
set_option maxRecDepth 100000 in
set_option maxHeartbeats 4000000 in
theorem c_X0_closesCircle {G : xG} {n : Nat} {σ : xσ} {h : xH} {a1 : Nat} {x2 : Int32} {v1 : Int32} {σ1 : xσ} (R : Rl n σ h) (hf : f_X0_closesCircle n a1 x2 σ = some (v1, σ1)) : Ca G mX0_closesCircle [.ref 27, .ref a1, .int x2] h (fun v h' => v = some (.int v1) ∧ Rl n σ1 h') := by
  refine Ca.of rfl (Nat.le_of_ble_eq_true rfl) ?_
  generalize hr : (v1, σ1) = r at hf
  suffices q : Go G mX0_closesCircle 0 (xent (xMl mX0_closesCircle) [.ref 27, .ref a1, .int x2]) [] h (fun v h' => xRok (xRt mX0_closesCircle) v ∧ v = some (.int r.1) ∧ Rl n r.2 h') by
    subst hr
    exact q
  clear hr
  rw [f_X0_closesCircle] at hf
  obtain ⟨g1, hf⟩ := gd_some hf
  refine go_iconst (v := (-1)) (pc' := 1) dX0_closesCircle_0 rfl (by decide) ?_
  refine go_istore_nE rfl (i := 3) (pc' := 2) dX0_closesCircle_1 rfl rfl (by decide) rfl ?_
  refine go_iconst (v := 0) (pc' := 3) dX0_closesCircle_2 rfl (by decide) ?_
  refine go_istoreE rfl (pc' := 5) dX0_closesCircle_3 rfl (by decide) rfl ?_
  exact t_X0_closesCircle_5 xFU R g1 hf
def l_X0_isOnePiece_23 (n : Nat) : Nat → Nat → Int32 → xσ → Option (Int32 × xσ)
  | 0, _, _, _ => none
  | f + 1, a1, x2, σ => if (sI σ a1 1) ≤ x2 then some (1, σ) else bd (f_X0_isSeenBefore n a1 x2 σ) (fun v102 σ103 => if v102 = 0 then bd (f_X0_closesCircle n a1 x2 σ103) (fun v108 σ109 => if v108 = 0 then (l_X0_isOnePiece_23 n f) a1 (x2 + 1) σ109 else some (0, σ109)) else (l_X0_isOnePiece_23 n f) a1 (x2 + 1) σ103)
set_option maxRecDepth 100000 in
set_option maxHeartbeats 4000000 in
theorem t_X0_isOnePiece_23 {G : xG} {n : Nat} : ∀ (f : Nat) {a1 : Nat} {x2 : Int32} {σ : xσ} {h : xH} {r : Int32 × xσ}, Rl n σ h → okS n a1 → l_X0_isOnePiece_23 n f a1 x2 σ = some r → Go G mX0_isOnePiece 23 [some (.ref 27), some (.ref a1), some (.int x2)] [] h (fun v h' => xRok (xRt mX0_isOnePiece) v ∧ v = some (.int r.1) ∧ Rl n r.2 h') := by
  intro f
  induction f with
  | zero =>
    intros
    rename _ = some _ => hf
    rw [l_X0_isOnePiece_23] at hf
    cases hf
  | succ f ih =>
    intro a1 x2 σ h r  R g1 hf
    rw [l_X0_isOnePiece_23] at hf
    refine go_iload_n (i := 2) (pc' := 24) dX0_isOnePiece_23 rfl rfl rfl ?_
    refine go_aload_n (i := 1) (pc' := 25) dX0_isOnePiece_24 rfl rfl rfl ?_
    refine go_getS (pc' := 28) dX0_isOnePiece_25 rfl gf_LandBase_Checker_25 R g1.at (by decide) rfl ?_
    refine go_icmp_ge (pc' := 31) (tgt := 56) dX0_isOnePiece_28 (by decide) rfl (fun c101 => ?_) (fun c101 => ?_)
    · have hf := it c101 hf
      refine go_iconst (v := 1) (pc' := 57) dX0_isOnePiece_56 rfl (by decide) ?_
      obtain rfl := Option.some.inj hf
      exact Go.ret (v := some (.int _)) dX0_isOnePiece_57 ⟨_, rfl⟩ ⟨rfl, rfl, R⟩
    · have hf := ie c101 hf
      refine go_aload_n (i := 1) (pc' := 32) dX0_isOnePiece_31 rfl rfl rfl ?_
      refine go_iload_n (i := 2) (pc' := 33) dX0_isOnePiece_32 rfl rfl rfl ?_
      obtain ⟨v102, σ103, e104, hf⟩ := bd_some hf
      refine go_invS (As := [_, _]) (pc' := 36) dX0_isOnePiece_33 rfl cf_X0_isOnePiece_72 rfl rfl (Nat.le_of_ble_eq_true rfl) (c_X0_isSeenBefore R e104) (fun q105v h106 q105 => ?_)
      obtain ⟨rfl, R⟩ := q105
      refine go_if_ne (pc' := 39) (tgt := 50) dX0_isOnePiece_36 (by decide) rfl (fun c107 => ?_) (fun c107 => ?_)
      · have hf := ie c107 hf
        refine go_iincC (kk := 1) (pc' := 53) dX0_isOnePiece_50 rfl rfl (by decide) (by decide) rfl ?_
        refine go_goto (pc' := 0) (tgt := 23) dX0_isOnePiece_53 (by decide) ?_
        exact ih R g1 hf
      · have hf := it c107 hf
        refine go_aload_n (i := 0) (pc' := 40) dX0_isOnePiece_39 rfl rfl rfl ?_
        refine go_aload_n (i := 1) (pc' := 41) dX0_isOnePiece_40 rfl rfl rfl ?_
        refine go_iload_n (i := 2) (pc' := 42) dX0_isOnePiece_41 rfl rfl rfl ?_
        obtain ⟨v108, σ109, e110, hf⟩ := bd_some hf
        refine go_invV (As := [_, _]) (pc' := 45) dX0_isOnePiece_42 rfl cf_X0_isOnePiece_76 rfl (R.ob (R.at rfl (by decide))) rfl rfl (Nat.le_of_ble_eq_true rfl) (c_X0_closesCircle R e110) (fun q111v h112 q111 => ?_)
        obtain ⟨rfl, R⟩ := q111
        refine go_if_eq (pc' := 48) (tgt := 50) dX0_isOnePiece_45 (by decide) rfl (fun c113 => ?_) (fun c113 => ?_)
        · have hf := it c113 hf
          refine go_iincC (kk := 1) (pc' := 53) dX0_isOnePiece_50 rfl rfl (by decide) (by decide) rfl ?_
          refine go_goto (pc' := 0) (tgt := 23) dX0_isOnePiece_53 (by decide) ?_
          exact ih R g1 hf
        · have hf := ie c113 hf
          refine go_iconst (v := 0) (pc' := 49) dX0_isOnePiece_48 rfl (by decide) ?_
          obtain rfl := Option.some.inj hf
          exact Go.ret (v := some (.int _)) dX0_isOnePiece_49 ⟨_, rfl⟩ ⟨rfl, rfl, R⟩
def l_X0_isOnePiece_2 (n : Nat) : Nat → Nat → Int32 → xσ → Option (Int32 × xσ)
  | 0, _, _, _ => none
  | f + 1, a1, x2, σ => if 8 ≤ x2 then l_X0_isOnePiece_23 n xFU a1 0 σ else gd (inb x2 8) (st (wI σ 28 x2.toNatClampNeg x2) (fun σ103 => (l_X0_isOnePiece_2 n f) a1 (x2 + 1) σ103))
set_option maxRecDepth 100000 in
set_option maxHeartbeats 4000000 in
theorem t_X0_isOnePiece_2 {G : xG} {n : Nat} : ∀ (f : Nat) {a1 : Nat} {x2 : Int32} {σ : xσ} {h : xH} {r : Int32 × xσ}, Rl n σ h → okS n a1 → l_X0_isOnePiece_2 n f a1 x2 σ = some r → Go G mX0_isOnePiece 2 [some (.ref 27), some (.ref a1), some (.int x2)] [] h (fun v h' => xRok (xRt mX0_isOnePiece) v ∧ v = some (.int r.1) ∧ Rl n r.2 h') := by
  intro f
  induction f with
  | zero =>
    intros
    rename _ = some _ => hf
    rw [l_X0_isOnePiece_2] at hf
    cases hf
  | succ f ih =>
    intro a1 x2 σ h r  R g1 hf
    rw [l_X0_isOnePiece_2] at hf
    refine go_iload_n (i := 2) (pc' := 3) dX0_isOnePiece_2 rfl rfl rfl ?_
    refine go_bipush (v := 8) (pc' := 5) dX0_isOnePiece_3 rfl (by decide) ?_
    refine go_icmp_ge (pc' := 8) (tgt := 21) dX0_isOnePiece_5 (by decide) rfl (fun c101 => ?_) (fun c101 => ?_)
    · have hf := it c101 hf
      refine go_iconst (v := 0) (pc' := 22) dX0_isOnePiece_21 rfl (by decide) ?_
      refine go_istore_nE rfl (i := 2) (pc' := 23) dX0_isOnePiece_22 rfl rfl (by decide) rfl ?_
      exact t_X0_isOnePiece_23 xFU R g1 hf
    · have hf := ie c101 hf
      refine go_aload_n (i := 0) (pc' := 9) dX0_isOnePiece_8 rfl rfl rfl ?_
      refine go_getS (pc' := 12) dX0_isOnePiece_9 rfl gf_LandBase_Checker_15 R (R.at rfl (by decide)) (by decide) rfl ?_
      refine go_iload_n (i := 2) (pc' := 13) dX0_isOnePiece_12 rfl rfl rfl ?_
      refine go_iload_n (i := 2) (pc' := 14) dX0_isOnePiece_13 rfl rfl rfl ?_
      obtain ⟨g102, hf⟩ := gd_some hf
      obtain ⟨σ103, e104, hf⟩ := st_some hf
      refine go_iastoreS (pc' := 15) dX0_isOnePiece_14 rfl R (R.aa rfl (by decide)) g102 (fun h105 R => ?_)
      have R := Rl.cast e104 R
      refine go_iincC (kk := 1) (pc' := 18) dX0_isOnePiece_15 rfl rfl (by decide) (by decide) rfl ?_
      refine go_goto (pc' := 0) (tgt := 2) dX0_isOnePiece_18 (by decide) ?_
      exact ih R g1 hf
def f_X0_isOnePiece (n : Nat) (a1 : Nat) (σ : xσ) : Option (Int32 × xσ) := gd (okS n a1) (l_X0_isOnePiece_2 n xFU a1 0 σ)
set_option maxRecDepth 100000 in
set_option maxHeartbeats 4000000 in
theorem c_X0_isOnePiece {G : xG} {n : Nat} {σ : xσ} {h : xH} {a1 : Nat} {v1 : Int32} {σ1 : xσ} (R : Rl n σ h) (hf : f_X0_isOnePiece n a1 σ = some (v1, σ1)) : Ca G mX0_isOnePiece [.ref 27, .ref a1] h (fun v h' => v = some (.int v1) ∧ Rl n σ1 h') := by
  refine Ca.of rfl (Nat.le_of_ble_eq_true rfl) ?_
  generalize hr : (v1, σ1) = r at hf
  suffices q : Go G mX0_isOnePiece 0 (xent (xMl mX0_isOnePiece) [.ref 27, .ref a1]) [] h (fun v h' => xRok (xRt mX0_isOnePiece) v ∧ v = some (.int r.1) ∧ Rl n r.2 h') by
    subst hr
    exact q
  clear hr
  rw [f_X0_isOnePiece] at hf
  obtain ⟨g1, hf⟩ := gd_some hf
  refine go_iconst (v := 0) (pc' := 1) dX0_isOnePiece_0 rfl (by decide) ?_
  refine go_istore_nE rfl (i := 2) (pc' := 2) dX0_isOnePiece_1 rfl rfl (by decide) rfl ?_
  exact t_X0_isOnePiece_2 xFU R g1 hf
def l_X0_isValid_57 (n : Nat) : Nat → Nat → Int32 → xσ → Option (Int32 × xσ)
  | 0, _, _, _ => none
  | f + 1, a1, x2, σ => if (sI σ a1 2) ≤ x2 then if (sI σ a1 2) < 1 then some (0, σ) else bd (f_X0_doHolesFit n a1 σ) (fun v103 σ104 => if v103 = 0 then some (0, σ104) else bd (f_X0_isOnePiece n a1 σ104) (fun v109 σ110 => if v109 = 0 then some (0, σ110) else some (1, σ110))) else bd (f_X7_ringStart n a1 x2 σ) (fun v115 σ116 => gd (inb x2 8) (bd (f_X0_isRing n a1 v115 (sI σ116 (a1 + 3) x2.toNatClampNeg) σ116) (fun v121 σ122 => if v121 = 0 then some (0, σ122) else (l_X0_isValid_57 n f) a1 (x2 + 1) σ122)))
set_option maxRecDepth 100000 in
set_option maxHeartbeats 4000000 in
theorem t_X0_isValid_57 {G : xG} {n : Nat} : ∀ (f : Nat) {a1 : Nat} {x2 : Int32} {σ : xσ} {h : xH} {r : Int32 × xσ}, Rl n σ h → okS n a1 → l_X0_isValid_57 n f a1 x2 σ = some r → Go G mX0_isValid 57 [some (.ref 27), some (.ref a1), some (.int x2)] [] h (fun v h' => xRok (xRt mX0_isValid) v ∧ v = some (.int r.1) ∧ Rl n r.2 h') := by
  intro f
  induction f with
  | zero =>
    intros
    rename _ = some _ => hf
    rw [l_X0_isValid_57] at hf
    cases hf
  | succ f ih =>
    intro a1 x2 σ h r  R g1 hf
    rw [l_X0_isValid_57] at hf
    refine go_iload_n (i := 2) (pc' := 58) dX0_isValid_57 rfl rfl rfl ?_
    refine go_aload_n (i := 1) (pc' := 59) dX0_isValid_58 rfl rfl rfl ?_
    refine go_getS (pc' := 62) dX0_isValid_59 rfl gf_LandBase_Checker_32 R g1.at (by decide) rfl ?_
    refine go_icmp_ge (pc' := 65) (tgt := 91) dX0_isValid_62 (by decide) rfl (fun c101 => ?_) (fun c101 => ?_)
    · have hf := it c101 hf
      refine go_aload_n (i := 1) (pc' := 92) dX0_isValid_91 rfl rfl rfl ?_
      refine go_getS (pc' := 95) dX0_isValid_92 rfl gf_LandBase_Checker_32 R g1.at (by decide) rfl ?_
      refine go_iconst (v := 1) (pc' := 96) dX0_isValid_95 rfl (by decide) ?_
      refine go_icmp_lt (pc' := 99) (tgt := 119) dX0_isValid_96 (by decide) rfl (fun c102 => ?_) (fun c102 => ?_)
      · have hf := it c102 hf
        refine go_iconst (v := 0) (pc' := 120) dX0_isValid_119 rfl (by decide) ?_
        obtain rfl := Option.some.inj hf
        exact Go.ret (v := some (.int _)) dX0_isValid_120 ⟨_, rfl⟩ ⟨rfl, rfl, R⟩
      · have hf := ie c102 hf
        refine go_aload_n (i := 0) (pc' := 100) dX0_isValid_99 rfl rfl rfl ?_
        refine go_aload_n (i := 1) (pc' := 101) dX0_isValid_100 rfl rfl rfl ?_
        obtain ⟨v103, σ104, e105, hf⟩ := bd_some hf
        refine go_invV (As := [_]) (pc' := 104) dX0_isValid_101 rfl cf_X0_isValid_45 rfl (R.ob (R.at rfl (by decide))) rfl rfl (Nat.le_of_ble_eq_true rfl) (c_X0_doHolesFit R e105) (fun q106v h107 q106 => ?_)
        obtain ⟨rfl, R⟩ := q106
        refine go_if_eq (pc' := 107) (tgt := 119) dX0_isValid_104 (by decide) rfl (fun c108 => ?_) (fun c108 => ?_)
        · have hf := it c108 hf
          refine go_iconst (v := 0) (pc' := 120) dX0_isValid_119 rfl (by decide) ?_
          obtain rfl := Option.some.inj hf
          exact Go.ret (v := some (.int _)) dX0_isValid_120 ⟨_, rfl⟩ ⟨rfl, rfl, R⟩
        · have hf := ie c108 hf
          refine go_aload_n (i := 0) (pc' := 108) dX0_isValid_107 rfl rfl rfl ?_
          refine go_aload_n (i := 1) (pc' := 109) dX0_isValid_108 rfl rfl rfl ?_
          obtain ⟨v109, σ110, e111, hf⟩ := bd_some hf
          refine go_invV (As := [_]) (pc' := 112) dX0_isValid_109 rfl cf_X0_isValid_49 rfl (R.ob (R.at rfl (by decide))) rfl rfl (Nat.le_of_ble_eq_true rfl) (c_X0_isOnePiece R e111) (fun q112v h113 q112 => ?_)
          obtain ⟨rfl, R⟩ := q112
          refine go_if_eq (pc' := 115) (tgt := 119) dX0_isValid_112 (by decide) rfl (fun c114 => ?_) (fun c114 => ?_)
          · have hf := it c114 hf
            refine go_iconst (v := 0) (pc' := 120) dX0_isValid_119 rfl (by decide) ?_
            obtain rfl := Option.some.inj hf
            exact Go.ret (v := some (.int _)) dX0_isValid_120 ⟨_, rfl⟩ ⟨rfl, rfl, R⟩
          · have hf := ie c114 hf
            refine go_iconst (v := 1) (pc' := 116) dX0_isValid_115 rfl (by decide) ?_
            refine go_goto (pc' := 0) (tgt := 120) dX0_isValid_116 (by decide) ?_
            obtain rfl := Option.some.inj hf
            exact Go.ret (v := some (.int _)) dX0_isValid_120 ⟨_, rfl⟩ ⟨rfl, rfl, R⟩
    · have hf := ie c101 hf
      refine go_aload_n (i := 1) (pc' := 66) dX0_isValid_65 rfl rfl rfl ?_
      refine go_aload_n (i := 1) (pc' := 67) dX0_isValid_66 rfl rfl rfl ?_
      refine go_iload_n (i := 2) (pc' := 68) dX0_isValid_67 rfl rfl rfl ?_
      obtain ⟨v115, σ116, e117, hf⟩ := bd_some hf
      refine go_invV (As := [_]) (pc' := 71) dX0_isValid_68 rfl cf_X0_isValid_35 rfl (R.ob g1.at) rfl rfl (Nat.le_of_ble_eq_true rfl) (c_X7_ringStart R e117) (fun q118v h119 q118 => ?_)
      obtain ⟨rfl, R⟩ := q118
      refine go_aload_n (i := 1) (pc' := 72) dX0_isValid_71 rfl rfl rfl ?_
      refine go_getS (pc' := 75) dX0_isValid_72 rfl gf_LandBase_Checker_39 R g1.at (by decide) rfl ?_
      refine go_iload_n (i := 2) (pc' := 76) dX0_isValid_75 rfl rfl rfl ?_
      obtain ⟨g120, hf⟩ := gd_some hf
      refine go_ialoadS (pc' := 77) dX0_isValid_76 rfl R g1.r g120 ?_
      obtain ⟨v121, σ122, e123, hf⟩ := bd_some hf
      refine go_invS (As := [_, _, _]) (pc' := 80) dX0_isValid_77 rfl cf_X0_isValid_42 rfl rfl (Nat.le_of_ble_eq_true rfl) (c_X0_isRing R e123) (fun q124v h125 q124 => ?_)
      obtain ⟨rfl, R⟩ := q124
      refine go_if_ne (pc' := 83) (tgt := 85) dX0_isValid_80 (by decide) rfl (fun c126 => ?_) (fun c126 => ?_)
      · have hf := ie c126 hf
        refine go_iincC (kk := 1) (pc' := 88) dX0_isValid_85 rfl rfl (by decide) (by decide) rfl ?_
        refine go_goto (pc' := 0) (tgt := 57) dX0_isValid_88 (by decide) ?_
        exact ih R g1 hf
      · have hf := it c126 hf
        refine go_iconst (v := 0) (pc' := 84) dX0_isValid_83 rfl (by decide) ?_
        obtain rfl := Option.some.inj hf
        exact Go.ret (v := some (.int _)) dX0_isValid_84 ⟨_, rfl⟩ ⟨rfl, rfl, R⟩
def f_X0_isValid (n : Nat) (a1 : Nat) (σ : xσ) : Option (Int32 × xσ) := gd (okS n a1) (if (sI σ a1 0) = 0 then if (sI σ a1 1) = 1 then some (1, σ) else some (0, σ) else if (sI σ a1 0) = 1 then if (sI σ a1 1) < 2 then some (0, σ) else bd (f_X0_hasPauses n a1 0 (sI σ a1 1) σ) (fun v104 σ105 => if v104 = 0 then some (1, σ105) else some (0, σ105)) else l_X0_isValid_57 n xFU a1 0 σ)
set_option maxRecDepth 100000 in
set_option maxHeartbeats 4000000 in
theorem c_X0_isValid {G : xG} {n : Nat} {σ : xσ} {h : xH} {a1 : Nat} {v1 : Int32} {σ1 : xσ} (R : Rl n σ h) (hf : f_X0_isValid n a1 σ = some (v1, σ1)) : Ca G mX0_isValid [.ref 27, .ref a1] h (fun v h' => v = some (.int v1) ∧ Rl n σ1 h') := by
  refine Ca.of rfl (Nat.le_of_ble_eq_true rfl) ?_
  generalize hr : (v1, σ1) = r at hf
  suffices q : Go G mX0_isValid 0 (xent (xMl mX0_isValid) [.ref 27, .ref a1]) [] h (fun v h' => xRok (xRt mX0_isValid) v ∧ v = some (.int r.1) ∧ Rl n r.2 h') by
    subst hr
    exact q
  clear hr
  rw [f_X0_isValid] at hf
  obtain ⟨g1, hf⟩ := gd_some hf
  refine go_aload_n (i := 1) (pc' := 1) dX0_isValid_0 rfl rfl rfl ?_
  refine go_getS (pc' := 4) dX0_isValid_1 rfl gf_LandBase_Checker_19 R g1.at (by decide) rfl ?_
  refine go_if_ne (pc' := 7) (tgt := 21) dX0_isValid_4 (by decide) rfl (fun c101 => ?_) (fun c101 => ?_)
  · have hf := ie c101 hf
    refine go_aload_n (i := 1) (pc' := 22) dX0_isValid_21 rfl rfl rfl ?_
    refine go_getS (pc' := 25) dX0_isValid_22 rfl gf_LandBase_Checker_19 R g1.at (by decide) rfl ?_
    refine go_iconst (v := 1) (pc' := 26) dX0_isValid_25 rfl (by decide) ?_
    refine go_icmp_ne (pc' := 29) (tgt := 55) dX0_isValid_26 (by decide) rfl (fun c102 => ?_) (fun c102 => ?_)
    · have hf := ie c102 hf
      refine go_iconst (v := 0) (pc' := 56) dX0_isValid_55 rfl (by decide) ?_
      refine go_istore_nE rfl (i := 2) (pc' := 57) dX0_isValid_56 rfl rfl (by decide) rfl ?_
      exact t_X0_isValid_57 xFU R g1 hf
    · have hf := it c102 hf
      refine go_aload_n (i := 1) (pc' := 30) dX0_isValid_29 rfl rfl rfl ?_
      refine go_getS (pc' := 33) dX0_isValid_30 rfl gf_LandBase_Checker_25 R g1.at (by decide) rfl ?_
      refine go_iconst (v := 2) (pc' := 34) dX0_isValid_33 rfl (by decide) ?_
      refine go_icmp_lt (pc' := 37) (tgt := 53) dX0_isValid_34 (by decide) rfl (fun c103 => ?_) (fun c103 => ?_)
      · have hf := it c103 hf
        refine go_iconst (v := 0) (pc' := 54) dX0_isValid_53 rfl (by decide) ?_
        obtain rfl := Option.some.inj hf
        exact Go.ret (v := some (.int _)) dX0_isValid_54 ⟨_, rfl⟩ ⟨rfl, rfl, R⟩
      · have hf := ie c103 hf
        refine go_aload_n (i := 1) (pc' := 38) dX0_isValid_37 rfl rfl rfl ?_
        refine go_iconst (v := 0) (pc' := 39) dX0_isValid_38 rfl (by decide) ?_
        refine go_aload_n (i := 1) (pc' := 40) dX0_isValid_39 rfl rfl rfl ?_
        refine go_getS (pc' := 43) dX0_isValid_40 rfl gf_LandBase_Checker_25 R g1.at (by decide) rfl ?_
        obtain ⟨v104, σ105, e106, hf⟩ := bd_some hf
        refine go_invS (As := [_, _, _]) (pc' := 46) dX0_isValid_43 rfl cf_X0_isValid_28 rfl rfl (Nat.le_of_ble_eq_true rfl) (c_X0_hasPauses R e106) (fun q107v h108 q107 => ?_)
        obtain ⟨rfl, R⟩ := q107
        refine go_if_ne (pc' := 49) (tgt := 53) dX0_isValid_46 (by decide) rfl (fun c109 => ?_) (fun c109 => ?_)
        · have hf := ie c109 hf
          refine go_iconst (v := 0) (pc' := 54) dX0_isValid_53 rfl (by decide) ?_
          obtain rfl := Option.some.inj hf
          exact Go.ret (v := some (.int _)) dX0_isValid_54 ⟨_, rfl⟩ ⟨rfl, rfl, R⟩
        · have hf := it c109 hf
          refine go_iconst (v := 1) (pc' := 50) dX0_isValid_49 rfl (by decide) ?_
          refine go_goto (pc' := 0) (tgt := 54) dX0_isValid_50 (by decide) ?_
          obtain rfl := Option.some.inj hf
          exact Go.ret (v := some (.int _)) dX0_isValid_54 ⟨_, rfl⟩ ⟨rfl, rfl, R⟩
  · have hf := it c101 hf
    refine go_aload_n (i := 1) (pc' := 8) dX0_isValid_7 rfl rfl rfl ?_
    refine go_getS (pc' := 11) dX0_isValid_8 rfl gf_LandBase_Checker_25 R g1.at (by decide) rfl ?_
    refine go_iconst (v := 1) (pc' := 12) dX0_isValid_11 rfl (by decide) ?_
    refine go_icmp_ne (pc' := 15) (tgt := 19) dX0_isValid_12 (by decide) rfl (fun c110 => ?_) (fun c110 => ?_)
    · have hf := ie c110 hf
      refine go_iconst (v := 0) (pc' := 20) dX0_isValid_19 rfl (by decide) ?_
      obtain rfl := Option.some.inj hf
      exact Go.ret (v := some (.int _)) dX0_isValid_20 ⟨_, rfl⟩ ⟨rfl, rfl, R⟩
    · have hf := it c110 hf
      refine go_iconst (v := 1) (pc' := 16) dX0_isValid_15 rfl (by decide) ?_
      refine go_goto (pc' := 0) (tgt := 20) dX0_isValid_16 (by decide) ?_
      obtain rfl := Option.some.inj hf
      exact Go.ret (v := some (.int _)) dX0_isValid_20 ⟨_, rfl⟩ ⟨rfl, rfl, R⟩
def f_X2_keep (n : Nat) (a0 : Nat) (l1 : Int64) (l3 : Int64) (l5 : Int64) (σ : xσ) : Option (Unit × xσ) := gd (okD a0) (st (wJ σ a0 0 l1) (fun σ101 => st (wJ σ101 a0 1 l3) (fun σ104 => st (wJ σ104 a0 2 l5) (fun σ107 => some ((), σ107)))))
set_option maxRecDepth 100000 in
set_option maxHeartbeats 4000000 in
theorem c_X2_keep {G : xG} {n : Nat} {σ : xσ} {h : xH} {a0 : Nat} {l1 : Int64} {l3 : Int64} {l5 : Int64} {v1 : Unit} {σ1 : xσ} (R : Rl n σ h) (hf : f_X2_keep n a0 l1 l3 l5 σ = some (v1, σ1)) : Ca G mX2_keep [.ref a0, .long l1, .long l3, .long l5] h (fun v h' => v = none ∧ Rl n σ1 h') := by
  refine Ca.of rfl (Nat.le_of_ble_eq_true rfl) ?_
  generalize hr : (v1, σ1) = r at hf
  suffices q : Go G mX2_keep 0 (xent (xMl mX2_keep) [.ref a0, .long l1, .long l3, .long l5]) [] h (fun v h' => xRok (xRt mX2_keep) v ∧ v = none ∧ Rl n r.2 h') by
    subst hr
    exact q
  clear hr
  rw [f_X2_keep] at hf
  obtain ⟨g0, hf⟩ := gd_some hf
  refine go_aload_n (i := 0) (pc' := 1) dX2_keep_0 rfl rfl rfl ?_
  refine go_lload_n (i := 1) (pc' := 2) dX2_keep_1 rfl rfl rfl ?_
  obtain ⟨σ101, e102, hf⟩ := st_some hf
  refine go_putJ (pc' := 5) dX2_keep_2 rfl pf_LandBase_Distance_57 R (g0.at R) (by decide) rfl rfl rfl (fun h103 R => ?_)
  have R := Rl.cast e102 R
  refine go_aload_n (i := 0) (pc' := 6) dX2_keep_5 rfl rfl rfl ?_
  refine go_lload_n (i := 3) (pc' := 7) dX2_keep_6 rfl rfl rfl ?_
  obtain ⟨σ104, e105, hf⟩ := st_some hf
  refine go_putJ (pc' := 10) dX2_keep_7 rfl pf_LandBase_Distance_60 R (g0.at R) (by decide) rfl rfl rfl (fun h106 R => ?_)
  have R := Rl.cast e105 R
  refine go_aload_n (i := 0) (pc' := 11) dX2_keep_10 rfl rfl rfl ?_
  refine go_lload (pc' := 13) dX2_keep_11 rfl rfl ?_
  obtain ⟨σ107, e108, hf⟩ := st_some hf
  refine go_putJ (pc' := 16) dX2_keep_13 rfl pf_LandBase_Distance_9 R (g0.at R) (by decide) rfl rfl rfl (fun h109 R => ?_)
  have R := Rl.cast e108 R
  obtain rfl := Option.some.inj hf
  exact Go.ret (v := none) dX2_keep_16 rfl ⟨trivial, rfl, R⟩
def l_X4_locateOnLine_78 (n : Nat) : Nat → Nat → Int32 → Int32 → Int32 → Int32 → xσ → Option (Int32 × xσ)
  | 0, _, _, _, _, _, _ => none
  | f + 1, a0, x1, x2, x3, x4, σ => if x3 ≤ x4 then some ((-1), σ) else bd (f_X4_isOnWay n a0 x4 x1 x2 σ) (fun v102 σ103 => if v102 = 0 then (l_X4_locateOnLine_78 n f) a0 x1 x2 x3 (x4 + 1) σ103 else some (1, σ103))
set_option maxRecDepth 100000 in
set_option maxHeartbeats 4000000 in
theorem t_X4_locateOnLine_78 {G : xG} {n : Nat} : ∀ (f : Nat) {a0 : Nat} {x1 : Int32} {x2 : Int32} {x3 : Int32} {x4 : Int32} {σ : xσ} {h : xH} {r : Int32 × xσ}, Rl n σ h → okS n a0 → l_X4_locateOnLine_78 n f a0 x1 x2 x3 x4 σ = some r → Go G mX4_locateOnLine 78 [some (.ref a0), some (.int x1), some (.int x2), some (.int x3), some (.int x4)] [] h (fun v h' => xRok (xRt mX4_locateOnLine) v ∧ v = some (.int r.1) ∧ Rl n r.2 h') := by
  intro f
  induction f with
  | zero =>
    intros
    rename _ = some _ => hf
    rw [l_X4_locateOnLine_78] at hf
    cases hf
  | succ f ih =>
    intro a0 x1 x2 x3 x4 σ h r  R g0 hf
    rw [l_X4_locateOnLine_78] at hf
    refine go_iload (pc' := 80) dX4_locateOnLine_78 rfl rfl ?_
    refine go_iload_n (i := 3) (pc' := 81) dX4_locateOnLine_80 rfl rfl rfl ?_
    refine go_icmp_ge (pc' := 84) (tgt := 103) dX4_locateOnLine_81 (by decide) rfl (fun c101 => ?_) (fun c101 => ?_)
    · have hf := it c101 hf
      refine go_iconst (v := (-1)) (pc' := 104) dX4_locateOnLine_103 rfl (by decide) ?_
      obtain rfl := Option.some.inj hf
      exact Go.ret (v := some (.int _)) dX4_locateOnLine_104 ⟨_, rfl⟩ ⟨rfl, rfl, R⟩
    · have hf := ie c101 hf
      refine go_aload_n (i := 0) (pc' := 85) dX4_locateOnLine_84 rfl rfl rfl ?_
      refine go_iload (pc' := 87) dX4_locateOnLine_85 rfl rfl ?_
      refine go_iload_n (i := 1) (pc' := 88) dX4_locateOnLine_87 rfl rfl rfl ?_
      refine go_iload_n (i := 2) (pc' := 89) dX4_locateOnLine_88 rfl rfl rfl ?_
      obtain ⟨v102, σ103, e104, hf⟩ := bd_some hf
      refine go_invS (As := [_, _, _, _]) (pc' := 92) dX4_locateOnLine_89 rfl cf_X4_locateOnLine_58 rfl rfl (Nat.le_of_ble_eq_true rfl) (c_X4_isOnWay R e104) (fun q105v h106 q105 => ?_)
      obtain ⟨rfl, R⟩ := q105
      refine go_if_eq (pc' := 95) (tgt := 97) dX4_locateOnLine_92 (by decide) rfl (fun c107 => ?_) (fun c107 => ?_)
      · have hf := it c107 hf
        refine go_iincC (kk := 1) (pc' := 100) dX4_locateOnLine_97 rfl rfl (by decide) (by decide) rfl ?_
        refine go_goto (pc' := 0) (tgt := 78) dX4_locateOnLine_100 (by decide) ?_
        exact ih R g0 hf
      · have hf := ie c107 hf
        refine go_iconst (v := 1) (pc' := 96) dX4_locateOnLine_95 rfl (by decide) ?_
        obtain rfl := Option.some.inj hf
        exact Go.ret (v := some (.int _)) dX4_locateOnLine_96 ⟨_, rfl⟩ ⟨rfl, rfl, R⟩
def b_X4_locateOnLine_46 (n : Nat) (a0 : Nat) (x1 : Int32) (x2 : Int32) (x3 : Int32) (xs0 : Int32) (σ : xσ) : Option (Int32 × xσ) := if xs0 = 0 then gd (inb x3 40) (if (sI σ (a0 + 1) x3.toNatClampNeg) = x1 then gd (inb x3 40) (if (sI σ (a0 + 2) x3.toNatClampNeg) = x2 then some (0, σ) else l_X4_locateOnLine_78 n xFU a0 x1 x2 x3 0 σ) else l_X4_locateOnLine_78 n xFU a0 x1 x2 x3 0 σ) else some (0, σ)
set_option maxRecDepth 100000 in
set_option maxHeartbeats 4000000 in
theorem t_X4_locateOnLine_46 {G : xG} {n : Nat} {a0 : Nat} {x1 : Int32} {x2 : Int32} {x3 : Int32} {xs0 : Int32} {σ : xσ} {h : xH} {r : Int32 × xσ} {d4 : Option Value} : Rl n σ h → okS n a0 → b_X4_locateOnLine_46 n a0 x1 x2 x3 xs0 σ = some r → Go G mX4_locateOnLine 46 [some (.ref a0), some (.int x1), some (.int x2), some (.int x3), d4] [.int xs0] h (fun v h' => xRok (xRt mX4_locateOnLine) v ∧ v = some (.int r.1) ∧ Rl n r.2 h') := by
  intro R g0 hf
  rw [b_X4_locateOnLine_46] at hf
  refine go_istoreE rfl (pc' := 48) dX4_locateOnLine_46 rfl (by decide) rfl ?_
  refine go_iload (pc' := 50) dX4_locateOnLine_48 rfl rfl ?_
  refine go_if_ne (pc' := 53) (tgt := 73) dX4_locateOnLine_50 (by decide) rfl (fun c101 => ?_) (fun c101 => ?_)
  · have hf := ie c101 hf
    refine go_iconst (v := 0) (pc' := 74) dX4_locateOnLine_73 rfl (by decide) ?_
    obtain rfl := Option.some.inj hf
    exact Go.ret (v := some (.int _)) dX4_locateOnLine_74 ⟨_, rfl⟩ ⟨rfl, rfl, R⟩
  · have hf := it c101 hf
    refine go_aload_n (i := 0) (pc' := 54) dX4_locateOnLine_53 rfl rfl rfl ?_
    refine go_getS (pc' := 57) dX4_locateOnLine_54 rfl gf_LandBase_Plane_9 R g0.at (by decide) rfl ?_
    refine go_iload_n (i := 3) (pc' := 58) dX4_locateOnLine_57 rfl rfl rfl ?_
    obtain ⟨g102, hf⟩ := gd_some hf
    refine go_ialoadS (pc' := 59) dX4_locateOnLine_58 rfl R g0.x g102 ?_
    refine go_iload_n (i := 1) (pc' := 60) dX4_locateOnLine_59 rfl rfl rfl ?_
    refine go_icmp_ne (pc' := 63) (tgt := 75) dX4_locateOnLine_60 (by decide) rfl (fun c103 => ?_) (fun c103 => ?_)
    · have hf := ie c103 hf
      refine go_iconst (v := 0) (pc' := 76) dX4_locateOnLine_75 rfl (by decide) ?_
      refine go_istoreE rfl (pc' := 78) dX4_locateOnLine_76 rfl (by decide) rfl ?_
      exact t_X4_locateOnLine_78 xFU R g0 hf
    · have hf := it c103 hf
      refine go_aload_n (i := 0) (pc' := 64) dX4_locateOnLine_63 rfl rfl rfl ?_
      refine go_getS (pc' := 67) dX4_locateOnLine_64 rfl gf_LandBase_Plane_15 R g0.at (by decide) rfl ?_
      refine go_iload_n (i := 3) (pc' := 68) dX4_locateOnLine_67 rfl rfl rfl ?_
      obtain ⟨g104, hf⟩ := gd_some hf
      refine go_ialoadS (pc' := 69) dX4_locateOnLine_68 rfl R g0.y g104 ?_
      refine go_iload_n (i := 2) (pc' := 70) dX4_locateOnLine_69 rfl rfl rfl ?_
      refine go_icmp_ne (pc' := 73) (tgt := 75) dX4_locateOnLine_70 (by decide) rfl (fun c105 => ?_) (fun c105 => ?_)
      · have hf := ie c105 hf
        refine go_iconst (v := 0) (pc' := 76) dX4_locateOnLine_75 rfl (by decide) ?_
        refine go_istoreE rfl (pc' := 78) dX4_locateOnLine_76 rfl (by decide) rfl ?_
        exact t_X4_locateOnLine_78 xFU R g0 hf
      · have hf := it c105 hf
        refine go_iconst (v := 0) (pc' := 74) dX4_locateOnLine_73 rfl (by decide) ?_
        obtain rfl := Option.some.inj hf
        exact Go.ret (v := some (.int _)) dX4_locateOnLine_74 ⟨_, rfl⟩ ⟨rfl, rfl, R⟩
def f_X4_locateOnLine (n : Nat) (a0 : Nat) (x1 : Int32) (x2 : Int32) (σ : xσ) : Option (Int32 × xσ) := gd (okS n a0) (st ((sI σ a0 1) - 1) (fun x101 => if x101 < 1 then l_X4_locateOnLine_78 n xFU a0 x1 x2 x101 0 σ else bd (f_X7_isAlike n a0 0 x101 σ) (fun v104 σ105 => if v104 = 0 then gd (inb 0 40) (if (sI σ105 (a0 + 1) (0 : Int32).toNatClampNeg) = x1 then gd (inb 0 40) (if (sI σ105 (a0 + 2) (0 : Int32).toNatClampNeg) = x2 then b_X4_locateOnLine_46 n a0 x1 x2 x101 1 σ105 else b_X4_locateOnLine_46 n a0 x1 x2 x101 0 σ105) else b_X4_locateOnLine_46 n a0 x1 x2 x101 0 σ105) else l_X4_locateOnLine_78 n xFU a0 x1 x2 x101 0 σ105)))
set_option maxRecDepth 100000 in
set_option maxHeartbeats 4000000 in
theorem c_X4_locateOnLine {G : xG} {n : Nat} {σ : xσ} {h : xH} {a0 : Nat} {x1 : Int32} {x2 : Int32} {v1 : Int32} {σ1 : xσ} (R : Rl n σ h) (hf : f_X4_locateOnLine n a0 x1 x2 σ = some (v1, σ1)) : Ca G mX4_locateOnLine [.ref a0, .int x1, .int x2] h (fun v h' => v = some (.int v1) ∧ Rl n σ1 h') := by
  refine Ca.of rfl (Nat.le_of_ble_eq_true rfl) ?_
  generalize hr : (v1, σ1) = r at hf
  suffices q : Go G mX4_locateOnLine 0 (xent (xMl mX4_locateOnLine) [.ref a0, .int x1, .int x2]) [] h (fun v h' => xRok (xRt mX4_locateOnLine) v ∧ v = some (.int r.1) ∧ Rl n r.2 h') by
    subst hr
    exact q
  clear hr
  rw [f_X4_locateOnLine] at hf
  obtain ⟨g0, hf⟩ := gd_some hf
  refine go_aload_n (i := 0) (pc' := 1) dX4_locateOnLine_0 rfl rfl rfl ?_
  refine go_getS (pc' := 4) dX4_locateOnLine_1 rfl gf_LandBase_Plane_51 R g0.at (by decide) rfl ?_
  refine go_iconst (v := 1) (pc' := 5) dX4_locateOnLine_4 rfl (by decide) ?_
  refine go_isub (pc' := 6) dX4_locateOnLine_5 rfl ?_
  obtain ⟨x101, e102, hf⟩ := st_some hf
  refine go_istore_nE e102 (i := 3) (pc' := 7) dX4_locateOnLine_6 rfl rfl (by decide) rfl ?_
  refine go_iload_n (i := 3) (pc' := 8) dX4_locateOnLine_7 rfl rfl rfl ?_
  refine go_iconst (v := 1) (pc' := 9) dX4_locateOnLine_8 rfl (by decide) ?_
  refine go_icmp_lt (pc' := 12) (tgt := 75) dX4_locateOnLine_9 (by decide) rfl (fun c103 => ?_) (fun c103 => ?_)
  · have hf := it c103 hf
    refine go_iconst (v := 0) (pc' := 76) dX4_locateOnLine_75 rfl (by decide) ?_
    refine go_istoreE rfl (pc' := 78) dX4_locateOnLine_76 rfl (by decide) rfl ?_
    exact t_X4_locateOnLine_78 xFU R g0 hf
  · have hf := ie c103 hf
    refine go_aload_n (i := 0) (pc' := 13) dX4_locateOnLine_12 rfl rfl rfl ?_
    refine go_iconst (v := 0) (pc' := 14) dX4_locateOnLine_13 rfl (by decide) ?_
    refine go_iload_n (i := 3) (pc' := 15) dX4_locateOnLine_14 rfl rfl rfl ?_
    obtain ⟨v104, σ105, e106, hf⟩ := bd_some hf
    refine go_invV (As := [_, _]) (pc' := 18) dX4_locateOnLine_15 rfl cf_X4_locateOnLine_54 rfl (R.ob g0.at) rfl rfl (Nat.le_of_ble_eq_true rfl) (c_X7_isAlike R e106) (fun q107v h108 q107 => ?_)
    obtain ⟨rfl, R⟩ := q107
    refine go_if_ne (pc' := 21) (tgt := 75) dX4_locateOnLine_18 (by decide) rfl (fun c109 => ?_) (fun c109 => ?_)
    · have hf := ie c109 hf
      refine go_iconst (v := 0) (pc' := 76) dX4_locateOnLine_75 rfl (by decide) ?_
      refine go_istoreE rfl (pc' := 78) dX4_locateOnLine_76 rfl (by decide) rfl ?_
      exact t_X4_locateOnLine_78 xFU R g0 hf
    · have hf := it c109 hf
      refine go_aload_n (i := 0) (pc' := 22) dX4_locateOnLine_21 rfl rfl rfl ?_
      refine go_getS (pc' := 25) dX4_locateOnLine_22 rfl gf_LandBase_Plane_9 R g0.at (by decide) rfl ?_
      refine go_iconst (v := 0) (pc' := 26) dX4_locateOnLine_25 rfl (by decide) ?_
      obtain ⟨g110, hf⟩ := gd_some hf
      refine go_ialoadS (pc' := 27) dX4_locateOnLine_26 rfl R g0.x g110 ?_
      refine go_iload_n (i := 1) (pc' := 28) dX4_locateOnLine_27 rfl rfl rfl ?_
      refine go_icmp_ne (pc' := 31) (tgt := 45) dX4_locateOnLine_28 (by decide) rfl (fun c111 => ?_) (fun c111 => ?_)
      · have hf := ie c111 hf
        refine go_iconst (v := 0) (pc' := 46) dX4_locateOnLine_45 rfl (by decide) ?_
        exact t_X4_locateOnLine_46 R g0 hf
      · have hf := it c111 hf
        refine go_aload_n (i := 0) (pc' := 32) dX4_locateOnLine_31 rfl rfl rfl ?_
        refine go_getS (pc' := 35) dX4_locateOnLine_32 rfl gf_LandBase_Plane_15 R g0.at (by decide) rfl ?_
        refine go_iconst (v := 0) (pc' := 36) dX4_locateOnLine_35 rfl (by decide) ?_
        obtain ⟨g112, hf⟩ := gd_some hf
        refine go_ialoadS (pc' := 37) dX4_locateOnLine_36 rfl R g0.y g112 ?_
        refine go_iload_n (i := 2) (pc' := 38) dX4_locateOnLine_37 rfl rfl rfl ?_
        refine go_icmp_ne (pc' := 41) (tgt := 45) dX4_locateOnLine_38 (by decide) rfl (fun c113 => ?_) (fun c113 => ?_)
        · have hf := ie c113 hf
          refine go_iconst (v := 0) (pc' := 46) dX4_locateOnLine_45 rfl (by decide) ?_
          exact t_X4_locateOnLine_46 R g0 hf
        · have hf := it c113 hf
          refine go_iconst (v := 1) (pc' := 42) dX4_locateOnLine_41 rfl (by decide) ?_
          refine go_goto (pc' := 0) (tgt := 46) dX4_locateOnLine_42 (by decide) ?_
          exact t_X4_locateOnLine_46 R g0 hf
def b_X4_locateInPolygon_118 (n : Nat) (k5 : Nat → Int32 → Int32 → Int32 → Int32 → xσ → Option (Int32 × xσ)) (a0 : Nat) (x1 : Int32) (x2 : Int32) (x3 : Int32) (x4 : Int32) (σ : xσ) : Option (Int32 × xσ) := k5 a0 x1 x2 x3 (x4 + 1) σ
set_option maxRecDepth 100000 in
set_option maxHeartbeats 4000000 in
theorem t_X4_locateInPolygon_118 {G : xG} {n : Nat} {k5 : Nat → Int32 → Int32 → Int32 → Int32 → xσ → Option (Int32 × xσ)} (hk5 : ∀ {a0 : Nat} {x1 : Int32} {x2 : Int32} {x3 : Int32} {x4 : Int32} {σ : xσ} {h : xH} {r : Int32 × xσ} {d5 : Option Value}, Rl n σ h → okS n a0 → k5 a0 x1 x2 x3 x4 σ = some r → Go G mX4_locateInPolygon 5 [some (.ref a0), some (.int x1), some (.int x2), some (.int x3), some (.int x4), d5] [] h (fun v h' => xRok (xRt mX4_locateInPolygon) v ∧ v = some (.int r.1) ∧ Rl n r.2 h')) {a0 : Nat} {x1 : Int32} {x2 : Int32} {x3 : Int32} {x4 : Int32} {σ : xσ} {h : xH} {r : Int32 × xσ} {d5 : Option Value} : Rl n σ h → okS n a0 → b_X4_locateInPolygon_118 n k5 a0 x1 x2 x3 x4 σ = some r → Go G mX4_locateInPolygon 118 [some (.ref a0), some (.int x1), some (.int x2), some (.int x3), some (.int x4), d5] [] h (fun v h' => xRok (xRt mX4_locateInPolygon) v ∧ v = some (.int r.1) ∧ Rl n r.2 h') := by
  intro R g0 hf
  rw [b_X4_locateInPolygon_118] at hf
  refine go_iincC (kk := 1) (pc' := 121) dX4_locateInPolygon_118 rfl rfl (by decide) (by decide) rfl ?_
  refine go_goto (pc' := 0) (tgt := 5) dX4_locateInPolygon_121 (by decide) ?_
  exact hk5 R g0 hf
def b_X4_locateInPolygon_117 (n : Nat) (k5 : Nat → Int32 → Int32 → Int32 → Int32 → xσ → Option (Int32 × xσ)) (a0 : Nat) (x1 : Int32) (x2 : Int32) (x4 : Int32) (xs0 : Int32) (σ : xσ) : Option (Int32 × xσ) := b_X4_locateInPolygon_118 n k5 a0 x1 x2 xs0 x4 σ
set_option maxRecDepth 100000 in
set_option maxHeartbeats 4000000 in
theorem t_X4_locateInPolygon_117 {G : xG} {n : Nat} {k5 : Nat → Int32 → Int32 → Int32 → Int32 → xσ → Option (Int32 × xσ)} (hk5 : ∀ {a0 : Nat} {x1 : Int32} {x2 : Int32} {x3 : Int32} {x4 : Int32} {σ : xσ} {h : xH} {r : Int32 × xσ} {d5 : Option Value}, Rl n σ h → okS n a0 → k5 a0 x1 x2 x3 x4 σ = some r → Go G mX4_locateInPolygon 5 [some (.ref a0), some (.int x1), some (.int x2), some (.int x3), some (.int x4), d5] [] h (fun v h' => xRok (xRt mX4_locateInPolygon) v ∧ v = some (.int r.1) ∧ Rl n r.2 h')) {a0 : Nat} {x1 : Int32} {x2 : Int32} {x4 : Int32} {xs0 : Int32} {σ : xσ} {h : xH} {r : Int32 × xσ} {d3 : Option Value} {d5 : Option Value} : Rl n σ h → okS n a0 → b_X4_locateInPolygon_117 n k5 a0 x1 x2 x4 xs0 σ = some r → Go G mX4_locateInPolygon 117 [some (.ref a0), some (.int x1), some (.int x2), d3, some (.int x4), d5] [.int xs0] h (fun v h' => xRok (xRt mX4_locateInPolygon) v ∧ v = some (.int r.1) ∧ Rl n r.2 h') := by
  intro R g0 hf
  rw [b_X4_locateInPolygon_117] at hf
  refine go_istore_nE rfl (i := 3) (pc' := 118) dX4_locateInPolygon_117 rfl rfl (by decide) rfl ?_
  exact t_X4_locateInPolygon_118 @hk5 R g0 hf
def b_X4_locateInPolygon_103 (n : Nat) (k5 : Nat → Int32 → Int32 → Int32 → Int32 → xσ → Option (Int32 × xσ)) (a0 : Nat) (x1 : Int32) (x2 : Int32) (x3 : Int32) (x4 : Int32) (x5 : Int32) (xs0 : Int32) (σ : xσ) : Option (Int32 × xσ) := if xs0 = x5 then if x3 = 0 then b_X4_locateInPolygon_117 n k5 a0 x1 x2 x4 1 σ else b_X4_locateInPolygon_117 n k5 a0 x1 x2 x4 0 σ else k5 a0 x1 x2 x3 (x4 + 1) σ
set_option maxRecDepth 100000 in
set_option maxHeartbeats 4000000 in
theorem t_X4_locateInPolygon_103 {G : xG} {n : Nat} {k5 : Nat → Int32 → Int32 → Int32 → Int32 → xσ → Option (Int32 × xσ)} (hk5 : ∀ {a0 : Nat} {x1 : Int32} {x2 : Int32} {x3 : Int32} {x4 : Int32} {σ : xσ} {h : xH} {r : Int32 × xσ} {d5 : Option Value}, Rl n σ h → okS n a0 → k5 a0 x1 x2 x3 x4 σ = some r → Go G mX4_locateInPolygon 5 [some (.ref a0), some (.int x1), some (.int x2), some (.int x3), some (.int x4), d5] [] h (fun v h' => xRok (xRt mX4_locateInPolygon) v ∧ v = some (.int r.1) ∧ Rl n r.2 h')) {a0 : Nat} {x1 : Int32} {x2 : Int32} {x3 : Int32} {x4 : Int32} {x5 : Int32} {xs0 : Int32} {σ : xσ} {h : xH} {r : Int32 × xσ} : Rl n σ h → okS n a0 → b_X4_locateInPolygon_103 n k5 a0 x1 x2 x3 x4 x5 xs0 σ = some r → Go G mX4_locateInPolygon 103 [some (.ref a0), some (.int x1), some (.int x2), some (.int x3), some (.int x4), some (.int x5)] [.int xs0] h (fun v h' => xRok (xRt mX4_locateInPolygon) v ∧ v = some (.int r.1) ∧ Rl n r.2 h') := by
  intro R g0 hf
  rw [b_X4_locateInPolygon_103] at hf
  refine go_iload (pc' := 105) dX4_locateInPolygon_103 rfl rfl ?_
  refine go_icmp_ne (pc' := 108) (tgt := 118) dX4_locateInPolygon_105 (by decide) rfl (fun c101 => ?_) (fun c101 => ?_)
  · have hf := ie c101 hf
    refine go_iincC (kk := 1) (pc' := 121) dX4_locateInPolygon_118 rfl rfl (by decide) (by decide) rfl ?_
    refine go_goto (pc' := 0) (tgt := 5) dX4_locateInPolygon_121 (by decide) ?_
    exact hk5 R g0 hf
  · have hf := it c101 hf
    refine go_iload_n (i := 3) (pc' := 109) dX4_locateInPolygon_108 rfl rfl rfl ?_
    refine go_if_ne (pc' := 112) (tgt := 116) dX4_locateInPolygon_109 (by decide) rfl (fun c102 => ?_) (fun c102 => ?_)
    · have hf := ie c102 hf
      refine go_iconst (v := 0) (pc' := 117) dX4_locateInPolygon_116 rfl (by decide) ?_
      exact t_X4_locateInPolygon_117 @hk5 R g0 hf
    · have hf := it c102 hf
      refine go_iconst (v := 1) (pc' := 113) dX4_locateInPolygon_112 rfl (by decide) ?_
      refine go_goto (pc' := 0) (tgt := 117) dX4_locateInPolygon_113 (by decide) ?_
      exact t_X4_locateInPolygon_117 @hk5 R g0 hf
def b_X4_locateInPolygon_78 (n : Nat) (k5 : Nat → Int32 → Int32 → Int32 → Int32 → xσ → Option (Int32 × xσ)) (a0 : Nat) (x1 : Int32) (x2 : Int32) (x3 : Int32) (x4 : Int32) (x5 : Int32) (xs0 : Int32) (σ : xσ) : Option (Int32 × xσ) := if xs0 = x5 then k5 a0 x1 x2 x3 (x4 + 1) σ else bd (f_X4_sideOf n a0 x4 (x1.toInt64) (x2.toInt64) σ) (fun v102 σ103 => if (lg_cmp v102 ((0 : Int64))) ≤ 0 then b_X4_locateInPolygon_103 n k5 a0 x1 x2 x3 x4 x5 0 σ103 else b_X4_locateInPolygon_103 n k5 a0 x1 x2 x3 x4 x5 1 σ103)
set_option maxRecDepth 100000 in
set_option maxHeartbeats 4000000 in
theorem t_X4_locateInPolygon_78 {G : xG} {n : Nat} {k5 : Nat → Int32 → Int32 → Int32 → Int32 → xσ → Option (Int32 × xσ)} (hk5 : ∀ {a0 : Nat} {x1 : Int32} {x2 : Int32} {x3 : Int32} {x4 : Int32} {σ : xσ} {h : xH} {r : Int32 × xσ} {d5 : Option Value}, Rl n σ h → okS n a0 → k5 a0 x1 x2 x3 x4 σ = some r → Go G mX4_locateInPolygon 5 [some (.ref a0), some (.int x1), some (.int x2), some (.int x3), some (.int x4), d5] [] h (fun v h' => xRok (xRt mX4_locateInPolygon) v ∧ v = some (.int r.1) ∧ Rl n r.2 h')) {a0 : Nat} {x1 : Int32} {x2 : Int32} {x3 : Int32} {x4 : Int32} {x5 : Int32} {xs0 : Int32} {σ : xσ} {h : xH} {r : Int32 × xσ} : Rl n σ h → okS n a0 → b_X4_locateInPolygon_78 n k5 a0 x1 x2 x3 x4 x5 xs0 σ = some r → Go G mX4_locateInPolygon 78 [some (.ref a0), some (.int x1), some (.int x2), some (.int x3), some (.int x4), some (.int x5)] [.int xs0] h (fun v h' => xRok (xRt mX4_locateInPolygon) v ∧ v = some (.int r.1) ∧ Rl n r.2 h') := by
  intro R g0 hf
  rw [b_X4_locateInPolygon_78] at hf
  refine go_iload (pc' := 80) dX4_locateInPolygon_78 rfl rfl ?_
  refine go_icmp_eq (pc' := 83) (tgt := 118) dX4_locateInPolygon_80 (by decide) rfl (fun c101 => ?_) (fun c101 => ?_)
  · have hf := it c101 hf
    refine go_iincC (kk := 1) (pc' := 121) dX4_locateInPolygon_118 rfl rfl (by decide) (by decide) rfl ?_
    refine go_goto (pc' := 0) (tgt := 5) dX4_locateInPolygon_121 (by decide) ?_
    exact hk5 R g0 hf
  · have hf := ie c101 hf
    refine go_aload_n (i := 0) (pc' := 84) dX4_locateInPolygon_83 rfl rfl rfl ?_
    refine go_iload (pc' := 86) dX4_locateInPolygon_84 rfl rfl ?_
    refine go_iload_n (i := 1) (pc' := 87) dX4_locateInPolygon_86 rfl rfl rfl ?_
    refine go_i2l (pc' := 88) dX4_locateInPolygon_87 rfl rfl ?_
    refine go_iload_n (i := 2) (pc' := 89) dX4_locateInPolygon_88 rfl rfl rfl ?_
    refine go_i2l (pc' := 90) dX4_locateInPolygon_89 rfl rfl ?_
    obtain ⟨v102, σ103, e104, hf⟩ := bd_some hf
    refine go_invS (As := [_, _, _, _]) (pc' := 93) dX4_locateInPolygon_90 rfl cf_X4_locateInPolygon_24 rfl rfl (Nat.le_of_ble_eq_true rfl) (c_X4_sideOf R e104) (fun q105v h106 q105 => ?_)
    obtain ⟨rfl, R⟩ := q105
    refine go_lconst (v := 0) (pc' := 94) dX4_locateInPolygon_93 rfl (by decide) ?_
    refine go_lcmp (pc' := 95) dX4_locateInPolygon_94 rfl ?_
    refine go_if_le (pc' := 98) (tgt := 102) dX4_locateInPolygon_95 (by decide) rfl (fun c107 => ?_) (fun c107 => ?_)
    · have hf := it c107 hf
      refine go_iconst (v := 0) (pc' := 103) dX4_locateInPolygon_102 rfl (by decide) ?_
      exact t_X4_locateInPolygon_103 @hk5 R g0 hf
    · have hf := ie c107 hf
      refine go_iconst (v := 1) (pc' := 99) dX4_locateInPolygon_98 rfl (by decide) ?_
      refine go_goto (pc' := 0) (tgt := 103) dX4_locateInPolygon_99 (by decide) ?_
      exact t_X4_locateInPolygon_103 @hk5 R g0 hf
def b_X4_locateInPolygon_60 (n : Nat) (k5 : Nat → Int32 → Int32 → Int32 → Int32 → xσ → Option (Int32 × xσ)) (a0 : Nat) (x1 : Int32) (x2 : Int32) (x3 : Int32) (x4 : Int32) (xs0 : Int32) (σ : xσ) : Option (Int32 × xσ) := gd (inb x4 40) (if (sI σ (a0 + 2) x4.toNatClampNeg) ≤ x2 then b_X4_locateInPolygon_78 n k5 a0 x1 x2 x3 x4 xs0 0 σ else b_X4_locateInPolygon_78 n k5 a0 x1 x2 x3 x4 xs0 1 σ)
set_option maxRecDepth 100000 in
set_option maxHeartbeats 4000000 in
theorem t_X4_locateInPolygon_60 {G : xG} {n : Nat} {k5 : Nat → Int32 → Int32 → Int32 → Int32 → xσ → Option (Int32 × xσ)} (hk5 : ∀ {a0 : Nat} {x1 : Int32} {x2 : Int32} {x3 : Int32} {x4 : Int32} {σ : xσ} {h : xH} {r : Int32 × xσ} {d5 : Option Value}, Rl n σ h → okS n a0 → k5 a0 x1 x2 x3 x4 σ = some r → Go G mX4_locateInPolygon 5 [some (.ref a0), some (.int x1), some (.int x2), some (.int x3), some (.int x4), d5] [] h (fun v h' => xRok (xRt mX4_locateInPolygon) v ∧ v = some (.int r.1) ∧ Rl n r.2 h')) {a0 : Nat} {x1 : Int32} {x2 : Int32} {x3 : Int32} {x4 : Int32} {xs0 : Int32} {σ : xσ} {h : xH} {r : Int32 × xσ} {d5 : Option Value} : Rl n σ h → okS n a0 → b_X4_locateInPolygon_60 n k5 a0 x1 x2 x3 x4 xs0 σ = some r → Go G mX4_locateInPolygon 60 [some (.ref a0), some (.int x1), some (.int x2), some (.int x3), some (.int x4), d5] [.int xs0] h (fun v h' => xRok (xRt mX4_locateInPolygon) v ∧ v = some (.int r.1) ∧ Rl n r.2 h') := by
  intro R g0 hf
  rw [b_X4_locateInPolygon_60] at hf
  refine go_istoreE rfl (pc' := 62) dX4_locateInPolygon_60 rfl (by decide) rfl ?_
  refine go_aload_n (i := 0) (pc' := 63) dX4_locateInPolygon_62 rfl rfl rfl ?_
  refine go_getS (pc' := 66) dX4_locateInPolygon_63 rfl gf_LandBase_Plane_15 R g0.at (by decide) rfl ?_
  refine go_iload (pc' := 68) dX4_locateInPolygon_66 rfl rfl ?_
  obtain ⟨g101, hf⟩ := gd_some hf
  refine go_ialoadS (pc' := 69) dX4_locateInPolygon_68 rfl R g0.y g101 ?_
  refine go_iload_n (i := 2) (pc' := 70) dX4_locateInPolygon_69 rfl rfl rfl ?_
  refine go_icmp_le (pc' := 73) (tgt := 77) dX4_locateInPolygon_70 (by decide) rfl (fun c102 => ?_) (fun c102 => ?_)
  · have hf := it c102 hf
    refine go_iconst (v := 0) (pc' := 78) dX4_locateInPolygon_77 rfl (by decide) ?_
    exact t_X4_locateInPolygon_78 @hk5 R g0 hf
  · have hf := ie c102 hf
    refine go_iconst (v := 1) (pc' := 74) dX4_locateInPolygon_73 rfl (by decide) ?_
    refine go_goto (pc' := 0) (tgt := 78) dX4_locateInPolygon_74 (by decide) ?_
    exact t_X4_locateInPolygon_78 @hk5 R g0 hf
def l_X4_locateInPolygon_5 (n : Nat) : Nat → Nat → Int32 → Int32 → Int32 → Int32 → xσ → Option (Int32 × xσ)
  | 0, _, _, _, _, _, _ => none
  | f + 1, a0, x1, x2, x3, x4, σ => if (sI σ a0 1) ≤ (x4 + 1) then if x3 = 0 then some ((-1), σ) else some (1, σ) else gd (inb x4 40) (if (sI σ (a0 + 4) x4.toNatClampNeg) = 0 then bd (f_X4_isOnWay n a0 x4 x1 x2 σ) (fun v105 σ106 => if v105 = 0 then gd (inb (x4 + 1) 40) (if (sI σ106 (a0 + 2) (x4 + 1).toNatClampNeg) ≤ x2 then b_X4_locateInPolygon_60 n (l_X4_locateInPolygon_5 n f) a0 x1 x2 x3 x4 0 σ106 else b_X4_locateInPolygon_60 n (l_X4_locateInPolygon_5 n f) a0 x1 x2 x3 x4 1 σ106) else some (0, σ106)) else b_X4_locateInPolygon_118 n (l_X4_locateInPolygon_5 n f) a0 x1 x2 x3 x4 σ)
set_option maxRecDepth 100000 in
set_option maxHeartbeats 4000000 in
theorem t_X4_locateInPolygon_5 {G : xG} {n : Nat} : ∀ (f : Nat) {a0 : Nat} {x1 : Int32} {x2 : Int32} {x3 : Int32} {x4 : Int32} {σ : xσ} {h : xH} {r : Int32 × xσ} {d5 : Option Value}, Rl n σ h → okS n a0 → l_X4_locateInPolygon_5 n f a0 x1 x2 x3 x4 σ = some r → Go G mX4_locateInPolygon 5 [some (.ref a0), some (.int x1), some (.int x2), some (.int x3), some (.int x4), d5] [] h (fun v h' => xRok (xRt mX4_locateInPolygon) v ∧ v = some (.int r.1) ∧ Rl n r.2 h') := by
  intro f
  induction f with
  | zero =>
    intros
    rename _ = some _ => hf
    rw [l_X4_locateInPolygon_5] at hf
    cases hf
  | succ f ih =>
    intro a0 x1 x2 x3 x4 σ h r d5 R g0 hf
    rw [l_X4_locateInPolygon_5] at hf
    refine go_iload (pc' := 7) dX4_locateInPolygon_5 rfl rfl ?_
    refine go_iconst (v := 1) (pc' := 8) dX4_locateInPolygon_7 rfl (by decide) ?_
    refine go_iadd (pc' := 9) dX4_locateInPolygon_8 rfl ?_
    refine go_aload_n (i := 0) (pc' := 10) dX4_locateInPolygon_9 rfl rfl rfl ?_
    refine go_getS (pc' := 13) dX4_locateInPolygon_10 rfl gf_LandBase_Plane_51 R g0.at (by decide) rfl ?_
    refine go_icmp_ge (pc' := 16) (tgt := 124) dX4_locateInPolygon_13 (by decide) rfl (fun c101 => ?_) (fun c101 => ?_)
    · have hf := it c101 hf
      refine go_iload_n (i := 3) (pc' := 125) dX4_locateInPolygon_124 rfl rfl rfl ?_
      refine go_if_eq (pc' := 128) (tgt := 132) dX4_locateInPolygon_125 (by decide) rfl (fun c102 => ?_) (fun c102 => ?_)
      · have hf := it c102 hf
        refine go_iconst (v := (-1)) (pc' := 133) dX4_locateInPolygon_132 rfl (by decide) ?_
        obtain rfl := Option.some.inj hf
        exact Go.ret (v := some (.int _)) dX4_locateInPolygon_133 ⟨_, rfl⟩ ⟨rfl, rfl, R⟩
      · have hf := ie c102 hf
        refine go_iconst (v := 1) (pc' := 129) dX4_locateInPolygon_128 rfl (by decide) ?_
        refine go_goto (pc' := 0) (tgt := 133) dX4_locateInPolygon_129 (by decide) ?_
        obtain rfl := Option.some.inj hf
        exact Go.ret (v := some (.int _)) dX4_locateInPolygon_133 ⟨_, rfl⟩ ⟨rfl, rfl, R⟩
    · have hf := ie c101 hf
      refine go_aload_n (i := 0) (pc' := 17) dX4_locateInPolygon_16 rfl rfl rfl ?_
      refine go_getS (pc' := 20) dX4_locateInPolygon_17 rfl gf_LandBase_Plane_61 R g0.at (by decide) rfl ?_
      refine go_iload (pc' := 22) dX4_locateInPolygon_20 rfl rfl ?_
      obtain ⟨g103, hf⟩ := gd_some hf
      refine go_zaloadS (pc' := 23) dX4_locateInPolygon_22 rfl R g0.l g103 ?_
      refine go_if_eq (pc' := 26) (tgt := 29) dX4_locateInPolygon_23 (by decide) rfl (fun c104 => ?_) (fun c104 => ?_)
      · have hf := it c104 hf
        refine go_aload_n (i := 0) (pc' := 30) dX4_locateInPolygon_29 rfl rfl rfl ?_
        refine go_iload (pc' := 32) dX4_locateInPolygon_30 rfl rfl ?_
        refine go_iload_n (i := 1) (pc' := 33) dX4_locateInPolygon_32 rfl rfl rfl ?_
        refine go_iload_n (i := 2) (pc' := 34) dX4_locateInPolygon_33 rfl rfl rfl ?_
        obtain ⟨v105, σ106, e107, hf⟩ := bd_some hf
        refine go_invS (As := [_, _, _, _]) (pc' := 37) dX4_locateInPolygon_34 rfl cf_X4_locateInPolygon_58 rfl rfl (Nat.le_of_ble_eq_true rfl) (c_X4_isOnWay R e107) (fun q108v h109 q108 => ?_)
        obtain ⟨rfl, R⟩ := q108
        refine go_if_eq (pc' := 40) (tgt := 42) dX4_locateInPolygon_37 (by decide) rfl (fun c110 => ?_) (fun c110 => ?_)
        · have hf := it c110 hf
          refine go_aload_n (i := 0) (pc' := 43) dX4_locateInPolygon_42 rfl rfl rfl ?_
          refine go_getS (pc' := 46) dX4_locateInPolygon_43 rfl gf_LandBase_Plane_15 R g0.at (by decide) rfl ?_
          refine go_iload (pc' := 48) dX4_locateInPolygon_46 rfl rfl ?_
          refine go_iconst (v := 1) (pc' := 49) dX4_locateInPolygon_48 rfl (by decide) ?_
          refine go_iadd (pc' := 50) dX4_locateInPolygon_49 rfl ?_
          obtain ⟨g111, hf⟩ := gd_some hf
          refine go_ialoadS (pc' := 51) dX4_locateInPolygon_50 rfl R g0.y g111 ?_
          refine go_iload_n (i := 2) (pc' := 52) dX4_locateInPolygon_51 rfl rfl rfl ?_
          refine go_icmp_le (pc' := 55) (tgt := 59) dX4_locateInPolygon_52 (by decide) rfl (fun c112 => ?_) (fun c112 => ?_)
          · have hf := it c112 hf
            refine go_iconst (v := 0) (pc' := 60) dX4_locateInPolygon_59 rfl (by decide) ?_
            exact t_X4_locateInPolygon_60 @ih R g0 hf
          · have hf := ie c112 hf
            refine go_iconst (v := 1) (pc' := 56) dX4_locateInPolygon_55 rfl (by decide) ?_
            refine go_goto (pc' := 0) (tgt := 60) dX4_locateInPolygon_56 (by decide) ?_
            exact t_X4_locateInPolygon_60 @ih R g0 hf
        · have hf := ie c110 hf
          refine go_iconst (v := 0) (pc' := 41) dX4_locateInPolygon_40 rfl (by decide) ?_
          obtain rfl := Option.some.inj hf
          exact Go.ret (v := some (.int _)) dX4_locateInPolygon_41 ⟨_, rfl⟩ ⟨rfl, rfl, R⟩
      · have hf := ie c104 hf
        refine go_goto (pc' := 0) (tgt := 118) dX4_locateInPolygon_26 (by decide) ?_
        exact t_X4_locateInPolygon_118 @ih R g0 hf
def f_X4_locateInPolygon (n : Nat) (a0 : Nat) (x1 : Int32) (x2 : Int32) (σ : xσ) : Option (Int32 × xσ) := gd (okS n a0) (l_X4_locateInPolygon_5 n xFU a0 x1 x2 0 0 σ)
set_option maxRecDepth 100000 in
set_option maxHeartbeats 4000000 in
theorem c_X4_locateInPolygon {G : xG} {n : Nat} {σ : xσ} {h : xH} {a0 : Nat} {x1 : Int32} {x2 : Int32} {v1 : Int32} {σ1 : xσ} (R : Rl n σ h) (hf : f_X4_locateInPolygon n a0 x1 x2 σ = some (v1, σ1)) : Ca G mX4_locateInPolygon [.ref a0, .int x1, .int x2] h (fun v h' => v = some (.int v1) ∧ Rl n σ1 h') := by
  refine Ca.of rfl (Nat.le_of_ble_eq_true rfl) ?_
  generalize hr : (v1, σ1) = r at hf
  suffices q : Go G mX4_locateInPolygon 0 (xent (xMl mX4_locateInPolygon) [.ref a0, .int x1, .int x2]) [] h (fun v h' => xRok (xRt mX4_locateInPolygon) v ∧ v = some (.int r.1) ∧ Rl n r.2 h') by
    subst hr
    exact q
  clear hr
  rw [f_X4_locateInPolygon] at hf
  obtain ⟨g0, hf⟩ := gd_some hf
  refine go_iconst (v := 0) (pc' := 1) dX4_locateInPolygon_0 rfl (by decide) ?_
  refine go_istore_nE rfl (i := 3) (pc' := 2) dX4_locateInPolygon_1 rfl rfl (by decide) rfl ?_
  refine go_iconst (v := 0) (pc' := 3) dX4_locateInPolygon_2 rfl (by decide) ?_
  refine go_istoreE rfl (pc' := 5) dX4_locateInPolygon_3 rfl (by decide) rfl ?_
  exact t_X4_locateInPolygon_5 xFU R g0 hf
def f_X4_locate (n : Nat) (a0 : Nat) (x1 : Int32) (x2 : Int32) (σ : xσ) : Option (Int32 × xσ) := gd (okS n a0) (if x1 < (sI σ a0 4) then some ((-1), σ) else if (sI σ a0 6) < x1 then some ((-1), σ) else if x2 < (sI σ a0 5) then some ((-1), σ) else if x2 ≤ (sI σ a0 7) then if (sI σ a0 0) = 0 then some (1, σ) else if (sI σ a0 0) = 1 then bd (f_X4_locateOnLine n a0 x1 x2 σ) (fun v112 σ113 => some (v112, σ113)) else bd (f_X4_locateInPolygon n a0 x1 x2 σ) (fun v107 σ108 => some (v107, σ108)) else some ((-1), σ))
set_option maxRecDepth 100000 in
set_option maxHeartbeats 4000000 in
theorem c_X4_locate {G : xG} {n : Nat} {σ : xσ} {h : xH} {a0 : Nat} {x1 : Int32} {x2 : Int32} {v1 : Int32} {σ1 : xσ} (R : Rl n σ h) (hf : f_X4_locate n a0 x1 x2 σ = some (v1, σ1)) : Ca G mX4_locate [.ref a0, .int x1, .int x2] h (fun v h' => v = some (.int v1) ∧ Rl n σ1 h') := by
  refine Ca.of rfl (Nat.le_of_ble_eq_true rfl) ?_
  generalize hr : (v1, σ1) = r at hf
  suffices q : Go G mX4_locate 0 (xent (xMl mX4_locate) [.ref a0, .int x1, .int x2]) [] h (fun v h' => xRok (xRt mX4_locate) v ∧ v = some (.int r.1) ∧ Rl n r.2 h') by
    subst hr
    exact q
  clear hr
  rw [f_X4_locate] at hf
  obtain ⟨g0, hf⟩ := gd_some hf
  refine go_iload_n (i := 1) (pc' := 1) dX4_locate_0 rfl rfl rfl ?_
  refine go_aload_n (i := 0) (pc' := 2) dX4_locate_1 rfl rfl rfl ?_
  refine go_getS (pc' := 5) dX4_locate_2 rfl gf_LandBase_Plane_28 R g0.at (by decide) rfl ?_
  refine go_icmp_lt (pc' := 8) (tgt := 32) dX4_locate_5 (by decide) rfl (fun c101 => ?_) (fun c101 => ?_)
  · have hf := it c101 hf
    refine go_iconst (v := (-1)) (pc' := 33) dX4_locate_32 rfl (by decide) ?_
    obtain rfl := Option.some.inj hf
    exact Go.ret (v := some (.int _)) dX4_locate_33 ⟨_, rfl⟩ ⟨rfl, rfl, R⟩
  · have hf := ie c101 hf
    refine go_iload_n (i := 1) (pc' := 9) dX4_locate_8 rfl rfl rfl ?_
    refine go_aload_n (i := 0) (pc' := 10) dX4_locate_9 rfl rfl rfl ?_
    refine go_getS (pc' := 13) dX4_locate_10 rfl gf_LandBase_Plane_32 R g0.at (by decide) rfl ?_
    refine go_icmp_gt (pc' := 16) (tgt := 32) dX4_locate_13 (by decide) rfl (fun c102 => ?_) (fun c102 => ?_)
    · have hf := it c102 hf
      refine go_iconst (v := (-1)) (pc' := 33) dX4_locate_32 rfl (by decide) ?_
      obtain rfl := Option.some.inj hf
      exact Go.ret (v := some (.int _)) dX4_locate_33 ⟨_, rfl⟩ ⟨rfl, rfl, R⟩
    · have hf := ie c102 hf
      refine go_iload_n (i := 2) (pc' := 17) dX4_locate_16 rfl rfl rfl ?_
      refine go_aload_n (i := 0) (pc' := 18) dX4_locate_17 rfl rfl rfl ?_
      refine go_getS (pc' := 21) dX4_locate_18 rfl gf_LandBase_Plane_35 R g0.at (by decide) rfl ?_
      refine go_icmp_lt (pc' := 24) (tgt := 32) dX4_locate_21 (by decide) rfl (fun c103 => ?_) (fun c103 => ?_)
      · have hf := it c103 hf
        refine go_iconst (v := (-1)) (pc' := 33) dX4_locate_32 rfl (by decide) ?_
        obtain rfl := Option.some.inj hf
        exact Go.ret (v := some (.int _)) dX4_locate_33 ⟨_, rfl⟩ ⟨rfl, rfl, R⟩
      · have hf := ie c103 hf
        refine go_iload_n (i := 2) (pc' := 25) dX4_locate_24 rfl rfl rfl ?_
        refine go_aload_n (i := 0) (pc' := 26) dX4_locate_25 rfl rfl rfl ?_
        refine go_getS (pc' := 29) dX4_locate_26 rfl gf_LandBase_Plane_38 R g0.at (by decide) rfl ?_
        refine go_icmp_le (pc' := 32) (tgt := 34) dX4_locate_29 (by decide) rfl (fun c104 => ?_) (fun c104 => ?_)
        · have hf := it c104 hf
          refine go_aload_n (i := 0) (pc' := 35) dX4_locate_34 rfl rfl rfl ?_
          refine go_getS (pc' := 38) dX4_locate_35 rfl gf_LandBase_Plane_41 R g0.at (by decide) rfl ?_
          refine go_if_ne (pc' := 41) (tgt := 43) dX4_locate_38 (by decide) rfl (fun c105 => ?_) (fun c105 => ?_)
          · have hf := ie c105 hf
            refine go_aload_n (i := 0) (pc' := 44) dX4_locate_43 rfl rfl rfl ?_
            refine go_getS (pc' := 47) dX4_locate_44 rfl gf_LandBase_Plane_41 R g0.at (by decide) rfl ?_
            refine go_iconst (v := 1) (pc' := 48) dX4_locate_47 rfl (by decide) ?_
            refine go_icmp_ne (pc' := 51) (tgt := 60) dX4_locate_48 (by decide) rfl (fun c106 => ?_) (fun c106 => ?_)
            · have hf := ie c106 hf
              refine go_aload_n (i := 0) (pc' := 61) dX4_locate_60 rfl rfl rfl ?_
              refine go_iload_n (i := 1) (pc' := 62) dX4_locate_61 rfl rfl rfl ?_
              refine go_iload_n (i := 2) (pc' := 63) dX4_locate_62 rfl rfl rfl ?_
              obtain ⟨v107, σ108, e109, hf⟩ := bd_some hf
              refine go_invS (As := [_, _, _]) (pc' := 66) dX4_locate_63 rfl cf_X4_locate_48 rfl rfl (Nat.le_of_ble_eq_true rfl) (c_X4_locateInPolygon R e109) (fun q110v h111 q110 => ?_)
              obtain ⟨rfl, R⟩ := q110
              obtain rfl := Option.some.inj hf
              exact Go.ret (v := some (.int _)) dX4_locate_66 ⟨_, rfl⟩ ⟨rfl, rfl, R⟩
            · have hf := it c106 hf
              refine go_aload_n (i := 0) (pc' := 52) dX4_locate_51 rfl rfl rfl ?_
              refine go_iload_n (i := 1) (pc' := 53) dX4_locate_52 rfl rfl rfl ?_
              refine go_iload_n (i := 2) (pc' := 54) dX4_locate_53 rfl rfl rfl ?_
              obtain ⟨v112, σ113, e114, hf⟩ := bd_some hf
              refine go_invS (As := [_, _, _]) (pc' := 57) dX4_locate_54 rfl cf_X4_locate_44 rfl rfl (Nat.le_of_ble_eq_true rfl) (c_X4_locateOnLine R e114) (fun q115v h116 q115 => ?_)
              obtain ⟨rfl, R⟩ := q115
              refine go_goto (pc' := 0) (tgt := 66) dX4_locate_57 (by decide) ?_
              obtain rfl := Option.some.inj hf
              exact Go.ret (v := some (.int _)) dX4_locate_66 ⟨_, rfl⟩ ⟨rfl, rfl, R⟩
          · have hf := it c105 hf
            refine go_iconst (v := 1) (pc' := 42) dX4_locate_41 rfl (by decide) ?_
            obtain rfl := Option.some.inj hf
            exact Go.ret (v := some (.int _)) dX4_locate_42 ⟨_, rfl⟩ ⟨rfl, rfl, R⟩
        · have hf := ie c104 hf
          refine go_iconst (v := (-1)) (pc' := 33) dX4_locate_32 rfl (by decide) ?_
          obtain rfl := Option.some.inj hf
          exact Go.ret (v := some (.int _)) dX4_locate_33 ⟨_, rfl⟩ ⟨rfl, rfl, R⟩
def b_X2_compareParts_145 (n : Nat) (x19 : Int32) (σ : xσ) : Option (Int32 × xσ) := some (x19, σ)
set_option maxRecDepth 100000 in
set_option maxHeartbeats 4000000 in
theorem t_X2_compareParts_145 {G : xG} {n : Nat} {x19 : Int32} {σ : xσ} {h : xH} {r : Int32 × xσ} {d0 : Option Value} {d1 : Option Value} {d2 : Option Value} {d3 : Option Value} {d4 : Option Value} {d5 : Option Value} {d6 : Option Value} {d7 : Option Value} {d8 : Option Value} {d9 : Option Value} {d10 : Option Value} {d11 : Option Value} {d12 : Option Value} {d13 : Option Value} {d14 : Option Value} {d15 : Option Value} {d16 : Option Value} {d17 : Option Value} {d18 : Option Value} : Rl n σ h → b_X2_compareParts_145 n x19 σ = some r → Go G mX2_compareParts 145 [d0, d1, d2, d3, d4, d5, d6, d7, d8, d9, d10, d11, d12, d13, d14, d15, d16, d17, d18, some (.int x19)] [] h (fun v h' => xRok (xRt mX2_compareParts) v ∧ v = some (.int r.1) ∧ Rl n r.2 h') := by
  intro R hf
  rw [b_X2_compareParts_145] at hf
  refine go_iload (pc' := 147) dX2_compareParts_145 rfl rfl ?_
  obtain rfl := Option.some.inj hf
  exact Go.ret (v := some (.int _)) dX2_compareParts_147 ⟨_, rfl⟩ ⟨rfl, rfl, R⟩
def b_X2_compareParts_122 (n : Nat) (a0 : Nat) (l3 : Int64) (l5 : Int64) (x19 : Int32) (σ : xσ) : Option (Int32 × xσ) := if x19 = 0 then bd (f_X4_compareBits n ((sJ σ a0 1) * l5) (l3 * (sJ σ a0 2)) σ) (fun v102 σ103 => b_X2_compareParts_145 n v102 σ103) else some (x19, σ)
set_option maxRecDepth 100000 in
set_option maxHeartbeats 4000000 in
theorem t_X2_compareParts_122 {G : xG} {n : Nat} {a0 : Nat} {l3 : Int64} {l5 : Int64} {x19 : Int32} {σ : xσ} {h : xH} {r : Int32 × xσ} {d1 : Option Value} {d2 : Option Value} {d7 : Option Value} {d8 : Option Value} {d9 : Option Value} {d10 : Option Value} {d11 : Option Value} {d12 : Option Value} {d13 : Option Value} {d14 : Option Value} {d15 : Option Value} {d16 : Option Value} {d17 : Option Value} {d18 : Option Value} : Rl n σ h → okD a0 → b_X2_compareParts_122 n a0 l3 l5 x19 σ = some r → Go G mX2_compareParts 122 [some (.ref a0), d1, d2, some (.long l3), none, some (.long l5), none, d7, d8, d9, d10, d11, d12, d13, d14, d15, d16, d17, d18, some (.int x19)] [] h (fun v h' => xRok (xRt mX2_compareParts) v ∧ v = some (.int r.1) ∧ Rl n r.2 h') := by
  intro R g0 hf
  rw [b_X2_compareParts_122] at hf
  refine go_iload (pc' := 124) dX2_compareParts_122 rfl rfl ?_
  refine go_if_ne (pc' := 127) (tgt := 145) dX2_compareParts_124 (by decide) rfl (fun c101 => ?_) (fun c101 => ?_)
  · have hf := ie c101 hf
    refine go_iload (pc' := 147) dX2_compareParts_145 rfl rfl ?_
    obtain rfl := Option.some.inj hf
    exact Go.ret (v := some (.int _)) dX2_compareParts_147 ⟨_, rfl⟩ ⟨rfl, rfl, R⟩
  · have hf := it c101 hf
    refine go_aload_n (i := 0) (pc' := 128) dX2_compareParts_127 rfl rfl rfl ?_
    refine go_getS (pc' := 131) dX2_compareParts_128 rfl gf_LandBase_Distance_60 R (g0.at R) (by decide) rfl ?_
    refine go_lload (pc' := 133) dX2_compareParts_131 rfl rfl ?_
    refine go_lmul (pc' := 134) dX2_compareParts_133 rfl ?_
    refine go_lload_n (i := 3) (pc' := 135) dX2_compareParts_134 rfl rfl rfl ?_
    refine go_aload_n (i := 0) (pc' := 136) dX2_compareParts_135 rfl rfl rfl ?_
    refine go_getS (pc' := 139) dX2_compareParts_136 rfl gf_LandBase_Distance_9 R (g0.at R) (by decide) rfl ?_
    refine go_lmul (pc' := 140) dX2_compareParts_139 rfl ?_
    obtain ⟨v102, σ103, e104, hf⟩ := bd_some hf
    refine go_invS (As := [_, _]) (pc' := 143) dX2_compareParts_140 rfl cf_X2_compareParts_63 rfl rfl (Nat.le_of_ble_eq_true rfl) (c_X4_compareBits R e104) (fun q105v h106 q105 => ?_)
    obtain ⟨rfl, R⟩ := q105
    refine go_istoreE rfl (pc' := 145) dX2_compareParts_143 rfl (by decide) rfl ?_
    exact t_X2_compareParts_145 R hf
def b_X2_compareParts_95 (n : Nat) (a0 : Nat) (l3 : Int64) (l5 : Int64) (l9 : Int64) (l11 : Int64) (l15 : Int64) (xs0 : Int32) (ls1 : Int64) (σ : xσ) : Option (Int32 × xσ) := st (ls1 + (xs0.toInt64)) (fun l101 => bd (f_X4_compareBits n l11 l101 σ) (fun v103 σ104 => if v103 = 0 then bd (f_X4_compareBits n l9 l15 σ104) (fun v115 σ116 => b_X2_compareParts_122 n a0 l3 l5 v115 σ116) else if v103 = 0 then bd (f_X4_compareBits n ((sJ σ104 a0 1) * l5) (l3 * (sJ σ104 a0 2)) σ104) (fun v110 σ111 => b_X2_compareParts_145 n v110 σ111) else some (v103, σ104)))
set_option maxRecDepth 100000 in
set_option maxHeartbeats 4000000 in
theorem t_X2_compareParts_95 {G : xG} {n : Nat} {a0 : Nat} {l3 : Int64} {l5 : Int64} {l9 : Int64} {l11 : Int64} {l15 : Int64} {xs0 : Int32} {ls1 : Int64} {σ : xσ} {h : xH} {r : Int32 × xσ} {d1 : Option Value} {d2 : Option Value} {d7 : Option Value} {d8 : Option Value} {d13 : Option Value} {d14 : Option Value} {d17 : Option Value} {d18 : Option Value} {d19 : Option Value} : Rl n σ h → okD a0 → b_X2_compareParts_95 n a0 l3 l5 l9 l11 l15 xs0 ls1 σ = some r → Go G mX2_compareParts 95 [some (.ref a0), d1, d2, some (.long l3), none, some (.long l5), none, d7, d8, some (.long l9), none, some (.long l11), none, d13, d14, some (.long l15), none, d17, d18, d19] [.int xs0, .long ls1] h (fun v h' => xRok (xRt mX2_compareParts) v ∧ v = some (.int r.1) ∧ Rl n r.2 h') := by
  intro R g0 hf
  rw [b_X2_compareParts_95] at hf
  refine go_i2l (pc' := 96) dX2_compareParts_95 rfl rfl ?_
  refine go_ladd (pc' := 97) dX2_compareParts_96 rfl ?_
  obtain ⟨l101, e102, hf⟩ := st_some hf
  refine go_lstoreE e102 (pc' := 99) dX2_compareParts_97 rfl (by decide) rfl ?_
  refine go_lload (pc' := 101) dX2_compareParts_99 rfl rfl ?_
  refine go_lload (pc' := 103) dX2_compareParts_101 rfl rfl ?_
  obtain ⟨v103, σ104, e105, hf⟩ := bd_some hf
  refine go_invS (As := [_, _]) (pc' := 106) dX2_compareParts_103 rfl cf_X2_compareParts_63 rfl rfl (Nat.le_of_ble_eq_true rfl) (c_X4_compareBits R e105) (fun q106v h107 q106 => ?_)
  obtain ⟨rfl, R⟩ := q106
  refine go_istoreE rfl (pc' := 108) dX2_compareParts_106 rfl (by decide) rfl ?_
  refine go_iload (pc' := 110) dX2_compareParts_108 rfl rfl ?_
  refine go_if_ne (pc' := 113) (tgt := 122) dX2_compareParts_110 (by decide) rfl (fun c108 => ?_) (fun c108 => ?_)
  · have hf := ie c108 hf
    refine go_iload (pc' := 124) dX2_compareParts_122 rfl rfl ?_
    refine go_if_ne (pc' := 127) (tgt := 145) dX2_compareParts_124 (by decide) rfl (fun c109 => ?_) (fun c109 => ?_)
    · have hf := ie c109 hf
      refine go_iload (pc' := 147) dX2_compareParts_145 rfl rfl ?_
      obtain rfl := Option.some.inj hf
      exact Go.ret (v := some (.int _)) dX2_compareParts_147 ⟨_, rfl⟩ ⟨rfl, rfl, R⟩
    · have hf := it c109 hf
      refine go_aload_n (i := 0) (pc' := 128) dX2_compareParts_127 rfl rfl rfl ?_
      refine go_getS (pc' := 131) dX2_compareParts_128 rfl gf_LandBase_Distance_60 R (g0.at R) (by decide) rfl ?_
      refine go_lload (pc' := 133) dX2_compareParts_131 rfl rfl ?_
      refine go_lmul (pc' := 134) dX2_compareParts_133 rfl ?_
      refine go_lload_n (i := 3) (pc' := 135) dX2_compareParts_134 rfl rfl rfl ?_
      refine go_aload_n (i := 0) (pc' := 136) dX2_compareParts_135 rfl rfl rfl ?_
      refine go_getS (pc' := 139) dX2_compareParts_136 rfl gf_LandBase_Distance_9 R (g0.at R) (by decide) rfl ?_
      refine go_lmul (pc' := 140) dX2_compareParts_139 rfl ?_
      obtain ⟨v110, σ111, e112, hf⟩ := bd_some hf
      refine go_invS (As := [_, _]) (pc' := 143) dX2_compareParts_140 rfl cf_X2_compareParts_63 rfl rfl (Nat.le_of_ble_eq_true rfl) (c_X4_compareBits R e112) (fun q113v h114 q113 => ?_)
      obtain ⟨rfl, R⟩ := q113
      refine go_istoreE rfl (pc' := 145) dX2_compareParts_143 rfl (by decide) rfl ?_
      exact t_X2_compareParts_145 R hf
  · have hf := it c108 hf
    refine go_lload (pc' := 115) dX2_compareParts_113 rfl rfl ?_
    refine go_lload (pc' := 117) dX2_compareParts_115 rfl rfl ?_
    obtain ⟨v115, σ116, e117, hf⟩ := bd_some hf
    refine go_invS (As := [_, _]) (pc' := 120) dX2_compareParts_117 rfl cf_X2_compareParts_63 rfl rfl (Nat.le_of_ble_eq_true rfl) (c_X4_compareBits R e117) (fun q118v h119 q118 => ?_)
    obtain ⟨rfl, R⟩ := q118
    refine go_istoreE rfl (pc' := 122) dX2_compareParts_120 rfl (by decide) rfl ?_
    exact t_X2_compareParts_122 R g0 hf
def b_X2_compareParts_47 (n : Nat) (a0 : Nat) (l1 : Int64) (l3 : Int64) (l5 : Int64) (l9 : Int64) (xs0 : Int32) (ls1 : Int64) (σ : xσ) : Option (Int32 × xσ) := st (ls1 + (xs0.toInt64)) (fun l101 => bd (f_X4_upperProduct n l3 (sJ σ a0 2) σ) (fun v103 σ104 => st ((l1 * (sJ σ104 a0 2)) + v103) (fun l108 => bd (f_X4_upperProduct n l1 (sJ σ104 a0 2) σ104) (fun v110 σ111 => bd (f_X4_compareBits n l108 v103 σ111) (fun v115 σ116 => if 0 ≤ v115 then b_X2_compareParts_95 n a0 l3 l5 l9 l101 l108 0 v110 σ116 else b_X2_compareParts_95 n a0 l3 l5 l9 l101 l108 1 v110 σ116)))))
set_option maxRecDepth 100000 in
set_option maxHeartbeats 4000000 in
theorem t_X2_compareParts_47 {G : xG} {n : Nat} {a0 : Nat} {l1 : Int64} {l3 : Int64} {l5 : Int64} {l9 : Int64} {xs0 : Int32} {ls1 : Int64} {σ : xσ} {h : xH} {r : Int32 × xσ} {d7 : Option Value} {d8 : Option Value} {d11 : Option Value} {d12 : Option Value} {d13 : Option Value} {d14 : Option Value} {d15 : Option Value} {d16 : Option Value} {d17 : Option Value} {d18 : Option Value} {d19 : Option Value} : Rl n σ h → okD a0 → b_X2_compareParts_47 n a0 l1 l3 l5 l9 xs0 ls1 σ = some r → Go G mX2_compareParts 47 [some (.ref a0), some (.long l1), none, some (.long l3), none, some (.long l5), none, d7, d8, some (.long l9), none, d11, d12, d13, d14, d15, d16, d17, d18, d19] [.int xs0, .long ls1] h (fun v h' => xRok (xRt mX2_compareParts) v ∧ v = some (.int r.1) ∧ Rl n r.2 h') := by
  intro R g0 hf
  rw [b_X2_compareParts_47] at hf
  refine go_i2l (pc' := 48) dX2_compareParts_47 rfl rfl ?_
  refine go_ladd (pc' := 49) dX2_compareParts_48 rfl ?_
  obtain ⟨l101, e102, hf⟩ := st_some hf
  refine go_lstoreE e102 (pc' := 51) dX2_compareParts_49 rfl (by decide) rfl ?_
  refine go_lload_n (i := 3) (pc' := 52) dX2_compareParts_51 rfl rfl rfl ?_
  refine go_aload_n (i := 0) (pc' := 53) dX2_compareParts_52 rfl rfl rfl ?_
  refine go_getS (pc' := 56) dX2_compareParts_53 rfl gf_LandBase_Distance_9 R (g0.at R) (by decide) rfl ?_
  obtain ⟨v103, σ104, e105, hf⟩ := bd_some hf
  refine go_invS (As := [_, _]) (pc' := 59) dX2_compareParts_56 rfl cf_X2_compareParts_53 rfl rfl (Nat.le_of_ble_eq_true rfl) (c_X4_upperProduct R e105) (fun q106v h107 q106 => ?_)
  obtain ⟨rfl, R⟩ := q106
  refine go_lstoreE rfl (pc' := 61) dX2_compareParts_59 rfl (by decide) rfl ?_
  refine go_lload_n (i := 1) (pc' := 62) dX2_compareParts_61 rfl rfl rfl ?_
  refine go_aload_n (i := 0) (pc' := 63) dX2_compareParts_62 rfl rfl rfl ?_
  refine go_getS (pc' := 66) dX2_compareParts_63 rfl gf_LandBase_Distance_9 R (g0.at R) (by decide) rfl ?_
  refine go_lmul (pc' := 67) dX2_compareParts_66 rfl ?_
  refine go_lload (pc' := 69) dX2_compareParts_67 rfl rfl ?_
  refine go_ladd (pc' := 70) dX2_compareParts_69 rfl ?_
  obtain ⟨l108, e109, hf⟩ := st_some hf
  refine go_lstoreE e109 (pc' := 72) dX2_compareParts_70 rfl (by decide) rfl ?_
  refine go_lload_n (i := 1) (pc' := 73) dX2_compareParts_72 rfl rfl rfl ?_
  refine go_aload_n (i := 0) (pc' := 74) dX2_compareParts_73 rfl rfl rfl ?_
  refine go_getS (pc' := 77) dX2_compareParts_74 rfl gf_LandBase_Distance_9 R (g0.at R) (by decide) rfl ?_
  obtain ⟨v110, σ111, e112, hf⟩ := bd_some hf
  refine go_invS (As := [_, _]) (pc' := 80) dX2_compareParts_77 rfl cf_X2_compareParts_53 rfl rfl (Nat.le_of_ble_eq_true rfl) (c_X4_upperProduct R e112) (fun q113v h114 q113 => ?_)
  obtain ⟨rfl, R⟩ := q113
  refine go_lload (pc' := 82) dX2_compareParts_80 rfl rfl ?_
  refine go_lload (pc' := 84) dX2_compareParts_82 rfl rfl ?_
  obtain ⟨v115, σ116, e117, hf⟩ := bd_some hf
  refine go_invS (As := [_, _]) (pc' := 87) dX2_compareParts_84 rfl cf_X2_compareParts_63 rfl rfl (Nat.le_of_ble_eq_true rfl) (c_X4_compareBits R e117) (fun q118v h119 q118 => ?_)
  obtain ⟨rfl, R⟩ := q118
  refine go_if_ge (pc' := 90) (tgt := 94) dX2_compareParts_87 (by decide) rfl (fun c120 => ?_) (fun c120 => ?_)
  · have hf := it c120 hf
    refine go_iconst (v := 0) (pc' := 95) dX2_compareParts_94 rfl (by decide) ?_
    exact t_X2_compareParts_95 R g0 hf
  · have hf := ie c120 hf
    refine go_iconst (v := 1) (pc' := 91) dX2_compareParts_90 rfl (by decide) ?_
    refine go_goto (pc' := 0) (tgt := 95) dX2_compareParts_91 (by decide) ?_
    exact t_X2_compareParts_95 R g0 hf
def f_X2_compareParts (n : Nat) (a0 : Nat) (l1 : Int64) (l3 : Int64) (l5 : Int64) (σ : xσ) : Option (Int32 × xσ) := gd (okD a0) (bd (f_X4_upperProduct n (sJ σ a0 1) l5 σ) (fun v101 σ102 => st (((sJ σ102 a0 0) * l5) + v101) (fun l106 => bd (f_X4_upperProduct n (sJ σ102 a0 0) l5 σ102) (fun v108 σ109 => bd (f_X4_compareBits n l106 v101 σ109) (fun v113 σ114 => if 0 ≤ v113 then b_X2_compareParts_47 n a0 l1 l3 l5 l106 0 v108 σ114 else b_X2_compareParts_47 n a0 l1 l3 l5 l106 1 v108 σ114)))))
set_option maxRecDepth 100000 in
set_option maxHeartbeats 4000000 in
theorem c_X2_compareParts {G : xG} {n : Nat} {σ : xσ} {h : xH} {a0 : Nat} {l1 : Int64} {l3 : Int64} {l5 : Int64} {v1 : Int32} {σ1 : xσ} (R : Rl n σ h) (hf : f_X2_compareParts n a0 l1 l3 l5 σ = some (v1, σ1)) : Ca G mX2_compareParts [.ref a0, .long l1, .long l3, .long l5] h (fun v h' => v = some (.int v1) ∧ Rl n σ1 h') := by
  refine Ca.of rfl (Nat.le_of_ble_eq_true rfl) ?_
  generalize hr : (v1, σ1) = r at hf
  suffices q : Go G mX2_compareParts 0 (xent (xMl mX2_compareParts) [.ref a0, .long l1, .long l3, .long l5]) [] h (fun v h' => xRok (xRt mX2_compareParts) v ∧ v = some (.int r.1) ∧ Rl n r.2 h') by
    subst hr
    exact q
  clear hr
  rw [f_X2_compareParts] at hf
  obtain ⟨g0, hf⟩ := gd_some hf
  refine go_aload_n (i := 0) (pc' := 1) dX2_compareParts_0 rfl rfl rfl ?_
  refine go_getS (pc' := 4) dX2_compareParts_1 rfl gf_LandBase_Distance_60 R (g0.at R) (by decide) rfl ?_
  refine go_lload (pc' := 6) dX2_compareParts_4 rfl rfl ?_
  obtain ⟨v101, σ102, e103, hf⟩ := bd_some hf
  refine go_invS (As := [_, _]) (pc' := 9) dX2_compareParts_6 rfl cf_X2_compareParts_53 rfl rfl (Nat.le_of_ble_eq_true rfl) (c_X4_upperProduct R e103) (fun q104v h105 q104 => ?_)
  obtain ⟨rfl, R⟩ := q104
  refine go_lstoreE rfl (pc' := 11) dX2_compareParts_9 rfl (by decide) rfl ?_
  refine go_aload_n (i := 0) (pc' := 12) dX2_compareParts_11 rfl rfl rfl ?_
  refine go_getS (pc' := 15) dX2_compareParts_12 rfl gf_LandBase_Distance_57 R (g0.at R) (by decide) rfl ?_
  refine go_lload (pc' := 17) dX2_compareParts_15 rfl rfl ?_
  refine go_lmul (pc' := 18) dX2_compareParts_17 rfl ?_
  refine go_lload (pc' := 20) dX2_compareParts_18 rfl rfl ?_
  refine go_ladd (pc' := 21) dX2_compareParts_20 rfl ?_
  obtain ⟨l106, e107, hf⟩ := st_some hf
  refine go_lstoreE e107 (pc' := 23) dX2_compareParts_21 rfl (by decide) rfl ?_
  refine go_aload_n (i := 0) (pc' := 24) dX2_compareParts_23 rfl rfl rfl ?_
  refine go_getS (pc' := 27) dX2_compareParts_24 rfl gf_LandBase_Distance_57 R (g0.at R) (by decide) rfl ?_
  refine go_lload (pc' := 29) dX2_compareParts_27 rfl rfl ?_
  obtain ⟨v108, σ109, e110, hf⟩ := bd_some hf
  refine go_invS (As := [_, _]) (pc' := 32) dX2_compareParts_29 rfl cf_X2_compareParts_53 rfl rfl (Nat.le_of_ble_eq_true rfl) (c_X4_upperProduct R e110) (fun q111v h112 q111 => ?_)
  obtain ⟨rfl, R⟩ := q111
  refine go_lload (pc' := 34) dX2_compareParts_32 rfl rfl ?_
  refine go_lload (pc' := 36) dX2_compareParts_34 rfl rfl ?_
  obtain ⟨v113, σ114, e115, hf⟩ := bd_some hf
  refine go_invS (As := [_, _]) (pc' := 39) dX2_compareParts_36 rfl cf_X2_compareParts_63 rfl rfl (Nat.le_of_ble_eq_true rfl) (c_X4_compareBits R e115) (fun q116v h117 q116 => ?_)
  obtain ⟨rfl, R⟩ := q116
  refine go_if_ge (pc' := 42) (tgt := 46) dX2_compareParts_39 (by decide) rfl (fun c118 => ?_) (fun c118 => ?_)
  · have hf := it c118 hf
    refine go_iconst (v := 0) (pc' := 47) dX2_compareParts_46 rfl (by decide) ?_
    exact t_X2_compareParts_47 R g0 hf
  · have hf := ie c118 hf
    refine go_iconst (v := 1) (pc' := 43) dX2_compareParts_42 rfl (by decide) ?_
    refine go_goto (pc' := 0) (tgt := 47) dX2_compareParts_43 (by decide) ?_
    exact t_X2_compareParts_47 R g0 hf
def b_X2_measureFoot_103 (n : Nat) (a0 : Nat) (l11 : Int64) (l15 : Int64) (σ : xσ) : Option (Unit × xσ) := bd (f_X4_upperProduct n l15 l15 σ) (fun v101 σ102 => bd (f_X2_compareParts n a0 v101 (l15 * l15) l11 σ102) (fun v106 σ107 => if v106 ≤ 0 then some ((), σ107) else bd (f_X2_keep n a0 v101 (l15 * l15) l11 σ107) (fun v112 σ113 => some ((), σ113))))
set_option maxRecDepth 100000 in
set_option maxHeartbeats 4000000 in
theorem t_X2_measureFoot_103 {G : xG} {n : Nat} {a0 : Nat} {l11 : Int64} {l15 : Int64} {σ : xσ} {h : xH} {r : Unit × xσ} {d1 : Option Value} {d2 : Option Value} {d3 : Option Value} {d4 : Option Value} {d5 : Option Value} {d6 : Option Value} {d7 : Option Value} {d8 : Option Value} {d9 : Option Value} {d10 : Option Value} {d13 : Option Value} {d14 : Option Value} {d17 : Option Value} {d18 : Option Value} : Rl n σ h → okD a0 → b_X2_measureFoot_103 n a0 l11 l15 σ = some r → Go G mX2_measureFoot 103 [some (.ref a0), d1, d2, d3, d4, d5, d6, d7, d8, d9, d10, some (.long l11), none, d13, d14, some (.long l15), none, d17, d18] [] h (fun v h' => xRok (xRt mX2_measureFoot) v ∧ v = none ∧ Rl n r.2 h') := by
  intro R g0 hf
  rw [b_X2_measureFoot_103] at hf
  refine go_lload (pc' := 105) dX2_measureFoot_103 rfl rfl ?_
  refine go_lload (pc' := 107) dX2_measureFoot_105 rfl rfl ?_
  obtain ⟨v101, σ102, e103, hf⟩ := bd_some hf
  refine go_invS (As := [_, _]) (pc' := 110) dX2_measureFoot_107 rfl cf_X2_measureFoot_53 rfl rfl (Nat.le_of_ble_eq_true rfl) (c_X4_upperProduct R e103) (fun q104v h105 q104 => ?_)
  obtain ⟨rfl, R⟩ := q104
  refine go_lstoreE rfl (pc' := 112) dX2_measureFoot_110 rfl (by decide) rfl ?_
  refine go_aload_n (i := 0) (pc' := 113) dX2_measureFoot_112 rfl rfl rfl ?_
  refine go_lload (pc' := 115) dX2_measureFoot_113 rfl rfl ?_
  refine go_lload (pc' := 117) dX2_measureFoot_115 rfl rfl ?_
  refine go_lload (pc' := 119) dX2_measureFoot_117 rfl rfl ?_
  refine go_lmul (pc' := 120) dX2_measureFoot_119 rfl ?_
  refine go_lload (pc' := 122) dX2_measureFoot_120 rfl rfl ?_
  obtain ⟨v106, σ107, e108, hf⟩ := bd_some hf
  refine go_invV (As := [_, _, _]) (pc' := 125) dX2_measureFoot_122 rfl cf_X2_measureFoot_41 rfl (R.ob (g0.at R)) rfl rfl (Nat.le_of_ble_eq_true rfl) (c_X2_compareParts R e108) (fun q109v h110 q109 => ?_)
  obtain ⟨rfl, R⟩ := q109
  refine go_if_le (pc' := 128) (tgt := 141) dX2_measureFoot_125 (by decide) rfl (fun c111 => ?_) (fun c111 => ?_)
  · have hf := it c111 hf
    obtain rfl := Option.some.inj hf
    exact Go.ret (v := none) dX2_measureFoot_141 rfl ⟨trivial, rfl, R⟩
  · have hf := ie c111 hf
    refine go_aload_n (i := 0) (pc' := 129) dX2_measureFoot_128 rfl rfl rfl ?_
    refine go_lload (pc' := 131) dX2_measureFoot_129 rfl rfl ?_
    refine go_lload (pc' := 133) dX2_measureFoot_131 rfl rfl ?_
    refine go_lload (pc' := 135) dX2_measureFoot_133 rfl rfl ?_
    refine go_lmul (pc' := 136) dX2_measureFoot_135 rfl ?_
    refine go_lload (pc' := 138) dX2_measureFoot_136 rfl rfl ?_
    obtain ⟨v112, σ113, e114, hf⟩ := bd_some hf
    refine go_invV (As := [_, _, _]) (pc' := 141) dX2_measureFoot_138 rfl cf_X2_measureFoot_15 rfl (R.ob (g0.at R)) rfl rfl (Nat.le_of_ble_eq_true rfl) (c_X2_keep R e114) (fun q115v h116 q115 => ?_)
    obtain ⟨rfl, R⟩ := q115
    obtain rfl := Option.some.inj hf
    exact Go.ret (v := none) dX2_measureFoot_141 rfl ⟨trivial, rfl, R⟩
def f_X2_measureFoot (n : Nat) (a0 : Nat) (a1 : Nat) (x2 : Int32) (l3 : Int64) (l5 : Int64) (σ : xσ) : Option (Unit × xσ) := gd (okD a0) (gd (okS n a1) (gd (inb (x2 + 1) 40) (gd (inb x2 40) (st (((sI σ (a1 + 1) (x2 + 1).toNatClampNeg).toInt64) - ((sI σ (a1 + 1) x2.toNatClampNeg).toInt64)) (fun l103 => gd (inb (x2 + 1) 40) (gd (inb x2 40) (st (((sI σ (a1 + 2) (x2 + 1).toNatClampNeg).toInt64) - ((sI σ (a1 + 2) x2.toNatClampNeg).toInt64)) (fun l107 => st ((l103 * l103) + (l107 * l107)) (fun l109 => st ((l3 * l103) + (l5 * l107)) (fun l111 => if (lg_cmp l111 ((0 : Int64))) ≤ 0 then some ((), σ) else if (lg_cmp l111 l109) < 0 then st ((l103 * l5) - (l107 * l3)) (fun l115 => if 0 ≤ (lg_cmp l115 ((0 : Int64))) then bd (f_X4_upperProduct n l115 l115 σ) (fun v118 σ119 => bd (f_X2_compareParts n a0 v118 (l115 * l115) l109 σ119) (fun v123 σ124 => if v123 ≤ 0 then some ((), σ124) else bd (f_X2_keep n a0 v118 (l115 * l115) l109 σ124) (fun v129 σ130 => some ((), σ130)))) else st (-l115) (fun l134 => b_X2_measureFoot_103 n a0 l109 l134 σ)) else some ((), σ)))))))))))
set_option maxRecDepth 100000 in
set_option maxHeartbeats 4000000 in
theorem c_X2_measureFoot {G : xG} {n : Nat} {σ : xσ} {h : xH} {a0 : Nat} {a1 : Nat} {x2 : Int32} {l3 : Int64} {l5 : Int64} {v1 : Unit} {σ1 : xσ} (R : Rl n σ h) (hf : f_X2_measureFoot n a0 a1 x2 l3 l5 σ = some (v1, σ1)) : Ca G mX2_measureFoot [.ref a0, .ref a1, .int x2, .long l3, .long l5] h (fun v h' => v = none ∧ Rl n σ1 h') := by
  refine Ca.of rfl (Nat.le_of_ble_eq_true rfl) ?_
  generalize hr : (v1, σ1) = r at hf
  suffices q : Go G mX2_measureFoot 0 (xent (xMl mX2_measureFoot) [.ref a0, .ref a1, .int x2, .long l3, .long l5]) [] h (fun v h' => xRok (xRt mX2_measureFoot) v ∧ v = none ∧ Rl n r.2 h') by
    subst hr
    exact q
  clear hr
  rw [f_X2_measureFoot] at hf
  obtain ⟨g0, hf⟩ := gd_some hf
  obtain ⟨g1, hf⟩ := gd_some hf
  refine go_aload_n (i := 1) (pc' := 1) dX2_measureFoot_0 rfl rfl rfl ?_
  refine go_getS (pc' := 4) dX2_measureFoot_1 rfl gf_LandBase_Distance_34 R g1.at (by decide) rfl ?_
  refine go_iload_n (i := 2) (pc' := 5) dX2_measureFoot_4 rfl rfl rfl ?_
  refine go_iconst (v := 1) (pc' := 6) dX2_measureFoot_5 rfl (by decide) ?_
  refine go_iadd (pc' := 7) dX2_measureFoot_6 rfl ?_
  obtain ⟨g101, hf⟩ := gd_some hf
  refine go_ialoadS (pc' := 8) dX2_measureFoot_7 rfl R g1.x g101 ?_
  refine go_i2l (pc' := 9) dX2_measureFoot_8 rfl rfl ?_
  refine go_aload_n (i := 1) (pc' := 10) dX2_measureFoot_9 rfl rfl rfl ?_
  refine go_getS (pc' := 13) dX2_measureFoot_10 rfl gf_LandBase_Distance_34 R g1.at (by decide) rfl ?_
  refine go_iload_n (i := 2) (pc' := 14) dX2_measureFoot_13 rfl rfl rfl ?_
  obtain ⟨g102, hf⟩ := gd_some hf
  refine go_ialoadS (pc' := 15) dX2_measureFoot_14 rfl R g1.x g102 ?_
  refine go_i2l (pc' := 16) dX2_measureFoot_15 rfl rfl ?_
  refine go_lsub (pc' := 17) dX2_measureFoot_16 rfl ?_
  obtain ⟨l103, e104, hf⟩ := st_some hf
  refine go_lstoreE e104 (pc' := 19) dX2_measureFoot_17 rfl (by decide) rfl ?_
  refine go_aload_n (i := 1) (pc' := 20) dX2_measureFoot_19 rfl rfl rfl ?_
  refine go_getS (pc' := 23) dX2_measureFoot_20 rfl gf_LandBase_Distance_38 R g1.at (by decide) rfl ?_
  refine go_iload_n (i := 2) (pc' := 24) dX2_measureFoot_23 rfl rfl rfl ?_
  refine go_iconst (v := 1) (pc' := 25) dX2_measureFoot_24 rfl (by decide) ?_
  refine go_iadd (pc' := 26) dX2_measureFoot_25 rfl ?_
  obtain ⟨g105, hf⟩ := gd_some hf
  refine go_ialoadS (pc' := 27) dX2_measureFoot_26 rfl R g1.y g105 ?_
  refine go_i2l (pc' := 28) dX2_measureFoot_27 rfl rfl ?_
  refine go_aload_n (i := 1) (pc' := 29) dX2_measureFoot_28 rfl rfl rfl ?_
  refine go_getS (pc' := 32) dX2_measureFoot_29 rfl gf_LandBase_Distance_38 R g1.at (by decide) rfl ?_
  refine go_iload_n (i := 2) (pc' := 33) dX2_measureFoot_32 rfl rfl rfl ?_
  obtain ⟨g106, hf⟩ := gd_some hf
  refine go_ialoadS (pc' := 34) dX2_measureFoot_33 rfl R g1.y g106 ?_
  refine go_i2l (pc' := 35) dX2_measureFoot_34 rfl rfl ?_
  refine go_lsub (pc' := 36) dX2_measureFoot_35 rfl ?_
  obtain ⟨l107, e108, hf⟩ := st_some hf
  refine go_lstoreE e108 (pc' := 38) dX2_measureFoot_36 rfl (by decide) rfl ?_
  refine go_lload (pc' := 40) dX2_measureFoot_38 rfl rfl ?_
  refine go_lload (pc' := 42) dX2_measureFoot_40 rfl rfl ?_
  refine go_lmul (pc' := 43) dX2_measureFoot_42 rfl ?_
  refine go_lload (pc' := 45) dX2_measureFoot_43 rfl rfl ?_
  refine go_lload (pc' := 47) dX2_measureFoot_45 rfl rfl ?_
  refine go_lmul (pc' := 48) dX2_measureFoot_47 rfl ?_
  refine go_ladd (pc' := 49) dX2_measureFoot_48 rfl ?_
  obtain ⟨l109, e110, hf⟩ := st_some hf
  refine go_lstoreE e110 (pc' := 51) dX2_measureFoot_49 rfl (by decide) rfl ?_
  refine go_lload_n (i := 3) (pc' := 52) dX2_measureFoot_51 rfl rfl rfl ?_
  refine go_lload (pc' := 54) dX2_measureFoot_52 rfl rfl ?_
  refine go_lmul (pc' := 55) dX2_measureFoot_54 rfl ?_
  refine go_lload (pc' := 57) dX2_measureFoot_55 rfl rfl ?_
  refine go_lload (pc' := 59) dX2_measureFoot_57 rfl rfl ?_
  refine go_lmul (pc' := 60) dX2_measureFoot_59 rfl ?_
  refine go_ladd (pc' := 61) dX2_measureFoot_60 rfl ?_
  obtain ⟨l111, e112, hf⟩ := st_some hf
  refine go_lstoreE e112 (pc' := 63) dX2_measureFoot_61 rfl (by decide) rfl ?_
  refine go_lload (pc' := 65) dX2_measureFoot_63 rfl rfl ?_
  refine go_lconst (v := 0) (pc' := 66) dX2_measureFoot_65 rfl (by decide) ?_
  refine go_lcmp (pc' := 67) dX2_measureFoot_66 rfl ?_
  refine go_if_le (pc' := 70) (tgt := 78) dX2_measureFoot_67 (by decide) rfl (fun c113 => ?_) (fun c113 => ?_)
  · have hf := it c113 hf
    obtain rfl := Option.some.inj hf
    exact Go.ret (v := none) dX2_measureFoot_78 rfl ⟨trivial, rfl, R⟩
  · have hf := ie c113 hf
    refine go_lload (pc' := 72) dX2_measureFoot_70 rfl rfl ?_
    refine go_lload (pc' := 74) dX2_measureFoot_72 rfl rfl ?_
    refine go_lcmp (pc' := 75) dX2_measureFoot_74 rfl ?_
    refine go_if_lt (pc' := 78) (tgt := 79) dX2_measureFoot_75 (by decide) rfl (fun c114 => ?_) (fun c114 => ?_)
    · have hf := it c114 hf
      refine go_lload (pc' := 81) dX2_measureFoot_79 rfl rfl ?_
      refine go_lload (pc' := 83) dX2_measureFoot_81 rfl rfl ?_
      refine go_lmul (pc' := 84) dX2_measureFoot_83 rfl ?_
      refine go_lload (pc' := 86) dX2_measureFoot_84 rfl rfl ?_
      refine go_lload_n (i := 3) (pc' := 87) dX2_measureFoot_86 rfl rfl rfl ?_
      refine go_lmul (pc' := 88) dX2_measureFoot_87 rfl ?_
      refine go_lsub (pc' := 89) dX2_measureFoot_88 rfl ?_
      obtain ⟨l115, e116, hf⟩ := st_some hf
      refine go_lstoreE e116 (pc' := 91) dX2_measureFoot_89 rfl (by decide) rfl ?_
      refine go_lload (pc' := 93) dX2_measureFoot_91 rfl rfl ?_
      refine go_lconst (v := 0) (pc' := 94) dX2_measureFoot_93 rfl (by decide) ?_
      refine go_lcmp (pc' := 95) dX2_measureFoot_94 rfl ?_
      refine go_if_ge (pc' := 98) (tgt := 103) dX2_measureFoot_95 (by decide) rfl (fun c117 => ?_) (fun c117 => ?_)
      · have hf := it c117 hf
        refine go_lload (pc' := 105) dX2_measureFoot_103 rfl rfl ?_
        refine go_lload (pc' := 107) dX2_measureFoot_105 rfl rfl ?_
        obtain ⟨v118, σ119, e120, hf⟩ := bd_some hf
        refine go_invS (As := [_, _]) (pc' := 110) dX2_measureFoot_107 rfl cf_X2_measureFoot_53 rfl rfl (Nat.le_of_ble_eq_true rfl) (c_X4_upperProduct R e120) (fun q121v h122 q121 => ?_)
        obtain ⟨rfl, R⟩ := q121
        refine go_lstoreE rfl (pc' := 112) dX2_measureFoot_110 rfl (by decide) rfl ?_
        refine go_aload_n (i := 0) (pc' := 113) dX2_measureFoot_112 rfl rfl rfl ?_
        refine go_lload (pc' := 115) dX2_measureFoot_113 rfl rfl ?_
        refine go_lload (pc' := 117) dX2_measureFoot_115 rfl rfl ?_
        refine go_lload (pc' := 119) dX2_measureFoot_117 rfl rfl ?_
        refine go_lmul (pc' := 120) dX2_measureFoot_119 rfl ?_
        refine go_lload (pc' := 122) dX2_measureFoot_120 rfl rfl ?_
        obtain ⟨v123, σ124, e125, hf⟩ := bd_some hf
        refine go_invV (As := [_, _, _]) (pc' := 125) dX2_measureFoot_122 rfl cf_X2_measureFoot_41 rfl (R.ob (g0.at R)) rfl rfl (Nat.le_of_ble_eq_true rfl) (c_X2_compareParts R e125) (fun q126v h127 q126 => ?_)
        obtain ⟨rfl, R⟩ := q126
        refine go_if_le (pc' := 128) (tgt := 141) dX2_measureFoot_125 (by decide) rfl (fun c128 => ?_) (fun c128 => ?_)
        · have hf := it c128 hf
          obtain rfl := Option.some.inj hf
          exact Go.ret (v := none) dX2_measureFoot_141 rfl ⟨trivial, rfl, R⟩
        · have hf := ie c128 hf
          refine go_aload_n (i := 0) (pc' := 129) dX2_measureFoot_128 rfl rfl rfl ?_
          refine go_lload (pc' := 131) dX2_measureFoot_129 rfl rfl ?_
          refine go_lload (pc' := 133) dX2_measureFoot_131 rfl rfl ?_
          refine go_lload (pc' := 135) dX2_measureFoot_133 rfl rfl ?_
          refine go_lmul (pc' := 136) dX2_measureFoot_135 rfl ?_
          refine go_lload (pc' := 138) dX2_measureFoot_136 rfl rfl ?_
          obtain ⟨v129, σ130, e131, hf⟩ := bd_some hf
          refine go_invV (As := [_, _, _]) (pc' := 141) dX2_measureFoot_138 rfl cf_X2_measureFoot_15 rfl (R.ob (g0.at R)) rfl rfl (Nat.le_of_ble_eq_true rfl) (c_X2_keep R e131) (fun q132v h133 q132 => ?_)
          obtain ⟨rfl, R⟩ := q132
          obtain rfl := Option.some.inj hf
          exact Go.ret (v := none) dX2_measureFoot_141 rfl ⟨trivial, rfl, R⟩
      · have hf := ie c117 hf
        refine go_lload (pc' := 100) dX2_measureFoot_98 rfl rfl ?_
        refine go_lneg (pc' := 101) dX2_measureFoot_100 rfl ?_
        obtain ⟨l134, e135, hf⟩ := st_some hf
        refine go_lstoreE e135 (pc' := 103) dX2_measureFoot_101 rfl (by decide) rfl ?_
        exact t_X2_measureFoot_103 R g0 hf
    · have hf := ie c114 hf
      obtain rfl := Option.some.inj hf
      exact Go.ret (v := none) dX2_measureFoot_78 rfl ⟨trivial, rfl, R⟩
def b_X2_measure_132 (n : Nat) (k28 : Nat → Nat → Int32 → Int32 → Int32 → xσ → Option (Unit × xσ)) (a0 : Nat) (a1 : Nat) (x2 : Int32) (x3 : Int32) (x4 : Int32) (σ : xσ) : Option (Unit × xσ) := k28 a0 a1 x2 x3 (x4 + 1) σ
set_option maxRecDepth 100000 in
set_option maxHeartbeats 4000000 in
theorem t_X2_measure_132 {G : xG} {n : Nat} {k28 : Nat → Nat → Int32 → Int32 → Int32 → xσ → Option (Unit × xσ)} (hk28 : ∀ {a0 : Nat} {a1 : Nat} {x2 : Int32} {x3 : Int32} {x4 : Int32} {σ : xσ} {h : xH} {r : Unit × xσ} {d5 : Option Value} {d6 : Option Value} {d7 : Option Value} {d8 : Option Value} {d9 : Option Value} {d10 : Option Value}, Rl n σ h → okD a0 → okS n a1 → k28 a0 a1 x2 x3 x4 σ = some r → Go G mX2_measure 28 [some (.ref a0), some (.ref a1), some (.int x2), some (.int x3), some (.int x4), d5, d6, d7, d8, d9, d10] [] h (fun v h' => xRok (xRt mX2_measure) v ∧ v = none ∧ Rl n r.2 h')) {a0 : Nat} {a1 : Nat} {x2 : Int32} {x3 : Int32} {x4 : Int32} {σ : xσ} {h : xH} {r : Unit × xσ} {d5 : Option Value} {d6 : Option Value} {d7 : Option Value} {d8 : Option Value} {d9 : Option Value} {d10 : Option Value} : Rl n σ h → okD a0 → okS n a1 → b_X2_measure_132 n k28 a0 a1 x2 x3 x4 σ = some r → Go G mX2_measure 132 [some (.ref a0), some (.ref a1), some (.int x2), some (.int x3), some (.int x4), d5, d6, d7, d8, d9, d10] [] h (fun v h' => xRok (xRt mX2_measure) v ∧ v = none ∧ Rl n r.2 h') := by
  intro R g0 g1 hf
  rw [b_X2_measure_132] at hf
  refine go_iincC (kk := 1) (pc' := 135) dX2_measure_132 rfl rfl (by decide) (by decide) rfl ?_
  refine go_goto (pc' := 0) (tgt := 28) dX2_measure_135 (by decide) ?_
  exact hk28 R g0 g1 hf
def b_X2_measure_100 (n : Nat) (k28 : Nat → Nat → Int32 → Int32 → Int32 → xσ → Option (Unit × xσ)) (a0 : Nat) (a1 : Nat) (x2 : Int32) (x3 : Int32) (x4 : Int32) (l5 : Int64) (l7 : Int64) (σ : xσ) : Option (Unit × xσ) := if (sI σ a1 1) ≤ (x4 + 1) then k28 a0 a1 x2 x3 (x4 + 1) σ else gd (inb x4 40) (if (sI σ (a1 + 4) x4.toNatClampNeg) = 0 then bd (f_X2_measureFoot n a0 a1 x4 l5 l7 σ) (fun v104 σ105 => b_X2_measure_132 n k28 a0 a1 x2 x3 x4 σ105) else k28 a0 a1 x2 x3 (x4 + 1) σ)
set_option maxRecDepth 100000 in
set_option maxHeartbeats 4000000 in
theorem t_X2_measure_100 {G : xG} {n : Nat} {k28 : Nat → Nat → Int32 → Int32 → Int32 → xσ → Option (Unit × xσ)} (hk28 : ∀ {a0 : Nat} {a1 : Nat} {x2 : Int32} {x3 : Int32} {x4 : Int32} {σ : xσ} {h : xH} {r : Unit × xσ} {d5 : Option Value} {d6 : Option Value} {d7 : Option Value} {d8 : Option Value} {d9 : Option Value} {d10 : Option Value}, Rl n σ h → okD a0 → okS n a1 → k28 a0 a1 x2 x3 x4 σ = some r → Go G mX2_measure 28 [some (.ref a0), some (.ref a1), some (.int x2), some (.int x3), some (.int x4), d5, d6, d7, d8, d9, d10] [] h (fun v h' => xRok (xRt mX2_measure) v ∧ v = none ∧ Rl n r.2 h')) {a0 : Nat} {a1 : Nat} {x2 : Int32} {x3 : Int32} {x4 : Int32} {l5 : Int64} {l7 : Int64} {σ : xσ} {h : xH} {r : Unit × xσ} {d9 : Option Value} {d10 : Option Value} : Rl n σ h → okD a0 → okS n a1 → b_X2_measure_100 n k28 a0 a1 x2 x3 x4 l5 l7 σ = some r → Go G mX2_measure 100 [some (.ref a0), some (.ref a1), some (.int x2), some (.int x3), some (.int x4), some (.long l5), none, some (.long l7), none, d9, d10] [] h (fun v h' => xRok (xRt mX2_measure) v ∧ v = none ∧ Rl n r.2 h') := by
  intro R g0 g1 hf
  rw [b_X2_measure_100] at hf
  refine go_iload (pc' := 102) dX2_measure_100 rfl rfl ?_
  refine go_iconst (v := 1) (pc' := 103) dX2_measure_102 rfl (by decide) ?_
  refine go_iadd (pc' := 104) dX2_measure_103 rfl ?_
  refine go_aload_n (i := 1) (pc' := 105) dX2_measure_104 rfl rfl rfl ?_
  refine go_getS (pc' := 108) dX2_measure_105 rfl gf_LandBase_Distance_31 R g1.at (by decide) rfl ?_
  refine go_icmp_ge (pc' := 111) (tgt := 132) dX2_measure_108 (by decide) rfl (fun c101 => ?_) (fun c101 => ?_)
  · have hf := it c101 hf
    refine go_iincC (kk := 1) (pc' := 135) dX2_measure_132 rfl rfl (by decide) (by decide) rfl ?_
    refine go_goto (pc' := 0) (tgt := 28) dX2_measure_135 (by decide) ?_
    exact hk28 R g0 g1 hf
  · have hf := ie c101 hf
    refine go_aload_n (i := 1) (pc' := 112) dX2_measure_111 rfl rfl rfl ?_
    refine go_getS (pc' := 115) dX2_measure_112 rfl gf_LandBase_Distance_45 R g1.at (by decide) rfl ?_
    refine go_iload (pc' := 117) dX2_measure_115 rfl rfl ?_
    obtain ⟨g102, hf⟩ := gd_some hf
    refine go_zaloadS (pc' := 118) dX2_measure_117 rfl R g1.l g102 ?_
    refine go_if_ne (pc' := 121) (tgt := 132) dX2_measure_118 (by decide) rfl (fun c103 => ?_) (fun c103 => ?_)
    · have hf := ie c103 hf
      refine go_iincC (kk := 1) (pc' := 135) dX2_measure_132 rfl rfl (by decide) (by decide) rfl ?_
      refine go_goto (pc' := 0) (tgt := 28) dX2_measure_135 (by decide) ?_
      exact hk28 R g0 g1 hf
    · have hf := it c103 hf
      refine go_aload_n (i := 0) (pc' := 122) dX2_measure_121 rfl rfl rfl ?_
      refine go_aload_n (i := 1) (pc' := 123) dX2_measure_122 rfl rfl rfl ?_
      refine go_iload (pc' := 125) dX2_measure_123 rfl rfl ?_
      refine go_lload (pc' := 127) dX2_measure_125 rfl rfl ?_
      refine go_lload (pc' := 129) dX2_measure_127 rfl rfl ?_
      obtain ⟨v104, σ105, e106, hf⟩ := bd_some hf
      refine go_invV (As := [_, _, _, _]) (pc' := 132) dX2_measure_129 rfl cf_X2_measure_49 rfl (R.ob (g0.at R)) rfl rfl (Nat.le_of_ble_eq_true rfl) (c_X2_measureFoot R e106) (fun q107v h108 q107 => ?_)
      obtain ⟨rfl, R⟩ := q107
      exact t_X2_measure_132 @hk28 R g0 g1 hf
def l_X2_measure_28 (n : Nat) : Nat → Nat → Nat → Int32 → Int32 → Int32 → xσ → Option (Unit × xσ)
  | 0, _, _, _, _, _, _ => none
  | f + 1, a0, a1, x2, x3, x4, σ => if (sI σ a1 1) ≤ x4 then some ((), σ) else gd (inb x4 40) (st ((x2.toInt64) - ((sI σ (a1 + 1) x4.toNatClampNeg).toInt64)) (fun l103 => gd (inb x4 40) (st ((x3.toInt64) - ((sI σ (a1 + 2) x4.toNatClampNeg).toInt64)) (fun l106 => st ((l103 * l103) + (l106 * l106)) (fun l108 => if x4 = 0 then bd (f_X2_keep n a0 ((0 : Int64)) l108 ((1 : Int64)) σ) (fun v111 σ112 => b_X2_measure_100 n (l_X2_measure_28 n f) a0 a1 x2 x3 x4 l103 l106 σ112) else bd (f_X2_compareParts n a0 ((0 : Int64)) l108 ((1 : Int64)) σ) (fun v116 σ117 => if v116 ≤ 0 then if (sI σ117 a1 1) ≤ (x4 + 1) then (l_X2_measure_28 n f) a0 a1 x2 x3 (x4 + 1) σ117 else gd (inb x4 40) (if (sI σ117 (a1 + 4) x4.toNatClampNeg) = 0 then bd (f_X2_measureFoot n a0 a1 x4 l103 l106 σ117) (fun v125 σ126 => b_X2_measure_132 n (l_X2_measure_28 n f) a0 a1 x2 x3 x4 σ126) else (l_X2_measure_28 n f) a0 a1 x2 x3 (x4 + 1) σ117) else bd (f_X2_keep n a0 ((0 : Int64)) l108 ((1 : Int64)) σ117) (fun v130 σ131 => b_X2_measure_100 n (l_X2_measure_28 n f) a0 a1 x2 x3 x4 l103 l106 σ131)))))))
set_option maxRecDepth 100000 in
set_option maxHeartbeats 4000000 in
theorem t_X2_measure_28 {G : xG} {n : Nat} : ∀ (f : Nat) {a0 : Nat} {a1 : Nat} {x2 : Int32} {x3 : Int32} {x4 : Int32} {σ : xσ} {h : xH} {r : Unit × xσ} {d5 : Option Value} {d6 : Option Value} {d7 : Option Value} {d8 : Option Value} {d9 : Option Value} {d10 : Option Value}, Rl n σ h → okD a0 → okS n a1 → l_X2_measure_28 n f a0 a1 x2 x3 x4 σ = some r → Go G mX2_measure 28 [some (.ref a0), some (.ref a1), some (.int x2), some (.int x3), some (.int x4), d5, d6, d7, d8, d9, d10] [] h (fun v h' => xRok (xRt mX2_measure) v ∧ v = none ∧ Rl n r.2 h') := by
  intro f
  induction f with
  | zero =>
    intros
    rename _ = some _ => hf
    rw [l_X2_measure_28] at hf
    cases hf
  | succ f ih =>
    intro a0 a1 x2 x3 x4 σ h r d5 d6 d7 d8 d9 d10 R g0 g1 hf
    rw [l_X2_measure_28] at hf
    refine go_iload (pc' := 30) dX2_measure_28 rfl rfl ?_
    refine go_aload_n (i := 1) (pc' := 31) dX2_measure_30 rfl rfl rfl ?_
    refine go_getS (pc' := 34) dX2_measure_31 rfl gf_LandBase_Distance_31 R g1.at (by decide) rfl ?_
    refine go_icmp_ge (pc' := 37) (tgt := 138) dX2_measure_34 (by decide) rfl (fun c101 => ?_) (fun c101 => ?_)
    · have hf := it c101 hf
      obtain rfl := Option.some.inj hf
      exact Go.ret (v := none) dX2_measure_138 rfl ⟨trivial, rfl, R⟩
    · have hf := ie c101 hf
      refine go_iload_n (i := 2) (pc' := 38) dX2_measure_37 rfl rfl rfl ?_
      refine go_i2l (pc' := 39) dX2_measure_38 rfl rfl ?_
      refine go_aload_n (i := 1) (pc' := 40) dX2_measure_39 rfl rfl rfl ?_
      refine go_getS (pc' := 43) dX2_measure_40 rfl gf_LandBase_Distance_34 R g1.at (by decide) rfl ?_
      refine go_iload (pc' := 45) dX2_measure_43 rfl rfl ?_
      obtain ⟨g102, hf⟩ := gd_some hf
      refine go_ialoadS (pc' := 46) dX2_measure_45 rfl R g1.x g102 ?_
      refine go_i2l (pc' := 47) dX2_measure_46 rfl rfl ?_
      refine go_lsub (pc' := 48) dX2_measure_47 rfl ?_
      obtain ⟨l103, e104, hf⟩ := st_some hf
      refine go_lstoreE e104 (pc' := 50) dX2_measure_48 rfl (by decide) rfl ?_
      refine go_iload_n (i := 3) (pc' := 51) dX2_measure_50 rfl rfl rfl ?_
      refine go_i2l (pc' := 52) dX2_measure_51 rfl rfl ?_
      refine go_aload_n (i := 1) (pc' := 53) dX2_measure_52 rfl rfl rfl ?_
      refine go_getS (pc' := 56) dX2_measure_53 rfl gf_LandBase_Distance_38 R g1.at (by decide) rfl ?_
      refine go_iload (pc' := 58) dX2_measure_56 rfl rfl ?_
      obtain ⟨g105, hf⟩ := gd_some hf
      refine go_ialoadS (pc' := 59) dX2_measure_58 rfl R g1.y g105 ?_
      refine go_i2l (pc' := 60) dX2_measure_59 rfl rfl ?_
      refine go_lsub (pc' := 61) dX2_measure_60 rfl ?_
      obtain ⟨l106, e107, hf⟩ := st_some hf
      refine go_lstoreE e107 (pc' := 63) dX2_measure_61 rfl (by decide) rfl ?_
      refine go_lload (pc' := 65) dX2_measure_63 rfl rfl ?_
      refine go_lload (pc' := 67) dX2_measure_65 rfl rfl ?_
      refine go_lmul (pc' := 68) dX2_measure_67 rfl ?_
      refine go_lload (pc' := 70) dX2_measure_68 rfl rfl ?_
      refine go_lload (pc' := 72) dX2_measure_70 rfl rfl ?_
      refine go_lmul (pc' := 73) dX2_measure_72 rfl ?_
      refine go_ladd (pc' := 74) dX2_measure_73 rfl ?_
      obtain ⟨l108, e109, hf⟩ := st_some hf
      refine go_lstoreE e109 (pc' := 76) dX2_measure_74 rfl (by decide) rfl ?_
      refine go_iload (pc' := 78) dX2_measure_76 rfl rfl ?_
      refine go_if_eq (pc' := 81) (tgt := 92) dX2_measure_78 (by decide) rfl (fun c110 => ?_) (fun c110 => ?_)
      · have hf := it c110 hf
        refine go_aload_n (i := 0) (pc' := 93) dX2_measure_92 rfl rfl rfl ?_
        refine go_lconst (v := 0) (pc' := 94) dX2_measure_93 rfl (by decide) ?_
        refine go_lload (pc' := 96) dX2_measure_94 rfl rfl ?_
        refine go_lconst (v := 1) (pc' := 97) dX2_measure_96 rfl (by decide) ?_
        obtain ⟨v111, σ112, e113, hf⟩ := bd_some hf
        refine go_invV (As := [_, _, _]) (pc' := 100) dX2_measure_97 rfl cf_X2_measure_15 rfl (R.ob (g0.at R)) rfl rfl (Nat.le_of_ble_eq_true rfl) (c_X2_keep R e113) (fun q114v h115 q114 => ?_)
        obtain ⟨rfl, R⟩ := q114
        exact t_X2_measure_100 @ih R g0 g1 hf
      · have hf := ie c110 hf
        refine go_aload_n (i := 0) (pc' := 82) dX2_measure_81 rfl rfl rfl ?_
        refine go_lconst (v := 0) (pc' := 83) dX2_measure_82 rfl (by decide) ?_
        refine go_lload (pc' := 85) dX2_measure_83 rfl rfl ?_
        refine go_lconst (v := 1) (pc' := 86) dX2_measure_85 rfl (by decide) ?_
        obtain ⟨v116, σ117, e118, hf⟩ := bd_some hf
        refine go_invV (As := [_, _, _]) (pc' := 89) dX2_measure_86 rfl cf_X2_measure_41 rfl (R.ob (g0.at R)) rfl rfl (Nat.le_of_ble_eq_true rfl) (c_X2_compareParts R e118) (fun q119v h120 q119 => ?_)
        obtain ⟨rfl, R⟩ := q119
        refine go_if_le (pc' := 92) (tgt := 100) dX2_measure_89 (by decide) rfl (fun c121 => ?_) (fun c121 => ?_)
        · have hf := it c121 hf
          refine go_iload (pc' := 102) dX2_measure_100 rfl rfl ?_
          refine go_iconst (v := 1) (pc' := 103) dX2_measure_102 rfl (by decide) ?_
          refine go_iadd (pc' := 104) dX2_measure_103 rfl ?_
          refine go_aload_n (i := 1) (pc' := 105) dX2_measure_104 rfl rfl rfl ?_
          refine go_getS (pc' := 108) dX2_measure_105 rfl gf_LandBase_Distance_31 R g1.at (by decide) rfl ?_
          refine go_icmp_ge (pc' := 111) (tgt := 132) dX2_measure_108 (by decide) rfl (fun c122 => ?_) (fun c122 => ?_)
          · have hf := it c122 hf
            refine go_iincC (kk := 1) (pc' := 135) dX2_measure_132 rfl rfl (by decide) (by decide) rfl ?_
            refine go_goto (pc' := 0) (tgt := 28) dX2_measure_135 (by decide) ?_
            exact ih R g0 g1 hf
          · have hf := ie c122 hf
            refine go_aload_n (i := 1) (pc' := 112) dX2_measure_111 rfl rfl rfl ?_
            refine go_getS (pc' := 115) dX2_measure_112 rfl gf_LandBase_Distance_45 R g1.at (by decide) rfl ?_
            refine go_iload (pc' := 117) dX2_measure_115 rfl rfl ?_
            obtain ⟨g123, hf⟩ := gd_some hf
            refine go_zaloadS (pc' := 118) dX2_measure_117 rfl R g1.l g123 ?_
            refine go_if_ne (pc' := 121) (tgt := 132) dX2_measure_118 (by decide) rfl (fun c124 => ?_) (fun c124 => ?_)
            · have hf := ie c124 hf
              refine go_iincC (kk := 1) (pc' := 135) dX2_measure_132 rfl rfl (by decide) (by decide) rfl ?_
              refine go_goto (pc' := 0) (tgt := 28) dX2_measure_135 (by decide) ?_
              exact ih R g0 g1 hf
            · have hf := it c124 hf
              refine go_aload_n (i := 0) (pc' := 122) dX2_measure_121 rfl rfl rfl ?_
              refine go_aload_n (i := 1) (pc' := 123) dX2_measure_122 rfl rfl rfl ?_
              refine go_iload (pc' := 125) dX2_measure_123 rfl rfl ?_
              refine go_lload (pc' := 127) dX2_measure_125 rfl rfl ?_
              refine go_lload (pc' := 129) dX2_measure_127 rfl rfl ?_
              obtain ⟨v125, σ126, e127, hf⟩ := bd_some hf
              refine go_invV (As := [_, _, _, _]) (pc' := 132) dX2_measure_129 rfl cf_X2_measure_49 rfl (R.ob (g0.at R)) rfl rfl (Nat.le_of_ble_eq_true rfl) (c_X2_measureFoot R e127) (fun q128v h129 q128 => ?_)
              obtain ⟨rfl, R⟩ := q128
              exact t_X2_measure_132 @ih R g0 g1 hf
        · have hf := ie c121 hf
          refine go_aload_n (i := 0) (pc' := 93) dX2_measure_92 rfl rfl rfl ?_
          refine go_lconst (v := 0) (pc' := 94) dX2_measure_93 rfl (by decide) ?_
          refine go_lload (pc' := 96) dX2_measure_94 rfl rfl ?_
          refine go_lconst (v := 1) (pc' := 97) dX2_measure_96 rfl (by decide) ?_
          obtain ⟨v130, σ131, e132, hf⟩ := bd_some hf
          refine go_invV (As := [_, _, _]) (pc' := 100) dX2_measure_97 rfl cf_X2_measure_15 rfl (R.ob (g0.at R)) rfl rfl (Nat.le_of_ble_eq_true rfl) (c_X2_keep R e132) (fun q133v h134 q133 => ?_)
          obtain ⟨rfl, R⟩ := q133
          exact t_X2_measure_100 @ih R g0 g1 hf
def f_X2_measure (n : Nat) (a0 : Nat) (a1 : Nat) (x2 : Int32) (x3 : Int32) (σ : xσ) : Option (Unit × xσ) := gd (okD a0) (gd (okS n a1) (bd (f_X2_keep n a0 ((0 : Int64)) ((0 : Int64)) ((1 : Int64)) σ) (fun v101 σ102 => if (sI σ102 a1 0) = 2 then bd (f_X4_locate n a1 x2 x3 σ102) (fun v107 σ108 => if v107 < 0 then l_X2_measure_28 n xFU a0 a1 x2 x3 0 σ108 else some ((), σ108)) else l_X2_measure_28 n xFU a0 a1 x2 x3 0 σ102)))
set_option maxRecDepth 100000 in
set_option maxHeartbeats 4000000 in
theorem c_X2_measure {G : xG} {n : Nat} {σ : xσ} {h : xH} {a0 : Nat} {a1 : Nat} {x2 : Int32} {x3 : Int32} {v1 : Unit} {σ1 : xσ} (R : Rl n σ h) (hf : f_X2_measure n a0 a1 x2 x3 σ = some (v1, σ1)) : Ca G mX2_measure [.ref a0, .ref a1, .int x2, .int x3] h (fun v h' => v = none ∧ Rl n σ1 h') := by
  refine Ca.of rfl (Nat.le_of_ble_eq_true rfl) ?_
  generalize hr : (v1, σ1) = r at hf
  suffices q : Go G mX2_measure 0 (xent (xMl mX2_measure) [.ref a0, .ref a1, .int x2, .int x3]) [] h (fun v h' => xRok (xRt mX2_measure) v ∧ v = none ∧ Rl n r.2 h') by
    subst hr
    exact q
  clear hr
  rw [f_X2_measure] at hf
  obtain ⟨g0, hf⟩ := gd_some hf
  obtain ⟨g1, hf⟩ := gd_some hf
  refine go_aload_n (i := 0) (pc' := 1) dX2_measure_0 rfl rfl rfl ?_
  refine go_lconst (v := 0) (pc' := 2) dX2_measure_1 rfl (by decide) ?_
  refine go_lconst (v := 0) (pc' := 3) dX2_measure_2 rfl (by decide) ?_
  refine go_lconst (v := 1) (pc' := 4) dX2_measure_3 rfl (by decide) ?_
  obtain ⟨v101, σ102, e103, hf⟩ := bd_some hf
  refine go_invV (As := [_, _, _]) (pc' := 7) dX2_measure_4 rfl cf_X2_measure_15 rfl (R.ob (g0.at R)) rfl rfl (Nat.le_of_ble_eq_true rfl) (c_X2_keep R e103) (fun q104v h105 q104 => ?_)
  obtain ⟨rfl, R⟩ := q104
  refine go_aload_n (i := 1) (pc' := 8) dX2_measure_7 rfl rfl rfl ?_
  refine go_getS (pc' := 11) dX2_measure_8 rfl gf_LandBase_Distance_19 R g1.at (by decide) rfl ?_
  refine go_iconst (v := 2) (pc' := 12) dX2_measure_11 rfl (by decide) ?_
  refine go_icmp_ne (pc' := 15) (tgt := 25) dX2_measure_12 (by decide) rfl (fun c106 => ?_) (fun c106 => ?_)
  · have hf := ie c106 hf
    refine go_iconst (v := 0) (pc' := 26) dX2_measure_25 rfl (by decide) ?_
    refine go_istoreE rfl (pc' := 28) dX2_measure_26 rfl (by decide) rfl ?_
    exact t_X2_measure_28 xFU R g0 g1 hf
  · have hf := it c106 hf
    refine go_aload_n (i := 1) (pc' := 16) dX2_measure_15 rfl rfl rfl ?_
    refine go_iload_n (i := 2) (pc' := 17) dX2_measure_16 rfl rfl rfl ?_
    refine go_iload_n (i := 3) (pc' := 18) dX2_measure_17 rfl rfl rfl ?_
    obtain ⟨v107, σ108, e109, hf⟩ := bd_some hf
    refine go_invS (As := [_, _, _]) (pc' := 21) dX2_measure_18 rfl cf_X2_measure_25 rfl rfl (Nat.le_of_ble_eq_true rfl) (c_X4_locate R e109) (fun q110v h111 q110 => ?_)
    obtain ⟨rfl, R⟩ := q110
    refine go_if_lt (pc' := 24) (tgt := 25) dX2_measure_21 (by decide) rfl (fun c112 => ?_) (fun c112 => ?_)
    · have hf := it c112 hf
      refine go_iconst (v := 0) (pc' := 26) dX2_measure_25 rfl (by decide) ?_
      refine go_istoreE rfl (pc' := 28) dX2_measure_26 rfl (by decide) rfl ?_
      exact t_X2_measure_28 xFU R g0 g1 hf
    · have hf := ie c112 hf
      obtain rfl := Option.some.inj hf
      exact Go.ret (v := none) dX2_measure_24 rfl ⟨trivial, rfl, R⟩
def f_X2_compareWith (n : Nat) (a0 : Nat) (a1 : Nat) (σ : xσ) : Option (Int32 × xσ) := gd (okD a0) (gd (okD a1) (bd (f_X2_compareParts n a0 (sJ σ a1 0) (sJ σ a1 1) (sJ σ a1 2) σ) (fun v101 σ102 => some (v101, σ102))))
set_option maxRecDepth 100000 in
set_option maxHeartbeats 4000000 in
theorem c_X2_compareWith {G : xG} {n : Nat} {σ : xσ} {h : xH} {a0 : Nat} {a1 : Nat} {v1 : Int32} {σ1 : xσ} (R : Rl n σ h) (hf : f_X2_compareWith n a0 a1 σ = some (v1, σ1)) : Ca G mX2_compareWith [.ref a0, .ref a1] h (fun v h' => v = some (.int v1) ∧ Rl n σ1 h') := by
  refine Ca.of rfl (Nat.le_of_ble_eq_true rfl) ?_
  generalize hr : (v1, σ1) = r at hf
  suffices q : Go G mX2_compareWith 0 (xent (xMl mX2_compareWith) [.ref a0, .ref a1]) [] h (fun v h' => xRok (xRt mX2_compareWith) v ∧ v = some (.int r.1) ∧ Rl n r.2 h') by
    subst hr
    exact q
  clear hr
  rw [f_X2_compareWith] at hf
  obtain ⟨g0, hf⟩ := gd_some hf
  obtain ⟨g1, hf⟩ := gd_some hf
  refine go_aload_n (i := 0) (pc' := 1) dX2_compareWith_0 rfl rfl rfl ?_
  refine go_aload_n (i := 1) (pc' := 2) dX2_compareWith_1 rfl rfl rfl ?_
  refine go_getS (pc' := 5) dX2_compareWith_2 rfl gf_LandBase_Distance_57 R (g1.at R) (by decide) rfl ?_
  refine go_aload_n (i := 1) (pc' := 6) dX2_compareWith_5 rfl rfl rfl ?_
  refine go_getS (pc' := 9) dX2_compareWith_6 rfl gf_LandBase_Distance_60 R (g1.at R) (by decide) rfl ?_
  refine go_aload_n (i := 1) (pc' := 10) dX2_compareWith_9 rfl rfl rfl ?_
  refine go_getS (pc' := 13) dX2_compareWith_10 rfl gf_LandBase_Distance_9 R (g1.at R) (by decide) rfl ?_
  obtain ⟨v101, σ102, e103, hf⟩ := bd_some hf
  refine go_invV (As := [_, _, _]) (pc' := 16) dX2_compareWith_13 rfl cf_X2_compareWith_41 rfl (R.ob (g0.at R)) rfl rfl (Nat.le_of_ble_eq_true rfl) (c_X2_compareParts R e103) (fun q104v h105 q104 => ?_)
  obtain ⟨rfl, R⟩ := q104
  obtain rfl := Option.some.inj hf
  exact Go.ret (v := some (.int _)) dX2_compareWith_16 ⟨_, rfl⟩ ⟨rfl, rfl, R⟩
def b_X3_freshShape_34  (k2 : Int32 → Nat → xσ → Option (Nat × Nat × xσ)) (x1 : Int32) (xs0 : Int32) (n : Nat) (σ : xσ) : Option (Nat × Nat × xσ) := st (wI σ 10 4 xs0) (fun σ101 => gd (inb (sI σ101 10 4) 401) (nn (sR σ101 17 (sI σ101 10 4).toNatClampNeg) (fun a105 => gd (okS n a105) (if (sI σ101 a105 8) = 0 then gd (inb (sI σ101 10 4) 401) (nn (sR σ101 17 (sI σ101 10 4).toNatClampNeg) (fun a110 => gd (okS n a110) (some (a110, n, σ101)))) else k2 (x1 + 1) n σ101))))
set_option maxRecDepth 100000 in
set_option maxHeartbeats 4000000 in
theorem t_X3_freshShape_34 {G : xG} {k2 : Int32 → Nat → xσ → Option (Nat × Nat × xσ)} (hk2 : ∀ {n : Nat} {x1 : Int32} {σ : xσ} {h : xH} {r : Nat × Nat × xσ}, Rl n σ h → k2 x1 n σ = some r → Go G mX3_freshShape 2 [some (.ref 10), some (.int x1)] [] h (fun v h' => xRok (xRt mX3_freshShape) v ∧ v = some (.ref r.1) ∧ Rl r.2.1 r.2.2 h')) {n : Nat} {x1 : Int32} {xs0 : Int32} {σ : xσ} {h : xH} {r : Nat × Nat × xσ} : Rl n σ h → b_X3_freshShape_34 k2 x1 xs0 n σ = some r → Go G mX3_freshShape 34 [some (.ref 10), some (.int x1)] [.int xs0, .ref 10] h (fun v h' => xRok (xRt mX3_freshShape) v ∧ v = some (.ref r.1) ∧ Rl r.2.1 r.2.2 h') := by
  intro R hf
  rw [b_X3_freshShape_34] at hf
  obtain ⟨σ101, e102, hf⟩ := st_some hf
  refine go_putI (pc' := 37) dX3_freshShape_34 rfl pf_LandBase_Keeper_34 R (R.at rfl (by decide)) (by decide) rfl rfl rfl (fun h103 R => ?_)
  have R := Rl.cast e102 R
  refine go_aload_n (i := 0) (pc' := 38) dX3_freshShape_37 rfl rfl rfl ?_
  refine go_getS (pc' := 41) dX3_freshShape_38 rfl gf_LandBase_Keeper_23 R (R.at rfl (by decide)) (by decide) rfl ?_
  refine go_aload_n (i := 0) (pc' := 42) dX3_freshShape_41 rfl rfl rfl ?_
  refine go_getS (pc' := 45) dX3_freshShape_42 rfl gf_LandBase_Keeper_34 R (R.at rfl (by decide)) (by decide) rfl ?_
  obtain ⟨g104, hf⟩ := gd_some hf
  obtain ⟨a105, e106, hf⟩ := nn_some hf
  obtain ⟨g107, hf⟩ := gd_some hf
  refine go_aaloadS (pc' := 46) dX3_freshShape_45 rfl (by decide) R (R.aa rfl (by decide)) g104 e106 ?_
  refine go_getS (pc' := 49) dX3_freshShape_46 rfl gf_LandBase_Keeper_37 R g107.at (by decide) rfl ?_
  refine go_if_ne (pc' := 52) (tgt := 62) dX3_freshShape_49 (by decide) rfl (fun c108 => ?_) (fun c108 => ?_)
  · have hf := ie c108 hf
    refine go_iincC (kk := 1) (pc' := 65) dX3_freshShape_62 rfl rfl (by decide) (by decide) rfl ?_
    refine go_goto (pc' := 0) (tgt := 2) dX3_freshShape_65 (by decide) ?_
    exact hk2 R hf
  · have hf := it c108 hf
    refine go_aload_n (i := 0) (pc' := 53) dX3_freshShape_52 rfl rfl rfl ?_
    refine go_getS (pc' := 56) dX3_freshShape_53 rfl gf_LandBase_Keeper_23 R (R.at rfl (by decide)) (by decide) rfl ?_
    refine go_aload_n (i := 0) (pc' := 57) dX3_freshShape_56 rfl rfl rfl ?_
    refine go_getS (pc' := 60) dX3_freshShape_57 rfl gf_LandBase_Keeper_34 R (R.at rfl (by decide)) (by decide) rfl ?_
    obtain ⟨g109, hf⟩ := gd_some hf
    obtain ⟨a110, e111, hf⟩ := nn_some hf
    obtain ⟨g112, hf⟩ := gd_some hf
    refine go_aaloadS (pc' := 61) dX3_freshShape_60 rfl (by decide) R (R.aa rfl (by decide)) g109 e111 ?_
    obtain rfl := Option.some.inj hf
    exact Go.ret (v := some (.ref _)) dX3_freshShape_61 (Or.inr ⟨_, rfl⟩) ⟨trivial, rfl, R⟩
def b_X3_freshShape_106  (a1 : Nat) (n : Nat) (σ : xσ) : Option (Nat × Nat × xσ) := some (a1, n, σ)
set_option maxRecDepth 100000 in
set_option maxHeartbeats 4000000 in
theorem t_X3_freshShape_106 {G : xG} {n : Nat} {a1 : Nat} {σ : xσ} {h : xH} {r : Nat × Nat × xσ} {d0 : Option Value} : Rl n σ h → okS n a1 → b_X3_freshShape_106 a1 n σ = some r → Go G mX3_freshShape 106 [d0, some (.ref a1)] [] h (fun v h' => xRok (xRt mX3_freshShape) v ∧ v = some (.ref r.1) ∧ Rl r.2.1 r.2.2 h') := by
  intro R g1 hf
  rw [b_X3_freshShape_106] at hf
  refine go_aload_n (i := 1) (pc' := 107) dX3_freshShape_106 rfl rfl rfl ?_
  obtain rfl := Option.some.inj hf
  exact Go.ret (v := some (.ref _)) dX3_freshShape_107 (Or.inr ⟨_, rfl⟩) ⟨trivial, rfl, R⟩
def l_X3_freshShape_2  : Nat → Int32 → Nat → xσ → Option (Nat × Nat × xσ)
  | 0, _, _, _ => none
  | f + 1, x1, n, σ => if (sI σ 10 3) ≤ x1 then stn n σ (fun a105 n σ102 => if 401 ≤ (sI σ102 10 3) then some (a105, n, σ102) else gd (inb (sI σ102 10 3) 401) (st (wR σ102 17 (sI σ102 10 3).toNatClampNeg (some a105)) (fun σ108 => st (wI σ108 10 3 ((sI σ108 10 3) + 1)) (fun σ111 => b_X3_freshShape_106 a105 n σ111)))) else if (sI σ 10 3) ≤ ((sI σ 10 4) + 1) then b_X3_freshShape_34 (l_X3_freshShape_2 f) x1 0 n σ else b_X3_freshShape_34 (l_X3_freshShape_2 f) x1 ((sI σ 10 4) + 1) n σ
set_option maxRecDepth 100000 in
set_option maxHeartbeats 4000000 in
theorem t_X3_freshShape_2 {G : xG} : ∀ (f : Nat) {n : Nat} {x1 : Int32} {σ : xσ} {h : xH} {r : Nat × Nat × xσ}, Rl n σ h → l_X3_freshShape_2 f x1 n σ = some r → Go G mX3_freshShape 2 [some (.ref 10), some (.int x1)] [] h (fun v h' => xRok (xRt mX3_freshShape) v ∧ v = some (.ref r.1) ∧ Rl r.2.1 r.2.2 h') := by
  intro f
  induction f with
  | zero =>
    intros
    rename _ = some _ => hf
    rw [l_X3_freshShape_2] at hf
    cases hf
  | succ f ih =>
    intro n x1 σ h r  R hf
    rw [l_X3_freshShape_2] at hf
    refine go_iload_n (i := 1) (pc' := 3) dX3_freshShape_2 rfl rfl rfl ?_
    refine go_aload_n (i := 0) (pc' := 4) dX3_freshShape_3 rfl rfl rfl ?_
    refine go_getS (pc' := 7) dX3_freshShape_4 rfl gf_LandBase_Keeper_31 R (R.at rfl (by decide)) (by decide) rfl ?_
    refine go_icmp_ge (pc' := 10) (tgt := 68) dX3_freshShape_7 (by decide) rfl (fun c101 => ?_) (fun c101 => ?_)
    · have hf := it c101 hf
      obtain ⟨a105, n, σ102, e104, hf⟩ := stn_some hf
      refine go_newShape (pc' := 75) dX3_freshShape_68 rfl nw_LandBase_Keeper_21 dX3_freshShape_71 dX3_freshShape_72 cf_X3_freshShape_40 (Nat.le_of_ble_eq_true rfl) R e104 (fun h103 R a105g => ?_)
      refine go_astore_n (i := 1) (pc' := 76) dX3_freshShape_75 rfl rfl (by decide) rfl ?_
      refine go_aload_n (i := 0) (pc' := 77) dX3_freshShape_76 rfl rfl rfl ?_
      refine go_getS (pc' := 80) dX3_freshShape_77 rfl gf_LandBase_Keeper_31 R (R.at rfl (by decide)) (by decide) rfl ?_
      refine go_sipush (v := 401) (pc' := 83) dX3_freshShape_80 rfl (by decide) ?_
      refine go_icmp_ge (pc' := 86) (tgt := 106) dX3_freshShape_83 (by decide) rfl (fun c106 => ?_) (fun c106 => ?_)
      · have hf := it c106 hf
        refine go_aload_n (i := 1) (pc' := 107) dX3_freshShape_106 rfl rfl rfl ?_
        obtain rfl := Option.some.inj hf
        exact Go.ret (v := some (.ref _)) dX3_freshShape_107 (Or.inr ⟨_, rfl⟩) ⟨trivial, rfl, R⟩
      · have hf := ie c106 hf
        refine go_aload_n (i := 0) (pc' := 87) dX3_freshShape_86 rfl rfl rfl ?_
        refine go_getS (pc' := 90) dX3_freshShape_87 rfl gf_LandBase_Keeper_23 R (R.at rfl (by decide)) (by decide) rfl ?_
        refine go_aload_n (i := 0) (pc' := 91) dX3_freshShape_90 rfl rfl rfl ?_
        refine go_getS (pc' := 94) dX3_freshShape_91 rfl gf_LandBase_Keeper_31 R (R.at rfl (by decide)) (by decide) rfl ?_
        refine go_aload_n (i := 1) (pc' := 95) dX3_freshShape_94 rfl rfl rfl ?_
        obtain ⟨g107, hf⟩ := gd_some hf
        obtain ⟨σ108, e109, hf⟩ := st_some hf
        refine go_aastoreS (pc' := 96) dX3_freshShape_95 rfl (by decide) rfl rfl R (R.aa rfl (by decide)) a105g.at g107 (fun h110 R => ?_)
        have R := Rl.cast e109 R
        refine go_aload_n (i := 0) (pc' := 97) dX3_freshShape_96 rfl rfl rfl ?_
        refine go_dup (pc' := 98) dX3_freshShape_97 rfl rfl ?_
        refine go_getS (pc' := 101) dX3_freshShape_98 rfl gf_LandBase_Keeper_31 R (R.at rfl (by decide)) (by decide) rfl ?_
        refine go_iconst (v := 1) (pc' := 102) dX3_freshShape_101 rfl (by decide) ?_
        refine go_iadd (pc' := 103) dX3_freshShape_102 rfl ?_
        obtain ⟨σ111, e112, hf⟩ := st_some hf
        refine go_putI (pc' := 106) dX3_freshShape_103 rfl pf_LandBase_Keeper_31 R (R.at rfl (by decide)) (by decide) rfl rfl rfl (fun h113 R => ?_)
        have R := Rl.cast e112 R
        exact t_X3_freshShape_106 R a105g hf
    · have hf := ie c101 hf
      refine go_aload_n (i := 0) (pc' := 11) dX3_freshShape_10 rfl rfl rfl ?_
      refine go_aload_n (i := 0) (pc' := 12) dX3_freshShape_11 rfl rfl rfl ?_
      refine go_getS (pc' := 15) dX3_freshShape_12 rfl gf_LandBase_Keeper_34 R (R.at rfl (by decide)) (by decide) rfl ?_
      refine go_iconst (v := 1) (pc' := 16) dX3_freshShape_15 rfl (by decide) ?_
      refine go_iadd (pc' := 17) dX3_freshShape_16 rfl ?_
      refine go_aload_n (i := 0) (pc' := 18) dX3_freshShape_17 rfl rfl rfl ?_
      refine go_getS (pc' := 21) dX3_freshShape_18 rfl gf_LandBase_Keeper_31 R (R.at rfl (by decide)) (by decide) rfl ?_
      refine go_icmp_ge (pc' := 24) (tgt := 33) dX3_freshShape_21 (by decide) rfl (fun c114 => ?_) (fun c114 => ?_)
      · have hf := it c114 hf
        refine go_iconst (v := 0) (pc' := 34) dX3_freshShape_33 rfl (by decide) ?_
        exact t_X3_freshShape_34 @ih R hf
      · have hf := ie c114 hf
        refine go_aload_n (i := 0) (pc' := 25) dX3_freshShape_24 rfl rfl rfl ?_
        refine go_getS (pc' := 28) dX3_freshShape_25 rfl gf_LandBase_Keeper_34 R (R.at rfl (by decide)) (by decide) rfl ?_
        refine go_iconst (v := 1) (pc' := 29) dX3_freshShape_28 rfl (by decide) ?_
        refine go_iadd (pc' := 30) dX3_freshShape_29 rfl ?_
        refine go_goto (pc' := 0) (tgt := 34) dX3_freshShape_30 (by decide) ?_
        exact t_X3_freshShape_34 @ih R hf
def f_X3_freshShape (n : Nat)  (σ : xσ) : Option (Nat × Nat × xσ) := l_X3_freshShape_2 xFU 0 n σ
set_option maxRecDepth 100000 in
set_option maxHeartbeats 4000000 in
theorem c_X3_freshShape {G : xG} {n : Nat} {σ : xσ} {h : xH}  {v1 : Nat} {n1 : Nat} {σ1 : xσ} (R : Rl n σ h) (hf : f_X3_freshShape n σ = some (v1, n1, σ1)) : Ca G mX3_freshShape [.ref 10] h (fun v h' => v = some (.ref v1) ∧ Rl n1 σ1 h') := by
  refine Ca.of rfl (Nat.le_of_ble_eq_true rfl) ?_
  generalize hr : (v1, n1, σ1) = r at hf
  suffices q : Go G mX3_freshShape 0 (xent (xMl mX3_freshShape) [.ref 10]) [] h (fun v h' => xRok (xRt mX3_freshShape) v ∧ v = some (.ref r.1) ∧ Rl r.2.1 r.2.2 h') by
    subst hr
    exact q
  clear hr
  rw [f_X3_freshShape] at hf
  refine go_iconst (v := 0) (pc' := 1) dX3_freshShape_0 rfl (by decide) ?_
  refine go_istore_nE rfl (i := 1) (pc' := 2) dX3_freshShape_1 rfl rfl (by decide) rfl ?_
  exact t_X3_freshShape_2 xFU R hf
def f_X3_hasRoom (n : Nat) (x1 : Int32) (σ : xσ) : Option (Int32 × xσ) := if (sI σ 10 5) = 0 then some (1, σ) else if 14112 < ((sI σ 10 7) + x1) then some (0, σ) else some (1, σ)
set_option maxRecDepth 100000 in
set_option maxHeartbeats 4000000 in
theorem c_X3_hasRoom {G : xG} {n : Nat} {σ : xσ} {h : xH} {x1 : Int32} {v1 : Int32} {σ1 : xσ} (R : Rl n σ h) (hf : f_X3_hasRoom n x1 σ = some (v1, σ1)) : Ca G mX3_hasRoom [.ref 10, .int x1] h (fun v h' => v = some (.int v1) ∧ Rl n σ1 h') := by
  refine Ca.of rfl (Nat.le_of_ble_eq_true rfl) ?_
  generalize hr : (v1, σ1) = r at hf
  suffices q : Go G mX3_hasRoom 0 (xent (xMl mX3_hasRoom) [.ref 10, .int x1]) [] h (fun v h' => xRok (xRt mX3_hasRoom) v ∧ v = some (.int r.1) ∧ Rl n r.2 h') by
    subst hr
    exact q
  clear hr
  rw [f_X3_hasRoom] at hf
  refine go_aload_n (i := 0) (pc' := 1) dX3_hasRoom_0 rfl rfl rfl ?_
  refine go_getS (pc' := 4) dX3_hasRoom_1 rfl gf_LandBase_Keeper_41 R (R.at rfl (by decide)) (by decide) rfl ?_
  refine go_if_eq (pc' := 7) (tgt := 19) dX3_hasRoom_4 (by decide) rfl (fun c101 => ?_) (fun c101 => ?_)
  · have hf := it c101 hf
    refine go_iconst (v := 1) (pc' := 20) dX3_hasRoom_19 rfl (by decide) ?_
    refine go_goto (pc' := 0) (tgt := 24) dX3_hasRoom_20 (by decide) ?_
    obtain rfl := Option.some.inj hf
    exact Go.ret (v := some (.int _)) dX3_hasRoom_24 ⟨_, rfl⟩ ⟨rfl, rfl, R⟩
  · have hf := ie c101 hf
    refine go_aload_n (i := 0) (pc' := 8) dX3_hasRoom_7 rfl rfl rfl ?_
    refine go_getS (pc' := 11) dX3_hasRoom_8 rfl gf_LandBase_Keeper_45 R (R.at rfl (by decide)) (by decide) rfl ?_
    refine go_iload_n (i := 1) (pc' := 12) dX3_hasRoom_11 rfl rfl rfl ?_
    refine go_iadd (pc' := 13) dX3_hasRoom_12 rfl ?_
    refine go_sipush (v := 14112) (pc' := 16) dX3_hasRoom_13 rfl (by decide) ?_
    refine go_icmp_gt (pc' := 19) (tgt := 23) dX3_hasRoom_16 (by decide) rfl (fun c102 => ?_) (fun c102 => ?_)
    · have hf := it c102 hf
      refine go_iconst (v := 0) (pc' := 24) dX3_hasRoom_23 rfl (by decide) ?_
      obtain rfl := Option.some.inj hf
      exact Go.ret (v := some (.int _)) dX3_hasRoom_24 ⟨_, rfl⟩ ⟨rfl, rfl, R⟩
    · have hf := ie c102 hf
      refine go_iconst (v := 1) (pc' := 20) dX3_hasRoom_19 rfl (by decide) ?_
      refine go_goto (pc' := 0) (tgt := 24) dX3_hasRoom_20 (by decide) ?_
      obtain rfl := Option.some.inj hf
      exact Go.ret (v := some (.int _)) dX3_hasRoom_24 ⟨_, rfl⟩ ⟨rfl, rfl, R⟩

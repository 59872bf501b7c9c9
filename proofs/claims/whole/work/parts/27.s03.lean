/-! methods as functions, by program (gen/dcmall.py) -/
def l_X8_copyFrom_41 (n : Nat) : Nat → Nat → Nat → Int32 → xσ → Option (Unit × xσ)
  | 0, _, _, _, _ => none
  | f + 1, a0, a1, x2, σ => if (sI σ a0 2) ≤ x2 then some ((), σ) else gd (inb x2 200) (gd (inb x2 200) (st (wI σ (a0 + 1) x2.toNatClampNeg (sI σ (a1 + 1) x2.toNatClampNeg)) (fun σ104 => gd (inb x2 200) (nn (sR σ104 (a1 + 2) x2.toNatClampNeg) (fun a108 => gd (okS n a108) (gd (inb x2 200) (st (wR σ104 (a0 + 2) x2.toNatClampNeg (some a108)) (fun σ112 => gd (inb x2 200) (nn (sR σ112 (a0 + 2) x2.toNatClampNeg) (fun a116 => gd (okS n a116) (st (wI σ112 a116 8 ((sI σ112 a116 8) + 1)) (fun σ119 => (l_X8_copyFrom_41 n f) a0 a1 (x2 + 1) σ119))))))))))))
set_option maxRecDepth 100000 in
set_option maxHeartbeats 4000000 in
theorem t_X8_copyFrom_41 {G : xG} {n : Nat} : ∀ (f : Nat) {a0 : Nat} {a1 : Nat} {x2 : Int32} {σ : xσ} {h : xH} {r : Unit × xσ}, Rl n σ h → okT a0 → okT a1 → l_X8_copyFrom_41 n f a0 a1 x2 σ = some r → Go G mX8_copyFrom 41 [some (.ref a0), some (.ref a1), some (.int x2)] [] h (fun v h' => xRok (xRt mX8_copyFrom) v ∧ v = none ∧ Rl n r.2 h') := by
  intro f
  induction f with
  | zero =>
    intros
    rename _ = some _ => hf
    rw [l_X8_copyFrom_41] at hf
    cases hf
  | succ f ih =>
    intro a0 a1 x2 σ h r  R g0 g1 hf
    rw [l_X8_copyFrom_41] at hf
    refine go_iload_n (i := 2) (pc' := 42) dX8_copyFrom_41 rfl rfl rfl ?_
    refine go_aload_n (i := 0) (pc' := 43) dX8_copyFrom_42 rfl rfl rfl ?_
    refine go_getS (pc' := 46) dX8_copyFrom_43 rfl gf_LandBase_Table_21 R (g0.at R) (by decide) rfl ?_
    refine go_icmp_ge (pc' := 49) (tgt := 94) dX8_copyFrom_46 (by decide) rfl (fun c101 => ?_) (fun c101 => ?_)
    · have hf := it c101 hf
      obtain rfl := Option.some.inj hf
      exact Go.ret (v := none) dX8_copyFrom_94 rfl ⟨trivial, rfl, R⟩
    · have hf := ie c101 hf
      refine go_aload_n (i := 0) (pc' := 50) dX8_copyFrom_49 rfl rfl rfl ?_
      refine go_getS (pc' := 53) dX8_copyFrom_50 rfl gf_LandBase_Table_9 R (g0.at R) (by decide) rfl ?_
      refine go_iload_n (i := 2) (pc' := 54) dX8_copyFrom_53 rfl rfl rfl ?_
      refine go_aload_n (i := 1) (pc' := 55) dX8_copyFrom_54 rfl rfl rfl ?_
      refine go_getS (pc' := 58) dX8_copyFrom_55 rfl gf_LandBase_Table_9 R (g1.at R) (by decide) rfl ?_
      refine go_iload_n (i := 2) (pc' := 59) dX8_copyFrom_58 rfl rfl rfl ?_
      obtain ⟨g102, hf⟩ := gd_some hf
      refine go_ialoadS (pc' := 60) dX8_copyFrom_59 rfl R (g1.i R) g102 ?_
      obtain ⟨g103, hf⟩ := gd_some hf
      obtain ⟨σ104, e105, hf⟩ := st_some hf
      refine go_iastoreS (pc' := 61) dX8_copyFrom_60 rfl R (g0.i R) g103 (fun h106 R => ?_)
      have R := Rl.cast e105 R
      refine go_aload_n (i := 0) (pc' := 62) dX8_copyFrom_61 rfl rfl rfl ?_
      refine go_getS (pc' := 65) dX8_copyFrom_62 rfl gf_LandBase_Table_17 R (g0.at R) (by decide) rfl ?_
      refine go_iload_n (i := 2) (pc' := 66) dX8_copyFrom_65 rfl rfl rfl ?_
      refine go_aload_n (i := 1) (pc' := 67) dX8_copyFrom_66 rfl rfl rfl ?_
      refine go_getS (pc' := 70) dX8_copyFrom_67 rfl gf_LandBase_Table_17 R (g1.at R) (by decide) rfl ?_
      refine go_iload_n (i := 2) (pc' := 71) dX8_copyFrom_70 rfl rfl rfl ?_
      obtain ⟨g107, hf⟩ := gd_some hf
      obtain ⟨a108, e109, hf⟩ := nn_some hf
      obtain ⟨g110, hf⟩ := gd_some hf
      refine go_aaloadS (pc' := 72) dX8_copyFrom_71 rfl (by decide) R (g1.s R) g107 e109 ?_
      obtain ⟨g111, hf⟩ := gd_some hf
      obtain ⟨σ112, e113, hf⟩ := st_some hf
      refine go_aastoreS (pc' := 73) dX8_copyFrom_72 rfl (by decide) rfl rfl R (g0.s R) g110.at g111 (fun h114 R => ?_)
      have R := Rl.cast e113 R
      refine go_aload_n (i := 0) (pc' := 74) dX8_copyFrom_73 rfl rfl rfl ?_
      refine go_getS (pc' := 77) dX8_copyFrom_74 rfl gf_LandBase_Table_17 R (g0.at R) (by decide) rfl ?_
      refine go_iload_n (i := 2) (pc' := 78) dX8_copyFrom_77 rfl rfl rfl ?_
      obtain ⟨g115, hf⟩ := gd_some hf
      obtain ⟨a116, e117, hf⟩ := nn_some hf
      obtain ⟨g118, hf⟩ := gd_some hf
      refine go_aaloadS (pc' := 79) dX8_copyFrom_78 rfl (by decide) R (g0.s R) g115 e117 ?_
      refine go_dup (pc' := 80) dX8_copyFrom_79 rfl rfl ?_
      refine go_getS (pc' := 83) dX8_copyFrom_80 rfl gf_LandBase_Table_29 R g118.at (by decide) rfl ?_
      refine go_iconst (v := 1) (pc' := 84) dX8_copyFrom_83 rfl (by decide) ?_
      refine go_iadd (pc' := 85) dX8_copyFrom_84 rfl ?_
      obtain ⟨σ119, e120, hf⟩ := st_some hf
      refine go_putI (pc' := 88) dX8_copyFrom_85 rfl pf_LandBase_Table_29 R g118.at (by decide) rfl rfl rfl (fun h121 R => ?_)
      have R := Rl.cast e120 R
      refine go_iincC (kk := 1) (pc' := 91) dX8_copyFrom_88 rfl rfl (by decide) (by decide) rfl ?_
      refine go_goto (pc' := 0) (tgt := 41) dX8_copyFrom_91 (by decide) ?_
      exact ih R g0 g1 hf
def l_X8_copyFrom_2 (n : Nat) : Nat → Nat → Nat → Int32 → xσ → Option (Unit × xσ)
  | 0, _, _, _, _ => none
  | f + 1, a0, a1, x2, σ => if (sI σ a0 2) ≤ x2 then st (wI σ a0 2 (sI σ a1 2)) (fun σ102 => l_X8_copyFrom_41 n xFU a0 a1 0 σ102) else gd (inb x2 200) (nn (sR σ (a0 + 2) x2.toNatClampNeg) (fun a106 => gd (okS n a106) (st (wI σ a106 8 ((sI σ a106 8) - 1)) (fun σ109 => (l_X8_copyFrom_2 n f) a0 a1 (x2 + 1) σ109))))
set_option maxRecDepth 100000 in
set_option maxHeartbeats 4000000 in
theorem t_X8_copyFrom_2 {G : xG} {n : Nat} : ∀ (f : Nat) {a0 : Nat} {a1 : Nat} {x2 : Int32} {σ : xσ} {h : xH} {r : Unit × xσ}, Rl n σ h → okT a0 → okT a1 → l_X8_copyFrom_2 n f a0 a1 x2 σ = some r → Go G mX8_copyFrom 2 [some (.ref a0), some (.ref a1), some (.int x2)] [] h (fun v h' => xRok (xRt mX8_copyFrom) v ∧ v = none ∧ Rl n r.2 h') := by
  intro f
  induction f with
  | zero =>
    intros
    rename _ = some _ => hf
    rw [l_X8_copyFrom_2] at hf
    cases hf
  | succ f ih =>
    intro a0 a1 x2 σ h r  R g0 g1 hf
    rw [l_X8_copyFrom_2] at hf
    refine go_iload_n (i := 2) (pc' := 3) dX8_copyFrom_2 rfl rfl rfl ?_
    refine go_aload_n (i := 0) (pc' := 4) dX8_copyFrom_3 rfl rfl rfl ?_
    refine go_getS (pc' := 7) dX8_copyFrom_4 rfl gf_LandBase_Table_21 R (g0.at R) (by decide) rfl ?_
    refine go_icmp_ge (pc' := 10) (tgt := 31) dX8_copyFrom_7 (by decide) rfl (fun c101 => ?_) (fun c101 => ?_)
    · have hf := it c101 hf
      refine go_aload_n (i := 0) (pc' := 32) dX8_copyFrom_31 rfl rfl rfl ?_
      refine go_aload_n (i := 1) (pc' := 33) dX8_copyFrom_32 rfl rfl rfl ?_
      refine go_getS (pc' := 36) dX8_copyFrom_33 rfl gf_LandBase_Table_21 R (g1.at R) (by decide) rfl ?_
      obtain ⟨σ102, e103, hf⟩ := st_some hf
      refine go_putI (pc' := 39) dX8_copyFrom_36 rfl pf_LandBase_Table_21 R (g0.at R) (by decide) rfl rfl rfl (fun h104 R => ?_)
      have R := Rl.cast e103 R
      refine go_iconst (v := 0) (pc' := 40) dX8_copyFrom_39 rfl (by decide) ?_
      refine go_istore_nE rfl (i := 2) (pc' := 41) dX8_copyFrom_40 rfl rfl (by decide) rfl ?_
      exact t_X8_copyFrom_41 xFU R g0 g1 hf
    · have hf := ie c101 hf
      refine go_aload_n (i := 0) (pc' := 11) dX8_copyFrom_10 rfl rfl rfl ?_
      refine go_getS (pc' := 14) dX8_copyFrom_11 rfl gf_LandBase_Table_17 R (g0.at R) (by decide) rfl ?_
      refine go_iload_n (i := 2) (pc' := 15) dX8_copyFrom_14 rfl rfl rfl ?_
      obtain ⟨g105, hf⟩ := gd_some hf
      obtain ⟨a106, e107, hf⟩ := nn_some hf
      obtain ⟨g108, hf⟩ := gd_some hf
      refine go_aaloadS (pc' := 16) dX8_copyFrom_15 rfl (by decide) R (g0.s R) g105 e107 ?_
      refine go_dup (pc' := 17) dX8_copyFrom_16 rfl rfl ?_
      refine go_getS (pc' := 20) dX8_copyFrom_17 rfl gf_LandBase_Table_29 R g108.at (by decide) rfl ?_
      refine go_iconst (v := 1) (pc' := 21) dX8_copyFrom_20 rfl (by decide) ?_
      refine go_isub (pc' := 22) dX8_copyFrom_21 rfl ?_
      obtain ⟨σ109, e110, hf⟩ := st_some hf
      refine go_putI (pc' := 25) dX8_copyFrom_22 rfl pf_LandBase_Table_29 R g108.at (by decide) rfl rfl rfl (fun h111 R => ?_)
      have R := Rl.cast e110 R
      refine go_iincC (kk := 1) (pc' := 28) dX8_copyFrom_25 rfl rfl (by decide) (by decide) rfl ?_
      refine go_goto (pc' := 0) (tgt := 2) dX8_copyFrom_28 (by decide) ?_
      exact ih R g0 g1 hf
def f_X8_copyFrom (n : Nat) (a0 : Nat) (a1 : Nat) (σ : xσ) : Option (Unit × xσ) := gd (okT a0) (gd (okT a1) (l_X8_copyFrom_2 n xFU a0 a1 0 σ))
set_option maxRecDepth 100000 in
set_option maxHeartbeats 4000000 in
theorem c_X8_copyFrom {G : xG} {n : Nat} {σ : xσ} {h : xH} {a0 : Nat} {a1 : Nat} {v1 : Unit} {σ1 : xσ} (R : Rl n σ h) (hf : f_X8_copyFrom n a0 a1 σ = some (v1, σ1)) : Ca G mX8_copyFrom [.ref a0, .ref a1] h (fun v h' => v = none ∧ Rl n σ1 h') := by
  refine Ca.of rfl (Nat.le_of_ble_eq_true rfl) ?_
  generalize hr : (v1, σ1) = r at hf
  suffices q : Go G mX8_copyFrom 0 (xent (xMl mX8_copyFrom) [.ref a0, .ref a1]) [] h (fun v h' => xRok (xRt mX8_copyFrom) v ∧ v = none ∧ Rl n r.2 h') by
    subst hr
    exact q
  clear hr
  rw [f_X8_copyFrom] at hf
  obtain ⟨g0, hf⟩ := gd_some hf
  obtain ⟨g1, hf⟩ := gd_some hf
  refine go_iconst (v := 0) (pc' := 1) dX8_copyFrom_0 rfl (by decide) ?_
  refine go_istore_nE rfl (i := 2) (pc' := 2) dX8_copyFrom_1 rfl rfl (by decide) rfl ?_
  exact t_X8_copyFrom_2 xFU R g0 g1 hf
def f_X3_save (n : Nat)  (σ : xσ) : Option (Int32 × xσ) := if (sI σ 10 10) = 1 then st (wI σ 10 6 1) (fun σ113 => some ((-1), σ113)) else st (wI σ 10 8 0) (fun σ102 => st (wI σ102 10 9 ((sI σ102 10 9) + 1)) (fun σ105 => bd (f_X8_copyFrom n 14 11 σ105) (fun v108 σ109 => some (0, σ109))))
set_option maxRecDepth 100000 in
set_option maxHeartbeats 4000000 in
theorem c_X3_save {G : xG} {n : Nat} {σ : xσ} {h : xH}  {v1 : Int32} {σ1 : xσ} (R : Rl n σ h) (hf : f_X3_save n σ = some (v1, σ1)) : Ca G mX3_save [.ref 10] h (fun v h' => v = some (.int v1) ∧ Rl n σ1 h') := by
  refine Ca.of rfl (Nat.le_of_ble_eq_true rfl) ?_
  generalize hr : (v1, σ1) = r at hf
  suffices q : Go G mX3_save 0 (xent (xMl mX3_save) [.ref 10]) [] h (fun v h' => xRok (xRt mX3_save) v ∧ v = some (.int r.1) ∧ Rl n r.2 h') by
    subst hr
    exact q
  clear hr
  rw [f_X3_save] at hf
  refine go_aload_n (i := 0) (pc' := 1) dX3_save_0 rfl rfl rfl ?_
  refine go_getS (pc' := 4) dX3_save_1 rfl gf_LandBase_Keeper_27 R (R.at rfl (by decide)) (by decide) rfl ?_
  refine go_iconst (v := 1) (pc' := 5) dX3_save_4 rfl (by decide) ?_
  refine go_icmp_ne (pc' := 8) (tgt := 15) dX3_save_5 (by decide) rfl (fun c101 => ?_) (fun c101 => ?_)
  · have hf := ie c101 hf
    refine go_aload_n (i := 0) (pc' := 16) dX3_save_15 rfl rfl rfl ?_
    refine go_iconst (v := 0) (pc' := 17) dX3_save_16 rfl (by decide) ?_
    obtain ⟨σ102, e103, hf⟩ := st_some hf
    refine go_putI (pc' := 20) dX3_save_17 rfl pf_LandBase_Keeper_69 R (R.at rfl (by decide)) (by decide) rfl rfl rfl (fun h104 R => ?_)
    have R := Rl.cast e103 R
    refine go_aload_n (i := 0) (pc' := 21) dX3_save_20 rfl rfl rfl ?_
    refine go_dup (pc' := 22) dX3_save_21 rfl rfl ?_
    refine go_getS (pc' := 25) dX3_save_22 rfl gf_LandBase_Keeper_78 R (R.at rfl (by decide)) (by decide) rfl ?_
    refine go_iconst (v := 1) (pc' := 26) dX3_save_25 rfl (by decide) ?_
    refine go_iadd (pc' := 27) dX3_save_26 rfl ?_
    obtain ⟨σ105, e106, hf⟩ := st_some hf
    refine go_putI (pc' := 30) dX3_save_27 rfl pf_LandBase_Keeper_78 R (R.at rfl (by decide)) (by decide) rfl rfl rfl (fun h107 R => ?_)
    have R := Rl.cast e106 R
    refine go_aload_n (i := 0) (pc' := 31) dX3_save_30 rfl rfl rfl ?_
    refine go_getS (pc' := 34) dX3_save_31 rfl gf_LandBase_Keeper_18 R (R.at rfl (by decide)) (by decide) rfl ?_
    refine go_aload_n (i := 0) (pc' := 35) dX3_save_34 rfl rfl rfl ?_
    refine go_getS (pc' := 38) dX3_save_35 rfl gf_LandBase_Keeper_12 R (R.at rfl (by decide)) (by decide) rfl ?_
    obtain ⟨v108, σ109, e110, hf⟩ := bd_some hf
    refine go_invV (As := [_]) (pc' := 41) dX3_save_38 rfl cf_X3_save_65 rfl (R.ob (R.at rfl (by decide))) rfl rfl (Nat.le_of_ble_eq_true rfl) (c_X8_copyFrom R e110) (fun q111v h112 q111 => ?_)
    obtain ⟨rfl, R⟩ := q111
    refine go_iconst (v := 0) (pc' := 42) dX3_save_41 rfl (by decide) ?_
    obtain rfl := Option.some.inj hf
    exact Go.ret (v := some (.int _)) dX3_save_42 ⟨_, rfl⟩ ⟨rfl, rfl, R⟩
  · have hf := it c101 hf
    refine go_aload_n (i := 0) (pc' := 9) dX3_save_8 rfl rfl rfl ?_
    refine go_iconst (v := 1) (pc' := 10) dX3_save_9 rfl (by decide) ?_
    obtain ⟨σ113, e114, hf⟩ := st_some hf
    refine go_putI (pc' := 13) dX3_save_10 rfl pf_LandBase_Keeper_75 R (R.at rfl (by decide)) (by decide) rfl rfl rfl (fun h115 R => ?_)
    have R := Rl.cast e114 R
    refine go_iconst (v := (-1)) (pc' := 14) dX3_save_13 rfl (by decide) ?_
    obtain rfl := Option.some.inj hf
    exact Go.ret (v := some (.int _)) dX3_save_14 ⟨_, rfl⟩ ⟨rfl, rfl, R⟩
def b_X3_writeLog_62 (n : Nat) (x2 : Int32) (σ : xσ) : Option (Int32 × xσ) := st (wI σ 10 8 ((sI σ 10 8) + x2)) (fun σ101 => bd (f_X8_copyFrom n 14 11 σ101) (fun v104 σ105 => some (0, σ105)))
set_option maxRecDepth 100000 in
set_option maxHeartbeats 4000000 in
theorem t_X3_writeLog_62 {G : xG} {n : Nat} {x2 : Int32} {σ : xσ} {h : xH} {r : Int32 × xσ} {d1 : Option Value} : Rl n σ h → b_X3_writeLog_62 n x2 σ = some r → Go G mX3_writeLog 62 [some (.ref 10), d1, some (.int x2)] [] h (fun v h' => xRok (xRt mX3_writeLog) v ∧ v = some (.int r.1) ∧ Rl n r.2 h') := by
  intro R hf
  rw [b_X3_writeLog_62] at hf
  refine go_aload_n (i := 0) (pc' := 63) dX3_writeLog_62 rfl rfl rfl ?_
  refine go_dup (pc' := 64) dX3_writeLog_63 rfl rfl ?_
  refine go_getS (pc' := 67) dX3_writeLog_64 rfl gf_LandBase_Keeper_69 R (R.at rfl (by decide)) (by decide) rfl ?_
  refine go_iload_n (i := 2) (pc' := 68) dX3_writeLog_67 rfl rfl rfl ?_
  refine go_iadd (pc' := 69) dX3_writeLog_68 rfl ?_
  obtain ⟨σ101, e102, hf⟩ := st_some hf
  refine go_putI (pc' := 72) dX3_writeLog_69 rfl pf_LandBase_Keeper_69 R (R.at rfl (by decide)) (by decide) rfl rfl rfl (fun h103 R => ?_)
  have R := Rl.cast e102 R
  refine go_aload_n (i := 0) (pc' := 73) dX3_writeLog_72 rfl rfl rfl ?_
  refine go_getS (pc' := 76) dX3_writeLog_73 rfl gf_LandBase_Keeper_18 R (R.at rfl (by decide)) (by decide) rfl ?_
  refine go_aload_n (i := 0) (pc' := 77) dX3_writeLog_76 rfl rfl rfl ?_
  refine go_getS (pc' := 80) dX3_writeLog_77 rfl gf_LandBase_Keeper_12 R (R.at rfl (by decide)) (by decide) rfl ?_
  obtain ⟨v104, σ105, e106, hf⟩ := bd_some hf
  refine go_invV (As := [_]) (pc' := 83) dX3_writeLog_80 rfl cf_X3_writeLog_65 rfl (R.ob (R.at rfl (by decide))) rfl rfl (Nat.le_of_ble_eq_true rfl) (c_X8_copyFrom R e106) (fun q107v h108 q107 => ?_)
  obtain ⟨rfl, R⟩ := q107
  refine go_iconst (v := 0) (pc' := 84) dX3_writeLog_83 rfl (by decide) ?_
  obtain rfl := Option.some.inj hf
  exact Go.ret (v := some (.int _)) dX3_writeLog_84 ⟨_, rfl⟩ ⟨rfl, rfl, R⟩
def f_X3_writeLog (n : Nat) (x1 : Int32) (σ : xσ) : Option (Int32 × xσ) := st ((((x1 + 224) - 1) / 224) + 1) (fun x101 => if ((sI σ 10 8) + x101) ≤ 64 then if (sI σ 10 10) = 0 then if x101 < (sI σ 10 11) then st (wI σ 10 11 ((sI σ 10 11) - x101)) (fun σ114 => b_X3_writeLog_62 n x101 σ114) else st (wI σ 10 6 1) (fun σ117 => some ((-1), σ117)) else st (wI σ 10 8 ((sI σ 10 8) + x101)) (fun σ105 => bd (f_X8_copyFrom n 14 11 σ105) (fun v108 σ109 => some (0, σ109))) else bd (f_X3_save n σ) (fun v120 σ121 => some (v120, σ121)))
set_option maxRecDepth 100000 in
set_option maxHeartbeats 4000000 in
theorem c_X3_writeLog {G : xG} {n : Nat} {σ : xσ} {h : xH} {x1 : Int32} {v1 : Int32} {σ1 : xσ} (R : Rl n σ h) (hf : f_X3_writeLog n x1 σ = some (v1, σ1)) : Ca G mX3_writeLog [.ref 10, .int x1] h (fun v h' => v = some (.int v1) ∧ Rl n σ1 h') := by
  refine Ca.of rfl (Nat.le_of_ble_eq_true rfl) ?_
  generalize hr : (v1, σ1) = r at hf
  suffices q : Go G mX3_writeLog 0 (xent (xMl mX3_writeLog) [.ref 10, .int x1]) [] h (fun v h' => xRok (xRt mX3_writeLog) v ∧ v = some (.int r.1) ∧ Rl n r.2 h') by
    subst hr
    exact q
  clear hr
  rw [f_X3_writeLog] at hf
  refine go_iload_n (i := 1) (pc' := 1) dX3_writeLog_0 rfl rfl rfl ?_
  refine go_sipush (v := 224) (pc' := 4) dX3_writeLog_1 rfl (by decide) ?_
  refine go_iadd (pc' := 5) dX3_writeLog_4 rfl ?_
  refine go_iconst (v := 1) (pc' := 6) dX3_writeLog_5 rfl (by decide) ?_
  refine go_isub (pc' := 7) dX3_writeLog_6 rfl ?_
  refine go_sipush (v := 224) (pc' := 10) dX3_writeLog_7 rfl (by decide) ?_
  refine go_idiv (pc' := 11) dX3_writeLog_10 rfl (by decide) ?_
  refine go_iconst (v := 1) (pc' := 12) dX3_writeLog_11 rfl (by decide) ?_
  refine go_iadd (pc' := 13) dX3_writeLog_12 rfl ?_
  obtain ⟨x101, e102, hf⟩ := st_some hf
  refine go_istore_nE e102 (i := 2) (pc' := 14) dX3_writeLog_13 rfl rfl (by decide) rfl ?_
  refine go_aload_n (i := 0) (pc' := 15) dX3_writeLog_14 rfl rfl rfl ?_
  refine go_getS (pc' := 18) dX3_writeLog_15 rfl gf_LandBase_Keeper_69 R (R.at rfl (by decide)) (by decide) rfl ?_
  refine go_iload_n (i := 2) (pc' := 19) dX3_writeLog_18 rfl rfl rfl ?_
  refine go_iadd (pc' := 20) dX3_writeLog_19 rfl ?_
  refine go_bipush (v := 64) (pc' := 22) dX3_writeLog_20 rfl (by decide) ?_
  refine go_icmp_le (pc' := 25) (tgt := 30) dX3_writeLog_22 (by decide) rfl (fun c103 => ?_) (fun c103 => ?_)
  · have hf := it c103 hf
    refine go_aload_n (i := 0) (pc' := 31) dX3_writeLog_30 rfl rfl rfl ?_
    refine go_getS (pc' := 34) dX3_writeLog_31 rfl gf_LandBase_Keeper_27 R (R.at rfl (by decide)) (by decide) rfl ?_
    refine go_if_ne (pc' := 37) (tgt := 62) dX3_writeLog_34 (by decide) rfl (fun c104 => ?_) (fun c104 => ?_)
    · have hf := ie c104 hf
      refine go_aload_n (i := 0) (pc' := 63) dX3_writeLog_62 rfl rfl rfl ?_
      refine go_dup (pc' := 64) dX3_writeLog_63 rfl rfl ?_
      refine go_getS (pc' := 67) dX3_writeLog_64 rfl gf_LandBase_Keeper_69 R (R.at rfl (by decide)) (by decide) rfl ?_
      refine go_iload_n (i := 2) (pc' := 68) dX3_writeLog_67 rfl rfl rfl ?_
      refine go_iadd (pc' := 69) dX3_writeLog_68 rfl ?_
      obtain ⟨σ105, e106, hf⟩ := st_some hf
      refine go_putI (pc' := 72) dX3_writeLog_69 rfl pf_LandBase_Keeper_69 R (R.at rfl (by decide)) (by decide) rfl rfl rfl (fun h107 R => ?_)
      have R := Rl.cast e106 R
      refine go_aload_n (i := 0) (pc' := 73) dX3_writeLog_72 rfl rfl rfl ?_
      refine go_getS (pc' := 76) dX3_writeLog_73 rfl gf_LandBase_Keeper_18 R (R.at rfl (by decide)) (by decide) rfl ?_
      refine go_aload_n (i := 0) (pc' := 77) dX3_writeLog_76 rfl rfl rfl ?_
      refine go_getS (pc' := 80) dX3_writeLog_77 rfl gf_LandBase_Keeper_12 R (R.at rfl (by decide)) (by decide) rfl ?_
      obtain ⟨v108, σ109, e110, hf⟩ := bd_some hf
      refine go_invV (As := [_]) (pc' := 83) dX3_writeLog_80 rfl cf_X3_writeLog_65 rfl (R.ob (R.at rfl (by decide))) rfl rfl (Nat.le_of_ble_eq_true rfl) (c_X8_copyFrom R e110) (fun q111v h112 q111 => ?_)
      obtain ⟨rfl, R⟩ := q111
      refine go_iconst (v := 0) (pc' := 84) dX3_writeLog_83 rfl (by decide) ?_
      obtain rfl := Option.some.inj hf
      exact Go.ret (v := some (.int _)) dX3_writeLog_84 ⟨_, rfl⟩ ⟨rfl, rfl, R⟩
    · have hf := it c104 hf
      refine go_aload_n (i := 0) (pc' := 38) dX3_writeLog_37 rfl rfl rfl ?_
      refine go_getS (pc' := 41) dX3_writeLog_38 rfl gf_LandBase_Keeper_72 R (R.at rfl (by decide)) (by decide) rfl ?_
      refine go_iload_n (i := 2) (pc' := 42) dX3_writeLog_41 rfl rfl rfl ?_
      refine go_icmp_gt (pc' := 45) (tgt := 52) dX3_writeLog_42 (by decide) rfl (fun c113 => ?_) (fun c113 => ?_)
      · have hf := it c113 hf
        refine go_aload_n (i := 0) (pc' := 53) dX3_writeLog_52 rfl rfl rfl ?_
        refine go_dup (pc' := 54) dX3_writeLog_53 rfl rfl ?_
        refine go_getS (pc' := 57) dX3_writeLog_54 rfl gf_LandBase_Keeper_72 R (R.at rfl (by decide)) (by decide) rfl ?_
        refine go_iload_n (i := 2) (pc' := 58) dX3_writeLog_57 rfl rfl rfl ?_
        refine go_isub (pc' := 59) dX3_writeLog_58 rfl ?_
        obtain ⟨σ114, e115, hf⟩ := st_some hf
        refine go_putI (pc' := 62) dX3_writeLog_59 rfl pf_LandBase_Keeper_72 R (R.at rfl (by decide)) (by decide) rfl rfl rfl (fun h116 R => ?_)
        have R := Rl.cast e115 R
        exact t_X3_writeLog_62 R hf
      · have hf := ie c113 hf
        refine go_aload_n (i := 0) (pc' := 46) dX3_writeLog_45 rfl rfl rfl ?_
        refine go_iconst (v := 1) (pc' := 47) dX3_writeLog_46 rfl (by decide) ?_
        obtain ⟨σ117, e118, hf⟩ := st_some hf
        refine go_putI (pc' := 50) dX3_writeLog_47 rfl pf_LandBase_Keeper_75 R (R.at rfl (by decide)) (by decide) rfl rfl rfl (fun h119 R => ?_)
        have R := Rl.cast e118 R
        refine go_iconst (v := (-1)) (pc' := 51) dX3_writeLog_50 rfl (by decide) ?_
        obtain rfl := Option.some.inj hf
        exact Go.ret (v := some (.int _)) dX3_writeLog_51 ⟨_, rfl⟩ ⟨rfl, rfl, R⟩
  · have hf := ie c103 hf
    refine go_aload_n (i := 0) (pc' := 26) dX3_writeLog_25 rfl rfl rfl ?_
    obtain ⟨v120, σ121, e122, hf⟩ := bd_some hf
    refine go_invV (As := []) (pc' := 29) dX3_writeLog_26 rfl cf_X3_writeLog_62 rfl (R.ob (R.at rfl (by decide))) rfl rfl (Nat.le_of_ble_eq_true rfl) (c_X3_save R e122) (fun q123v h124 q123 => ?_)
    obtain ⟨rfl, R⟩ := q123
    obtain rfl := Option.some.inj hf
    exact Go.ret (v := some (.int _)) dX3_writeLog_29 ⟨_, rfl⟩ ⟨rfl, rfl, R⟩
def f_X3_settle (n : Nat) (x1 : Int32) (σ : xσ) : Option (Int32 × xσ) := if (sI σ 10 5) = 0 then bd (f_X3_writeLog n x1 σ) (fun v102 σ103 => some (v102, σ103)) else st (wI σ 10 7 ((sI σ 10 7) + x1)) (fun σ107 => some (0, σ107))
set_option maxRecDepth 100000 in
set_option maxHeartbeats 4000000 in
theorem c_X3_settle {G : xG} {n : Nat} {σ : xσ} {h : xH} {x1 : Int32} {v1 : Int32} {σ1 : xσ} (R : Rl n σ h) (hf : f_X3_settle n x1 σ = some (v1, σ1)) : Ca G mX3_settle [.ref 10, .int x1] h (fun v h' => v = some (.int v1) ∧ Rl n σ1 h') := by
  refine Ca.of rfl (Nat.le_of_ble_eq_true rfl) ?_
  generalize hr : (v1, σ1) = r at hf
  suffices q : Go G mX3_settle 0 (xent (xMl mX3_settle) [.ref 10, .int x1]) [] h (fun v h' => xRok (xRt mX3_settle) v ∧ v = some (.int r.1) ∧ Rl n r.2 h') by
    subst hr
    exact q
  clear hr
  rw [f_X3_settle] at hf
  refine go_aload_n (i := 0) (pc' := 1) dX3_settle_0 rfl rfl rfl ?_
  refine go_getS (pc' := 4) dX3_settle_1 rfl gf_LandBase_Keeper_41 R (R.at rfl (by decide)) (by decide) rfl ?_
  refine go_if_eq (pc' := 7) (tgt := 19) dX3_settle_4 (by decide) rfl (fun c101 => ?_) (fun c101 => ?_)
  · have hf := it c101 hf
    refine go_aload_n (i := 0) (pc' := 20) dX3_settle_19 rfl rfl rfl ?_
    refine go_iload_n (i := 1) (pc' := 21) dX3_settle_20 rfl rfl rfl ?_
    obtain ⟨v102, σ103, e104, hf⟩ := bd_some hf
    refine go_invV (As := [_]) (pc' := 24) dX3_settle_21 rfl cf_X3_settle_48 rfl (R.ob (R.at rfl (by decide))) rfl rfl (Nat.le_of_ble_eq_true rfl) (c_X3_writeLog R e104) (fun q105v h106 q105 => ?_)
    obtain ⟨rfl, R⟩ := q105
    obtain rfl := Option.some.inj hf
    exact Go.ret (v := some (.int _)) dX3_settle_24 ⟨_, rfl⟩ ⟨rfl, rfl, R⟩
  · have hf := ie c101 hf
    refine go_aload_n (i := 0) (pc' := 8) dX3_settle_7 rfl rfl rfl ?_
    refine go_dup (pc' := 9) dX3_settle_8 rfl rfl ?_
    refine go_getS (pc' := 12) dX3_settle_9 rfl gf_LandBase_Keeper_45 R (R.at rfl (by decide)) (by decide) rfl ?_
    refine go_iload_n (i := 1) (pc' := 13) dX3_settle_12 rfl rfl rfl ?_
    refine go_iadd (pc' := 14) dX3_settle_13 rfl ?_
    obtain ⟨σ107, e108, hf⟩ := st_some hf
    refine go_putI (pc' := 17) dX3_settle_14 rfl pf_LandBase_Keeper_45 R (R.at rfl (by decide)) (by decide) rfl rfl rfl (fun h109 R => ?_)
    have R := Rl.cast e108 R
    refine go_iconst (v := 0) (pc' := 18) dX3_settle_17 rfl (by decide) ?_
    obtain rfl := Option.some.inj hf
    exact Go.ret (v := some (.int _)) dX3_settle_18 ⟨_, rfl⟩ ⟨rfl, rfl, R⟩
def f_X3_begin (n : Nat)  (σ : xσ) : Option (Int32 × xσ) := if (sI σ 10 5) = 0 then st (wI σ 10 5 1) (fun σ102 => st (wI σ102 10 7 0) (fun σ105 => some (0, σ105))) else some (6, σ)
set_option maxRecDepth 100000 in
set_option maxHeartbeats 4000000 in
theorem c_X3_begin {G : xG} {n : Nat} {σ : xσ} {h : xH}  {v1 : Int32} {σ1 : xσ} (R : Rl n σ h) (hf : f_X3_begin n σ = some (v1, σ1)) : Ca G mX3_begin [.ref 10] h (fun v h' => v = some (.int v1) ∧ Rl n σ1 h') := by
  refine Ca.of rfl (Nat.le_of_ble_eq_true rfl) ?_
  generalize hr : (v1, σ1) = r at hf
  suffices q : Go G mX3_begin 0 (xent (xMl mX3_begin) [.ref 10]) [] h (fun v h' => xRok (xRt mX3_begin) v ∧ v = some (.int r.1) ∧ Rl n r.2 h') by
    subst hr
    exact q
  clear hr
  rw [f_X3_begin] at hf
  refine go_aload_n (i := 0) (pc' := 1) dX3_begin_0 rfl rfl rfl ?_
  refine go_getS (pc' := 4) dX3_begin_1 rfl gf_LandBase_Keeper_41 R (R.at rfl (by decide)) (by decide) rfl ?_
  refine go_if_eq (pc' := 7) (tgt := 10) dX3_begin_4 (by decide) rfl (fun c101 => ?_) (fun c101 => ?_)
  · have hf := it c101 hf
    refine go_aload_n (i := 0) (pc' := 11) dX3_begin_10 rfl rfl rfl ?_
    refine go_iconst (v := 1) (pc' := 12) dX3_begin_11 rfl (by decide) ?_
    obtain ⟨σ102, e103, hf⟩ := st_some hf
    refine go_putI (pc' := 15) dX3_begin_12 rfl pf_LandBase_Keeper_41 R (R.at rfl (by decide)) (by decide) rfl rfl rfl (fun h104 R => ?_)
    have R := Rl.cast e103 R
    refine go_aload_n (i := 0) (pc' := 16) dX3_begin_15 rfl rfl rfl ?_
    refine go_iconst (v := 0) (pc' := 17) dX3_begin_16 rfl (by decide) ?_
    obtain ⟨σ105, e106, hf⟩ := st_some hf
    refine go_putI (pc' := 20) dX3_begin_17 rfl pf_LandBase_Keeper_45 R (R.at rfl (by decide)) (by decide) rfl rfl rfl (fun h107 R => ?_)
    have R := Rl.cast e106 R
    refine go_iconst (v := 0) (pc' := 21) dX3_begin_20 rfl (by decide) ?_
    obtain rfl := Option.some.inj hf
    exact Go.ret (v := some (.int _)) dX3_begin_21 ⟨_, rfl⟩ ⟨rfl, rfl, R⟩
  · have hf := ie c101 hf
    refine go_bipush (v := 6) (pc' := 9) dX3_begin_7 rfl (by decide) ?_
    obtain rfl := Option.some.inj hf
    exact Go.ret (v := some (.int _)) dX3_begin_9 ⟨_, rfl⟩ ⟨rfl, rfl, R⟩
def f_X3_commit (n : Nat)  (σ : xσ) : Option (Int32 × xσ) := if (sI σ 10 5) = 0 then some (6, σ) else st (wI σ 10 5 0) (fun σ102 => bd (f_X3_writeLog n (sI σ102 10 7) σ102) (fun v105 σ106 => some (v105, σ106)))
set_option maxRecDepth 100000 in
set_option maxHeartbeats 4000000 in
theorem c_X3_commit {G : xG} {n : Nat} {σ : xσ} {h : xH}  {v1 : Int32} {σ1 : xσ} (R : Rl n σ h) (hf : f_X3_commit n σ = some (v1, σ1)) : Ca G mX3_commit [.ref 10] h (fun v h' => v = some (.int v1) ∧ Rl n σ1 h') := by
  refine Ca.of rfl (Nat.le_of_ble_eq_true rfl) ?_
  generalize hr : (v1, σ1) = r at hf
  suffices q : Go G mX3_commit 0 (xent (xMl mX3_commit) [.ref 10]) [] h (fun v h' => xRok (xRt mX3_commit) v ∧ v = some (.int r.1) ∧ Rl n r.2 h') by
    subst hr
    exact q
  clear hr
  rw [f_X3_commit] at hf
  refine go_aload_n (i := 0) (pc' := 1) dX3_commit_0 rfl rfl rfl ?_
  refine go_getS (pc' := 4) dX3_commit_1 rfl gf_LandBase_Keeper_41 R (R.at rfl (by decide)) (by decide) rfl ?_
  refine go_if_ne (pc' := 7) (tgt := 10) dX3_commit_4 (by decide) rfl (fun c101 => ?_) (fun c101 => ?_)
  · have hf := ie c101 hf
    refine go_aload_n (i := 0) (pc' := 11) dX3_commit_10 rfl rfl rfl ?_
    refine go_iconst (v := 0) (pc' := 12) dX3_commit_11 rfl (by decide) ?_
    obtain ⟨σ102, e103, hf⟩ := st_some hf
    refine go_putI (pc' := 15) dX3_commit_12 rfl pf_LandBase_Keeper_41 R (R.at rfl (by decide)) (by decide) rfl rfl rfl (fun h104 R => ?_)
    have R := Rl.cast e103 R
    refine go_aload_n (i := 0) (pc' := 16) dX3_commit_15 rfl rfl rfl ?_
    refine go_aload_n (i := 0) (pc' := 17) dX3_commit_16 rfl rfl rfl ?_
    refine go_getS (pc' := 20) dX3_commit_17 rfl gf_LandBase_Keeper_45 R (R.at rfl (by decide)) (by decide) rfl ?_
    obtain ⟨v105, σ106, e107, hf⟩ := bd_some hf
    refine go_invV (As := [_]) (pc' := 23) dX3_commit_20 rfl cf_X3_commit_48 rfl (R.ob (R.at rfl (by decide))) rfl rfl (Nat.le_of_ble_eq_true rfl) (c_X3_writeLog R e107) (fun q108v h109 q108 => ?_)
    obtain ⟨rfl, R⟩ := q108
    obtain rfl := Option.some.inj hf
    exact Go.ret (v := some (.int _)) dX3_commit_23 ⟨_, rfl⟩ ⟨rfl, rfl, R⟩
  · have hf := it c101 hf
    refine go_bipush (v := 6) (pc' := 9) dX3_commit_7 rfl (by decide) ?_
    obtain rfl := Option.some.inj hf
    exact Go.ret (v := some (.int _)) dX3_commit_9 ⟨_, rfl⟩ ⟨rfl, rfl, R⟩
def f_X3_abort (n : Nat)  (σ : xσ) : Option (Int32 × xσ) := if (sI σ 10 5) = 0 then some (6, σ) else st (wI σ 10 5 0) (fun σ102 => bd (f_X8_copyFrom n 11 14 σ102) (fun v105 σ106 => some (0, σ106)))
set_option maxRecDepth 100000 in
set_option maxHeartbeats 4000000 in
theorem c_X3_abort {G : xG} {n : Nat} {σ : xσ} {h : xH}  {v1 : Int32} {σ1 : xσ} (R : Rl n σ h) (hf : f_X3_abort n σ = some (v1, σ1)) : Ca G mX3_abort [.ref 10] h (fun v h' => v = some (.int v1) ∧ Rl n σ1 h') := by
  refine Ca.of rfl (Nat.le_of_ble_eq_true rfl) ?_
  generalize hr : (v1, σ1) = r at hf
  suffices q : Go G mX3_abort 0 (xent (xMl mX3_abort) [.ref 10]) [] h (fun v h' => xRok (xRt mX3_abort) v ∧ v = some (.int r.1) ∧ Rl n r.2 h') by
    subst hr
    exact q
  clear hr
  rw [f_X3_abort] at hf
  refine go_aload_n (i := 0) (pc' := 1) dX3_abort_0 rfl rfl rfl ?_
  refine go_getS (pc' := 4) dX3_abort_1 rfl gf_LandBase_Keeper_41 R (R.at rfl (by decide)) (by decide) rfl ?_
  refine go_if_ne (pc' := 7) (tgt := 10) dX3_abort_4 (by decide) rfl (fun c101 => ?_) (fun c101 => ?_)
  · have hf := ie c101 hf
    refine go_aload_n (i := 0) (pc' := 11) dX3_abort_10 rfl rfl rfl ?_
    refine go_iconst (v := 0) (pc' := 12) dX3_abort_11 rfl (by decide) ?_
    obtain ⟨σ102, e103, hf⟩ := st_some hf
    refine go_putI (pc' := 15) dX3_abort_12 rfl pf_LandBase_Keeper_41 R (R.at rfl (by decide)) (by decide) rfl rfl rfl (fun h104 R => ?_)
    have R := Rl.cast e103 R
    refine go_aload_n (i := 0) (pc' := 16) dX3_abort_15 rfl rfl rfl ?_
    refine go_getS (pc' := 19) dX3_abort_16 rfl gf_LandBase_Keeper_12 R (R.at rfl (by decide)) (by decide) rfl ?_
    refine go_aload_n (i := 0) (pc' := 20) dX3_abort_19 rfl rfl rfl ?_
    refine go_getS (pc' := 23) dX3_abort_20 rfl gf_LandBase_Keeper_18 R (R.at rfl (by decide)) (by decide) rfl ?_
    obtain ⟨v105, σ106, e107, hf⟩ := bd_some hf
    refine go_invV (As := [_]) (pc' := 26) dX3_abort_23 rfl cf_X3_abort_65 rfl (R.ob (R.at rfl (by decide))) rfl rfl (Nat.le_of_ble_eq_true rfl) (c_X8_copyFrom R e107) (fun q108v h109 q108 => ?_)
    obtain ⟨rfl, R⟩ := q108
    refine go_iconst (v := 0) (pc' := 27) dX3_abort_26 rfl (by decide) ?_
    obtain rfl := Option.some.inj hf
    exact Go.ret (v := some (.int _)) dX3_abort_27 ⟨_, rfl⟩ ⟨rfl, rfl, R⟩
  · have hf := it c101 hf
    refine go_bipush (v := 6) (pc' := 9) dX3_abort_7 rfl (by decide) ?_
    obtain rfl := Option.some.inj hf
    exact Go.ret (v := some (.int _)) dX3_abort_9 ⟨_, rfl⟩ ⟨rfl, rfl, R⟩
def f_X3_turn (n : Nat) (x1 : Int32) (σ : xσ) : Option (Int32 × xσ) := if x1 = 4 then bd (f_X3_begin n σ) (fun v102 σ103 => some (v102, σ103)) else if x1 = 5 then bd (f_X3_commit n σ) (fun v108 σ109 => some (v108, σ109)) else if x1 = 6 then bd (f_X3_abort n σ) (fun v114 σ115 => some (v114, σ115)) else if x1 = 7 then some (0, σ) else if x1 = 8 then if (sI σ 10 5) = 0 then bd (f_X3_save n σ) (fun v122 σ123 => some (v122, σ123)) else some (6, σ) else some (0, σ)
set_option maxRecDepth 100000 in
set_option maxHeartbeats 4000000 in
theorem c_X3_turn {G : xG} {n : Nat} {σ : xσ} {h : xH} {x1 : Int32} {v1 : Int32} {σ1 : xσ} (R : Rl n σ h) (hf : f_X3_turn n x1 σ = some (v1, σ1)) : Ca G mX3_turn [.ref 10, .int x1] h (fun v h' => v = some (.int v1) ∧ Rl n σ1 h') := by
  refine Ca.of rfl (Nat.le_of_ble_eq_true rfl) ?_
  generalize hr : (v1, σ1) = r at hf
  suffices q : Go G mX3_turn 0 (xent (xMl mX3_turn) [.ref 10, .int x1]) [] h (fun v h' => xRok (xRt mX3_turn) v ∧ v = some (.int r.1) ∧ Rl n r.2 h') by
    subst hr
    exact q
  clear hr
  rw [f_X3_turn] at hf
  refine go_iload_n (i := 1) (pc' := 1) dX3_turn_0 rfl rfl rfl ?_
  by_cases c101 : x1 = 4
  · have hf := it c101 hf
    refine go_tableIn (pc' := 0) (off := 35) (tgt := 36) dX3_turn_1 (by rw [c101]; decide) (by rw [c101]; decide) (by rw [c101]; rfl) (by decide) ?_
    refine go_aload_n (i := 0) (pc' := 37) dX3_turn_36 rfl rfl rfl ?_
    obtain ⟨v102, σ103, e104, hf⟩ := bd_some hf
    refine go_invV (As := []) (pc' := 40) dX3_turn_37 rfl cf_X3_turn_52 rfl (R.ob (R.at rfl (by decide))) rfl rfl (Nat.le_of_ble_eq_true rfl) (c_X3_begin R e104) (fun q105v h106 q105 => ?_)
    obtain ⟨rfl, R⟩ := q105
    obtain rfl := Option.some.inj hf
    exact Go.ret (v := some (.int _)) dX3_turn_40 ⟨_, rfl⟩ ⟨rfl, rfl, R⟩
  have hf := ie c101 hf
  by_cases c107 : x1 = 5
  · have hf := it c107 hf
    refine go_tableIn (pc' := 0) (off := 40) (tgt := 41) dX3_turn_1 (by rw [c107]; decide) (by rw [c107]; decide) (by rw [c107]; rfl) (by decide) ?_
    refine go_aload_n (i := 0) (pc' := 42) dX3_turn_41 rfl rfl rfl ?_
    obtain ⟨v108, σ109, e110, hf⟩ := bd_some hf
    refine go_invV (As := []) (pc' := 45) dX3_turn_42 rfl cf_X3_turn_56 rfl (R.ob (R.at rfl (by decide))) rfl rfl (Nat.le_of_ble_eq_true rfl) (c_X3_commit R e110) (fun q111v h112 q111 => ?_)
    obtain ⟨rfl, R⟩ := q111
    obtain rfl := Option.some.inj hf
    exact Go.ret (v := some (.int _)) dX3_turn_45 ⟨_, rfl⟩ ⟨rfl, rfl, R⟩
  have hf := ie c107 hf
  by_cases c113 : x1 = 6
  · have hf := it c113 hf
    refine go_tableIn (pc' := 0) (off := 45) (tgt := 46) dX3_turn_1 (by rw [c113]; decide) (by rw [c113]; decide) (by rw [c113]; rfl) (by decide) ?_
    refine go_aload_n (i := 0) (pc' := 47) dX3_turn_46 rfl rfl rfl ?_
    obtain ⟨v114, σ115, e116, hf⟩ := bd_some hf
    refine go_invV (As := []) (pc' := 50) dX3_turn_47 rfl cf_X3_turn_59 rfl (R.ob (R.at rfl (by decide))) rfl rfl (Nat.le_of_ble_eq_true rfl) (c_X3_abort R e116) (fun q117v h118 q117 => ?_)
    obtain ⟨rfl, R⟩ := q117
    obtain rfl := Option.some.inj hf
    exact Go.ret (v := some (.int _)) dX3_turn_50 ⟨_, rfl⟩ ⟨rfl, rfl, R⟩
  have hf := ie c113 hf
  by_cases c119 : x1 = 7
  · have hf := it c119 hf
    refine go_tableIn (pc' := 0) (off := 67) (tgt := 68) dX3_turn_1 (by rw [c119]; decide) (by rw [c119]; decide) (by rw [c119]; rfl) (by decide) ?_
    refine go_iconst (v := 0) (pc' := 69) dX3_turn_68 rfl (by decide) ?_
    obtain rfl := Option.some.inj hf
    exact Go.ret (v := some (.int _)) dX3_turn_69 ⟨_, rfl⟩ ⟨rfl, rfl, R⟩
  have hf := ie c119 hf
  by_cases c120 : x1 = 8
  · have hf := it c120 hf
    refine go_tableIn (pc' := 0) (off := 50) (tgt := 51) dX3_turn_1 (by rw [c120]; decide) (by rw [c120]; decide) (by rw [c120]; rfl) (by decide) ?_
    refine go_aload_n (i := 0) (pc' := 52) dX3_turn_51 rfl rfl rfl ?_
    refine go_getS (pc' := 55) dX3_turn_52 rfl gf_LandBase_Keeper_41 R (R.at rfl (by decide)) (by decide) rfl ?_
    refine go_if_eq (pc' := 58) (tgt := 63) dX3_turn_55 (by decide) rfl (fun c121 => ?_) (fun c121 => ?_)
    · have hf := it c121 hf
      refine go_aload_n (i := 0) (pc' := 64) dX3_turn_63 rfl rfl rfl ?_
      obtain ⟨v122, σ123, e124, hf⟩ := bd_some hf
      refine go_invV (As := []) (pc' := 67) dX3_turn_64 rfl cf_X3_turn_62 rfl (R.ob (R.at rfl (by decide))) rfl rfl (Nat.le_of_ble_eq_true rfl) (c_X3_save R e124) (fun q125v h126 q125 => ?_)
      obtain ⟨rfl, R⟩ := q125
      obtain rfl := Option.some.inj hf
      exact Go.ret (v := some (.int _)) dX3_turn_67 ⟨_, rfl⟩ ⟨rfl, rfl, R⟩
    · have hf := ie c121 hf
      refine go_bipush (v := 6) (pc' := 60) dX3_turn_58 rfl (by decide) ?_
      refine go_goto (pc' := 0) (tgt := 67) dX3_turn_60 (by decide) ?_
      obtain rfl := Option.some.inj hf
      exact Go.ret (v := some (.int _)) dX3_turn_67 ⟨_, rfl⟩ ⟨rfl, rfl, R⟩
  have hf := ie c120 hf
  refine go_tableOut (pc' := 0) (tgt := 68) dX3_turn_1 (sw_out 4 8 (fun v h1 h2 h3 => ?_)) (by decide) ?_
  · rcases (show v = 4 ∨ v = 5 ∨ v = 6 ∨ v = 7 ∨ v = 8 by omega) with rfl | rfl | rfl | rfl | rfl
    · exact c101 h3
    · exact c107 h3
    · exact c113 h3
    · exact c119 h3
    · exact c120 h3
  · refine go_iconst (v := 0) (pc' := 69) dX3_turn_68 rfl (by decide) ?_
    obtain rfl := Option.some.inj hf
    exact Go.ret (v := some (.int _)) dX3_turn_69 ⟨_, rfl⟩ ⟨rfl, rfl, R⟩
def f_X3_restore (n : Nat)  (σ : xσ) : Option (Unit × xσ) := bd (f_X8_copyFrom n 11 14 σ) (fun v101 σ102 => st (wI σ102 10 5 0) (fun σ106 => st (wI σ106 10 6 0) (fun σ109 => st (wI σ109 10 10 ((-1))) (fun σ112 => some ((), σ112)))))
set_option maxRecDepth 100000 in
set_option maxHeartbeats 4000000 in
theorem c_X3_restore {G : xG} {n : Nat} {σ : xσ} {h : xH}  {v1 : Unit} {σ1 : xσ} (R : Rl n σ h) (hf : f_X3_restore n σ = some (v1, σ1)) : Ca G mX3_restore [.ref 10] h (fun v h' => v = none ∧ Rl n σ1 h') := by
  refine Ca.of rfl (Nat.le_of_ble_eq_true rfl) ?_
  generalize hr : (v1, σ1) = r at hf
  suffices q : Go G mX3_restore 0 (xent (xMl mX3_restore) [.ref 10]) [] h (fun v h' => xRok (xRt mX3_restore) v ∧ v = none ∧ Rl n r.2 h') by
    subst hr
    exact q
  clear hr
  rw [f_X3_restore] at hf
  refine go_aload_n (i := 0) (pc' := 1) dX3_restore_0 rfl rfl rfl ?_
  refine go_getS (pc' := 4) dX3_restore_1 rfl gf_LandBase_Keeper_12 R (R.at rfl (by decide)) (by decide) rfl ?_
  refine go_aload_n (i := 0) (pc' := 5) dX3_restore_4 rfl rfl rfl ?_
  refine go_getS (pc' := 8) dX3_restore_5 rfl gf_LandBase_Keeper_18 R (R.at rfl (by decide)) (by decide) rfl ?_
  obtain ⟨v101, σ102, e103, hf⟩ := bd_some hf
  refine go_invV (As := [_]) (pc' := 11) dX3_restore_8 rfl cf_X3_restore_65 rfl (R.ob (R.at rfl (by decide))) rfl rfl (Nat.le_of_ble_eq_true rfl) (c_X8_copyFrom R e103) (fun q104v h105 q104 => ?_)
  obtain ⟨rfl, R⟩ := q104
  refine go_aload_n (i := 0) (pc' := 12) dX3_restore_11 rfl rfl rfl ?_
  refine go_iconst (v := 0) (pc' := 13) dX3_restore_12 rfl (by decide) ?_
  obtain ⟨σ106, e107, hf⟩ := st_some hf
  refine go_putI (pc' := 16) dX3_restore_13 rfl pf_LandBase_Keeper_41 R (R.at rfl (by decide)) (by decide) rfl rfl rfl (fun h108 R => ?_)
  have R := Rl.cast e107 R
  refine go_aload_n (i := 0) (pc' := 17) dX3_restore_16 rfl rfl rfl ?_
  refine go_iconst (v := 0) (pc' := 18) dX3_restore_17 rfl (by decide) ?_
  obtain ⟨σ109, e110, hf⟩ := st_some hf
  refine go_putI (pc' := 21) dX3_restore_18 rfl pf_LandBase_Keeper_75 R (R.at rfl (by decide)) (by decide) rfl rfl rfl (fun h111 R => ?_)
  have R := Rl.cast e110 R
  refine go_aload_n (i := 0) (pc' := 22) dX3_restore_21 rfl rfl rfl ?_
  refine go_iconst (v := (-1)) (pc' := 23) dX3_restore_22 rfl (by decide) ?_
  obtain ⟨σ112, e113, hf⟩ := st_some hf
  refine go_putI (pc' := 26) dX3_restore_23 rfl pf_LandBase_Keeper_27 R (R.at rfl (by decide)) (by decide) rfl rfl rfl (fun h114 R => ?_)
  have R := Rl.cast e113 R
  obtain rfl := Option.some.inj hf
  exact Go.ret (v := none) dX3_restore_26 rfl ⟨trivial, rfl, R⟩
def b_X8_countBadRows_127 (n : Nat) (k4 : Nat → Int32 → Int32 → xσ → Option (Int32 × xσ)) (a0 : Nat) (x1 : Int32) (x2 : Int32) (σ : xσ) : Option (Int32 × xσ) := k4 a0 x1 (x2 + 1) σ
set_option maxRecDepth 100000 in
set_option maxHeartbeats 4000000 in
theorem t_X8_countBadRows_127 {G : xG} {n : Nat} {k4 : Nat → Int32 → Int32 → xσ → Option (Int32 × xσ)} (hk4 : ∀ {a0 : Nat} {x1 : Int32} {x2 : Int32} {σ : xσ} {h : xH} {r : Int32 × xσ} {d3 : Option Value} {d4 : Option Value} {d5 : Option Value}, Rl n σ h → okT a0 → k4 a0 x1 x2 σ = some r → Go G mX8_countBadRows 4 [some (.ref a0), some (.int x1), some (.int x2), d3, d4, d5] [] h (fun v h' => xRok (xRt mX8_countBadRows) v ∧ v = some (.int r.1) ∧ Rl n r.2 h')) {a0 : Nat} {x1 : Int32} {x2 : Int32} {σ : xσ} {h : xH} {r : Int32 × xσ} {d3 : Option Value} {d4 : Option Value} {d5 : Option Value} : Rl n σ h → okT a0 → b_X8_countBadRows_127 n k4 a0 x1 x2 σ = some r → Go G mX8_countBadRows 127 [some (.ref a0), some (.int x1), some (.int x2), d3, d4, d5] [] h (fun v h' => xRok (xRt mX8_countBadRows) v ∧ v = some (.int r.1) ∧ Rl n r.2 h') := by
  intro R g0 hf
  rw [b_X8_countBadRows_127] at hf
  refine go_iincC (kk := 1) (pc' := 130) dX8_countBadRows_127 rfl rfl (by decide) (by decide) rfl ?_
  refine go_goto (pc' := 0) (tgt := 4) dX8_countBadRows_130 (by decide) ?_
  exact hk4 R g0 hf
def b_X8_countBadRows_108 (n : Nat) (k4 : Nat → Int32 → Int32 → xσ → Option (Int32 × xσ)) (a0 : Nat) (x1 : Int32) (x2 : Int32) (x3 : Int32) (x4 : Int32) (xs0 : Int32) (σ : xσ) : Option (Int32 × xσ) := if x3 = 0 then b_X8_countBadRows_127 n k4 a0 (x1 + 1) x2 σ else if x4 = 0 then b_X8_countBadRows_127 n k4 a0 (x1 + 1) x2 σ else if xs0 = 0 then b_X8_countBadRows_127 n k4 a0 (x1 + 1) x2 σ else k4 a0 x1 (x2 + 1) σ
set_option maxRecDepth 100000 in
set_option maxHeartbeats 4000000 in
theorem t_X8_countBadRows_108 {G : xG} {n : Nat} {k4 : Nat → Int32 → Int32 → xσ → Option (Int32 × xσ)} (hk4 : ∀ {a0 : Nat} {x1 : Int32} {x2 : Int32} {σ : xσ} {h : xH} {r : Int32 × xσ} {d3 : Option Value} {d4 : Option Value} {d5 : Option Value}, Rl n σ h → okT a0 → k4 a0 x1 x2 σ = some r → Go G mX8_countBadRows 4 [some (.ref a0), some (.int x1), some (.int x2), d3, d4, d5] [] h (fun v h' => xRok (xRt mX8_countBadRows) v ∧ v = some (.int r.1) ∧ Rl n r.2 h')) {a0 : Nat} {x1 : Int32} {x2 : Int32} {x3 : Int32} {x4 : Int32} {xs0 : Int32} {σ : xσ} {h : xH} {r : Int32 × xσ} {d5 : Option Value} : Rl n σ h → okT a0 → b_X8_countBadRows_108 n k4 a0 x1 x2 x3 x4 xs0 σ = some r → Go G mX8_countBadRows 108 [some (.ref a0), some (.int x1), some (.int x2), some (.int x3), some (.int x4), d5] [.int xs0] h (fun v h' => xRok (xRt mX8_countBadRows) v ∧ v = some (.int r.1) ∧ Rl n r.2 h') := by
  intro R g0 hf
  rw [b_X8_countBadRows_108] at hf
  refine go_istoreE rfl (pc' := 110) dX8_countBadRows_108 rfl (by decide) rfl ?_
  refine go_iload_n (i := 3) (pc' := 111) dX8_countBadRows_110 rfl rfl rfl ?_
  refine go_if_eq (pc' := 114) (tgt := 124) dX8_countBadRows_111 (by decide) rfl (fun c101 => ?_) (fun c101 => ?_)
  · have hf := it c101 hf
    refine go_iincC (kk := 1) (pc' := 127) dX8_countBadRows_124 rfl rfl (by decide) (by decide) rfl ?_
    exact t_X8_countBadRows_127 @hk4 R g0 hf
  · have hf := ie c101 hf
    refine go_iload (pc' := 116) dX8_countBadRows_114 rfl rfl ?_
    refine go_if_eq (pc' := 119) (tgt := 124) dX8_countBadRows_116 (by decide) rfl (fun c102 => ?_) (fun c102 => ?_)
    · have hf := it c102 hf
      refine go_iincC (kk := 1) (pc' := 127) dX8_countBadRows_124 rfl rfl (by decide) (by decide) rfl ?_
      exact t_X8_countBadRows_127 @hk4 R g0 hf
    · have hf := ie c102 hf
      refine go_iload (pc' := 121) dX8_countBadRows_119 rfl rfl ?_
      refine go_if_ne (pc' := 124) (tgt := 127) dX8_countBadRows_121 (by decide) rfl (fun c103 => ?_) (fun c103 => ?_)
      · have hf := ie c103 hf
        refine go_iincC (kk := 1) (pc' := 130) dX8_countBadRows_127 rfl rfl (by decide) (by decide) rfl ?_
        refine go_goto (pc' := 0) (tgt := 4) dX8_countBadRows_130 (by decide) ?_
        exact hk4 R g0 hf
      · have hf := it c103 hf
        refine go_iincC (kk := 1) (pc' := 127) dX8_countBadRows_124 rfl rfl (by decide) (by decide) rfl ?_
        exact t_X8_countBadRows_127 @hk4 R g0 hf
def b_X8_countBadRows_66 (n : Nat) (k4 : Nat → Int32 → Int32 → xσ → Option (Int32 × xσ)) (a0 : Nat) (x1 : Int32) (x2 : Int32) (x3 : Int32) (xs0 : Int32) (σ : xσ) : Option (Int32 × xσ) := gd (inb x2 200) (nn (sR σ (a0 + 2) x2.toNatClampNeg) (fun a102 => gd (okS n a102) (gd (inb x2 200) (nn (sR σ (a0 + 2) x2.toNatClampNeg) (fun a106 => gd (okS n a106) (if (sI σ a106 1) < 1 then b_X8_countBadRows_108 n k4 a0 x1 x2 x3 xs0 0 σ else gd (inb x2 200) (nn (sR σ (a0 + 2) x2.toNatClampNeg) (fun a111 => gd (okS n a111) (if (sI σ a111 8) < 1 then b_X8_countBadRows_108 n k4 a0 x1 x2 x3 xs0 0 σ else b_X8_countBadRows_108 n k4 a0 x1 x2 x3 xs0 1 σ)))))))))
set_option maxRecDepth 100000 in
set_option maxHeartbeats 4000000 in
theorem t_X8_countBadRows_66 {G : xG} {n : Nat} {k4 : Nat → Int32 → Int32 → xσ → Option (Int32 × xσ)} (hk4 : ∀ {a0 : Nat} {x1 : Int32} {x2 : Int32} {σ : xσ} {h : xH} {r : Int32 × xσ} {d3 : Option Value} {d4 : Option Value} {d5 : Option Value}, Rl n σ h → okT a0 → k4 a0 x1 x2 σ = some r → Go G mX8_countBadRows 4 [some (.ref a0), some (.int x1), some (.int x2), d3, d4, d5] [] h (fun v h' => xRok (xRt mX8_countBadRows) v ∧ v = some (.int r.1) ∧ Rl n r.2 h')) {a0 : Nat} {x1 : Int32} {x2 : Int32} {x3 : Int32} {xs0 : Int32} {σ : xσ} {h : xH} {r : Int32 × xσ} {d4 : Option Value} {d5 : Option Value} : Rl n σ h → okT a0 → b_X8_countBadRows_66 n k4 a0 x1 x2 x3 xs0 σ = some r → Go G mX8_countBadRows 66 [some (.ref a0), some (.int x1), some (.int x2), some (.int x3), d4, d5] [.int xs0] h (fun v h' => xRok (xRt mX8_countBadRows) v ∧ v = some (.int r.1) ∧ Rl n r.2 h') := by
  intro R g0 hf
  rw [b_X8_countBadRows_66] at hf
  refine go_istoreE rfl (pc' := 68) dX8_countBadRows_66 rfl (by decide) rfl ?_
  refine go_aload_n (i := 0) (pc' := 69) dX8_countBadRows_68 rfl rfl rfl ?_
  refine go_getS (pc' := 72) dX8_countBadRows_69 rfl gf_LandBase_Table_17 R (g0.at R) (by decide) rfl ?_
  refine go_iload_n (i := 2) (pc' := 73) dX8_countBadRows_72 rfl rfl rfl ?_
  obtain ⟨g101, hf⟩ := gd_some hf
  obtain ⟨a102, e103, hf⟩ := nn_some hf
  obtain ⟨g104, hf⟩ := gd_some hf
  refine go_aaloadS (pc' := 74) dX8_countBadRows_73 rfl (by decide) R (g0.s R) g101 e103 ?_
  refine go_ifnull (pc' := 77) dX8_countBadRows_74 rfl ?_
  refine go_aload_n (i := 0) (pc' := 78) dX8_countBadRows_77 rfl rfl rfl ?_
  refine go_getS (pc' := 81) dX8_countBadRows_78 rfl gf_LandBase_Table_17 R (g0.at R) (by decide) rfl ?_
  refine go_iload_n (i := 2) (pc' := 82) dX8_countBadRows_81 rfl rfl rfl ?_
  obtain ⟨g105, hf⟩ := gd_some hf
  obtain ⟨a106, e107, hf⟩ := nn_some hf
  obtain ⟨g108, hf⟩ := gd_some hf
  refine go_aaloadS (pc' := 83) dX8_countBadRows_82 rfl (by decide) R (g0.s R) g105 e107 ?_
  refine go_getS (pc' := 86) dX8_countBadRows_83 rfl gf_LandBase_Table_32 R g108.at (by decide) rfl ?_
  refine go_iconst (v := 1) (pc' := 87) dX8_countBadRows_86 rfl (by decide) ?_
  refine go_icmp_lt (pc' := 90) (tgt := 107) dX8_countBadRows_87 (by decide) rfl (fun c109 => ?_) (fun c109 => ?_)
  · have hf := it c109 hf
    refine go_iconst (v := 0) (pc' := 108) dX8_countBadRows_107 rfl (by decide) ?_
    exact t_X8_countBadRows_108 @hk4 R g0 hf
  · have hf := ie c109 hf
    refine go_aload_n (i := 0) (pc' := 91) dX8_countBadRows_90 rfl rfl rfl ?_
    refine go_getS (pc' := 94) dX8_countBadRows_91 rfl gf_LandBase_Table_17 R (g0.at R) (by decide) rfl ?_
    refine go_iload_n (i := 2) (pc' := 95) dX8_countBadRows_94 rfl rfl rfl ?_
    obtain ⟨g110, hf⟩ := gd_some hf
    obtain ⟨a111, e112, hf⟩ := nn_some hf
    obtain ⟨g113, hf⟩ := gd_some hf
    refine go_aaloadS (pc' := 96) dX8_countBadRows_95 rfl (by decide) R (g0.s R) g110 e112 ?_
    refine go_getS (pc' := 99) dX8_countBadRows_96 rfl gf_LandBase_Table_29 R g113.at (by decide) rfl ?_
    refine go_iconst (v := 1) (pc' := 100) dX8_countBadRows_99 rfl (by decide) ?_
    refine go_icmp_lt (pc' := 103) (tgt := 107) dX8_countBadRows_100 (by decide) rfl (fun c114 => ?_) (fun c114 => ?_)
    · have hf := it c114 hf
      refine go_iconst (v := 0) (pc' := 108) dX8_countBadRows_107 rfl (by decide) ?_
      exact t_X8_countBadRows_108 @hk4 R g0 hf
    · have hf := ie c114 hf
      refine go_iconst (v := 1) (pc' := 104) dX8_countBadRows_103 rfl (by decide) ?_
      refine go_goto (pc' := 0) (tgt := 108) dX8_countBadRows_104 (by decide) ?_
      exact t_X8_countBadRows_108 @hk4 R g0 hf
def b_X8_countBadRows_38 (n : Nat) (k4 : Nat → Int32 → Int32 → xσ → Option (Int32 × xσ)) (a0 : Nat) (x1 : Int32) (x2 : Int32) (xs0 : Int32) (σ : xσ) : Option (Int32 × xσ) := gd (inb x2 200) (if (sI σ (a0 + 1) x2.toNatClampNeg) < 1 then b_X8_countBadRows_66 n k4 a0 x1 x2 xs0 0 σ else gd (inb x2 200) (if 9999 < (sI σ (a0 + 1) x2.toNatClampNeg) then b_X8_countBadRows_66 n k4 a0 x1 x2 xs0 0 σ else b_X8_countBadRows_66 n k4 a0 x1 x2 xs0 1 σ))
set_option maxRecDepth 100000 in
set_option maxHeartbeats 4000000 in
theorem t_X8_countBadRows_38 {G : xG} {n : Nat} {k4 : Nat → Int32 → Int32 → xσ → Option (Int32 × xσ)} (hk4 : ∀ {a0 : Nat} {x1 : Int32} {x2 : Int32} {σ : xσ} {h : xH} {r : Int32 × xσ} {d3 : Option Value} {d4 : Option Value} {d5 : Option Value}, Rl n σ h → okT a0 → k4 a0 x1 x2 σ = some r → Go G mX8_countBadRows 4 [some (.ref a0), some (.int x1), some (.int x2), d3, d4, d5] [] h (fun v h' => xRok (xRt mX8_countBadRows) v ∧ v = some (.int r.1) ∧ Rl n r.2 h')) {a0 : Nat} {x1 : Int32} {x2 : Int32} {xs0 : Int32} {σ : xσ} {h : xH} {r : Int32 × xσ} {d3 : Option Value} {d4 : Option Value} {d5 : Option Value} : Rl n σ h → okT a0 → b_X8_countBadRows_38 n k4 a0 x1 x2 xs0 σ = some r → Go G mX8_countBadRows 38 [some (.ref a0), some (.int x1), some (.int x2), d3, d4, d5] [.int xs0] h (fun v h' => xRok (xRt mX8_countBadRows) v ∧ v = some (.int r.1) ∧ Rl n r.2 h') := by
  intro R g0 hf
  rw [b_X8_countBadRows_38] at hf
  refine go_istore_nE rfl (i := 3) (pc' := 39) dX8_countBadRows_38 rfl rfl (by decide) rfl ?_
  refine go_aload_n (i := 0) (pc' := 40) dX8_countBadRows_39 rfl rfl rfl ?_
  refine go_getS (pc' := 43) dX8_countBadRows_40 rfl gf_LandBase_Table_9 R (g0.at R) (by decide) rfl ?_
  refine go_iload_n (i := 2) (pc' := 44) dX8_countBadRows_43 rfl rfl rfl ?_
  obtain ⟨g101, hf⟩ := gd_some hf
  refine go_ialoadS (pc' := 45) dX8_countBadRows_44 rfl R (g0.i R) g101 ?_
  refine go_iconst (v := 1) (pc' := 46) dX8_countBadRows_45 rfl (by decide) ?_
  refine go_icmp_lt (pc' := 49) (tgt := 65) dX8_countBadRows_46 (by decide) rfl (fun c102 => ?_) (fun c102 => ?_)
  · have hf := it c102 hf
    refine go_iconst (v := 0) (pc' := 66) dX8_countBadRows_65 rfl (by decide) ?_
    exact t_X8_countBadRows_66 @hk4 R g0 hf
  · have hf := ie c102 hf
    refine go_aload_n (i := 0) (pc' := 50) dX8_countBadRows_49 rfl rfl rfl ?_
    refine go_getS (pc' := 53) dX8_countBadRows_50 rfl gf_LandBase_Table_9 R (g0.at R) (by decide) rfl ?_
    refine go_iload_n (i := 2) (pc' := 54) dX8_countBadRows_53 rfl rfl rfl ?_
    obtain ⟨g103, hf⟩ := gd_some hf
    refine go_ialoadS (pc' := 55) dX8_countBadRows_54 rfl R (g0.i R) g103 ?_
    refine go_sipush (v := 9999) (pc' := 58) dX8_countBadRows_55 rfl (by decide) ?_
    refine go_icmp_gt (pc' := 61) (tgt := 65) dX8_countBadRows_58 (by decide) rfl (fun c104 => ?_) (fun c104 => ?_)
    · have hf := it c104 hf
      refine go_iconst (v := 0) (pc' := 66) dX8_countBadRows_65 rfl (by decide) ?_
      exact t_X8_countBadRows_66 @hk4 R g0 hf
    · have hf := ie c104 hf
      refine go_iconst (v := 1) (pc' := 62) dX8_countBadRows_61 rfl (by decide) ?_
      refine go_goto (pc' := 0) (tgt := 66) dX8_countBadRows_62 (by decide) ?_
      exact t_X8_countBadRows_66 @hk4 R g0 hf
def l_X8_countBadRows_4 (n : Nat) : Nat → Nat → Int32 → Int32 → xσ → Option (Int32 × xσ)
  | 0, _, _, _, _ => none
  | f + 1, a0, x1, x2, σ => if (sI σ a0 2) ≤ x2 then some (x1, σ) else if x2 = 0 then b_X8_countBadRows_38 n (l_X8_countBadRows_4 n f) a0 x1 x2 1 σ else gd (inb (x2 - 1) 200) (gd (inb x2 200) (if (sI σ (a0 + 1) x2.toNatClampNeg) ≤ (sI σ (a0 + 1) (x2 - 1).toNatClampNeg) then b_X8_countBadRows_38 n (l_X8_countBadRows_4 n f) a0 x1 x2 0 σ else b_X8_countBadRows_38 n (l_X8_countBadRows_4 n f) a0 x1 x2 1 σ))
set_option maxRecDepth 100000 in
set_option maxHeartbeats 4000000 in
theorem t_X8_countBadRows_4 {G : xG} {n : Nat} : ∀ (f : Nat) {a0 : Nat} {x1 : Int32} {x2 : Int32} {σ : xσ} {h : xH} {r : Int32 × xσ} {d3 : Option Value} {d4 : Option Value} {d5 : Option Value}, Rl n σ h → okT a0 → l_X8_countBadRows_4 n f a0 x1 x2 σ = some r → Go G mX8_countBadRows 4 [some (.ref a0), some (.int x1), some (.int x2), d3, d4, d5] [] h (fun v h' => xRok (xRt mX8_countBadRows) v ∧ v = some (.int r.1) ∧ Rl n r.2 h') := by
  intro f
  induction f with
  | zero =>
    intros
    rename _ = some _ => hf
    rw [l_X8_countBadRows_4] at hf
    cases hf
  | succ f ih =>
    intro a0 x1 x2 σ h r d3 d4 d5 R g0 hf
    rw [l_X8_countBadRows_4] at hf
    refine go_iload_n (i := 2) (pc' := 5) dX8_countBadRows_4 rfl rfl rfl ?_
    refine go_aload_n (i := 0) (pc' := 6) dX8_countBadRows_5 rfl rfl rfl ?_
    refine go_getS (pc' := 9) dX8_countBadRows_6 rfl gf_LandBase_Table_21 R (g0.at R) (by decide) rfl ?_
    refine go_icmp_ge (pc' := 12) (tgt := 133) dX8_countBadRows_9 (by decide) rfl (fun c101 => ?_) (fun c101 => ?_)
    · have hf := it c101 hf
      refine go_iload_n (i := 1) (pc' := 134) dX8_countBadRows_133 rfl rfl rfl ?_
      obtain rfl := Option.some.inj hf
      exact Go.ret (v := some (.int _)) dX8_countBadRows_134 ⟨_, rfl⟩ ⟨rfl, rfl, R⟩
    · have hf := ie c101 hf
      refine go_iload_n (i := 2) (pc' := 13) dX8_countBadRows_12 rfl rfl rfl ?_
      refine go_if_eq (pc' := 16) (tgt := 33) dX8_countBadRows_13 (by decide) rfl (fun c102 => ?_) (fun c102 => ?_)
      · have hf := it c102 hf
        refine go_iconst (v := 1) (pc' := 34) dX8_countBadRows_33 rfl (by decide) ?_
        refine go_goto (pc' := 0) (tgt := 38) dX8_countBadRows_34 (by decide) ?_
        exact t_X8_countBadRows_38 @ih R g0 hf
      · have hf := ie c102 hf
        refine go_aload_n (i := 0) (pc' := 17) dX8_countBadRows_16 rfl rfl rfl ?_
        refine go_getS (pc' := 20) dX8_countBadRows_17 rfl gf_LandBase_Table_9 R (g0.at R) (by decide) rfl ?_
        refine go_iload_n (i := 2) (pc' := 21) dX8_countBadRows_20 rfl rfl rfl ?_
        refine go_iconst (v := 1) (pc' := 22) dX8_countBadRows_21 rfl (by decide) ?_
        refine go_isub (pc' := 23) dX8_countBadRows_22 rfl ?_
        obtain ⟨g103, hf⟩ := gd_some hf
        refine go_ialoadS (pc' := 24) dX8_countBadRows_23 rfl R (g0.i R) g103 ?_
        refine go_aload_n (i := 0) (pc' := 25) dX8_countBadRows_24 rfl rfl rfl ?_
        refine go_getS (pc' := 28) dX8_countBadRows_25 rfl gf_LandBase_Table_9 R (g0.at R) (by decide) rfl ?_
        refine go_iload_n (i := 2) (pc' := 29) dX8_countBadRows_28 rfl rfl rfl ?_
        obtain ⟨g104, hf⟩ := gd_some hf
        refine go_ialoadS (pc' := 30) dX8_countBadRows_29 rfl R (g0.i R) g104 ?_
        refine go_icmp_ge (pc' := 33) (tgt := 37) dX8_countBadRows_30 (by decide) rfl (fun c105 => ?_) (fun c105 => ?_)
        · have hf := it c105 hf
          refine go_iconst (v := 0) (pc' := 38) dX8_countBadRows_37 rfl (by decide) ?_
          exact t_X8_countBadRows_38 @ih R g0 hf
        · have hf := ie c105 hf
          refine go_iconst (v := 1) (pc' := 34) dX8_countBadRows_33 rfl (by decide) ?_
          refine go_goto (pc' := 0) (tgt := 38) dX8_countBadRows_34 (by decide) ?_
          exact t_X8_countBadRows_38 @ih R g0 hf
def f_X8_countBadRows (n : Nat) (a0 : Nat) (σ : xσ) : Option (Int32 × xσ) := gd (okT a0) (l_X8_countBadRows_4 n xFU a0 0 0 σ)
set_option maxRecDepth 100000 in
set_option maxHeartbeats 4000000 in
theorem c_X8_countBadRows {G : xG} {n : Nat} {σ : xσ} {h : xH} {a0 : Nat} {v1 : Int32} {σ1 : xσ} (R : Rl n σ h) (hf : f_X8_countBadRows n a0 σ = some (v1, σ1)) : Ca G mX8_countBadRows [.ref a0] h (fun v h' => v = some (.int v1) ∧ Rl n σ1 h') := by
  refine Ca.of rfl (Nat.le_of_ble_eq_true rfl) ?_
  generalize hr : (v1, σ1) = r at hf
  suffices q : Go G mX8_countBadRows 0 (xent (xMl mX8_countBadRows) [.ref a0]) [] h (fun v h' => xRok (xRt mX8_countBadRows) v ∧ v = some (.int r.1) ∧ Rl n r.2 h') by
    subst hr
    exact q
  clear hr
  rw [f_X8_countBadRows] at hf
  obtain ⟨g0, hf⟩ := gd_some hf
  refine go_iconst (v := 0) (pc' := 1) dX8_countBadRows_0 rfl (by decide) ?_
  refine go_istore_nE rfl (i := 1) (pc' := 2) dX8_countBadRows_1 rfl rfl (by decide) rfl ?_
  refine go_iconst (v := 0) (pc' := 3) dX8_countBadRows_2 rfl (by decide) ?_
  refine go_istore_nE rfl (i := 2) (pc' := 4) dX8_countBadRows_3 rfl rfl (by decide) rfl ?_
  exact t_X8_countBadRows_4 xFU R g0 hf
def b_X3_countFlaws_86 (n : Nat) (x1 : Int32) (σ : xσ) : Option (Int32 × xσ) := some (x1, σ)
set_option maxRecDepth 100000 in
set_option maxHeartbeats 4000000 in
theorem t_X3_countFlaws_86 {G : xG} {n : Nat} {x1 : Int32} {σ : xσ} {h : xH} {r : Int32 × xσ} {d0 : Option Value} : Rl n σ h → b_X3_countFlaws_86 n x1 σ = some r → Go G mX3_countFlaws 86 [d0, some (.int x1)] [] h (fun v h' => xRok (xRt mX3_countFlaws) v ∧ v = some (.int r.1) ∧ Rl n r.2 h') := by
  intro R hf
  rw [b_X3_countFlaws_86] at hf
  refine go_iload_n (i := 1) (pc' := 87) dX3_countFlaws_86 rfl rfl rfl ?_
  obtain rfl := Option.some.inj hf
  exact Go.ret (v := some (.int _)) dX3_countFlaws_87 ⟨_, rfl⟩ ⟨rfl, rfl, R⟩
def b_X3_countFlaws_52 (n : Nat) (x1 : Int32) (σ : xσ) : Option (Int32 × xσ) := if (sI σ 10 5) = 0 then if (sI σ 10 6) = 0 then if (sI σ 11 2) = (sI σ 14 2) then some (x1, σ) else b_X3_countFlaws_86 n (x1 + 1) σ else some (x1, σ) else some (x1, σ)
set_option maxRecDepth 100000 in
set_option maxHeartbeats 4000000 in
theorem t_X3_countFlaws_52 {G : xG} {n : Nat} {x1 : Int32} {σ : xσ} {h : xH} {r : Int32 × xσ} : Rl n σ h → b_X3_countFlaws_52 n x1 σ = some r → Go G mX3_countFlaws 52 [some (.ref 10), some (.int x1)] [] h (fun v h' => xRok (xRt mX3_countFlaws) v ∧ v = some (.int r.1) ∧ Rl n r.2 h') := by
  intro R hf
  rw [b_X3_countFlaws_52] at hf
  refine go_aload_n (i := 0) (pc' := 53) dX3_countFlaws_52 rfl rfl rfl ?_
  refine go_getS (pc' := 56) dX3_countFlaws_53 rfl gf_LandBase_Keeper_41 R (R.at rfl (by decide)) (by decide) rfl ?_
  refine go_if_ne (pc' := 59) (tgt := 86) dX3_countFlaws_56 (by decide) rfl (fun c101 => ?_) (fun c101 => ?_)
  · have hf := ie c101 hf
    refine go_iload_n (i := 1) (pc' := 87) dX3_countFlaws_86 rfl rfl rfl ?_
    obtain rfl := Option.some.inj hf
    exact Go.ret (v := some (.int _)) dX3_countFlaws_87 ⟨_, rfl⟩ ⟨rfl, rfl, R⟩
  · have hf := it c101 hf
    refine go_aload_n (i := 0) (pc' := 60) dX3_countFlaws_59 rfl rfl rfl ?_
    refine go_getS (pc' := 63) dX3_countFlaws_60 rfl gf_LandBase_Keeper_75 R (R.at rfl (by decide)) (by decide) rfl ?_
    refine go_if_ne (pc' := 66) (tgt := 86) dX3_countFlaws_63 (by decide) rfl (fun c102 => ?_) (fun c102 => ?_)
    · have hf := ie c102 hf
      refine go_iload_n (i := 1) (pc' := 87) dX3_countFlaws_86 rfl rfl rfl ?_
      obtain rfl := Option.some.inj hf
      exact Go.ret (v := some (.int _)) dX3_countFlaws_87 ⟨_, rfl⟩ ⟨rfl, rfl, R⟩
    · have hf := it c102 hf
      refine go_aload_n (i := 0) (pc' := 67) dX3_countFlaws_66 rfl rfl rfl ?_
      refine go_getS (pc' := 70) dX3_countFlaws_67 rfl gf_LandBase_Keeper_12 R (R.at rfl (by decide)) (by decide) rfl ?_
      refine go_getS (pc' := 73) dX3_countFlaws_70 rfl gf_LandBase_Keeper_84 R (R.at rfl (by decide)) (by decide) rfl ?_
      refine go_aload_n (i := 0) (pc' := 74) dX3_countFlaws_73 rfl rfl rfl ?_
      refine go_getS (pc' := 77) dX3_countFlaws_74 rfl gf_LandBase_Keeper_18 R (R.at rfl (by decide)) (by decide) rfl ?_
      refine go_getS (pc' := 80) dX3_countFlaws_77 rfl gf_LandBase_Keeper_84 R (R.at rfl (by decide)) (by decide) rfl ?_
      refine go_icmp_eq (pc' := 83) (tgt := 86) dX3_countFlaws_80 (by decide) rfl (fun c103 => ?_) (fun c103 => ?_)
      · have hf := it c103 hf
        refine go_iload_n (i := 1) (pc' := 87) dX3_countFlaws_86 rfl rfl rfl ?_
        obtain rfl := Option.some.inj hf
        exact Go.ret (v := some (.int _)) dX3_countFlaws_87 ⟨_, rfl⟩ ⟨rfl, rfl, R⟩
      · have hf := ie c103 hf
        refine go_iincC (kk := 1) (pc' := 86) dX3_countFlaws_83 rfl rfl (by decide) (by decide) rfl ?_
        exact t_X3_countFlaws_86 R hf
def f_X3_countFlaws (n : Nat)  (σ : xσ) : Option (Int32 × xσ) := bd (f_X8_countBadRows n 11 σ) (fun v101 σ102 => bd (f_X8_countBadRows n 14 σ102) (fun v106 σ107 => st (v101 + v106) (fun x111 => if (sI σ107 10 8) < 0 then b_X3_countFlaws_52 n (x111 + 1) σ107 else if 64 < (sI σ107 10 8) then b_X3_countFlaws_52 n (x111 + 1) σ107 else if (sI σ107 10 7) < 0 then b_X3_countFlaws_52 n (x111 + 1) σ107 else if (sI σ107 10 7) ≤ 14112 then if (sI σ107 10 5) = 0 then if (sI σ107 10 6) = 0 then if (sI σ107 11 2) = (sI σ107 14 2) then some (x111, σ107) else b_X3_countFlaws_86 n (x111 + 1) σ107 else some (x111, σ107) else some (x111, σ107) else b_X3_countFlaws_52 n (x111 + 1) σ107)))
set_option maxRecDepth 100000 in
set_option maxHeartbeats 4000000 in
theorem c_X3_countFlaws {G : xG} {n : Nat} {σ : xσ} {h : xH}  {v1 : Int32} {σ1 : xσ} (R : Rl n σ h) (hf : f_X3_countFlaws n σ = some (v1, σ1)) : Ca G mX3_countFlaws [.ref 10] h (fun v h' => v = some (.int v1) ∧ Rl n σ1 h') := by
  refine Ca.of rfl (Nat.le_of_ble_eq_true rfl) ?_
  generalize hr : (v1, σ1) = r at hf
  suffices q : Go G mX3_countFlaws 0 (xent (xMl mX3_countFlaws) [.ref 10]) [] h (fun v h' => xRok (xRt mX3_countFlaws) v ∧ v = some (.int r.1) ∧ Rl n r.2 h') by
    subst hr
    exact q
  clear hr
  rw [f_X3_countFlaws] at hf
  refine go_aload_n (i := 0) (pc' := 1) dX3_countFlaws_0 rfl rfl rfl ?_
  refine go_getS (pc' := 4) dX3_countFlaws_1 rfl gf_LandBase_Keeper_12 R (R.at rfl (by decide)) (by decide) rfl ?_
  obtain ⟨v101, σ102, e103, hf⟩ := bd_some hf
  refine go_invV (As := []) (pc' := 7) dX3_countFlaws_4 rfl cf_X3_countFlaws_81 rfl (R.ob (R.at rfl (by decide))) rfl rfl (Nat.le_of_ble_eq_true rfl) (c_X8_countBadRows R e103) (fun q104v h105 q104 => ?_)
  obtain ⟨rfl, R⟩ := q104
  refine go_aload_n (i := 0) (pc' := 8) dX3_countFlaws_7 rfl rfl rfl ?_
  refine go_getS (pc' := 11) dX3_countFlaws_8 rfl gf_LandBase_Keeper_18 R (R.at rfl (by decide)) (by decide) rfl ?_
  obtain ⟨v106, σ107, e108, hf⟩ := bd_some hf
  refine go_invV (As := []) (pc' := 14) dX3_countFlaws_11 rfl cf_X3_countFlaws_81 rfl (R.ob (R.at rfl (by decide))) rfl rfl (Nat.le_of_ble_eq_true rfl) (c_X8_countBadRows R e108) (fun q109v h110 q109 => ?_)
  obtain ⟨rfl, R⟩ := q109
  refine go_iadd (pc' := 15) dX3_countFlaws_14 rfl ?_
  obtain ⟨x111, e112, hf⟩ := st_some hf
  refine go_istore_nE e112 (i := 1) (pc' := 16) dX3_countFlaws_15 rfl rfl (by decide) rfl ?_
  refine go_aload_n (i := 0) (pc' := 17) dX3_countFlaws_16 rfl rfl rfl ?_
  refine go_getS (pc' := 20) dX3_countFlaws_17 rfl gf_LandBase_Keeper_69 R (R.at rfl (by decide)) (by decide) rfl ?_
  refine go_if_lt (pc' := 23) (tgt := 49) dX3_countFlaws_20 (by decide) rfl (fun c113 => ?_) (fun c113 => ?_)
  · have hf := it c113 hf
    refine go_iincC (kk := 1) (pc' := 52) dX3_countFlaws_49 rfl rfl (by decide) (by decide) rfl ?_
    exact t_X3_countFlaws_52 R hf
  · have hf := ie c113 hf
    refine go_aload_n (i := 0) (pc' := 24) dX3_countFlaws_23 rfl rfl rfl ?_
    refine go_getS (pc' := 27) dX3_countFlaws_24 rfl gf_LandBase_Keeper_69 R (R.at rfl (by decide)) (by decide) rfl ?_
    refine go_bipush (v := 64) (pc' := 29) dX3_countFlaws_27 rfl (by decide) ?_
    refine go_icmp_gt (pc' := 32) (tgt := 49) dX3_countFlaws_29 (by decide) rfl (fun c114 => ?_) (fun c114 => ?_)
    · have hf := it c114 hf
      refine go_iincC (kk := 1) (pc' := 52) dX3_countFlaws_49 rfl rfl (by decide) (by decide) rfl ?_
      exact t_X3_countFlaws_52 R hf
    · have hf := ie c114 hf
      refine go_aload_n (i := 0) (pc' := 33) dX3_countFlaws_32 rfl rfl rfl ?_
      refine go_getS (pc' := 36) dX3_countFlaws_33 rfl gf_LandBase_Keeper_45 R (R.at rfl (by decide)) (by decide) rfl ?_
      refine go_if_lt (pc' := 39) (tgt := 49) dX3_countFlaws_36 (by decide) rfl (fun c115 => ?_) (fun c115 => ?_)
      · have hf := it c115 hf
        refine go_iincC (kk := 1) (pc' := 52) dX3_countFlaws_49 rfl rfl (by decide) (by decide) rfl ?_
        exact t_X3_countFlaws_52 R hf
      · have hf := ie c115 hf
        refine go_aload_n (i := 0) (pc' := 40) dX3_countFlaws_39 rfl rfl rfl ?_
        refine go_getS (pc' := 43) dX3_countFlaws_40 rfl gf_LandBase_Keeper_45 R (R.at rfl (by decide)) (by decide) rfl ?_
        refine go_sipush (v := 14112) (pc' := 46) dX3_countFlaws_43 rfl (by decide) ?_
        refine go_icmp_le (pc' := 49) (tgt := 52) dX3_countFlaws_46 (by decide) rfl (fun c116 => ?_) (fun c116 => ?_)
        · have hf := it c116 hf
          refine go_aload_n (i := 0) (pc' := 53) dX3_countFlaws_52 rfl rfl rfl ?_
          refine go_getS (pc' := 56) dX3_countFlaws_53 rfl gf_LandBase_Keeper_41 R (R.at rfl (by decide)) (by decide) rfl ?_
          refine go_if_ne (pc' := 59) (tgt := 86) dX3_countFlaws_56 (by decide) rfl (fun c117 => ?_) (fun c117 => ?_)
          · have hf := ie c117 hf
            refine go_iload_n (i := 1) (pc' := 87) dX3_countFlaws_86 rfl rfl rfl ?_
            obtain rfl := Option.some.inj hf
            exact Go.ret (v := some (.int _)) dX3_countFlaws_87 ⟨_, rfl⟩ ⟨rfl, rfl, R⟩
          · have hf := it c117 hf
            refine go_aload_n (i := 0) (pc' := 60) dX3_countFlaws_59 rfl rfl rfl ?_
            refine go_getS (pc' := 63) dX3_countFlaws_60 rfl gf_LandBase_Keeper_75 R (R.at rfl (by decide)) (by decide) rfl ?_
            refine go_if_ne (pc' := 66) (tgt := 86) dX3_countFlaws_63 (by decide) rfl (fun c118 => ?_) (fun c118 => ?_)
            · have hf := ie c118 hf
              refine go_iload_n (i := 1) (pc' := 87) dX3_countFlaws_86 rfl rfl rfl ?_
              obtain rfl := Option.some.inj hf
              exact Go.ret (v := some (.int _)) dX3_countFlaws_87 ⟨_, rfl⟩ ⟨rfl, rfl, R⟩
            · have hf := it c118 hf
              refine go_aload_n (i := 0) (pc' := 67) dX3_countFlaws_66 rfl rfl rfl ?_
              refine go_getS (pc' := 70) dX3_countFlaws_67 rfl gf_LandBase_Keeper_12 R (R.at rfl (by decide)) (by decide) rfl ?_
              refine go_getS (pc' := 73) dX3_countFlaws_70 rfl gf_LandBase_Keeper_84 R (R.at rfl (by decide)) (by decide) rfl ?_
              refine go_aload_n (i := 0) (pc' := 74) dX3_countFlaws_73 rfl rfl rfl ?_
              refine go_getS (pc' := 77) dX3_countFlaws_74 rfl gf_LandBase_Keeper_18 R (R.at rfl (by decide)) (by decide) rfl ?_
              refine go_getS (pc' := 80) dX3_countFlaws_77 rfl gf_LandBase_Keeper_84 R (R.at rfl (by decide)) (by decide) rfl ?_
              refine go_icmp_eq (pc' := 83) (tgt := 86) dX3_countFlaws_80 (by decide) rfl (fun c119 => ?_) (fun c119 => ?_)
              · have hf := it c119 hf
                refine go_iload_n (i := 1) (pc' := 87) dX3_countFlaws_86 rfl rfl rfl ?_
                obtain rfl := Option.some.inj hf
                exact Go.ret (v := some (.int _)) dX3_countFlaws_87 ⟨_, rfl⟩ ⟨rfl, rfl, R⟩
              · have hf := ie c119 hf
                refine go_iincC (kk := 1) (pc' := 86) dX3_countFlaws_83 rfl rfl (by decide) (by decide) rfl ?_
                exact t_X3_countFlaws_86 R hf
        · have hf := ie c116 hf
          refine go_iincC (kk := 1) (pc' := 52) dX3_countFlaws_49 rfl rfl (by decide) (by decide) rfl ?_
          exact t_X3_countFlaws_52 R hf
def b_X4_isInWindow_308 (n : Nat) (k47 : Nat → Int32 → Int32 → Int32 → Int32 → Int32 → xσ → Option (Int32 × xσ)) (a0 : Nat) (x1 : Int32) (x2 : Int32) (x3 : Int32) (x4 : Int32) (x5 : Int32) (σ : xσ) : Option (Int32 × xσ) := k47 a0 x1 x2 x3 x4 (x5 + 1) σ
set_option maxRecDepth 100000 in
set_option maxHeartbeats 4000000 in
theorem t_X4_isInWindow_308 {G : xG} {n : Nat} {k47 : Nat → Int32 → Int32 → Int32 → Int32 → Int32 → xσ → Option (Int32 × xσ)} (hk47 : ∀ {a0 : Nat} {x1 : Int32} {x2 : Int32} {x3 : Int32} {x4 : Int32} {x5 : Int32} {σ : xσ} {h : xH} {r : Int32 × xσ} {d6 : Option Value} {d7 : Option Value} {d8 : Option Value} {d9 : Option Value} {d10 : Option Value} {d11 : Option Value} {d12 : Option Value} {d13 : Option Value} {d14 : Option Value} {d15 : Option Value} {d16 : Option Value}, Rl n σ h → okS n a0 → k47 a0 x1 x2 x3 x4 x5 σ = some r → Go G mX4_isInWindow 47 [some (.ref a0), some (.int x1), some (.int x2), some (.int x3), some (.int x4), some (.int x5), d6, d7, d8, d9, d10, d11, d12, d13, d14, d15, d16] [] h (fun v h' => xRok (xRt mX4_isInWindow) v ∧ v = some (.int r.1) ∧ Rl n r.2 h')) {a0 : Nat} {x1 : Int32} {x2 : Int32} {x3 : Int32} {x4 : Int32} {x5 : Int32} {σ : xσ} {h : xH} {r : Int32 × xσ} {d6 : Option Value} {d7 : Option Value} {d8 : Option Value} {d9 : Option Value} {d10 : Option Value} {d11 : Option Value} {d12 : Option Value} {d13 : Option Value} {d14 : Option Value} {d15 : Option Value} {d16 : Option Value} : Rl n σ h → okS n a0 → b_X4_isInWindow_308 n k47 a0 x1 x2 x3 x4 x5 σ = some r → Go G mX4_isInWindow 308 [some (.ref a0), some (.int x1), some (.int x2), some (.int x3), some (.int x4), some (.int x5), d6, d7, d8, d9, d10, d11, d12, d13, d14, d15, d16] [] h (fun v h' => xRok (xRt mX4_isInWindow) v ∧ v = some (.int r.1) ∧ Rl n r.2 h') := by
  intro R g0 hf
  rw [b_X4_isInWindow_308] at hf
  refine go_iincC (kk := 1) (pc' := 311) dX4_isInWindow_308 rfl rfl (by decide) (by decide) rfl ?_
  refine go_goto (pc' := 0) (tgt := 47) dX4_isInWindow_311 (by decide) ?_
  exact hk47 R g0 hf
def b_X4_isInWindow_294 (n : Nat) (k47 : Nat → Int32 → Int32 → Int32 → Int32 → Int32 → xσ → Option (Int32 × xσ)) (a0 : Nat) (x1 : Int32) (x2 : Int32) (x3 : Int32) (x4 : Int32) (x5 : Int32) (x15 : Int32) (xs0 : Int32) (σ : xσ) : Option (Int32 × xσ) := if x15 = 0 then if xs0 = 0 then some (1, σ) else k47 a0 x1 x2 x3 x4 (x5 + 1) σ else k47 a0 x1 x2 x3 x4 (x5 + 1) σ
set_option maxRecDepth 100000 in
set_option maxHeartbeats 4000000 in
theorem t_X4_isInWindow_294 {G : xG} {n : Nat} {k47 : Nat → Int32 → Int32 → Int32 → Int32 → Int32 → xσ → Option (Int32 × xσ)} (hk47 : ∀ {a0 : Nat} {x1 : Int32} {x2 : Int32} {x3 : Int32} {x4 : Int32} {x5 : Int32} {σ : xσ} {h : xH} {r : Int32 × xσ} {d6 : Option Value} {d7 : Option Value} {d8 : Option Value} {d9 : Option Value} {d10 : Option Value} {d11 : Option Value} {d12 : Option Value} {d13 : Option Value} {d14 : Option Value} {d15 : Option Value} {d16 : Option Value}, Rl n σ h → okS n a0 → k47 a0 x1 x2 x3 x4 x5 σ = some r → Go G mX4_isInWindow 47 [some (.ref a0), some (.int x1), some (.int x2), some (.int x3), some (.int x4), some (.int x5), d6, d7, d8, d9, d10, d11, d12, d13, d14, d15, d16] [] h (fun v h' => xRok (xRt mX4_isInWindow) v ∧ v = some (.int r.1) ∧ Rl n r.2 h')) {a0 : Nat} {x1 : Int32} {x2 : Int32} {x3 : Int32} {x4 : Int32} {x5 : Int32} {x15 : Int32} {xs0 : Int32} {σ : xσ} {h : xH} {r : Int32 × xσ} {d6 : Option Value} {d7 : Option Value} {d8 : Option Value} {d9 : Option Value} {d10 : Option Value} {d11 : Option Value} {d12 : Option Value} {d13 : Option Value} {d14 : Option Value} {d16 : Option Value} : Rl n σ h → okS n a0 → b_X4_isInWindow_294 n k47 a0 x1 x2 x3 x4 x5 x15 xs0 σ = some r → Go G mX4_isInWindow 294 [some (.ref a0), some (.int x1), some (.int x2), some (.int x3), some (.int x4), some (.int x5), d6, d7, d8, d9, d10, d11, d12, d13, d14, some (.int x15), d16] [.int xs0] h (fun v h' => xRok (xRt mX4_isInWindow) v ∧ v = some (.int r.1) ∧ Rl n r.2 h') := by
  intro R g0 hf
  rw [b_X4_isInWindow_294] at hf
  refine go_istoreE rfl (pc' := 296) dX4_isInWindow_294 rfl (by decide) rfl ?_
  refine go_iload (pc' := 298) dX4_isInWindow_296 rfl rfl ?_
  refine go_if_ne (pc' := 301) (tgt := 308) dX4_isInWindow_298 (by decide) rfl (fun c101 => ?_) (fun c101 => ?_)
  · have hf := ie c101 hf
    refine go_iincC (kk := 1) (pc' := 311) dX4_isInWindow_308 rfl rfl (by decide) (by decide) rfl ?_
    refine go_goto (pc' := 0) (tgt := 47) dX4_isInWindow_311 (by decide) ?_
    exact hk47 R g0 hf
  · have hf := it c101 hf
    refine go_iload (pc' := 303) dX4_isInWindow_301 rfl rfl ?_
    refine go_if_ne (pc' := 306) (tgt := 308) dX4_isInWindow_303 (by decide) rfl (fun c102 => ?_) (fun c102 => ?_)
    · have hf := ie c102 hf
      refine go_iincC (kk := 1) (pc' := 311) dX4_isInWindow_308 rfl rfl (by decide) (by decide) rfl ?_
      refine go_goto (pc' := 0) (tgt := 47) dX4_isInWindow_311 (by decide) ?_
      exact hk47 R g0 hf
    · have hf := it c102 hf
      refine go_iconst (v := 1) (pc' := 307) dX4_isInWindow_306 rfl (by decide) ?_
      obtain rfl := Option.some.inj hf
      exact Go.ret (v := some (.int _)) dX4_isInWindow_307 ⟨_, rfl⟩ ⟨rfl, rfl, R⟩
def b_X4_isInWindow_259 (n : Nat) (k47 : Nat → Int32 → Int32 → Int32 → Int32 → Int32 → xσ → Option (Int32 × xσ)) (a0 : Nat) (x1 : Int32) (x2 : Int32) (x3 : Int32) (x4 : Int32) (x5 : Int32) (l7 : Int64) (l9 : Int64) (l11 : Int64) (l13 : Int64) (xs0 : Int32) (σ : xσ) : Option (Int32 × xσ) := if 0 ≤ (lg_cmp l7 ((0 : Int64))) then b_X4_isInWindow_294 n k47 a0 x1 x2 x3 x4 x5 xs0 0 σ else if 0 ≤ (lg_cmp l9 ((0 : Int64))) then b_X4_isInWindow_294 n k47 a0 x1 x2 x3 x4 x5 xs0 0 σ else if 0 ≤ (lg_cmp l11 ((0 : Int64))) then b_X4_isInWindow_294 n k47 a0 x1 x2 x3 x4 x5 xs0 0 σ else if 0 ≤ (lg_cmp l13 ((0 : Int64))) then b_X4_isInWindow_294 n k47 a0 x1 x2 x3 x4 x5 xs0 0 σ else b_X4_isInWindow_294 n k47 a0 x1 x2 x3 x4 x5 xs0 1 σ
set_option maxRecDepth 100000 in
set_option maxHeartbeats 4000000 in
theorem t_X4_isInWindow_259 {G : xG} {n : Nat} {k47 : Nat → Int32 → Int32 → Int32 → Int32 → Int32 → xσ → Option (Int32 × xσ)} (hk47 : ∀ {a0 : Nat} {x1 : Int32} {x2 : Int32} {x3 : Int32} {x4 : Int32} {x5 : Int32} {σ : xσ} {h : xH} {r : Int32 × xσ} {d6 : Option Value} {d7 : Option Value} {d8 : Option Value} {d9 : Option Value} {d10 : Option Value} {d11 : Option Value} {d12 : Option Value} {d13 : Option Value} {d14 : Option Value} {d15 : Option Value} {d16 : Option Value}, Rl n σ h → okS n a0 → k47 a0 x1 x2 x3 x4 x5 σ = some r → Go G mX4_isInWindow 47 [some (.ref a0), some (.int x1), some (.int x2), some (.int x3), some (.int x4), some (.int x5), d6, d7, d8, d9, d10, d11, d12, d13, d14, d15, d16] [] h (fun v h' => xRok (xRt mX4_isInWindow) v ∧ v = some (.int r.1) ∧ Rl n r.2 h')) {a0 : Nat} {x1 : Int32} {x2 : Int32} {x3 : Int32} {x4 : Int32} {x5 : Int32} {l7 : Int64} {l9 : Int64} {l11 : Int64} {l13 : Int64} {xs0 : Int32} {σ : xσ} {h : xH} {r : Int32 × xσ} {d6 : Option Value} {d15 : Option Value} {d16 : Option Value} : Rl n σ h → okS n a0 → b_X4_isInWindow_259 n k47 a0 x1 x2 x3 x4 x5 l7 l9 l11 l13 xs0 σ = some r → Go G mX4_isInWindow 259 [some (.ref a0), some (.int x1), some (.int x2), some (.int x3), some (.int x4), some (.int x5), d6, some (.long l7), none, some (.long l9), none, some (.long l11), none, some (.long l13), none, d15, d16] [.int xs0] h (fun v h' => xRok (xRt mX4_isInWindow) v ∧ v = some (.int r.1) ∧ Rl n r.2 h') := by
  intro R g0 hf
  rw [b_X4_isInWindow_259] at hf
  refine go_istoreE rfl (pc' := 261) dX4_isInWindow_259 rfl (by decide) rfl ?_
  refine go_lload (pc' := 263) dX4_isInWindow_261 rfl rfl ?_
  refine go_lconst (v := 0) (pc' := 264) dX4_isInWindow_263 rfl (by decide) ?_
  refine go_lcmp (pc' := 265) dX4_isInWindow_264 rfl ?_
  refine go_if_ge (pc' := 268) (tgt := 293) dX4_isInWindow_265 (by decide) rfl (fun c101 => ?_) (fun c101 => ?_)
  · have hf := it c101 hf
    refine go_iconst (v := 0) (pc' := 294) dX4_isInWindow_293 rfl (by decide) ?_
    exact t_X4_isInWindow_294 @hk47 R g0 hf
  · have hf := ie c101 hf
    refine go_lload (pc' := 270) dX4_isInWindow_268 rfl rfl ?_
    refine go_lconst (v := 0) (pc' := 271) dX4_isInWindow_270 rfl (by decide) ?_
    refine go_lcmp (pc' := 272) dX4_isInWindow_271 rfl ?_
    refine go_if_ge (pc' := 275) (tgt := 293) dX4_isInWindow_272 (by decide) rfl (fun c102 => ?_) (fun c102 => ?_)
    · have hf := it c102 hf
      refine go_iconst (v := 0) (pc' := 294) dX4_isInWindow_293 rfl (by decide) ?_
      exact t_X4_isInWindow_294 @hk47 R g0 hf
    · have hf := ie c102 hf
      refine go_lload (pc' := 277) dX4_isInWindow_275 rfl rfl ?_
      refine go_lconst (v := 0) (pc' := 278) dX4_isInWindow_277 rfl (by decide) ?_
      refine go_lcmp (pc' := 279) dX4_isInWindow_278 rfl ?_
      refine go_if_ge (pc' := 282) (tgt := 293) dX4_isInWindow_279 (by decide) rfl (fun c103 => ?_) (fun c103 => ?_)
      · have hf := it c103 hf
        refine go_iconst (v := 0) (pc' := 294) dX4_isInWindow_293 rfl (by decide) ?_
        exact t_X4_isInWindow_294 @hk47 R g0 hf
      · have hf := ie c103 hf
        refine go_lload (pc' := 284) dX4_isInWindow_282 rfl rfl ?_
        refine go_lconst (v := 0) (pc' := 285) dX4_isInWindow_284 rfl (by decide) ?_
        refine go_lcmp (pc' := 286) dX4_isInWindow_285 rfl ?_
        refine go_if_ge (pc' := 289) (tgt := 293) dX4_isInWindow_286 (by decide) rfl (fun c104 => ?_) (fun c104 => ?_)
        · have hf := it c104 hf
          refine go_iconst (v := 0) (pc' := 294) dX4_isInWindow_293 rfl (by decide) ?_
          exact t_X4_isInWindow_294 @hk47 R g0 hf
        · have hf := ie c104 hf
          refine go_iconst (v := 1) (pc' := 290) dX4_isInWindow_289 rfl (by decide) ?_
          refine go_goto (pc' := 0) (tgt := 294) dX4_isInWindow_290 (by decide) ?_
          exact t_X4_isInWindow_294 @hk47 R g0 hf
def b_X4_isInWindow_156 (n : Nat) (k47 : Nat → Int32 → Int32 → Int32 → Int32 → Int32 → xσ → Option (Int32 × xσ)) (a0 : Nat) (x1 : Int32) (x2 : Int32) (x3 : Int32) (x4 : Int32) (x5 : Int32) (xs0 : Int32) (σ : xσ) : Option (Int32 × xσ) := gd (inb x5 40) (if (sI σ (a0 + 4) x5.toNatClampNeg) = 0 then if xs0 = 0 then bd (f_X4_sideOf n a0 x5 (x1.toInt64) (x2.toInt64) σ) (fun v104 σ105 => bd (f_X4_sideOf n a0 x5 (x1.toInt64) (x4.toInt64) σ105) (fun v109 σ110 => bd (f_X4_sideOf n a0 x5 (x3.toInt64) (x2.toInt64) σ110) (fun v114 σ115 => bd (f_X4_sideOf n a0 x5 (x3.toInt64) (x4.toInt64) σ115) (fun v119 σ120 => if (lg_cmp v104 ((0 : Int64))) ≤ 0 then b_X4_isInWindow_259 n k47 a0 x1 x2 x3 x4 x5 v104 v109 v114 v119 0 σ120 else if (lg_cmp v109 ((0 : Int64))) ≤ 0 then b_X4_isInWindow_259 n k47 a0 x1 x2 x3 x4 x5 v104 v109 v114 v119 0 σ120 else if (lg_cmp v114 ((0 : Int64))) ≤ 0 then b_X4_isInWindow_259 n k47 a0 x1 x2 x3 x4 x5 v104 v109 v114 v119 0 σ120 else if (lg_cmp v119 ((0 : Int64))) ≤ 0 then b_X4_isInWindow_259 n k47 a0 x1 x2 x3 x4 x5 v104 v109 v114 v119 0 σ120 else b_X4_isInWindow_259 n k47 a0 x1 x2 x3 x4 x5 v104 v109 v114 v119 1 σ120)))) else b_X4_isInWindow_308 n k47 a0 x1 x2 x3 x4 x5 σ else k47 a0 x1 x2 x3 x4 (x5 + 1) σ)
set_option maxRecDepth 100000 in
set_option maxHeartbeats 4000000 in
theorem t_X4_isInWindow_156 {G : xG} {n : Nat} {k47 : Nat → Int32 → Int32 → Int32 → Int32 → Int32 → xσ → Option (Int32 × xσ)} (hk47 : ∀ {a0 : Nat} {x1 : Int32} {x2 : Int32} {x3 : Int32} {x4 : Int32} {x5 : Int32} {σ : xσ} {h : xH} {r : Int32 × xσ} {d6 : Option Value} {d7 : Option Value} {d8 : Option Value} {d9 : Option Value} {d10 : Option Value} {d11 : Option Value} {d12 : Option Value} {d13 : Option Value} {d14 : Option Value} {d15 : Option Value} {d16 : Option Value}, Rl n σ h → okS n a0 → k47 a0 x1 x2 x3 x4 x5 σ = some r → Go G mX4_isInWindow 47 [some (.ref a0), some (.int x1), some (.int x2), some (.int x3), some (.int x4), some (.int x5), d6, d7, d8, d9, d10, d11, d12, d13, d14, d15, d16] [] h (fun v h' => xRok (xRt mX4_isInWindow) v ∧ v = some (.int r.1) ∧ Rl n r.2 h')) {a0 : Nat} {x1 : Int32} {x2 : Int32} {x3 : Int32} {x4 : Int32} {x5 : Int32} {xs0 : Int32} {σ : xσ} {h : xH} {r : Int32 × xσ} {d6 : Option Value} {d7 : Option Value} {d8 : Option Value} {d9 : Option Value} {d10 : Option Value} {d11 : Option Value} {d12 : Option Value} {d13 : Option Value} {d14 : Option Value} {d15 : Option Value} {d16 : Option Value} : Rl n σ h → okS n a0 → b_X4_isInWindow_156 n k47 a0 x1 x2 x3 x4 x5 xs0 σ = some r → Go G mX4_isInWindow 156 [some (.ref a0), some (.int x1), some (.int x2), some (.int x3), some (.int x4), some (.int x5), d6, d7, d8, d9, d10, d11, d12, d13, d14, d15, d16] [.int xs0] h (fun v h' => xRok (xRt mX4_isInWindow) v ∧ v = some (.int r.1) ∧ Rl n r.2 h') := by
  intro R g0 hf
  rw [b_X4_isInWindow_156] at hf
  refine go_istoreE rfl (pc' := 158) dX4_isInWindow_156 rfl (by decide) rfl ?_
  refine go_aload_n (i := 0) (pc' := 159) dX4_isInWindow_158 rfl rfl rfl ?_
  refine go_getS (pc' := 162) dX4_isInWindow_159 rfl gf_LandBase_Plane_61 R g0.at (by decide) rfl ?_
  refine go_iload (pc' := 164) dX4_isInWindow_162 rfl rfl ?_
  obtain ⟨g101, hf⟩ := gd_some hf
  refine go_zaloadS (pc' := 165) dX4_isInWindow_164 rfl R g0.l g101 ?_
  refine go_if_ne (pc' := 168) (tgt := 308) dX4_isInWindow_165 (by decide) rfl (fun c102 => ?_) (fun c102 => ?_)
  · have hf := ie c102 hf
    refine go_iincC (kk := 1) (pc' := 311) dX4_isInWindow_308 rfl rfl (by decide) (by decide) rfl ?_
    refine go_goto (pc' := 0) (tgt := 47) dX4_isInWindow_311 (by decide) ?_
    exact hk47 R g0 hf
  · have hf := it c102 hf
    refine go_iload (pc' := 170) dX4_isInWindow_168 rfl rfl ?_
    refine go_if_eq (pc' := 173) (tgt := 176) dX4_isInWindow_170 (by decide) rfl (fun c103 => ?_) (fun c103 => ?_)
    · have hf := it c103 hf
      refine go_aload_n (i := 0) (pc' := 177) dX4_isInWindow_176 rfl rfl rfl ?_
      refine go_iload (pc' := 179) dX4_isInWindow_177 rfl rfl ?_
      refine go_iload_n (i := 1) (pc' := 180) dX4_isInWindow_179 rfl rfl rfl ?_
      refine go_i2l (pc' := 181) dX4_isInWindow_180 rfl rfl ?_
      refine go_iload_n (i := 2) (pc' := 182) dX4_isInWindow_181 rfl rfl rfl ?_
      refine go_i2l (pc' := 183) dX4_isInWindow_182 rfl rfl ?_
      obtain ⟨v104, σ105, e106, hf⟩ := bd_some hf
      refine go_invS (As := [_, _, _, _]) (pc' := 186) dX4_isInWindow_183 rfl cf_X4_isInWindow_24 rfl rfl (Nat.le_of_ble_eq_true rfl) (c_X4_sideOf R e106) (fun q107v h108 q107 => ?_)
      obtain ⟨rfl, R⟩ := q107
      refine go_lstoreE rfl (pc' := 188) dX4_isInWindow_186 rfl (by decide) rfl ?_
      refine go_aload_n (i := 0) (pc' := 189) dX4_isInWindow_188 rfl rfl rfl ?_
      refine go_iload (pc' := 191) dX4_isInWindow_189 rfl rfl ?_
      refine go_iload_n (i := 1) (pc' := 192) dX4_isInWindow_191 rfl rfl rfl ?_
      refine go_i2l (pc' := 193) dX4_isInWindow_192 rfl rfl ?_
      refine go_iload (pc' := 195) dX4_isInWindow_193 rfl rfl ?_
      refine go_i2l (pc' := 196) dX4_isInWindow_195 rfl rfl ?_
      obtain ⟨v109, σ110, e111, hf⟩ := bd_some hf
      refine go_invS (As := [_, _, _, _]) (pc' := 199) dX4_isInWindow_196 rfl cf_X4_isInWindow_24 rfl rfl (Nat.le_of_ble_eq_true rfl) (c_X4_sideOf R e111) (fun q112v h113 q112 => ?_)
      obtain ⟨rfl, R⟩ := q112
      refine go_lstoreE rfl (pc' := 201) dX4_isInWindow_199 rfl (by decide) rfl ?_
      refine go_aload_n (i := 0) (pc' := 202) dX4_isInWindow_201 rfl rfl rfl ?_
      refine go_iload (pc' := 204) dX4_isInWindow_202 rfl rfl ?_
      refine go_iload_n (i := 3) (pc' := 205) dX4_isInWindow_204 rfl rfl rfl ?_
      refine go_i2l (pc' := 206) dX4_isInWindow_205 rfl rfl ?_
      refine go_iload_n (i := 2) (pc' := 207) dX4_isInWindow_206 rfl rfl rfl ?_
      refine go_i2l (pc' := 208) dX4_isInWindow_207 rfl rfl ?_
      obtain ⟨v114, σ115, e116, hf⟩ := bd_some hf
      refine go_invS (As := [_, _, _, _]) (pc' := 211) dX4_isInWindow_208 rfl cf_X4_isInWindow_24 rfl rfl (Nat.le_of_ble_eq_true rfl) (c_X4_sideOf R e116) (fun q117v h118 q117 => ?_)
      obtain ⟨rfl, R⟩ := q117
      refine go_lstoreE rfl (pc' := 213) dX4_isInWindow_211 rfl (by decide) rfl ?_
      refine go_aload_n (i := 0) (pc' := 214) dX4_isInWindow_213 rfl rfl rfl ?_
      refine go_iload (pc' := 216) dX4_isInWindow_214 rfl rfl ?_
      refine go_iload_n (i := 3) (pc' := 217) dX4_isInWindow_216 rfl rfl rfl ?_
      refine go_i2l (pc' := 218) dX4_isInWindow_217 rfl rfl ?_
      refine go_iload (pc' := 220) dX4_isInWindow_218 rfl rfl ?_
      refine go_i2l (pc' := 221) dX4_isInWindow_220 rfl rfl ?_
      obtain ⟨v119, σ120, e121, hf⟩ := bd_some hf
      refine go_invS (As := [_, _, _, _]) (pc' := 224) dX4_isInWindow_221 rfl cf_X4_isInWindow_24 rfl rfl (Nat.le_of_ble_eq_true rfl) (c_X4_sideOf R e121) (fun q122v h123 q122 => ?_)
      obtain ⟨rfl, R⟩ := q122
      refine go_lstoreE rfl (pc' := 226) dX4_isInWindow_224 rfl (by decide) rfl ?_
      refine go_lload (pc' := 228) dX4_isInWindow_226 rfl rfl ?_
      refine go_lconst (v := 0) (pc' := 229) dX4_isInWindow_228 rfl (by decide) ?_
      refine go_lcmp (pc' := 230) dX4_isInWindow_229 rfl ?_
      refine go_if_le (pc' := 233) (tgt := 258) dX4_isInWindow_230 (by decide) rfl (fun c124 => ?_) (fun c124 => ?_)
      · have hf := it c124 hf
        refine go_iconst (v := 0) (pc' := 259) dX4_isInWindow_258 rfl (by decide) ?_
        exact t_X4_isInWindow_259 @hk47 R g0 hf
      · have hf := ie c124 hf
        refine go_lload (pc' := 235) dX4_isInWindow_233 rfl rfl ?_
        refine go_lconst (v := 0) (pc' := 236) dX4_isInWindow_235 rfl (by decide) ?_
        refine go_lcmp (pc' := 237) dX4_isInWindow_236 rfl ?_
        refine go_if_le (pc' := 240) (tgt := 258) dX4_isInWindow_237 (by decide) rfl (fun c125 => ?_) (fun c125 => ?_)
        · have hf := it c125 hf
          refine go_iconst (v := 0) (pc' := 259) dX4_isInWindow_258 rfl (by decide) ?_
          exact t_X4_isInWindow_259 @hk47 R g0 hf
        · have hf := ie c125 hf
          refine go_lload (pc' := 242) dX4_isInWindow_240 rfl rfl ?_
          refine go_lconst (v := 0) (pc' := 243) dX4_isInWindow_242 rfl (by decide) ?_
          refine go_lcmp (pc' := 244) dX4_isInWindow_243 rfl ?_
          refine go_if_le (pc' := 247) (tgt := 258) dX4_isInWindow_244 (by decide) rfl (fun c126 => ?_) (fun c126 => ?_)
          · have hf := it c126 hf
            refine go_iconst (v := 0) (pc' := 259) dX4_isInWindow_258 rfl (by decide) ?_
            exact t_X4_isInWindow_259 @hk47 R g0 hf
          · have hf := ie c126 hf
            refine go_lload (pc' := 249) dX4_isInWindow_247 rfl rfl ?_
            refine go_lconst (v := 0) (pc' := 250) dX4_isInWindow_249 rfl (by decide) ?_
            refine go_lcmp (pc' := 251) dX4_isInWindow_250 rfl ?_
            refine go_if_le (pc' := 254) (tgt := 258) dX4_isInWindow_251 (by decide) rfl (fun c127 => ?_) (fun c127 => ?_)
            · have hf := it c127 hf
              refine go_iconst (v := 0) (pc' := 259) dX4_isInWindow_258 rfl (by decide) ?_
              exact t_X4_isInWindow_259 @hk47 R g0 hf
            · have hf := ie c127 hf
              refine go_iconst (v := 1) (pc' := 255) dX4_isInWindow_254 rfl (by decide) ?_
              refine go_goto (pc' := 0) (tgt := 259) dX4_isInWindow_255 (by decide) ?_
              exact t_X4_isInWindow_259 @hk47 R g0 hf
    · have hf := ie c103 hf
      refine go_goto (pc' := 0) (tgt := 308) dX4_isInWindow_173 (by decide) ?_
      exact t_X4_isInWindow_308 @hk47 R g0 hf
def l_X4_isInWindow_47 (n : Nat) : Nat → Nat → Int32 → Int32 → Int32 → Int32 → Int32 → xσ → Option (Int32 × xσ)
  | 0, _, _, _, _, _, _, _ => none
  | f + 1, a0, x1, x2, x3, x4, x5, σ => if (sI σ a0 1) ≤ (x5 + 1) then if (sI σ a0 0) = 2 then bd (f_X4_locate n a0 x1 x2 σ) (fun v103 σ104 => if v103 < 0 then some (0, σ104) else some (1, σ104)) else some (0, σ) else gd (inb x5 40) (gd (inb (x5 + 1) 40) (if (imax (sI σ (a0 + 1) x5.toNatClampNeg) (sI σ (a0 + 1) (x5 + 1).toNatClampNeg)) < x1 then b_X4_isInWindow_156 n (l_X4_isInWindow_47 n f) a0 x1 x2 x3 x4 x5 1 σ else gd (inb x5 40) (gd (inb (x5 + 1) 40) (if x3 < (imin (sI σ (a0 + 1) x5.toNatClampNeg) (sI σ (a0 + 1) (x5 + 1).toNatClampNeg)) then b_X4_isInWindow_156 n (l_X4_isInWindow_47 n f) a0 x1 x2 x3 x4 x5 1 σ else gd (inb x5 40) (gd (inb (x5 + 1) 40) (if (imax (sI σ (a0 + 2) x5.toNatClampNeg) (sI σ (a0 + 2) (x5 + 1).toNatClampNeg)) < x2 then b_X4_isInWindow_156 n (l_X4_isInWindow_47 n f) a0 x1 x2 x3 x4 x5 1 σ else gd (inb x5 40) (gd (inb (x5 + 1) 40) (if (imin (sI σ (a0 + 2) x5.toNatClampNeg) (sI σ (a0 + 2) (x5 + 1).toNatClampNeg)) ≤ x4 then b_X4_isInWindow_156 n (l_X4_isInWindow_47 n f) a0 x1 x2 x3 x4 x5 0 σ else b_X4_isInWindow_156 n (l_X4_isInWindow_47 n f) a0 x1 x2 x3 x4 x5 1 σ))))))))
set_option maxRecDepth 100000 in
set_option maxHeartbeats 4000000 in
theorem t_X4_isInWindow_47 {G : xG} {n : Nat} : ∀ (f : Nat) {a0 : Nat} {x1 : Int32} {x2 : Int32} {x3 : Int32} {x4 : Int32} {x5 : Int32} {σ : xσ} {h : xH} {r : Int32 × xσ} {d6 : Option Value} {d7 : Option Value} {d8 : Option Value} {d9 : Option Value} {d10 : Option Value} {d11 : Option Value} {d12 : Option Value} {d13 : Option Value} {d14 : Option Value} {d15 : Option Value} {d16 : Option Value}, Rl n σ h → okS n a0 → l_X4_isInWindow_47 n f a0 x1 x2 x3 x4 x5 σ = some r → Go G mX4_isInWindow 47 [some (.ref a0), some (.int x1), some (.int x2), some (.int x3), some (.int x4), some (.int x5), d6, d7, d8, d9, d10, d11, d12, d13, d14, d15, d16] [] h (fun v h' => xRok (xRt mX4_isInWindow) v ∧ v = some (.int r.1) ∧ Rl n r.2 h') := by
  intro f
  induction f with
  | zero =>
    intros
    rename _ = some _ => hf
    rw [l_X4_isInWindow_47] at hf
    cases hf
  | succ f ih =>
    intro a0 x1 x2 x3 x4 x5 σ h r d6 d7 d8 d9 d10 d11 d12 d13 d14 d15 d16 R g0 hf
    rw [l_X4_isInWindow_47] at hf
    refine go_iload (pc' := 49) dX4_isInWindow_47 rfl rfl ?_
    refine go_iconst (v := 1) (pc' := 50) dX4_isInWindow_49 rfl (by decide) ?_
    refine go_iadd (pc' := 51) dX4_isInWindow_50 rfl ?_
    refine go_aload_n (i := 0) (pc' := 52) dX4_isInWindow_51 rfl rfl rfl ?_
    refine go_getS (pc' := 55) dX4_isInWindow_52 rfl gf_LandBase_Plane_51 R g0.at (by decide) rfl ?_
    refine go_icmp_ge (pc' := 58) (tgt := 314) dX4_isInWindow_55 (by decide) rfl (fun c101 => ?_) (fun c101 => ?_)
    · have hf := it c101 hf
      refine go_aload_n (i := 0) (pc' := 315) dX4_isInWindow_314 rfl rfl rfl ?_
      refine go_getS (pc' := 318) dX4_isInWindow_315 rfl gf_LandBase_Plane_41 R g0.at (by decide) rfl ?_
      refine go_iconst (v := 2) (pc' := 319) dX4_isInWindow_318 rfl (by decide) ?_
      refine go_icmp_ne (pc' := 322) (tgt := 335) dX4_isInWindow_319 (by decide) rfl (fun c102 => ?_) (fun c102 => ?_)
      · have hf := ie c102 hf
        refine go_iconst (v := 0) (pc' := 336) dX4_isInWindow_335 rfl (by decide) ?_
        obtain rfl := Option.some.inj hf
        exact Go.ret (v := some (.int _)) dX4_isInWindow_336 ⟨_, rfl⟩ ⟨rfl, rfl, R⟩
      · have hf := it c102 hf
        refine go_aload_n (i := 0) (pc' := 323) dX4_isInWindow_322 rfl rfl rfl ?_
        refine go_iload_n (i := 1) (pc' := 324) dX4_isInWindow_323 rfl rfl rfl ?_
        refine go_iload_n (i := 2) (pc' := 325) dX4_isInWindow_324 rfl rfl rfl ?_
        obtain ⟨v103, σ104, e105, hf⟩ := bd_some hf
        refine go_invS (As := [_, _, _]) (pc' := 328) dX4_isInWindow_325 rfl cf_X4_isInWindow_82 rfl rfl (Nat.le_of_ble_eq_true rfl) (c_X4_locate R e105) (fun q106v h107 q106 => ?_)
        obtain ⟨rfl, R⟩ := q106
        refine go_if_lt (pc' := 331) (tgt := 335) dX4_isInWindow_328 (by decide) rfl (fun c108 => ?_) (fun c108 => ?_)
        · have hf := it c108 hf
          refine go_iconst (v := 0) (pc' := 336) dX4_isInWindow_335 rfl (by decide) ?_
          obtain rfl := Option.some.inj hf
          exact Go.ret (v := some (.int _)) dX4_isInWindow_336 ⟨_, rfl⟩ ⟨rfl, rfl, R⟩
        · have hf := ie c108 hf
          refine go_iconst (v := 1) (pc' := 332) dX4_isInWindow_331 rfl (by decide) ?_
          refine go_goto (pc' := 0) (tgt := 336) dX4_isInWindow_332 (by decide) ?_
          obtain rfl := Option.some.inj hf
          exact Go.ret (v := some (.int _)) dX4_isInWindow_336 ⟨_, rfl⟩ ⟨rfl, rfl, R⟩
    · have hf := ie c101 hf
      refine go_aload_n (i := 0) (pc' := 59) dX4_isInWindow_58 rfl rfl rfl ?_
      refine go_getS (pc' := 62) dX4_isInWindow_59 rfl gf_LandBase_Plane_9 R g0.at (by decide) rfl ?_
      refine go_iload (pc' := 64) dX4_isInWindow_62 rfl rfl ?_
      obtain ⟨g109, hf⟩ := gd_some hf
      refine go_ialoadS (pc' := 65) dX4_isInWindow_64 rfl R g0.x g109 ?_
      refine go_aload_n (i := 0) (pc' := 66) dX4_isInWindow_65 rfl rfl rfl ?_
      refine go_getS (pc' := 69) dX4_isInWindow_66 rfl gf_LandBase_Plane_9 R g0.at (by decide) rfl ?_
      refine go_iload (pc' := 71) dX4_isInWindow_69 rfl rfl ?_
      refine go_iconst (v := 1) (pc' := 72) dX4_isInWindow_71 rfl (by decide) ?_
      refine go_iadd (pc' := 73) dX4_isInWindow_72 rfl ?_
      obtain ⟨g110, hf⟩ := gd_some hf
      refine go_ialoadS (pc' := 74) dX4_isInWindow_73 rfl R g0.x g110 ?_
      refine go_mmax (pc' := 77) dX4_isInWindow_74 rfl cf_X4_isInWindow_73 (Nat.le_of_ble_eq_true rfl) ?_
      refine go_iload_n (i := 1) (pc' := 78) dX4_isInWindow_77 rfl rfl rfl ?_
      refine go_icmp_lt (pc' := 81) (tgt := 151) dX4_isInWindow_78 (by decide) rfl (fun c111 => ?_) (fun c111 => ?_)
      · have hf := it c111 hf
        refine go_iconst (v := 1) (pc' := 152) dX4_isInWindow_151 rfl (by decide) ?_
        refine go_goto (pc' := 0) (tgt := 156) dX4_isInWindow_152 (by decide) ?_
        exact t_X4_isInWindow_156 @ih R g0 hf
      · have hf := ie c111 hf
        refine go_aload_n (i := 0) (pc' := 82) dX4_isInWindow_81 rfl rfl rfl ?_
        refine go_getS (pc' := 85) dX4_isInWindow_82 rfl gf_LandBase_Plane_9 R g0.at (by decide) rfl ?_
        refine go_iload (pc' := 87) dX4_isInWindow_85 rfl rfl ?_
        obtain ⟨g112, hf⟩ := gd_some hf
        refine go_ialoadS (pc' := 88) dX4_isInWindow_87 rfl R g0.x g112 ?_
        refine go_aload_n (i := 0) (pc' := 89) dX4_isInWindow_88 rfl rfl rfl ?_
        refine go_getS (pc' := 92) dX4_isInWindow_89 rfl gf_LandBase_Plane_9 R g0.at (by decide) rfl ?_
        refine go_iload (pc' := 94) dX4_isInWindow_92 rfl rfl ?_
        refine go_iconst (v := 1) (pc' := 95) dX4_isInWindow_94 rfl (by decide) ?_
        refine go_iadd (pc' := 96) dX4_isInWindow_95 rfl ?_
        obtain ⟨g113, hf⟩ := gd_some hf
        refine go_ialoadS (pc' := 97) dX4_isInWindow_96 rfl R g0.x g113 ?_
        refine go_mmin (pc' := 100) dX4_isInWindow_97 rfl cf_X4_isInWindow_79 (Nat.le_of_ble_eq_true rfl) ?_
        refine go_iload_n (i := 3) (pc' := 101) dX4_isInWindow_100 rfl rfl rfl ?_
        refine go_icmp_gt (pc' := 104) (tgt := 151) dX4_isInWindow_101 (by decide) rfl (fun c114 => ?_) (fun c114 => ?_)
        · have hf := it c114 hf
          refine go_iconst (v := 1) (pc' := 152) dX4_isInWindow_151 rfl (by decide) ?_
          refine go_goto (pc' := 0) (tgt := 156) dX4_isInWindow_152 (by decide) ?_
          exact t_X4_isInWindow_156 @ih R g0 hf
        · have hf := ie c114 hf
          refine go_aload_n (i := 0) (pc' := 105) dX4_isInWindow_104 rfl rfl rfl ?_
          refine go_getS (pc' := 108) dX4_isInWindow_105 rfl gf_LandBase_Plane_15 R g0.at (by decide) rfl ?_
          refine go_iload (pc' := 110) dX4_isInWindow_108 rfl rfl ?_
          obtain ⟨g115, hf⟩ := gd_some hf
          refine go_ialoadS (pc' := 111) dX4_isInWindow_110 rfl R g0.y g115 ?_
          refine go_aload_n (i := 0) (pc' := 112) dX4_isInWindow_111 rfl rfl rfl ?_
          refine go_getS (pc' := 115) dX4_isInWindow_112 rfl gf_LandBase_Plane_15 R g0.at (by decide) rfl ?_
          refine go_iload (pc' := 117) dX4_isInWindow_115 rfl rfl ?_
          refine go_iconst (v := 1) (pc' := 118) dX4_isInWindow_117 rfl (by decide) ?_
          refine go_iadd (pc' := 119) dX4_isInWindow_118 rfl ?_
          obtain ⟨g116, hf⟩ := gd_some hf
          refine go_ialoadS (pc' := 120) dX4_isInWindow_119 rfl R g0.y g116 ?_
          refine go_mmax (pc' := 123) dX4_isInWindow_120 rfl cf_X4_isInWindow_73 (Nat.le_of_ble_eq_true rfl) ?_
          refine go_iload_n (i := 2) (pc' := 124) dX4_isInWindow_123 rfl rfl rfl ?_
          refine go_icmp_lt (pc' := 127) (tgt := 151) dX4_isInWindow_124 (by decide) rfl (fun c117 => ?_) (fun c117 => ?_)
          · have hf := it c117 hf
            refine go_iconst (v := 1) (pc' := 152) dX4_isInWindow_151 rfl (by decide) ?_
            refine go_goto (pc' := 0) (tgt := 156) dX4_isInWindow_152 (by decide) ?_
            exact t_X4_isInWindow_156 @ih R g0 hf
          · have hf := ie c117 hf
            refine go_aload_n (i := 0) (pc' := 128) dX4_isInWindow_127 rfl rfl rfl ?_
            refine go_getS (pc' := 131) dX4_isInWindow_128 rfl gf_LandBase_Plane_15 R g0.at (by decide) rfl ?_
            refine go_iload (pc' := 133) dX4_isInWindow_131 rfl rfl ?_
            obtain ⟨g118, hf⟩ := gd_some hf
            refine go_ialoadS (pc' := 134) dX4_isInWindow_133 rfl R g0.y g118 ?_
            refine go_aload_n (i := 0) (pc' := 135) dX4_isInWindow_134 rfl rfl rfl ?_
            refine go_getS (pc' := 138) dX4_isInWindow_135 rfl gf_LandBase_Plane_15 R g0.at (by decide) rfl ?_
            refine go_iload (pc' := 140) dX4_isInWindow_138 rfl rfl ?_
            refine go_iconst (v := 1) (pc' := 141) dX4_isInWindow_140 rfl (by decide) ?_
            refine go_iadd (pc' := 142) dX4_isInWindow_141 rfl ?_
            obtain ⟨g119, hf⟩ := gd_some hf
            refine go_ialoadS (pc' := 143) dX4_isInWindow_142 rfl R g0.y g119 ?_
            refine go_mmin (pc' := 146) dX4_isInWindow_143 rfl cf_X4_isInWindow_79 (Nat.le_of_ble_eq_true rfl) ?_
            refine go_iload (pc' := 148) dX4_isInWindow_146 rfl rfl ?_
            refine go_icmp_le (pc' := 151) (tgt := 155) dX4_isInWindow_148 (by decide) rfl (fun c120 => ?_) (fun c120 => ?_)
            · have hf := it c120 hf
              refine go_iconst (v := 0) (pc' := 156) dX4_isInWindow_155 rfl (by decide) ?_
              exact t_X4_isInWindow_156 @ih R g0 hf
            · have hf := ie c120 hf
              refine go_iconst (v := 1) (pc' := 152) dX4_isInWindow_151 rfl (by decide) ?_
              refine go_goto (pc' := 0) (tgt := 156) dX4_isInWindow_152 (by decide) ?_
              exact t_X4_isInWindow_156 @ih R g0 hf
def f_X4_isInWindow (n : Nat) (a0 : Nat) (x1 : Int32) (x2 : Int32) (x3 : Int32) (x4 : Int32) (σ : xσ) : Option (Int32 × xσ) := gd (okS n a0) (if (sI σ a0 6) < x1 then some (0, σ) else if x3 < (sI σ a0 4) then some (0, σ) else if (sI σ a0 7) < x2 then some (0, σ) else if (sI σ a0 5) ≤ x4 then if (sI σ a0 0) = 0 then some (1, σ) else l_X4_isInWindow_47 n xFU a0 x1 x2 x3 x4 0 σ else some (0, σ))
set_option maxRecDepth 100000 in
set_option maxHeartbeats 4000000 in
theorem c_X4_isInWindow {G : xG} {n : Nat} {σ : xσ} {h : xH} {a0 : Nat} {x1 : Int32} {x2 : Int32} {x3 : Int32} {x4 : Int32} {v1 : Int32} {σ1 : xσ} (R : Rl n σ h) (hf : f_X4_isInWindow n a0 x1 x2 x3 x4 σ = some (v1, σ1)) : Ca G mX4_isInWindow [.ref a0, .int x1, .int x2, .int x3, .int x4] h (fun v h' => v = some (.int v1) ∧ Rl n σ1 h') := by
  refine Ca.of rfl (Nat.le_of_ble_eq_true rfl) ?_
  generalize hr : (v1, σ1) = r at hf
  suffices q : Go G mX4_isInWindow 0 (xent (xMl mX4_isInWindow) [.ref a0, .int x1, .int x2, .int x3, .int x4]) [] h (fun v h' => xRok (xRt mX4_isInWindow) v ∧ v = some (.int r.1) ∧ Rl n r.2 h') by
    subst hr
    exact q
  clear hr
  rw [f_X4_isInWindow] at hf
  obtain ⟨g0, hf⟩ := gd_some hf
  refine go_aload_n (i := 0) (pc' := 1) dX4_isInWindow_0 rfl rfl rfl ?_
  refine go_getS (pc' := 4) dX4_isInWindow_1 rfl gf_LandBase_Plane_32 R g0.at (by decide) rfl ?_
  refine go_iload_n (i := 1) (pc' := 5) dX4_isInWindow_4 rfl rfl rfl ?_
  refine go_icmp_lt (pc' := 8) (tgt := 33) dX4_isInWindow_5 (by decide) rfl (fun c101 => ?_) (fun c101 => ?_)
  · have hf := it c101 hf
    refine go_iconst (v := 0) (pc' := 34) dX4_isInWindow_33 rfl (by decide) ?_
    obtain rfl := Option.some.inj hf
    exact Go.ret (v := some (.int _)) dX4_isInWindow_34 ⟨_, rfl⟩ ⟨rfl, rfl, R⟩
  · have hf := ie c101 hf
    refine go_aload_n (i := 0) (pc' := 9) dX4_isInWindow_8 rfl rfl rfl ?_
    refine go_getS (pc' := 12) dX4_isInWindow_9 rfl gf_LandBase_Plane_28 R g0.at (by decide) rfl ?_
    refine go_iload_n (i := 3) (pc' := 13) dX4_isInWindow_12 rfl rfl rfl ?_
    refine go_icmp_gt (pc' := 16) (tgt := 33) dX4_isInWindow_13 (by decide) rfl (fun c102 => ?_) (fun c102 => ?_)
    · have hf := it c102 hf
      refine go_iconst (v := 0) (pc' := 34) dX4_isInWindow_33 rfl (by decide) ?_
      obtain rfl := Option.some.inj hf
      exact Go.ret (v := some (.int _)) dX4_isInWindow_34 ⟨_, rfl⟩ ⟨rfl, rfl, R⟩
    · have hf := ie c102 hf
      refine go_aload_n (i := 0) (pc' := 17) dX4_isInWindow_16 rfl rfl rfl ?_
      refine go_getS (pc' := 20) dX4_isInWindow_17 rfl gf_LandBase_Plane_38 R g0.at (by decide) rfl ?_
      refine go_iload_n (i := 2) (pc' := 21) dX4_isInWindow_20 rfl rfl rfl ?_
      refine go_icmp_lt (pc' := 24) (tgt := 33) dX4_isInWindow_21 (by decide) rfl (fun c103 => ?_) (fun c103 => ?_)
      · have hf := it c103 hf
        refine go_iconst (v := 0) (pc' := 34) dX4_isInWindow_33 rfl (by decide) ?_
        obtain rfl := Option.some.inj hf
        exact Go.ret (v := some (.int _)) dX4_isInWindow_34 ⟨_, rfl⟩ ⟨rfl, rfl, R⟩
      · have hf := ie c103 hf
        refine go_aload_n (i := 0) (pc' := 25) dX4_isInWindow_24 rfl rfl rfl ?_
        refine go_getS (pc' := 28) dX4_isInWindow_25 rfl gf_LandBase_Plane_35 R g0.at (by decide) rfl ?_
        refine go_iload (pc' := 30) dX4_isInWindow_28 rfl rfl ?_
        refine go_icmp_le (pc' := 33) (tgt := 35) dX4_isInWindow_30 (by decide) rfl (fun c104 => ?_) (fun c104 => ?_)
        · have hf := it c104 hf
          refine go_aload_n (i := 0) (pc' := 36) dX4_isInWindow_35 rfl rfl rfl ?_
          refine go_getS (pc' := 39) dX4_isInWindow_36 rfl gf_LandBase_Plane_41 R g0.at (by decide) rfl ?_
          refine go_if_ne (pc' := 42) (tgt := 44) dX4_isInWindow_39 (by decide) rfl (fun c105 => ?_) (fun c105 => ?_)
          · have hf := ie c105 hf
            refine go_iconst (v := 0) (pc' := 45) dX4_isInWindow_44 rfl (by decide) ?_
            refine go_istoreE rfl (pc' := 47) dX4_isInWindow_45 rfl (by decide) rfl ?_
            exact t_X4_isInWindow_47 xFU R g0 hf
          · have hf := it c105 hf
            refine go_iconst (v := 1) (pc' := 43) dX4_isInWindow_42 rfl (by decide) ?_
            obtain rfl := Option.some.inj hf
            exact Go.ret (v := some (.int _)) dX4_isInWindow_43 ⟨_, rfl⟩ ⟨rfl, rfl, R⟩
        · have hf := ie c104 hf
          refine go_iconst (v := 0) (pc' := 34) dX4_isInWindow_33 rfl (by decide) ?_
          obtain rfl := Option.some.inj hf
          exact Go.ret (v := some (.int _)) dX4_isInWindow_34 ⟨_, rfl⟩ ⟨rfl, rfl, R⟩
def l_X9_isToken_20 (n : Nat) : Nat → Nat → Int32 → Int32 → Int32 → xσ → Option (Int32 × xσ)
  | 0, _, _, _, _, _ => none
  | f + 1, j1, x2, x3, x4, σ => if x3 ≤ x4 then some (1, σ) else gd (j1 < 28) (gd (inb x4 (xTb j1).length) (gd (inb (((sI σ 1 3) + x4) - x2) 4000) (if (tchr j1 x4.toNatClampNeg) = (sI σ 2 (((sI σ 1 3) + x4) - x2).toNatClampNeg) then (l_X9_isToken_20 n f) j1 x2 x3 (x4 + 1) σ else some (0, σ))))
set_option maxRecDepth 100000 in
set_option maxHeartbeats 4000000 in
theorem t_X9_isToken_20 {G : xG} {n : Nat} : ∀ (f : Nat) {j1 : Nat} {x2 : Int32} {x3 : Int32} {x4 : Int32} {σ : xσ} {h : xH} {r : Int32 × xσ}, Rl n σ h → l_X9_isToken_20 n f j1 x2 x3 x4 σ = some r → Go G mX9_isToken 20 [some (.ref 1), some (.retAddr j1), some (.int x2), some (.int x3), some (.int x4)] [] h (fun v h' => xRok (xRt mX9_isToken) v ∧ v = some (.int r.1) ∧ Rl n r.2 h') := by
  intro f
  induction f with
  | zero =>
    intros
    rename _ = some _ => hf
    rw [l_X9_isToken_20] at hf
    cases hf
  | succ f ih =>
    intro j1 x2 x3 x4 σ h r  R hf
    rw [l_X9_isToken_20] at hf
    refine go_iload (pc' := 22) dX9_isToken_20 rfl rfl ?_
    refine go_iload_n (i := 3) (pc' := 23) dX9_isToken_22 rfl rfl rfl ?_
    refine go_icmp_ge (pc' := 26) (tgt := 57) dX9_isToken_23 (by decide) rfl (fun c101 => ?_) (fun c101 => ?_)
    · have hf := it c101 hf
      refine go_iconst (v := 1) (pc' := 58) dX9_isToken_57 rfl (by decide) ?_
      obtain rfl := Option.some.inj hf
      exact Go.ret (v := some (.int _)) dX9_isToken_58 ⟨_, rfl⟩ ⟨rfl, rfl, R⟩
    · have hf := ie c101 hf
      refine go_aloadX_n (i := 1) (pc' := 27) dX9_isToken_26 rfl rfl rfl ?_
      refine go_iload (pc' := 29) dX9_isToken_27 rfl rfl ?_
      obtain ⟨g102, hf⟩ := gd_some hf
      obtain ⟨g103, hf⟩ := gd_some hf
      refine go_schar (pc' := 32) dX9_isToken_29 rfl cf_X9_isToken_50 (Nat.le_of_ble_eq_true rfl) g102 g103 ?_
      refine go_aload_n (i := 0) (pc' := 33) dX9_isToken_32 rfl rfl rfl ?_
      refine go_getS (pc' := 36) dX9_isToken_33 rfl gf_LandBase_Tape_9 R (R.at rfl (by decide)) (by decide) rfl ?_
      refine go_aload_n (i := 0) (pc' := 37) dX9_isToken_36 rfl rfl rfl ?_
      refine go_getS (pc' := 40) dX9_isToken_37 rfl gf_LandBase_Tape_25 R (R.at rfl (by decide)) (by decide) rfl ?_
      refine go_iload (pc' := 42) dX9_isToken_40 rfl rfl ?_
      refine go_iadd (pc' := 43) dX9_isToken_42 rfl ?_
      refine go_iload_n (i := 2) (pc' := 44) dX9_isToken_43 rfl rfl rfl ?_
      refine go_isub (pc' := 45) dX9_isToken_44 rfl ?_
      obtain ⟨g104, hf⟩ := gd_some hf
      refine go_baloadS (pc' := 46) dX9_isToken_45 rfl R (R.aa rfl (by decide)) g104 ?_
      refine go_icmp_eq (pc' := 49) (tgt := 51) dX9_isToken_46 (by decide) rfl (fun c105 => ?_) (fun c105 => ?_)
      · have hf := it c105 hf
        refine go_iincC (kk := 1) (pc' := 54) dX9_isToken_51 rfl rfl (by decide) (by decide) rfl ?_
        refine go_goto (pc' := 0) (tgt := 20) dX9_isToken_54 (by decide) ?_
        exact ih R hf
      · have hf := ie c105 hf
        refine go_iconst (v := 0) (pc' := 50) dX9_isToken_49 rfl (by decide) ?_
        obtain rfl := Option.some.inj hf
        exact Go.ret (v := some (.int _)) dX9_isToken_50 ⟨_, rfl⟩ ⟨rfl, rfl, R⟩
def f_X9_isToken (n : Nat) (j1 : Nat) (x2 : Int32) (x3 : Int32) (σ : xσ) : Option (Int32 × xσ) := if (x3 - x2) = ((sI σ 1 4) - (sI σ 1 3)) then l_X9_isToken_20 n xFU j1 x2 x3 x2 σ else some (0, σ)
set_option maxRecDepth 100000 in
set_option maxHeartbeats 4000000 in
theorem c_X9_isToken {G : xG} {n : Nat} {σ : xσ} {h : xH} {j1 : Nat} {x2 : Int32} {x3 : Int32} {v1 : Int32} {σ1 : xσ} (R : Rl n σ h) (hf : f_X9_isToken n j1 x2 x3 σ = some (v1, σ1)) : Ca G mX9_isToken [.ref 1, .retAddr j1, .int x2, .int x3] h (fun v h' => v = some (.int v1) ∧ Rl n σ1 h') := by
  refine Ca.of rfl (Nat.le_of_ble_eq_true rfl) ?_
  generalize hr : (v1, σ1) = r at hf
  suffices q : Go G mX9_isToken 0 (xent (xMl mX9_isToken) [.ref 1, .retAddr j1, .int x2, .int x3]) [] h (fun v h' => xRok (xRt mX9_isToken) v ∧ v = some (.int r.1) ∧ Rl n r.2 h') by
    subst hr
    exact q
  clear hr
  rw [f_X9_isToken] at hf
  refine go_iload_n (i := 3) (pc' := 1) dX9_isToken_0 rfl rfl rfl ?_
  refine go_iload_n (i := 2) (pc' := 2) dX9_isToken_1 rfl rfl rfl ?_
  refine go_isub (pc' := 3) dX9_isToken_2 rfl ?_
  refine go_aload_n (i := 0) (pc' := 4) dX9_isToken_3 rfl rfl rfl ?_
  refine go_getS (pc' := 7) dX9_isToken_4 rfl gf_LandBase_Tape_19 R (R.at rfl (by decide)) (by decide) rfl ?_
  refine go_aload_n (i := 0) (pc' := 8) dX9_isToken_7 rfl rfl rfl ?_
  refine go_getS (pc' := 11) dX9_isToken_8 rfl gf_LandBase_Tape_25 R (R.at rfl (by decide)) (by decide) rfl ?_
  refine go_isub (pc' := 12) dX9_isToken_11 rfl ?_
  refine go_icmp_eq (pc' := 15) (tgt := 17) dX9_isToken_12 (by decide) rfl (fun c101 => ?_) (fun c101 => ?_)
  · have hf := it c101 hf
    refine go_iload_n (i := 2) (pc' := 18) dX9_isToken_17 rfl rfl rfl ?_
    refine go_istoreE rfl (pc' := 20) dX9_isToken_18 rfl (by decide) rfl ?_
    exact t_X9_isToken_20 xFU R hf
  · have hf := ie c101 hf
    refine go_iconst (v := 0) (pc' := 16) dX9_isToken_15 rfl (by decide) ?_
    obtain rfl := Option.some.inj hf
    exact Go.ret (v := some (.int _)) dX9_isToken_16 ⟨_, rfl⟩ ⟨rfl, rfl, R⟩
def l_X9_takeWord_5 (n : Nat) : Nat → Int32 → xσ → Option (Unit × xσ)
  | 0, _, _ => none
  | f + 1, x1, σ => if (sI σ 1 1) ≤ x1 then st (wI σ 1 2 1) (fun σ102 => st (wI σ102 1 4 x1) (fun σ105 => some ((), σ105))) else gd (inb x1 4000) (if (sI σ 2 x1.toNatClampNeg) < 65 then st (wI σ 1 2 1) (fun σ110 => st (wI σ110 1 4 x1) (fun σ113 => some ((), σ113))) else gd (inb x1 4000) (if 90 < (sI σ 2 x1.toNatClampNeg) then st (wI σ 1 2 1) (fun σ118 => st (wI σ118 1 4 x1) (fun σ121 => some ((), σ121))) else (l_X9_takeWord_5 n f) (x1 + 1) σ))
set_option maxRecDepth 100000 in
set_option maxHeartbeats 4000000 in
theorem t_X9_takeWord_5 {G : xG} {n : Nat} : ∀ (f : Nat) {x1 : Int32} {σ : xσ} {h : xH} {r : Unit × xσ}, Rl n σ h → l_X9_takeWord_5 n f x1 σ = some r → Go G mX9_takeWord 5 [some (.ref 1), some (.int x1)] [] h (fun v h' => xRok (xRt mX9_takeWord) v ∧ v = none ∧ Rl n r.2 h') := by
  intro f
  induction f with
  | zero =>
    intros
    rename _ = some _ => hf
    rw [l_X9_takeWord_5] at hf
    cases hf
  | succ f ih =>
    intro x1 σ h r  R hf
    rw [l_X9_takeWord_5] at hf
    refine go_iload_n (i := 1) (pc' := 6) dX9_takeWord_5 rfl rfl rfl ?_
    refine go_aload_n (i := 0) (pc' := 7) dX9_takeWord_6 rfl rfl rfl ?_
    refine go_getS (pc' := 10) dX9_takeWord_7 rfl gf_LandBase_Tape_15 R (R.at rfl (by decide)) (by decide) rfl ?_
    refine go_icmp_ge (pc' := 13) (tgt := 41) dX9_takeWord_10 (by decide) rfl (fun c101 => ?_) (fun c101 => ?_)
    · have hf := it c101 hf
      refine go_aload_n (i := 0) (pc' := 42) dX9_takeWord_41 rfl rfl rfl ?_
      refine go_iconst (v := 1) (pc' := 43) dX9_takeWord_42 rfl (by decide) ?_
      obtain ⟨σ102, e103, hf⟩ := st_some hf
      refine go_putI (pc' := 46) dX9_takeWord_43 rfl pf_LandBase_Tape_28 R (R.at rfl (by decide)) (by decide) rfl rfl rfl (fun h104 R => ?_)
      have R := Rl.cast e103 R
      refine go_aload_n (i := 0) (pc' := 47) dX9_takeWord_46 rfl rfl rfl ?_
      refine go_iload_n (i := 1) (pc' := 48) dX9_takeWord_47 rfl rfl rfl ?_
      obtain ⟨σ105, e106, hf⟩ := st_some hf
      refine go_putI (pc' := 51) dX9_takeWord_48 rfl pf_LandBase_Tape_19 R (R.at rfl (by decide)) (by decide) rfl rfl rfl (fun h107 R => ?_)
      have R := Rl.cast e106 R
      obtain rfl := Option.some.inj hf
      exact Go.ret (v := none) dX9_takeWord_51 rfl ⟨trivial, rfl, R⟩
    · have hf := ie c101 hf
      refine go_aload_n (i := 0) (pc' := 14) dX9_takeWord_13 rfl rfl rfl ?_
      refine go_getS (pc' := 17) dX9_takeWord_14 rfl gf_LandBase_Tape_9 R (R.at rfl (by decide)) (by decide) rfl ?_
      refine go_iload_n (i := 1) (pc' := 18) dX9_takeWord_17 rfl rfl rfl ?_
      obtain ⟨g108, hf⟩ := gd_some hf
      refine go_baloadS (pc' := 19) dX9_takeWord_18 rfl R (R.aa rfl (by decide)) g108 ?_
      refine go_bipush (v := 65) (pc' := 21) dX9_takeWord_19 rfl (by decide) ?_
      refine go_icmp_lt (pc' := 24) (tgt := 41) dX9_takeWord_21 (by decide) rfl (fun c109 => ?_) (fun c109 => ?_)
      · have hf := it c109 hf
        refine go_aload_n (i := 0) (pc' := 42) dX9_takeWord_41 rfl rfl rfl ?_
        refine go_iconst (v := 1) (pc' := 43) dX9_takeWord_42 rfl (by decide) ?_
        obtain ⟨σ110, e111, hf⟩ := st_some hf
        refine go_putI (pc' := 46) dX9_takeWord_43 rfl pf_LandBase_Tape_28 R (R.at rfl (by decide)) (by decide) rfl rfl rfl (fun h112 R => ?_)
        have R := Rl.cast e111 R
        refine go_aload_n (i := 0) (pc' := 47) dX9_takeWord_46 rfl rfl rfl ?_
        refine go_iload_n (i := 1) (pc' := 48) dX9_takeWord_47 rfl rfl rfl ?_
        obtain ⟨σ113, e114, hf⟩ := st_some hf
        refine go_putI (pc' := 51) dX9_takeWord_48 rfl pf_LandBase_Tape_19 R (R.at rfl (by decide)) (by decide) rfl rfl rfl (fun h115 R => ?_)
        have R := Rl.cast e114 R
        obtain rfl := Option.some.inj hf
        exact Go.ret (v := none) dX9_takeWord_51 rfl ⟨trivial, rfl, R⟩
      · have hf := ie c109 hf
        refine go_aload_n (i := 0) (pc' := 25) dX9_takeWord_24 rfl rfl rfl ?_
        refine go_getS (pc' := 28) dX9_takeWord_25 rfl gf_LandBase_Tape_9 R (R.at rfl (by decide)) (by decide) rfl ?_
        refine go_iload_n (i := 1) (pc' := 29) dX9_takeWord_28 rfl rfl rfl ?_
        obtain ⟨g116, hf⟩ := gd_some hf
        refine go_baloadS (pc' := 30) dX9_takeWord_29 rfl R (R.aa rfl (by decide)) g116 ?_
        refine go_bipush (v := 90) (pc' := 32) dX9_takeWord_30 rfl (by decide) ?_
        refine go_icmp_gt (pc' := 35) (tgt := 41) dX9_takeWord_32 (by decide) rfl (fun c117 => ?_) (fun c117 => ?_)
        · have hf := it c117 hf
          refine go_aload_n (i := 0) (pc' := 42) dX9_takeWord_41 rfl rfl rfl ?_
          refine go_iconst (v := 1) (pc' := 43) dX9_takeWord_42 rfl (by decide) ?_
          obtain ⟨σ118, e119, hf⟩ := st_some hf
          refine go_putI (pc' := 46) dX9_takeWord_43 rfl pf_LandBase_Tape_28 R (R.at rfl (by decide)) (by decide) rfl rfl rfl (fun h120 R => ?_)
          have R := Rl.cast e119 R
          refine go_aload_n (i := 0) (pc' := 47) dX9_takeWord_46 rfl rfl rfl ?_
          refine go_iload_n (i := 1) (pc' := 48) dX9_takeWord_47 rfl rfl rfl ?_
          obtain ⟨σ121, e122, hf⟩ := st_some hf
          refine go_putI (pc' := 51) dX9_takeWord_48 rfl pf_LandBase_Tape_19 R (R.at rfl (by decide)) (by decide) rfl rfl rfl (fun h123 R => ?_)
          have R := Rl.cast e122 R
          obtain rfl := Option.some.inj hf
          exact Go.ret (v := none) dX9_takeWord_51 rfl ⟨trivial, rfl, R⟩
        · have hf := ie c117 hf
          refine go_iincC (kk := 1) (pc' := 38) dX9_takeWord_35 rfl rfl (by decide) (by decide) rfl ?_
          refine go_goto (pc' := 0) (tgt := 5) dX9_takeWord_38 (by decide) ?_
          exact ih R hf
def f_X9_takeWord (n : Nat)  (σ : xσ) : Option (Unit × xσ) := st (sI σ 1 3) (fun x101 => l_X9_takeWord_5 n xFU x101 σ)
set_option maxRecDepth 100000 in
set_option maxHeartbeats 4000000 in
theorem c_X9_takeWord {G : xG} {n : Nat} {σ : xσ} {h : xH}  {v1 : Unit} {σ1 : xσ} (R : Rl n σ h) (hf : f_X9_takeWord n σ = some (v1, σ1)) : Ca G mX9_takeWord [.ref 1] h (fun v h' => v = none ∧ Rl n σ1 h') := by
  refine Ca.of rfl (Nat.le_of_ble_eq_true rfl) ?_
  generalize hr : (v1, σ1) = r at hf
  suffices q : Go G mX9_takeWord 0 (xent (xMl mX9_takeWord) [.ref 1]) [] h (fun v h' => xRok (xRt mX9_takeWord) v ∧ v = none ∧ Rl n r.2 h') by
    subst hr
    exact q
  clear hr
  rw [f_X9_takeWord] at hf
  refine go_aload_n (i := 0) (pc' := 1) dX9_takeWord_0 rfl rfl rfl ?_
  refine go_getS (pc' := 4) dX9_takeWord_1 rfl gf_LandBase_Tape_25 R (R.at rfl (by decide)) (by decide) rfl ?_
  obtain ⟨x101, e102, hf⟩ := st_some hf
  refine go_istore_nE e102 (i := 1) (pc' := 5) dX9_takeWord_4 rfl rfl (by decide) rfl ?_
  exact t_X9_takeWord_5 xFU R hf
def b_X9_takeNumber_103 (n : Nat) (k43 : Int32 → Int32 → Int64 → Int32 → xσ → Option (Unit × xσ)) (x1 : Int32) (x2 : Int32) (l3 : Int64) (x5 : Int32) (σ : xσ) : Option (Unit × xσ) := k43 x1 x2 l3 (x5 + 1) σ
set_option maxRecDepth 100000 in
set_option maxHeartbeats 4000000 in
theorem t_X9_takeNumber_103 {G : xG} {n : Nat} {k43 : Int32 → Int32 → Int64 → Int32 → xσ → Option (Unit × xσ)} (hk43 : ∀ {x1 : Int32} {x2 : Int32} {l3 : Int64} {x5 : Int32} {σ : xσ} {h : xH} {r : Unit × xσ} {d6 : Option Value} {d7 : Option Value}, Rl n σ h → k43 x1 x2 l3 x5 σ = some r → Go G mX9_takeNumber 43 [some (.ref 1), some (.int x1), some (.int x2), some (.long l3), none, some (.int x5), d6, d7] [] h (fun v h' => xRok (xRt mX9_takeNumber) v ∧ v = none ∧ Rl n r.2 h')) {x1 : Int32} {x2 : Int32} {l3 : Int64} {x5 : Int32} {σ : xσ} {h : xH} {r : Unit × xσ} {d6 : Option Value} {d7 : Option Value} : Rl n σ h → b_X9_takeNumber_103 n k43 x1 x2 l3 x5 σ = some r → Go G mX9_takeNumber 103 [some (.ref 1), some (.int x1), some (.int x2), some (.long l3), none, some (.int x5), d6, d7] [] h (fun v h' => xRok (xRt mX9_takeNumber) v ∧ v = none ∧ Rl n r.2 h') := by
  intro R hf
  rw [b_X9_takeNumber_103] at hf
  refine go_iincC (kk := 1) (pc' := 106) dX9_takeNumber_103 rfl rfl (by decide) (by decide) rfl ?_
  refine go_goto (pc' := 0) (tgt := 43) dX9_takeNumber_106 (by decide) ?_
  exact hk43 R hf
def b_X9_takeNumber_178 (n : Nat) (x5 : Int32) (xs0 : Int32) (σ : xσ) : Option (Unit × xσ) := st (wI σ 1 5 xs0) (fun σ101 => st (wI σ101 1 4 x5) (fun σ104 => some ((), σ104)))
set_option maxRecDepth 100000 in
set_option maxHeartbeats 4000000 in
theorem t_X9_takeNumber_178 {G : xG} {n : Nat} {x5 : Int32} {xs0 : Int32} {σ : xσ} {h : xH} {r : Unit × xσ} {d1 : Option Value} {d2 : Option Value} {d3 : Option Value} {d4 : Option Value} {d6 : Option Value} {d7 : Option Value} : Rl n σ h → b_X9_takeNumber_178 n x5 xs0 σ = some r → Go G mX9_takeNumber 178 [some (.ref 1), d1, d2, d3, d4, some (.int x5), d6, d7] [.int xs0, .ref 1] h (fun v h' => xRok (xRt mX9_takeNumber) v ∧ v = none ∧ Rl n r.2 h') := by
  intro R hf
  rw [b_X9_takeNumber_178] at hf
  obtain ⟨σ101, e102, hf⟩ := st_some hf
  refine go_putI (pc' := 181) dX9_takeNumber_178 rfl pf_LandBase_Tape_41 R (R.at rfl (by decide)) (by decide) rfl rfl rfl (fun h103 R => ?_)
  have R := Rl.cast e102 R
  refine go_aload_n (i := 0) (pc' := 182) dX9_takeNumber_181 rfl rfl rfl ?_
  refine go_iload (pc' := 184) dX9_takeNumber_182 rfl rfl ?_
  obtain ⟨σ104, e105, hf⟩ := st_some hf
  refine go_putI (pc' := 187) dX9_takeNumber_184 rfl pf_LandBase_Tape_19 R (R.at rfl (by decide)) (by decide) rfl rfl rfl (fun h106 R => ?_)
  have R := Rl.cast e105 R
  obtain rfl := Option.some.inj hf
  exact Go.ret (v := none) dX9_takeNumber_187 rfl ⟨trivial, rfl, R⟩
def b_X9_takeNumber_173 (n : Nat) (x5 : Int32) (ls0 : Int64) (σ : xσ) : Option (Unit × xσ) := b_X9_takeNumber_178 n x5 (ls0.toInt32) σ
set_option maxRecDepth 100000 in
set_option maxHeartbeats 4000000 in
theorem t_X9_takeNumber_173 {G : xG} {n : Nat} {x5 : Int32} {ls0 : Int64} {σ : xσ} {h : xH} {r : Unit × xσ} {d1 : Option Value} {d2 : Option Value} {d3 : Option Value} {d4 : Option Value} {d6 : Option Value} {d7 : Option Value} : Rl n σ h → b_X9_takeNumber_173 n x5 ls0 σ = some r → Go G mX9_takeNumber 173 [some (.ref 1), d1, d2, d3, d4, some (.int x5), d6, d7] [.long ls0, .ref 1] h (fun v h' => xRok (xRt mX9_takeNumber) v ∧ v = none ∧ Rl n r.2 h') := by
  intro R hf
  rw [b_X9_takeNumber_173] at hf
  refine go_l2i (pc' := 174) dX9_takeNumber_173 rfl rfl ?_
  refine go_goto (pc' := 0) (tgt := 178) dX9_takeNumber_174 (by decide) ?_
  exact t_X9_takeNumber_178 R hf
def b_X9_takeNumber_154 (n : Nat) (x1 : Int32) (l3 : Int64) (x5 : Int32) (x7 : Int32) (xs0 : Int32) (σ : xσ) : Option (Unit × xσ) := st (wI σ 1 2 xs0) (fun σ101 => if x7 = 0 then b_X9_takeNumber_178 n x5 0 σ101 else if x1 = 0 then b_X9_takeNumber_173 n x5 l3 σ101 else b_X9_takeNumber_173 n x5 (-l3) σ101)
set_option maxRecDepth 100000 in
set_option maxHeartbeats 4000000 in
theorem t_X9_takeNumber_154 {G : xG} {n : Nat} {x1 : Int32} {l3 : Int64} {x5 : Int32} {x7 : Int32} {xs0 : Int32} {σ : xσ} {h : xH} {r : Unit × xσ} {d2 : Option Value} {d6 : Option Value} : Rl n σ h → b_X9_takeNumber_154 n x1 l3 x5 x7 xs0 σ = some r → Go G mX9_takeNumber 154 [some (.ref 1), some (.int x1), d2, some (.long l3), none, some (.int x5), d6, some (.int x7)] [.int xs0, .ref 1] h (fun v h' => xRok (xRt mX9_takeNumber) v ∧ v = none ∧ Rl n r.2 h') := by
  intro R hf
  rw [b_X9_takeNumber_154] at hf
  obtain ⟨σ101, e102, hf⟩ := st_some hf
  refine go_putI (pc' := 157) dX9_takeNumber_154 rfl pf_LandBase_Tape_28 R (R.at rfl (by decide)) (by decide) rfl rfl rfl (fun h103 R => ?_)
  have R := Rl.cast e102 R
  refine go_aload_n (i := 0) (pc' := 158) dX9_takeNumber_157 rfl rfl rfl ?_
  refine go_iload (pc' := 160) dX9_takeNumber_158 rfl rfl ?_
  refine go_if_eq (pc' := 163) (tgt := 177) dX9_takeNumber_160 (by decide) rfl (fun c104 => ?_) (fun c104 => ?_)
  · have hf := it c104 hf
    refine go_iconst (v := 0) (pc' := 178) dX9_takeNumber_177 rfl (by decide) ?_
    exact t_X9_takeNumber_178 R hf
  · have hf := ie c104 hf
    refine go_iload_n (i := 1) (pc' := 164) dX9_takeNumber_163 rfl rfl rfl ?_
    refine go_if_eq (pc' := 167) (tgt := 172) dX9_takeNumber_164 (by decide) rfl (fun c105 => ?_) (fun c105 => ?_)
    · have hf := it c105 hf
      refine go_lload_n (i := 3) (pc' := 173) dX9_takeNumber_172 rfl rfl rfl ?_
      exact t_X9_takeNumber_173 R hf
    · have hf := ie c105 hf
      refine go_lload_n (i := 3) (pc' := 168) dX9_takeNumber_167 rfl rfl rfl ?_
      refine go_lneg (pc' := 169) dX9_takeNumber_168 rfl ?_
      refine go_goto (pc' := 0) (tgt := 173) dX9_takeNumber_169 (by decide) ?_
      exact t_X9_takeNumber_173 R hf
def b_X9_takeNumber_141 (n : Nat) (x1 : Int32) (l3 : Int64) (x5 : Int32) (xs0 : Int32) (σ : xσ) : Option (Unit × xσ) := if xs0 = 0 then b_X9_takeNumber_154 n x1 l3 x5 xs0 4 σ else b_X9_takeNumber_154 n x1 l3 x5 xs0 2 σ
set_option maxRecDepth 100000 in
set_option maxHeartbeats 4000000 in
theorem t_X9_takeNumber_141 {G : xG} {n : Nat} {x1 : Int32} {l3 : Int64} {x5 : Int32} {xs0 : Int32} {σ : xσ} {h : xH} {r : Unit × xσ} {d2 : Option Value} {d6 : Option Value} {d7 : Option Value} : Rl n σ h → b_X9_takeNumber_141 n x1 l3 x5 xs0 σ = some r → Go G mX9_takeNumber 141 [some (.ref 1), some (.int x1), d2, some (.long l3), none, some (.int x5), d6, d7] [.int xs0] h (fun v h' => xRok (xRt mX9_takeNumber) v ∧ v = none ∧ Rl n r.2 h') := by
  intro R hf
  rw [b_X9_takeNumber_141] at hf
  refine go_istoreE rfl (pc' := 143) dX9_takeNumber_141 rfl (by decide) rfl ?_
  refine go_aload_n (i := 0) (pc' := 144) dX9_takeNumber_143 rfl rfl rfl ?_
  refine go_iload (pc' := 146) dX9_takeNumber_144 rfl rfl ?_
  refine go_if_eq (pc' := 149) (tgt := 153) dX9_takeNumber_146 (by decide) rfl (fun c101 => ?_) (fun c101 => ?_)
  · have hf := it c101 hf
    refine go_iconst (v := 4) (pc' := 154) dX9_takeNumber_153 rfl (by decide) ?_
    exact t_X9_takeNumber_154 R hf
  · have hf := ie c101 hf
    refine go_iconst (v := 2) (pc' := 150) dX9_takeNumber_149 rfl (by decide) ?_
    refine go_goto (pc' := 0) (tgt := 154) dX9_takeNumber_150 (by decide) ?_
    exact t_X9_takeNumber_154 R hf
def l_X9_takeNumber_43 (n : Nat) : Nat → Int32 → Int32 → Int64 → Int32 → xσ → Option (Unit × xσ)
  | 0, _, _, _, _, _ => none
  | f + 1, x1, x2, l3, x5, σ => if (sI σ 1 1) ≤ x5 then st (x5 - x2) (fun x102 => if x102 < 1 then b_X9_takeNumber_141 n x1 l3 x5 0 σ else if 10 < x102 then b_X9_takeNumber_141 n x1 l3 x5 0 σ else if 0 < (lg_cmp l3 ((1073741823 : Int64))) then b_X9_takeNumber_141 n x1 l3 x5 0 σ else b_X9_takeNumber_141 n x1 l3 x5 1 σ) else gd (inb x5 4000) (if (sI σ 2 x5.toNatClampNeg) < 48 then st (x5 - x2) (fun x109 => if x109 < 1 then b_X9_takeNumber_141 n x1 l3 x5 0 σ else if 10 < x109 then b_X9_takeNumber_141 n x1 l3 x5 0 σ else if 0 < (lg_cmp l3 ((1073741823 : Int64))) then b_X9_takeNumber_141 n x1 l3 x5 0 σ else b_X9_takeNumber_141 n x1 l3 x5 1 σ) else gd (inb x5 4000) (if 57 < (sI σ 2 x5.toNatClampNeg) then st (x5 - x2) (fun x116 => if x116 < 1 then b_X9_takeNumber_141 n x1 l3 x5 0 σ else if 10 < x116 then b_X9_takeNumber_141 n x1 l3 x5 0 σ else if 0 < (lg_cmp l3 ((1073741823 : Int64))) then b_X9_takeNumber_141 n x1 l3 x5 0 σ else b_X9_takeNumber_141 n x1 l3 x5 1 σ) else if 10 ≤ (x5 - x2) then (l_X9_takeNumber_43 n f) x1 x2 l3 (x5 + 1) σ else gd (inb x5 4000) (st ((l3 * ((10 : Int64))) + (((sI σ 2 x5.toNatClampNeg) - 48).toInt64)) (fun l123 => b_X9_takeNumber_103 n (l_X9_takeNumber_43 n f) x1 x2 l123 x5 σ))))
set_option maxRecDepth 100000 in
set_option maxHeartbeats 4000000 in
theorem t_X9_takeNumber_43 {G : xG} {n : Nat} : ∀ (f : Nat) {x1 : Int32} {x2 : Int32} {l3 : Int64} {x5 : Int32} {σ : xσ} {h : xH} {r : Unit × xσ} {d6 : Option Value} {d7 : Option Value}, Rl n σ h → l_X9_takeNumber_43 n f x1 x2 l3 x5 σ = some r → Go G mX9_takeNumber 43 [some (.ref 1), some (.int x1), some (.int x2), some (.long l3), none, some (.int x5), d6, d7] [] h (fun v h' => xRok (xRt mX9_takeNumber) v ∧ v = none ∧ Rl n r.2 h') := by
  intro f
  induction f with
  | zero =>
    intros
    rename _ = some _ => hf
    rw [l_X9_takeNumber_43] at hf
    cases hf
  | succ f ih =>
    intro x1 x2 l3 x5 σ h r d6 d7 R hf
    rw [l_X9_takeNumber_43] at hf
    refine go_iload (pc' := 45) dX9_takeNumber_43 rfl rfl ?_
    refine go_aload_n (i := 0) (pc' := 46) dX9_takeNumber_45 rfl rfl rfl ?_
    refine go_getS (pc' := 49) dX9_takeNumber_46 rfl gf_LandBase_Tape_15 R (R.at rfl (by decide)) (by decide) rfl ?_
    refine go_icmp_ge (pc' := 52) (tgt := 109) dX9_takeNumber_49 (by decide) rfl (fun c101 => ?_) (fun c101 => ?_)
    · have hf := it c101 hf
      refine go_iload (pc' := 111) dX9_takeNumber_109 rfl rfl ?_
      refine go_iload_n (i := 2) (pc' := 112) dX9_takeNumber_111 rfl rfl rfl ?_
      refine go_isub (pc' := 113) dX9_takeNumber_112 rfl ?_
      obtain ⟨x102, e103, hf⟩ := st_some hf
      refine go_istoreE e103 (pc' := 115) dX9_takeNumber_113 rfl (by decide) rfl ?_
      refine go_iload (pc' := 117) dX9_takeNumber_115 rfl rfl ?_
      refine go_iconst (v := 1) (pc' := 118) dX9_takeNumber_117 rfl (by decide) ?_
      refine go_icmp_lt (pc' := 121) (tgt := 140) dX9_takeNumber_118 (by decide) rfl (fun c104 => ?_) (fun c104 => ?_)
      · have hf := it c104 hf
        refine go_iconst (v := 0) (pc' := 141) dX9_takeNumber_140 rfl (by decide) ?_
        exact t_X9_takeNumber_141 R hf
      · have hf := ie c104 hf
        refine go_iload (pc' := 123) dX9_takeNumber_121 rfl rfl ?_
        refine go_bipush (v := 10) (pc' := 125) dX9_takeNumber_123 rfl (by decide) ?_
        refine go_icmp_gt (pc' := 128) (tgt := 140) dX9_takeNumber_125 (by decide) rfl (fun c105 => ?_) (fun c105 => ?_)
        · have hf := it c105 hf
          refine go_iconst (v := 0) (pc' := 141) dX9_takeNumber_140 rfl (by decide) ?_
          exact t_X9_takeNumber_141 R hf
        · have hf := ie c105 hf
          refine go_lload_n (i := 3) (pc' := 129) dX9_takeNumber_128 rfl rfl rfl ?_
          refine go_ldc2 (pc' := 132) dX9_takeNumber_129 rfl wd_406 ?_
          refine go_lcmp (pc' := 133) dX9_takeNumber_132 rfl ?_
          refine go_if_gt (pc' := 136) (tgt := 140) dX9_takeNumber_133 (by decide) rfl (fun c106 => ?_) (fun c106 => ?_)
          · have hf := it c106 hf
            refine go_iconst (v := 0) (pc' := 141) dX9_takeNumber_140 rfl (by decide) ?_
            exact t_X9_takeNumber_141 R hf
          · have hf := ie c106 hf
            refine go_iconst (v := 1) (pc' := 137) dX9_takeNumber_136 rfl (by decide) ?_
            refine go_goto (pc' := 0) (tgt := 141) dX9_takeNumber_137 (by decide) ?_
            exact t_X9_takeNumber_141 R hf
    · have hf := ie c101 hf
      refine go_aload_n (i := 0) (pc' := 53) dX9_takeNumber_52 rfl rfl rfl ?_
      refine go_getS (pc' := 56) dX9_takeNumber_53 rfl gf_LandBase_Tape_9 R (R.at rfl (by decide)) (by decide) rfl ?_
      refine go_iload (pc' := 58) dX9_takeNumber_56 rfl rfl ?_
      obtain ⟨g107, hf⟩ := gd_some hf
      refine go_baloadS (pc' := 59) dX9_takeNumber_58 rfl R (R.aa rfl (by decide)) g107 ?_
      refine go_bipush (v := 48) (pc' := 61) dX9_takeNumber_59 rfl (by decide) ?_
      refine go_icmp_lt (pc' := 64) (tgt := 109) dX9_takeNumber_61 (by decide) rfl (fun c108 => ?_) (fun c108 => ?_)
      · have hf := it c108 hf
        refine go_iload (pc' := 111) dX9_takeNumber_109 rfl rfl ?_
        refine go_iload_n (i := 2) (pc' := 112) dX9_takeNumber_111 rfl rfl rfl ?_
        refine go_isub (pc' := 113) dX9_takeNumber_112 rfl ?_
        obtain ⟨x109, e110, hf⟩ := st_some hf
        refine go_istoreE e110 (pc' := 115) dX9_takeNumber_113 rfl (by decide) rfl ?_
        refine go_iload (pc' := 117) dX9_takeNumber_115 rfl rfl ?_
        refine go_iconst (v := 1) (pc' := 118) dX9_takeNumber_117 rfl (by decide) ?_
        refine go_icmp_lt (pc' := 121) (tgt := 140) dX9_takeNumber_118 (by decide) rfl (fun c111 => ?_) (fun c111 => ?_)
        · have hf := it c111 hf
          refine go_iconst (v := 0) (pc' := 141) dX9_takeNumber_140 rfl (by decide) ?_
          exact t_X9_takeNumber_141 R hf
        · have hf := ie c111 hf
          refine go_iload (pc' := 123) dX9_takeNumber_121 rfl rfl ?_
          refine go_bipush (v := 10) (pc' := 125) dX9_takeNumber_123 rfl (by decide) ?_
          refine go_icmp_gt (pc' := 128) (tgt := 140) dX9_takeNumber_125 (by decide) rfl (fun c112 => ?_) (fun c112 => ?_)
          · have hf := it c112 hf
            refine go_iconst (v := 0) (pc' := 141) dX9_takeNumber_140 rfl (by decide) ?_
            exact t_X9_takeNumber_141 R hf
          · have hf := ie c112 hf
            refine go_lload_n (i := 3) (pc' := 129) dX9_takeNumber_128 rfl rfl rfl ?_
            refine go_ldc2 (pc' := 132) dX9_takeNumber_129 rfl wd_406 ?_
            refine go_lcmp (pc' := 133) dX9_takeNumber_132 rfl ?_
            refine go_if_gt (pc' := 136) (tgt := 140) dX9_takeNumber_133 (by decide) rfl (fun c113 => ?_) (fun c113 => ?_)
            · have hf := it c113 hf
              refine go_iconst (v := 0) (pc' := 141) dX9_takeNumber_140 rfl (by decide) ?_
              exact t_X9_takeNumber_141 R hf
            · have hf := ie c113 hf
              refine go_iconst (v := 1) (pc' := 137) dX9_takeNumber_136 rfl (by decide) ?_
              refine go_goto (pc' := 0) (tgt := 141) dX9_takeNumber_137 (by decide) ?_
              exact t_X9_takeNumber_141 R hf
      · have hf := ie c108 hf
        refine go_aload_n (i := 0) (pc' := 65) dX9_takeNumber_64 rfl rfl rfl ?_
        refine go_getS (pc' := 68) dX9_takeNumber_65 rfl gf_LandBase_Tape_9 R (R.at rfl (by decide)) (by decide) rfl ?_
        refine go_iload (pc' := 70) dX9_takeNumber_68 rfl rfl ?_
        obtain ⟨g114, hf⟩ := gd_some hf
        refine go_baloadS (pc' := 71) dX9_takeNumber_70 rfl R (R.aa rfl (by decide)) g114 ?_
        refine go_bipush (v := 57) (pc' := 73) dX9_takeNumber_71 rfl (by decide) ?_
        refine go_icmp_gt (pc' := 76) (tgt := 109) dX9_takeNumber_73 (by decide) rfl (fun c115 => ?_) (fun c115 => ?_)
        · have hf := it c115 hf
          refine go_iload (pc' := 111) dX9_takeNumber_109 rfl rfl ?_
          refine go_iload_n (i := 2) (pc' := 112) dX9_takeNumber_111 rfl rfl rfl ?_
          refine go_isub (pc' := 113) dX9_takeNumber_112 rfl ?_
          obtain ⟨x116, e117, hf⟩ := st_some hf
          refine go_istoreE e117 (pc' := 115) dX9_takeNumber_113 rfl (by decide) rfl ?_
          refine go_iload (pc' := 117) dX9_takeNumber_115 rfl rfl ?_
          refine go_iconst (v := 1) (pc' := 118) dX9_takeNumber_117 rfl (by decide) ?_
          refine go_icmp_lt (pc' := 121) (tgt := 140) dX9_takeNumber_118 (by decide) rfl (fun c118 => ?_) (fun c118 => ?_)
          · have hf := it c118 hf
            refine go_iconst (v := 0) (pc' := 141) dX9_takeNumber_140 rfl (by decide) ?_
            exact t_X9_takeNumber_141 R hf
          · have hf := ie c118 hf
            refine go_iload (pc' := 123) dX9_takeNumber_121 rfl rfl ?_
            refine go_bipush (v := 10) (pc' := 125) dX9_takeNumber_123 rfl (by decide) ?_
            refine go_icmp_gt (pc' := 128) (tgt := 140) dX9_takeNumber_125 (by decide) rfl (fun c119 => ?_) (fun c119 => ?_)
            · have hf := it c119 hf
              refine go_iconst (v := 0) (pc' := 141) dX9_takeNumber_140 rfl (by decide) ?_
              exact t_X9_takeNumber_141 R hf
            · have hf := ie c119 hf
              refine go_lload_n (i := 3) (pc' := 129) dX9_takeNumber_128 rfl rfl rfl ?_
              refine go_ldc2 (pc' := 132) dX9_takeNumber_129 rfl wd_406 ?_
              refine go_lcmp (pc' := 133) dX9_takeNumber_132 rfl ?_
              refine go_if_gt (pc' := 136) (tgt := 140) dX9_takeNumber_133 (by decide) rfl (fun c120 => ?_) (fun c120 => ?_)
              · have hf := it c120 hf
                refine go_iconst (v := 0) (pc' := 141) dX9_takeNumber_140 rfl (by decide) ?_
                exact t_X9_takeNumber_141 R hf
              · have hf := ie c120 hf
                refine go_iconst (v := 1) (pc' := 137) dX9_takeNumber_136 rfl (by decide) ?_
                refine go_goto (pc' := 0) (tgt := 141) dX9_takeNumber_137 (by decide) ?_
                exact t_X9_takeNumber_141 R hf
        · have hf := ie c115 hf
          refine go_iload (pc' := 78) dX9_takeNumber_76 rfl rfl ?_
          refine go_iload_n (i := 2) (pc' := 79) dX9_takeNumber_78 rfl rfl rfl ?_
          refine go_isub (pc' := 80) dX9_takeNumber_79 rfl ?_
          refine go_bipush (v := 10) (pc' := 82) dX9_takeNumber_80 rfl (by decide) ?_
          refine go_icmp_ge (pc' := 85) (tgt := 103) dX9_takeNumber_82 (by decide) rfl (fun c121 => ?_) (fun c121 => ?_)
          · have hf := it c121 hf
            refine go_iincC (kk := 1) (pc' := 106) dX9_takeNumber_103 rfl rfl (by decide) (by decide) rfl ?_
            refine go_goto (pc' := 0) (tgt := 43) dX9_takeNumber_106 (by decide) ?_
            exact ih R hf
          · have hf := ie c121 hf
            refine go_lload_n (i := 3) (pc' := 86) dX9_takeNumber_85 rfl rfl rfl ?_
            refine go_ldc2 (pc' := 89) dX9_takeNumber_86 rfl wd_405 ?_
            refine go_lmul (pc' := 90) dX9_takeNumber_89 rfl ?_
            refine go_aload_n (i := 0) (pc' := 91) dX9_takeNumber_90 rfl rfl rfl ?_
            refine go_getS (pc' := 94) dX9_takeNumber_91 rfl gf_LandBase_Tape_9 R (R.at rfl (by decide)) (by decide) rfl ?_
            refine go_iload (pc' := 96) dX9_takeNumber_94 rfl rfl ?_
            obtain ⟨g122, hf⟩ := gd_some hf
            refine go_baloadS (pc' := 97) dX9_takeNumber_96 rfl R (R.aa rfl (by decide)) g122 ?_
            refine go_bipush (v := 48) (pc' := 99) dX9_takeNumber_97 rfl (by decide) ?_
            refine go_isub (pc' := 100) dX9_takeNumber_99 rfl ?_
            refine go_i2l (pc' := 101) dX9_takeNumber_100 rfl rfl ?_
            refine go_ladd (pc' := 102) dX9_takeNumber_101 rfl ?_
            obtain ⟨l123, e124, hf⟩ := st_some hf
            refine go_lstore_nE e124 (i := 3) (pc' := 103) dX9_takeNumber_102 rfl rfl (by decide) rfl ?_
            exact t_X9_takeNumber_103 @ih R hf
def b_X9_takeNumber_37 (n : Nat) (x1 : Int32) (xs0 : Int32) (σ : xσ) : Option (Unit × xσ) := l_X9_takeNumber_43 n xFU x1 xs0 ((0 : Int64)) xs0 σ
set_option maxRecDepth 100000 in
set_option maxHeartbeats 4000000 in
theorem t_X9_takeNumber_37 {G : xG} {n : Nat} {x1 : Int32} {xs0 : Int32} {σ : xσ} {h : xH} {r : Unit × xσ} {d2 : Option Value} {d3 : Option Value} {d4 : Option Value} {d5 : Option Value} {d6 : Option Value} {d7 : Option Value} : Rl n σ h → b_X9_takeNumber_37 n x1 xs0 σ = some r → Go G mX9_takeNumber 37 [some (.ref 1), some (.int x1), d2, d3, d4, d5, d6, d7] [.int xs0] h (fun v h' => xRok (xRt mX9_takeNumber) v ∧ v = none ∧ Rl n r.2 h') := by
  intro R hf
  rw [b_X9_takeNumber_37] at hf
  refine go_istore_nE rfl (i := 2) (pc' := 38) dX9_takeNumber_37 rfl rfl (by decide) rfl ?_
  refine go_lconst (v := 0) (pc' := 39) dX9_takeNumber_38 rfl (by decide) ?_
  refine go_lstore_nE rfl (i := 3) (pc' := 40) dX9_takeNumber_39 rfl rfl (by decide) rfl ?_
  refine go_iload_n (i := 2) (pc' := 41) dX9_takeNumber_40 rfl rfl rfl ?_
  refine go_istoreE rfl (pc' := 43) dX9_takeNumber_41 rfl (by decide) rfl ?_
  exact t_X9_takeNumber_43 xFU R hf
def b_X9_takeNumber_19 (n : Nat) (xs0 : Int32) (σ : xσ) : Option (Unit × xσ) := if xs0 = 0 then b_X9_takeNumber_37 n xs0 (sI σ 1 3) σ else b_X9_takeNumber_37 n xs0 ((sI σ 1 3) + 1) σ
set_option maxRecDepth 100000 in
set_option maxHeartbeats 4000000 in
theorem t_X9_takeNumber_19 {G : xG} {n : Nat} {xs0 : Int32} {σ : xσ} {h : xH} {r : Unit × xσ} {d1 : Option Value} {d2 : Option Value} {d3 : Option Value} {d4 : Option Value} {d5 : Option Value} {d6 : Option Value} {d7 : Option Value} : Rl n σ h → b_X9_takeNumber_19 n xs0 σ = some r → Go G mX9_takeNumber 19 [some (.ref 1), d1, d2, d3, d4, d5, d6, d7] [.int xs0] h (fun v h' => xRok (xRt mX9_takeNumber) v ∧ v = none ∧ Rl n r.2 h') := by
  intro R hf
  rw [b_X9_takeNumber_19] at hf
  refine go_istore_nE rfl (i := 1) (pc' := 20) dX9_takeNumber_19 rfl rfl (by decide) rfl ?_
  refine go_iload_n (i := 1) (pc' := 21) dX9_takeNumber_20 rfl rfl rfl ?_
  refine go_if_eq (pc' := 24) (tgt := 33) dX9_takeNumber_21 (by decide) rfl (fun c101 => ?_) (fun c101 => ?_)
  · have hf := it c101 hf
    refine go_aload_n (i := 0) (pc' := 34) dX9_takeNumber_33 rfl rfl rfl ?_
    refine go_getS (pc' := 37) dX9_takeNumber_34 rfl gf_LandBase_Tape_25 R (R.at rfl (by decide)) (by decide) rfl ?_
    exact t_X9_takeNumber_37 R hf
  · have hf := ie c101 hf
    refine go_aload_n (i := 0) (pc' := 25) dX9_takeNumber_24 rfl rfl rfl ?_
    refine go_getS (pc' := 28) dX9_takeNumber_25 rfl gf_LandBase_Tape_25 R (R.at rfl (by decide)) (by decide) rfl ?_
    refine go_iconst (v := 1) (pc' := 29) dX9_takeNumber_28 rfl (by decide) ?_
    refine go_iadd (pc' := 30) dX9_takeNumber_29 rfl ?_
    refine go_goto (pc' := 0) (tgt := 37) dX9_takeNumber_30 (by decide) ?_
    exact t_X9_takeNumber_37 R hf
def f_X9_takeNumber (n : Nat)  (σ : xσ) : Option (Unit × xσ) := gd (inb (sI σ 1 3) 4000) (if (sI σ 2 (sI σ 1 3).toNatClampNeg) = 45 then b_X9_takeNumber_19 n 1 σ else b_X9_takeNumber_19 n 0 σ)
set_option maxRecDepth 100000 in
set_option maxHeartbeats 4000000 in
theorem c_X9_takeNumber {G : xG} {n : Nat} {σ : xσ} {h : xH}  {v1 : Unit} {σ1 : xσ} (R : Rl n σ h) (hf : f_X9_takeNumber n σ = some (v1, σ1)) : Ca G mX9_takeNumber [.ref 1] h (fun v h' => v = none ∧ Rl n σ1 h') := by
  refine Ca.of rfl (Nat.le_of_ble_eq_true rfl) ?_
  generalize hr : (v1, σ1) = r at hf
  suffices q : Go G mX9_takeNumber 0 (xent (xMl mX9_takeNumber) [.ref 1]) [] h (fun v h' => xRok (xRt mX9_takeNumber) v ∧ v = none ∧ Rl n r.2 h') by
    subst hr
    exact q
  clear hr
  rw [f_X9_takeNumber] at hf
  refine go_aload_n (i := 0) (pc' := 1) dX9_takeNumber_0 rfl rfl rfl ?_
  refine go_getS (pc' := 4) dX9_takeNumber_1 rfl gf_LandBase_Tape_9 R (R.at rfl (by decide)) (by decide) rfl ?_
  refine go_aload_n (i := 0) (pc' := 5) dX9_takeNumber_4 rfl rfl rfl ?_
  refine go_getS (pc' := 8) dX9_takeNumber_5 rfl gf_LandBase_Tape_25 R (R.at rfl (by decide)) (by decide) rfl ?_
  obtain ⟨g101, hf⟩ := gd_some hf
  refine go_baloadS (pc' := 9) dX9_takeNumber_8 rfl R (R.aa rfl (by decide)) g101 ?_
  refine go_bipush (v := 45) (pc' := 11) dX9_takeNumber_9 rfl (by decide) ?_
  refine go_icmp_ne (pc' := 14) (tgt := 18) dX9_takeNumber_11 (by decide) rfl (fun c102 => ?_) (fun c102 => ?_)
  · have hf := ie c102 hf
    refine go_iconst (v := 0) (pc' := 19) dX9_takeNumber_18 rfl (by decide) ?_
    exact t_X9_takeNumber_19 R hf
  · have hf := it c102 hf
    refine go_iconst (v := 1) (pc' := 15) dX9_takeNumber_14 rfl (by decide) ?_
    refine go_goto (pc' := 0) (tgt := 19) dX9_takeNumber_15 (by decide) ?_
    exact t_X9_takeNumber_19 R hf

/-! methods as functions, by program (gen/dcmall.py) -/
def b_X14_isCommitted_69 (n : Nat) (σ : xσ) : Option (Int32 × xσ) := bd (f_X13_take n 1061 259 σ) (fun v101 σ102 => st (wI σ102 233 32 0) (fun σ106 => st (wI σ106 233 34 0) (fun σ109 => some (1, σ109))))
set_option maxRecDepth 100000 in
set_option maxHeartbeats 4000000 in
theorem t_X14_isCommitted_69 {G : xG} {n : Nat} {σ : xσ} {h : xH} {r : Int32 × xσ} {d1 : Option Value} {d2 : Option Value} : Rl n σ h → b_X14_isCommitted_69 n σ = some r → Go G mX14_isCommitted 69 [some (.ref 233), d1, d2] [] h (fun v h' => xRok (xRt mX14_isCommitted) v ∧ v = some (.int r.1) ∧ Rl n r.2 h') := by
  intro R hf
  rw [b_X14_isCommitted_69] at hf
  refine go_aload_n (i := 0) (pc' := 70) dX14_isCommitted_69 rfl rfl rfl ?_
  refine go_getS (pc' := 73) dX14_isCommitted_70 rfl gf_LandBaseModel_347 R (R.at rfl (by decide)) (by decide) rfl ?_
  refine go_aload_n (i := 0) (pc' := 74) dX14_isCommitted_73 rfl rfl rfl ?_
  refine go_getS (pc' := 77) dX14_isCommitted_74 rfl gf_LandBaseModel_351 R (R.at rfl (by decide)) (by decide) rfl ?_
  obtain ⟨v101, σ102, e103, hf⟩ := bd_some hf
  refine go_invV (As := [_]) (pc' := 80) dX14_isCommitted_77 rfl cf_X14_isCommitted_354 rfl (R.ob (R.at rfl (by decide))) rfl rfl (Nat.le_of_ble_eq_true rfl) (c_X13_take R e103) (fun q104v h105 q104 => ?_)
  obtain ⟨rfl, R⟩ := q104
  refine go_aload_n (i := 0) (pc' := 81) dX14_isCommitted_80 rfl rfl rfl ?_
  refine go_iconst (v := 0) (pc' := 82) dX14_isCommitted_81 rfl (by decide) ?_
  obtain ⟨σ106, e107, hf⟩ := st_some hf
  refine go_putI (pc' := 85) dX14_isCommitted_82 rfl pf_LandBaseModel_321 R (R.at rfl (by decide)) (by decide) rfl rfl rfl (fun h108 R => ?_)
  have R := Rl.cast e107 R
  refine go_aload_n (i := 0) (pc' := 86) dX14_isCommitted_85 rfl rfl rfl ?_
  refine go_iconst (v := 0) (pc' := 87) dX14_isCommitted_86 rfl (by decide) ?_
  obtain ⟨σ109, e110, hf⟩ := st_some hf
  refine go_putI (pc' := 90) dX14_isCommitted_87 rfl pf_LandBaseModel_338 R (R.at rfl (by decide)) (by decide) rfl rfl rfl (fun h111 R => ?_)
  have R := Rl.cast e110 R
  refine go_iconst (v := 1) (pc' := 91) dX14_isCommitted_90 rfl (by decide) ?_
  obtain rfl := Option.some.inj hf
  exact Go.ret (v := some (.int _)) dX14_isCommitted_91 ⟨_, rfl⟩ ⟨rfl, rfl, R⟩
def l_X14_isCommitted_39 (n : Nat) : Nat → Int32 → Int32 → xσ → Option (Int32 × xσ)
  | 0, _, _, _ => none
  | f + 1, x1, x2, σ => if x1 ≤ x2 then st (wI σ 233 35 ((sI σ 233 35) + x1)) (fun σ102 => b_X14_isCommitted_69 n σ102) else bd (f_X14_isBlockWritten n σ) (fun v105 σ106 => if v105 = 0 then some (0, σ106) else (l_X14_isCommitted_39 n f) x1 (x2 + 1) σ106)
set_option maxRecDepth 100000 in
set_option maxHeartbeats 4000000 in
theorem t_X14_isCommitted_39 {G : xG} {n : Nat} : ∀ (f : Nat) {x1 : Int32} {x2 : Int32} {σ : xσ} {h : xH} {r : Int32 × xσ}, Rl n σ h → l_X14_isCommitted_39 n f x1 x2 σ = some r → Go G mX14_isCommitted 39 [some (.ref 233), some (.int x1), some (.int x2)] [] h (fun v h' => xRok (xRt mX14_isCommitted) v ∧ v = some (.int r.1) ∧ Rl n r.2 h') := by
  intro f
  induction f with
  | zero =>
    intros
    rename _ = some _ => hf
    rw [l_X14_isCommitted_39] at hf
    cases hf
  | succ f ih =>
    intro x1 x2 σ h r  R hf
    rw [l_X14_isCommitted_39] at hf
    refine go_iload_n (i := 2) (pc' := 40) dX14_isCommitted_39 rfl rfl rfl ?_
    refine go_iload_n (i := 1) (pc' := 41) dX14_isCommitted_40 rfl rfl rfl ?_
    refine go_icmp_ge (pc' := 44) (tgt := 59) dX14_isCommitted_41 (by decide) rfl (fun c101 => ?_) (fun c101 => ?_)
    · have hf := it c101 hf
      refine go_aload_n (i := 0) (pc' := 60) dX14_isCommitted_59 rfl rfl rfl ?_
      refine go_dup (pc' := 61) dX14_isCommitted_60 rfl rfl ?_
      refine go_getS (pc' := 64) dX14_isCommitted_61 rfl gf_LandBaseModel_332 R (R.at rfl (by decide)) (by decide) rfl ?_
      refine go_iload_n (i := 1) (pc' := 65) dX14_isCommitted_64 rfl rfl rfl ?_
      refine go_iadd (pc' := 66) dX14_isCommitted_65 rfl ?_
      obtain ⟨σ102, e103, hf⟩ := st_some hf
      refine go_putI (pc' := 69) dX14_isCommitted_66 rfl pf_LandBaseModel_332 R (R.at rfl (by decide)) (by decide) rfl rfl rfl (fun h104 R => ?_)
      have R := Rl.cast e103 R
      exact t_X14_isCommitted_69 R hf
    · have hf := ie c101 hf
      refine go_aload_n (i := 0) (pc' := 45) dX14_isCommitted_44 rfl rfl rfl ?_
      obtain ⟨v105, σ106, e107, hf⟩ := bd_some hf
      refine go_invV (As := []) (pc' := 48) dX14_isCommitted_45 rfl cf_X14_isCommitted_344 rfl (R.ob (R.at rfl (by decide))) rfl rfl (Nat.le_of_ble_eq_true rfl) (c_X14_isBlockWritten R e107) (fun q108v h109 q108 => ?_)
      obtain ⟨rfl, R⟩ := q108
      refine go_if_ne (pc' := 51) (tgt := 53) dX14_isCommitted_48 (by decide) rfl (fun c110 => ?_) (fun c110 => ?_)
      · have hf := ie c110 hf
        refine go_iincC (kk := 1) (pc' := 56) dX14_isCommitted_53 rfl rfl (by decide) (by decide) rfl ?_
        refine go_goto (pc' := 0) (tgt := 39) dX14_isCommitted_56 (by decide) ?_
        exact ih R hf
      · have hf := it c110 hf
        refine go_iconst (v := 0) (pc' := 52) dX14_isCommitted_51 rfl (by decide) ?_
        obtain rfl := Option.some.inj hf
        exact Go.ret (v := some (.int _)) dX14_isCommitted_52 ⟨_, rfl⟩ ⟨rfl, rfl, R⟩
def f_X14_isCommitted (n : Nat)  (σ : xσ) : Option (Int32 × xσ) := st (((((sI σ 233 34) + 224) - 1) / 224) + 1) (fun x101 => if ((sI σ 233 35) + x101) ≤ 64 then l_X14_isCommitted_39 n xFU x101 0 σ else bd (f_X14_isSaved n σ) (fun v104 σ105 => if v104 = 0 then some (0, σ105) else bd (f_X13_take n 1061 259 σ105) (fun v110 σ111 => st (wI σ111 233 32 0) (fun σ115 => st (wI σ115 233 34 0) (fun σ118 => some (1, σ118))))))
set_option maxRecDepth 100000 in
set_option maxHeartbeats 4000000 in
theorem c_X14_isCommitted {G : xG} {n : Nat} {σ : xσ} {h : xH}  {v1 : Int32} {σ1 : xσ} (R : Rl n σ h) (hf : f_X14_isCommitted n σ = some (v1, σ1)) : Ca G mX14_isCommitted [.ref 233] h (fun v h' => v = some (.int v1) ∧ Rl n σ1 h') := by
  refine Ca.of rfl (Nat.le_of_ble_eq_true rfl) ?_
  generalize hr : (v1, σ1) = r at hf
  suffices q : Go G mX14_isCommitted 0 (xent (xMl mX14_isCommitted) [.ref 233]) [] h (fun v h' => xRok (xRt mX14_isCommitted) v ∧ v = some (.int r.1) ∧ Rl n r.2 h') by
    subst hr
    exact q
  clear hr
  rw [f_X14_isCommitted] at hf
  refine go_aload_n (i := 0) (pc' := 1) dX14_isCommitted_0 rfl rfl rfl ?_
  refine go_getS (pc' := 4) dX14_isCommitted_1 rfl gf_LandBaseModel_338 R (R.at rfl (by decide)) (by decide) rfl ?_
  refine go_sipush (v := 224) (pc' := 7) dX14_isCommitted_4 rfl (by decide) ?_
  refine go_iadd (pc' := 8) dX14_isCommitted_7 rfl ?_
  refine go_iconst (v := 1) (pc' := 9) dX14_isCommitted_8 rfl (by decide) ?_
  refine go_isub (pc' := 10) dX14_isCommitted_9 rfl ?_
  refine go_sipush (v := 224) (pc' := 13) dX14_isCommitted_10 rfl (by decide) ?_
  refine go_idiv (pc' := 14) dX14_isCommitted_13 rfl (by decide) ?_
  refine go_iconst (v := 1) (pc' := 15) dX14_isCommitted_14 rfl (by decide) ?_
  refine go_iadd (pc' := 16) dX14_isCommitted_15 rfl ?_
  obtain ⟨x101, e102, hf⟩ := st_some hf
  refine go_istore_nE e102 (i := 1) (pc' := 17) dX14_isCommitted_16 rfl rfl (by decide) rfl ?_
  refine go_aload_n (i := 0) (pc' := 18) dX14_isCommitted_17 rfl rfl rfl ?_
  refine go_getS (pc' := 21) dX14_isCommitted_18 rfl gf_LandBaseModel_332 R (R.at rfl (by decide)) (by decide) rfl ?_
  refine go_iload_n (i := 1) (pc' := 22) dX14_isCommitted_21 rfl rfl rfl ?_
  refine go_iadd (pc' := 23) dX14_isCommitted_22 rfl ?_
  refine go_bipush (v := 64) (pc' := 25) dX14_isCommitted_23 rfl (by decide) ?_
  refine go_icmp_le (pc' := 28) (tgt := 37) dX14_isCommitted_25 (by decide) rfl (fun c103 => ?_) (fun c103 => ?_)
  · have hf := it c103 hf
    refine go_iconst (v := 0) (pc' := 38) dX14_isCommitted_37 rfl (by decide) ?_
    refine go_istore_nE rfl (i := 2) (pc' := 39) dX14_isCommitted_38 rfl rfl (by decide) rfl ?_
    exact t_X14_isCommitted_39 xFU R hf
  · have hf := ie c103 hf
    refine go_aload_n (i := 0) (pc' := 29) dX14_isCommitted_28 rfl rfl rfl ?_
    obtain ⟨v104, σ105, e106, hf⟩ := bd_some hf
    refine go_invV (As := []) (pc' := 32) dX14_isCommitted_29 rfl cf_X14_isCommitted_341 rfl (R.ob (R.at rfl (by decide))) rfl rfl (Nat.le_of_ble_eq_true rfl) (c_X14_isSaved R e106) (fun q107v h108 q107 => ?_)
    obtain ⟨rfl, R⟩ := q107
    refine go_if_ne (pc' := 35) (tgt := 69) dX14_isCommitted_32 (by decide) rfl (fun c109 => ?_) (fun c109 => ?_)
    · have hf := ie c109 hf
      refine go_aload_n (i := 0) (pc' := 70) dX14_isCommitted_69 rfl rfl rfl ?_
      refine go_getS (pc' := 73) dX14_isCommitted_70 rfl gf_LandBaseModel_347 R (R.at rfl (by decide)) (by decide) rfl ?_
      refine go_aload_n (i := 0) (pc' := 74) dX14_isCommitted_73 rfl rfl rfl ?_
      refine go_getS (pc' := 77) dX14_isCommitted_74 rfl gf_LandBaseModel_351 R (R.at rfl (by decide)) (by decide) rfl ?_
      obtain ⟨v110, σ111, e112, hf⟩ := bd_some hf
      refine go_invV (As := [_]) (pc' := 80) dX14_isCommitted_77 rfl cf_X14_isCommitted_354 rfl (R.ob (R.at rfl (by decide))) rfl rfl (Nat.le_of_ble_eq_true rfl) (c_X13_take R e112) (fun q113v h114 q113 => ?_)
      obtain ⟨rfl, R⟩ := q113
      refine go_aload_n (i := 0) (pc' := 81) dX14_isCommitted_80 rfl rfl rfl ?_
      refine go_iconst (v := 0) (pc' := 82) dX14_isCommitted_81 rfl (by decide) ?_
      obtain ⟨σ115, e116, hf⟩ := st_some hf
      refine go_putI (pc' := 85) dX14_isCommitted_82 rfl pf_LandBaseModel_321 R (R.at rfl (by decide)) (by decide) rfl rfl rfl (fun h117 R => ?_)
      have R := Rl.cast e116 R
      refine go_aload_n (i := 0) (pc' := 86) dX14_isCommitted_85 rfl rfl rfl ?_
      refine go_iconst (v := 0) (pc' := 87) dX14_isCommitted_86 rfl (by decide) ?_
      obtain ⟨σ118, e119, hf⟩ := st_some hf
      refine go_putI (pc' := 90) dX14_isCommitted_87 rfl pf_LandBaseModel_338 R (R.at rfl (by decide)) (by decide) rfl rfl rfl (fun h120 R => ?_)
      have R := Rl.cast e119 R
      refine go_iconst (v := 1) (pc' := 91) dX14_isCommitted_90 rfl (by decide) ?_
      obtain rfl := Option.some.inj hf
      exact Go.ret (v := some (.int _)) dX14_isCommitted_91 ⟨_, rfl⟩ ⟨rfl, rfl, R⟩
    · have hf := it c109 hf
      refine go_iconst (v := 0) (pc' := 36) dX14_isCommitted_35 rfl (by decide) ?_
      obtain rfl := Option.some.inj hf
      exact Go.ret (v := some (.int _)) dX14_isCommitted_36 ⟨_, rfl⟩ ⟨rfl, rfl, R⟩
def f_X14_hasRoom (n : Nat) (x1 : Int32) (σ : xσ) : Option (Int32 × xσ) := if 14112 < ((sI σ 233 34) + x1) then some (0, σ) else some (1, σ)
set_option maxRecDepth 100000 in
set_option maxHeartbeats 4000000 in
theorem c_X14_hasRoom {G : xG} {n : Nat} {σ : xσ} {h : xH} {x1 : Int32} {v1 : Int32} {σ1 : xσ} (R : Rl n σ h) (hf : f_X14_hasRoom n x1 σ = some (v1, σ1)) : Ca G mX14_hasRoom [.ref 233, .int x1] h (fun v h' => v = some (.int v1) ∧ Rl n σ1 h') := by
  refine Ca.of rfl (Nat.le_of_ble_eq_true rfl) ?_
  generalize hr : (v1, σ1) = r at hf
  suffices q : Go G mX14_hasRoom 0 (xent (xMl mX14_hasRoom) [.ref 233, .int x1]) [] h (fun v h' => xRok (xRt mX14_hasRoom) v ∧ v = some (.int r.1) ∧ Rl n r.2 h') by
    subst hr
    exact q
  clear hr
  rw [f_X14_hasRoom] at hf
  refine go_aload_n (i := 0) (pc' := 1) dX14_hasRoom_0 rfl rfl rfl ?_
  refine go_getS (pc' := 4) dX14_hasRoom_1 rfl gf_LandBaseModel_338 R (R.at rfl (by decide)) (by decide) rfl ?_
  refine go_iload_n (i := 1) (pc' := 5) dX14_hasRoom_4 rfl rfl rfl ?_
  refine go_iadd (pc' := 6) dX14_hasRoom_5 rfl ?_
  refine go_sipush (v := 14112) (pc' := 9) dX14_hasRoom_6 rfl (by decide) ?_
  refine go_icmp_gt (pc' := 12) (tgt := 16) dX14_hasRoom_9 (by decide) rfl (fun c101 => ?_) (fun c101 => ?_)
  · have hf := it c101 hf
    refine go_iconst (v := 0) (pc' := 17) dX14_hasRoom_16 rfl (by decide) ?_
    obtain rfl := Option.some.inj hf
    exact Go.ret (v := some (.int _)) dX14_hasRoom_17 ⟨_, rfl⟩ ⟨rfl, rfl, R⟩
  · have hf := ie c101 hf
    refine go_iconst (v := 1) (pc' := 13) dX14_hasRoom_12 rfl (by decide) ?_
    refine go_goto (pc' := 0) (tgt := 17) dX14_hasRoom_13 (by decide) ?_
    obtain rfl := Option.some.inj hf
    exact Go.ret (v := some (.int _)) dX14_hasRoom_17 ⟨_, rfl⟩ ⟨rfl, rfl, R⟩
def f_X14_put (n : Nat) (x1 : Int32) (σ : xσ) : Option (Unit × xσ) := gd (inb (sI σ 233 44) 30000) (st (wI σ 1864 (sI σ 233 44).toNatClampNeg x1) (fun σ102 => st (wI σ102 233 44 ((sI σ102 233 44) + 1)) (fun σ105 => some ((), σ105))))
set_option maxRecDepth 100000 in
set_option maxHeartbeats 4000000 in
theorem c_X14_put {G : xG} {n : Nat} {σ : xσ} {h : xH} {x1 : Int32} {v1 : Unit} {σ1 : xσ} (R : Rl n σ h) (hf : f_X14_put n x1 σ = some (v1, σ1)) : Ca G mX14_put [.ref 233, .int x1] h (fun v h' => v = none ∧ Rl n σ1 h') := by
  refine Ca.of rfl (Nat.le_of_ble_eq_true rfl) ?_
  generalize hr : (v1, σ1) = r at hf
  suffices q : Go G mX14_put 0 (xent (xMl mX14_put) [.ref 233, .int x1]) [] h (fun v h' => xRok (xRt mX14_put) v ∧ v = none ∧ Rl n r.2 h') by
    subst hr
    exact q
  clear hr
  rw [f_X14_put] at hf
  refine go_aload_n (i := 0) (pc' := 1) dX14_put_0 rfl rfl rfl ?_
  refine go_getS (pc' := 4) dX14_put_1 rfl gf_LandBaseModel_359 R (R.at rfl (by decide)) (by decide) rfl ?_
  refine go_aload_n (i := 0) (pc' := 5) dX14_put_4 rfl rfl rfl ?_
  refine go_getS (pc' := 8) dX14_put_5 rfl gf_LandBaseModel_362 R (R.at rfl (by decide)) (by decide) rfl ?_
  refine go_iload_n (i := 1) (pc' := 9) dX14_put_8 rfl rfl rfl ?_
  obtain ⟨g101, hf⟩ := gd_some hf
  obtain ⟨σ102, e103, hf⟩ := st_some hf
  refine go_iastoreS (pc' := 10) dX14_put_9 rfl R (R.aa rfl (by decide)) g101 (fun h104 R => ?_)
  have R := Rl.cast e103 R
  refine go_aload_n (i := 0) (pc' := 11) dX14_put_10 rfl rfl rfl ?_
  refine go_dup (pc' := 12) dX14_put_11 rfl rfl ?_
  refine go_getS (pc' := 15) dX14_put_12 rfl gf_LandBaseModel_362 R (R.at rfl (by decide)) (by decide) rfl ?_
  refine go_iconst (v := 1) (pc' := 16) dX14_put_15 rfl (by decide) ?_
  refine go_iadd (pc' := 17) dX14_put_16 rfl ?_
  obtain ⟨σ105, e106, hf⟩ := st_some hf
  refine go_putI (pc' := 20) dX14_put_17 rfl pf_LandBaseModel_362 R (R.at rfl (by decide)) (by decide) rfl rfl rfl (fun h107 R => ?_)
  have R := Rl.cast e106 R
  obtain rfl := Option.some.inj hf
  exact Go.ret (v := none) dX14_put_20 rfl ⟨trivial, rfl, R⟩
def f_X14_refuse (n : Nat)  (σ : xσ) : Option (Unit × xσ) := if (sI σ 233 48) = 0 then st (wI σ 233 48 1) (fun σ102 => st (wI σ102 233 42 (sI σ102 233 46)) (fun σ105 => some ((), σ105))) else some ((), σ)
set_option maxRecDepth 100000 in
set_option maxHeartbeats 4000000 in
theorem c_X14_refuse {G : xG} {n : Nat} {σ : xσ} {h : xH}  {v1 : Unit} {σ1 : xσ} (R : Rl n σ h) (hf : f_X14_refuse n σ = some (v1, σ1)) : Ca G mX14_refuse [.ref 233] h (fun v h' => v = none ∧ Rl n σ1 h') := by
  refine Ca.of rfl (Nat.le_of_ble_eq_true rfl) ?_
  generalize hr : (v1, σ1) = r at hf
  suffices q : Go G mX14_refuse 0 (xent (xMl mX14_refuse) [.ref 233]) [] h (fun v h' => xRok (xRt mX14_refuse) v ∧ v = none ∧ Rl n r.2 h') by
    subst hr
    exact q
  clear hr
  rw [f_X14_refuse] at hf
  refine go_aload_n (i := 0) (pc' := 1) dX14_refuse_0 rfl rfl rfl ?_
  refine go_getS (pc' := 4) dX14_refuse_1 rfl gf_LandBaseModel_365 R (R.at rfl (by decide)) (by decide) rfl ?_
  refine go_if_ne (pc' := 7) (tgt := 20) dX14_refuse_4 (by decide) rfl (fun c101 => ?_) (fun c101 => ?_)
  · have hf := ie c101 hf
    obtain rfl := Option.some.inj hf
    exact Go.ret (v := none) dX14_refuse_20 rfl ⟨trivial, rfl, R⟩
  · have hf := it c101 hf
    refine go_aload_n (i := 0) (pc' := 8) dX14_refuse_7 rfl rfl rfl ?_
    refine go_iconst (v := 1) (pc' := 9) dX14_refuse_8 rfl (by decide) ?_
    obtain ⟨σ102, e103, hf⟩ := st_some hf
    refine go_putI (pc' := 12) dX14_refuse_9 rfl pf_LandBaseModel_365 R (R.at rfl (by decide)) (by decide) rfl rfl rfl (fun h104 R => ?_)
    have R := Rl.cast e103 R
    refine go_aload_n (i := 0) (pc' := 13) dX14_refuse_12 rfl rfl rfl ?_
    refine go_aload_n (i := 0) (pc' := 14) dX14_refuse_13 rfl rfl rfl ?_
    refine go_getS (pc' := 17) dX14_refuse_14 rfl gf_LandBaseModel_368 R (R.at rfl (by decide)) (by decide) rfl ?_
    obtain ⟨σ105, e106, hf⟩ := st_some hf
    refine go_putI (pc' := 20) dX14_refuse_17 rfl pf_LandBaseModel_370 R (R.at rfl (by decide)) (by decide) rfl rfl rfl (fun h107 R => ?_)
    have R := Rl.cast e106 R
    obtain rfl := Option.some.inj hf
    exact Go.ret (v := none) dX14_refuse_20 rfl ⟨trivial, rfl, R⟩
def f_X14_byteAt (n : Nat) (x1 : Int32) (σ : xσ) : Option (Int32 × xσ) := if (sI σ 233 40) ≤ x1 then some ((-1), σ) else gd (inb x1 4000) (some (sI σ 1863 x1.toNatClampNeg, σ))
set_option maxRecDepth 100000 in
set_option maxHeartbeats 4000000 in
theorem c_X14_byteAt {G : xG} {n : Nat} {σ : xσ} {h : xH} {x1 : Int32} {v1 : Int32} {σ1 : xσ} (R : Rl n σ h) (hf : f_X14_byteAt n x1 σ = some (v1, σ1)) : Ca G mX14_byteAt [.ref 233, .int x1] h (fun v h' => v = some (.int v1) ∧ Rl n σ1 h') := by
  refine Ca.of rfl (Nat.le_of_ble_eq_true rfl) ?_
  generalize hr : (v1, σ1) = r at hf
  suffices q : Go G mX14_byteAt 0 (xent (xMl mX14_byteAt) [.ref 233, .int x1]) [] h (fun v h' => xRok (xRt mX14_byteAt) v ∧ v = some (.int r.1) ∧ Rl n r.2 h') by
    subst hr
    exact q
  clear hr
  rw [f_X14_byteAt] at hf
  refine go_iload_n (i := 1) (pc' := 1) dX14_byteAt_0 rfl rfl rfl ?_
  refine go_aload_n (i := 0) (pc' := 2) dX14_byteAt_1 rfl rfl rfl ?_
  refine go_getS (pc' := 5) dX14_byteAt_2 rfl gf_LandBaseModel_373 R (R.at rfl (by decide)) (by decide) rfl ?_
  refine go_icmp_ge (pc' := 8) (tgt := 17) dX14_byteAt_5 (by decide) rfl (fun c101 => ?_) (fun c101 => ?_)
  · have hf := it c101 hf
    refine go_iconst (v := (-1)) (pc' := 18) dX14_byteAt_17 rfl (by decide) ?_
    obtain rfl := Option.some.inj hf
    exact Go.ret (v := some (.int _)) dX14_byteAt_18 ⟨_, rfl⟩ ⟨rfl, rfl, R⟩
  · have hf := ie c101 hf
    refine go_aload_n (i := 0) (pc' := 9) dX14_byteAt_8 rfl rfl rfl ?_
    refine go_getS (pc' := 12) dX14_byteAt_9 rfl gf_LandBaseModel_376 R (R.at rfl (by decide)) (by decide) rfl ?_
    refine go_iload_n (i := 1) (pc' := 13) dX14_byteAt_12 rfl rfl rfl ?_
    obtain ⟨g102, hf⟩ := gd_some hf
    refine go_ialoadS (pc' := 14) dX14_byteAt_13 rfl R (R.aa rfl (by decide)) g102 ?_
    refine go_goto (pc' := 0) (tgt := 18) dX14_byteAt_14 (by decide) ?_
    obtain rfl := Option.some.inj hf
    exact Go.ret (v := some (.int _)) dX14_byteAt_18 ⟨_, rfl⟩ ⟨rfl, rfl, R⟩
def f_X14_isGreat (n : Nat) (x0 : Int32) (σ : xσ) : Option (Int32 × xσ) := if x0 < 65 then some (0, σ) else if 90 < x0 then some (0, σ) else some (1, σ)
set_option maxRecDepth 100000 in
set_option maxHeartbeats 4000000 in
theorem c_X14_isGreat {G : xG} {n : Nat} {σ : xσ} {h : xH} {x0 : Int32} {v1 : Int32} {σ1 : xσ} (R : Rl n σ h) (hf : f_X14_isGreat n x0 σ = some (v1, σ1)) : Ca G mX14_isGreat [.int x0] h (fun v h' => v = some (.int v1) ∧ Rl n σ1 h') := by
  refine Ca.of rfl (Nat.le_of_ble_eq_true rfl) ?_
  generalize hr : (v1, σ1) = r at hf
  suffices q : Go G mX14_isGreat 0 (xent (xMl mX14_isGreat) [.int x0]) [] h (fun v h' => xRok (xRt mX14_isGreat) v ∧ v = some (.int r.1) ∧ Rl n r.2 h') by
    subst hr
    exact q
  clear hr
  rw [f_X14_isGreat] at hf
  refine go_iload_n (i := 0) (pc' := 1) dX14_isGreat_0 rfl rfl rfl ?_
  refine go_bipush (v := 65) (pc' := 3) dX14_isGreat_1 rfl (by decide) ?_
  refine go_icmp_lt (pc' := 6) (tgt := 16) dX14_isGreat_3 (by decide) rfl (fun c101 => ?_) (fun c101 => ?_)
  · have hf := it c101 hf
    refine go_iconst (v := 0) (pc' := 17) dX14_isGreat_16 rfl (by decide) ?_
    obtain rfl := Option.some.inj hf
    exact Go.ret (v := some (.int _)) dX14_isGreat_17 ⟨_, rfl⟩ ⟨rfl, rfl, R⟩
  · have hf := ie c101 hf
    refine go_iload_n (i := 0) (pc' := 7) dX14_isGreat_6 rfl rfl rfl ?_
    refine go_bipush (v := 90) (pc' := 9) dX14_isGreat_7 rfl (by decide) ?_
    refine go_icmp_gt (pc' := 12) (tgt := 16) dX14_isGreat_9 (by decide) rfl (fun c102 => ?_) (fun c102 => ?_)
    · have hf := it c102 hf
      refine go_iconst (v := 0) (pc' := 17) dX14_isGreat_16 rfl (by decide) ?_
      obtain rfl := Option.some.inj hf
      exact Go.ret (v := some (.int _)) dX14_isGreat_17 ⟨_, rfl⟩ ⟨rfl, rfl, R⟩
    · have hf := ie c102 hf
      refine go_iconst (v := 1) (pc' := 13) dX14_isGreat_12 rfl (by decide) ?_
      refine go_goto (pc' := 0) (tgt := 17) dX14_isGreat_13 (by decide) ?_
      obtain rfl := Option.some.inj hf
      exact Go.ret (v := some (.int _)) dX14_isGreat_17 ⟨_, rfl⟩ ⟨rfl, rfl, R⟩
def f_X14_isDigit (n : Nat) (x0 : Int32) (σ : xσ) : Option (Int32 × xσ) := if x0 < 48 then some (0, σ) else if 57 < x0 then some (0, σ) else some (1, σ)
set_option maxRecDepth 100000 in
set_option maxHeartbeats 4000000 in
theorem c_X14_isDigit {G : xG} {n : Nat} {σ : xσ} {h : xH} {x0 : Int32} {v1 : Int32} {σ1 : xσ} (R : Rl n σ h) (hf : f_X14_isDigit n x0 σ = some (v1, σ1)) : Ca G mX14_isDigit [.int x0] h (fun v h' => v = some (.int v1) ∧ Rl n σ1 h') := by
  refine Ca.of rfl (Nat.le_of_ble_eq_true rfl) ?_
  generalize hr : (v1, σ1) = r at hf
  suffices q : Go G mX14_isDigit 0 (xent (xMl mX14_isDigit) [.int x0]) [] h (fun v h' => xRok (xRt mX14_isDigit) v ∧ v = some (.int r.1) ∧ Rl n r.2 h') by
    subst hr
    exact q
  clear hr
  rw [f_X14_isDigit] at hf
  refine go_iload_n (i := 0) (pc' := 1) dX14_isDigit_0 rfl rfl rfl ?_
  refine go_bipush (v := 48) (pc' := 3) dX14_isDigit_1 rfl (by decide) ?_
  refine go_icmp_lt (pc' := 6) (tgt := 16) dX14_isDigit_3 (by decide) rfl (fun c101 => ?_) (fun c101 => ?_)
  · have hf := it c101 hf
    refine go_iconst (v := 0) (pc' := 17) dX14_isDigit_16 rfl (by decide) ?_
    obtain rfl := Option.some.inj hf
    exact Go.ret (v := some (.int _)) dX14_isDigit_17 ⟨_, rfl⟩ ⟨rfl, rfl, R⟩
  · have hf := ie c101 hf
    refine go_iload_n (i := 0) (pc' := 7) dX14_isDigit_6 rfl rfl rfl ?_
    refine go_bipush (v := 57) (pc' := 9) dX14_isDigit_7 rfl (by decide) ?_
    refine go_icmp_gt (pc' := 12) (tgt := 16) dX14_isDigit_9 (by decide) rfl (fun c102 => ?_) (fun c102 => ?_)
    · have hf := it c102 hf
      refine go_iconst (v := 0) (pc' := 17) dX14_isDigit_16 rfl (by decide) ?_
      obtain rfl := Option.some.inj hf
      exact Go.ret (v := some (.int _)) dX14_isDigit_17 ⟨_, rfl⟩ ⟨rfl, rfl, R⟩
    · have hf := ie c102 hf
      refine go_iconst (v := 1) (pc' := 13) dX14_isDigit_12 rfl (by decide) ?_
      refine go_goto (pc' := 0) (tgt := 17) dX14_isDigit_13 (by decide) ?_
      obtain rfl := Option.some.inj hf
      exact Go.ret (v := some (.int _)) dX14_isDigit_17 ⟨_, rfl⟩ ⟨rfl, rfl, R⟩
def b_X14_readNumber_70 (n : Nat) (k25 : Int32 → Int32 → Int64 → xσ → Option (Unit × xσ)) (x1 : Int32) (x2 : Int32) (ls0 : Int64) (σ : xσ) : Option (Unit × xσ) := st (wI σ 233 41 ((sI σ 233 41) + 1)) (fun σ101 => k25 x1 x2 ls0 σ101)
set_option maxRecDepth 100000 in
set_option maxHeartbeats 4000000 in
theorem t_X14_readNumber_70 {G : xG} {n : Nat} {k25 : Int32 → Int32 → Int64 → xσ → Option (Unit × xσ)} (hk25 : ∀ {x1 : Int32} {x2 : Int32} {l3 : Int64} {σ : xσ} {h : xH} {r : Unit × xσ}, Rl n σ h → k25 x1 x2 l3 σ = some r → Go G mX14_readNumber 25 [some (.ref 233), some (.int x1), some (.int x2), some (.long l3), none] [] h (fun v h' => xRok (xRt mX14_readNumber) v ∧ v = none ∧ Rl n r.2 h')) {x1 : Int32} {x2 : Int32} {ls0 : Int64} {σ : xσ} {h : xH} {r : Unit × xσ} {d3 : Option Value} {d4 : Option Value} : Rl n σ h → b_X14_readNumber_70 n k25 x1 x2 ls0 σ = some r → Go G mX14_readNumber 70 [some (.ref 233), some (.int x1), some (.int x2), d3, d4] [.long ls0] h (fun v h' => xRok (xRt mX14_readNumber) v ∧ v = none ∧ Rl n r.2 h') := by
  intro R hf
  rw [b_X14_readNumber_70] at hf
  refine go_lstore_nE rfl (i := 3) (pc' := 71) dX14_readNumber_70 rfl rfl (by decide) rfl ?_
  refine go_aload_n (i := 0) (pc' := 72) dX14_readNumber_71 rfl rfl rfl ?_
  refine go_dup (pc' := 73) dX14_readNumber_72 rfl rfl ?_
  refine go_getS (pc' := 76) dX14_readNumber_73 rfl gf_LandBaseModel_379 R (R.at rfl (by decide)) (by decide) rfl ?_
  refine go_iconst (v := 1) (pc' := 77) dX14_readNumber_76 rfl (by decide) ?_
  refine go_iadd (pc' := 78) dX14_readNumber_77 rfl ?_
  obtain ⟨σ101, e102, hf⟩ := st_some hf
  refine go_putI (pc' := 81) dX14_readNumber_78 rfl pf_LandBaseModel_379 R (R.at rfl (by decide)) (by decide) rfl rfl rfl (fun h103 R => ?_)
  have R := Rl.cast e102 R
  refine go_goto (pc' := 0) (tgt := 25) dX14_readNumber_81 (by decide) ?_
  exact hk25 R hf
def b_X14_readNumber_125 (n : Nat) (xs0 : Int32) (σ : xσ) : Option (Unit × xσ) := st (wI σ 233 47 xs0) (fun σ101 => some ((), σ101))
set_option maxRecDepth 100000 in
set_option maxHeartbeats 4000000 in
theorem t_X14_readNumber_125 {G : xG} {n : Nat} {xs0 : Int32} {σ : xσ} {h : xH} {r : Unit × xσ} {d0 : Option Value} {d1 : Option Value} {d2 : Option Value} {d3 : Option Value} {d4 : Option Value} : Rl n σ h → b_X14_readNumber_125 n xs0 σ = some r → Go G mX14_readNumber 125 [d0, d1, d2, d3, d4] [.int xs0, .ref 233] h (fun v h' => xRok (xRt mX14_readNumber) v ∧ v = none ∧ Rl n r.2 h') := by
  intro R hf
  rw [b_X14_readNumber_125] at hf
  obtain ⟨σ101, e102, hf⟩ := st_some hf
  refine go_putI (pc' := 128) dX14_readNumber_125 rfl pf_LandBaseModel_404 R (R.at rfl (by decide)) (by decide) rfl rfl rfl (fun h103 R => ?_)
  have R := Rl.cast e102 R
  obtain rfl := Option.some.inj hf
  exact Go.ret (v := none) dX14_readNumber_128 rfl ⟨trivial, rfl, R⟩
def b_X14_readNumber_109 (n : Nat) (x1 : Int32) (l3 : Int64) (xs0 : Int32) (σ : xσ) : Option (Unit × xσ) := st (wI σ 233 45 xs0) (fun σ101 => if x1 = 0 then b_X14_readNumber_125 n (l3.toInt32) σ101 else b_X14_readNumber_125 n ((-l3).toInt32) σ101)
set_option maxRecDepth 100000 in
set_option maxHeartbeats 4000000 in
theorem t_X14_readNumber_109 {G : xG} {n : Nat} {x1 : Int32} {l3 : Int64} {xs0 : Int32} {σ : xσ} {h : xH} {r : Unit × xσ} {d2 : Option Value} : Rl n σ h → b_X14_readNumber_109 n x1 l3 xs0 σ = some r → Go G mX14_readNumber 109 [some (.ref 233), some (.int x1), d2, some (.long l3), none] [.int xs0, .ref 233] h (fun v h' => xRok (xRt mX14_readNumber) v ∧ v = none ∧ Rl n r.2 h') := by
  intro R hf
  rw [b_X14_readNumber_109] at hf
  obtain ⟨σ101, e102, hf⟩ := st_some hf
  refine go_putI (pc' := 112) dX14_readNumber_109 rfl pf_LandBaseModel_385 R (R.at rfl (by decide)) (by decide) rfl rfl rfl (fun h103 R => ?_)
  have R := Rl.cast e102 R
  refine go_aload_n (i := 0) (pc' := 113) dX14_readNumber_112 rfl rfl rfl ?_
  refine go_iload_n (i := 1) (pc' := 114) dX14_readNumber_113 rfl rfl rfl ?_
  refine go_if_eq (pc' := 117) (tgt := 123) dX14_readNumber_114 (by decide) rfl (fun c104 => ?_) (fun c104 => ?_)
  · have hf := it c104 hf
    refine go_lload_n (i := 3) (pc' := 124) dX14_readNumber_123 rfl rfl rfl ?_
    refine go_l2i (pc' := 125) dX14_readNumber_124 rfl rfl ?_
    exact t_X14_readNumber_125 R hf
  · have hf := ie c104 hf
    refine go_lload_n (i := 3) (pc' := 118) dX14_readNumber_117 rfl rfl rfl ?_
    refine go_lneg (pc' := 119) dX14_readNumber_118 rfl ?_
    refine go_l2i (pc' := 120) dX14_readNumber_119 rfl rfl ?_
    refine go_goto (pc' := 0) (tgt := 125) dX14_readNumber_120 (by decide) ?_
    exact t_X14_readNumber_125 R hf
def l_X14_readNumber_25 (n : Nat) : Nat → Int32 → Int32 → Int64 → xσ → Option (Unit × xσ)
  | 0, _, _, _, _ => none
  | f + 1, x1, x2, l3, σ => bd (f_X14_byteAt n (sI σ 233 41) σ) (fun v101 σ102 => bd (f_X14_isDigit n v101 σ102) (fun v106 σ107 => if v106 = 0 then if 10 < ((sI σ107 233 41) - x2) then b_X14_readNumber_109 n x1 l3 4 σ107 else if (lg_cmp l3 ((1073741823 : Int64))) ≤ 0 then b_X14_readNumber_109 n x1 l3 2 σ107 else b_X14_readNumber_109 n x1 l3 4 σ107 else if (lg_cmp l3 ((1073741823 : Int64))) ≤ 0 then bd (f_X14_byteAt n (sI σ107 233 41) σ107) (fun v115 σ116 => b_X14_readNumber_70 n (l_X14_readNumber_25 n f) x1 x2 (((((10 : Int64)) * l3) + (v115.toInt64)) - ((48 : Int64))) σ116) else b_X14_readNumber_70 n (l_X14_readNumber_25 n f) x1 x2 l3 σ107))
set_option maxRecDepth 100000 in
set_option maxHeartbeats 4000000 in
theorem t_X14_readNumber_25 {G : xG} {n : Nat} : ∀ (f : Nat) {x1 : Int32} {x2 : Int32} {l3 : Int64} {σ : xσ} {h : xH} {r : Unit × xσ}, Rl n σ h → l_X14_readNumber_25 n f x1 x2 l3 σ = some r → Go G mX14_readNumber 25 [some (.ref 233), some (.int x1), some (.int x2), some (.long l3), none] [] h (fun v h' => xRok (xRt mX14_readNumber) v ∧ v = none ∧ Rl n r.2 h') := by
  intro f
  induction f with
  | zero =>
    intros
    rename _ = some _ => hf
    rw [l_X14_readNumber_25] at hf
    cases hf
  | succ f ih =>
    intro x1 x2 l3 σ h r  R hf
    rw [l_X14_readNumber_25] at hf
    refine go_aload_n (i := 0) (pc' := 26) dX14_readNumber_25 rfl rfl rfl ?_
    refine go_aload_n (i := 0) (pc' := 27) dX14_readNumber_26 rfl rfl rfl ?_
    refine go_getS (pc' := 30) dX14_readNumber_27 rfl gf_LandBaseModel_379 R (R.at rfl (by decide)) (by decide) rfl ?_
    obtain ⟨v101, σ102, e103, hf⟩ := bd_some hf
    refine go_invV (As := [_]) (pc' := 33) dX14_readNumber_30 rfl cf_X14_readNumber_382 rfl (R.ob (R.at rfl (by decide))) rfl rfl (Nat.le_of_ble_eq_true rfl) (c_X14_byteAt R e103) (fun q104v h105 q104 => ?_)
    obtain ⟨rfl, R⟩ := q104
    obtain ⟨v106, σ107, e108, hf⟩ := bd_some hf
    refine go_invS (As := [_]) (pc' := 36) dX14_readNumber_33 rfl cf_X14_readNumber_391 rfl rfl (Nat.le_of_ble_eq_true rfl) (c_X14_isDigit R e108) (fun q109v h110 q109 => ?_)
    obtain ⟨rfl, R⟩ := q109
    refine go_if_eq (pc' := 39) (tgt := 84) dX14_readNumber_36 (by decide) rfl (fun c111 => ?_) (fun c111 => ?_)
    · have hf := it c111 hf
      refine go_aload_n (i := 0) (pc' := 85) dX14_readNumber_84 rfl rfl rfl ?_
      refine go_aload_n (i := 0) (pc' := 86) dX14_readNumber_85 rfl rfl rfl ?_
      refine go_getS (pc' := 89) dX14_readNumber_86 rfl gf_LandBaseModel_379 R (R.at rfl (by decide)) (by decide) rfl ?_
      refine go_iload_n (i := 2) (pc' := 90) dX14_readNumber_89 rfl rfl rfl ?_
      refine go_isub (pc' := 91) dX14_readNumber_90 rfl ?_
      refine go_bipush (v := 10) (pc' := 93) dX14_readNumber_91 rfl (by decide) ?_
      refine go_icmp_gt (pc' := 96) (tgt := 104) dX14_readNumber_93 (by decide) rfl (fun c112 => ?_) (fun c112 => ?_)
      · have hf := it c112 hf
        refine go_iconst (v := 4) (pc' := 105) dX14_readNumber_104 rfl (by decide) ?_
        refine go_goto (pc' := 0) (tgt := 109) dX14_readNumber_105 (by decide) ?_
        exact t_X14_readNumber_109 R hf
      · have hf := ie c112 hf
        refine go_lload_n (i := 3) (pc' := 97) dX14_readNumber_96 rfl rfl rfl ?_
        refine go_ldc2 (pc' := 100) dX14_readNumber_97 rfl wd_1262 ?_
        refine go_lcmp (pc' := 101) dX14_readNumber_100 rfl ?_
        refine go_if_le (pc' := 104) (tgt := 108) dX14_readNumber_101 (by decide) rfl (fun c113 => ?_) (fun c113 => ?_)
        · have hf := it c113 hf
          refine go_iconst (v := 2) (pc' := 109) dX14_readNumber_108 rfl (by decide) ?_
          exact t_X14_readNumber_109 R hf
        · have hf := ie c113 hf
          refine go_iconst (v := 4) (pc' := 105) dX14_readNumber_104 rfl (by decide) ?_
          refine go_goto (pc' := 0) (tgt := 109) dX14_readNumber_105 (by decide) ?_
          exact t_X14_readNumber_109 R hf
    · have hf := ie c111 hf
      refine go_lload_n (i := 3) (pc' := 40) dX14_readNumber_39 rfl rfl rfl ?_
      refine go_ldc2 (pc' := 43) dX14_readNumber_40 rfl wd_1262 ?_
      refine go_lcmp (pc' := 44) dX14_readNumber_43 rfl ?_
      refine go_if_le (pc' := 47) (tgt := 51) dX14_readNumber_44 (by decide) rfl (fun c114 => ?_) (fun c114 => ?_)
      · have hf := it c114 hf
        refine go_ldc2 (pc' := 54) dX14_readNumber_51 rfl wd_1263 ?_
        refine go_lload_n (i := 3) (pc' := 55) dX14_readNumber_54 rfl rfl rfl ?_
        refine go_lmul (pc' := 56) dX14_readNumber_55 rfl ?_
        refine go_aload_n (i := 0) (pc' := 57) dX14_readNumber_56 rfl rfl rfl ?_
        refine go_aload_n (i := 0) (pc' := 58) dX14_readNumber_57 rfl rfl rfl ?_
        refine go_getS (pc' := 61) dX14_readNumber_58 rfl gf_LandBaseModel_379 R (R.at rfl (by decide)) (by decide) rfl ?_
        obtain ⟨v115, σ116, e117, hf⟩ := bd_some hf
        refine go_invV (As := [_]) (pc' := 64) dX14_readNumber_61 rfl cf_X14_readNumber_382 rfl (R.ob (R.at rfl (by decide))) rfl rfl (Nat.le_of_ble_eq_true rfl) (c_X14_byteAt R e117) (fun q118v h119 q118 => ?_)
        obtain ⟨rfl, R⟩ := q118
        refine go_i2l (pc' := 65) dX14_readNumber_64 rfl rfl ?_
        refine go_ladd (pc' := 66) dX14_readNumber_65 rfl ?_
        refine go_ldc2 (pc' := 69) dX14_readNumber_66 rfl wd_1264 ?_
        refine go_lsub (pc' := 70) dX14_readNumber_69 rfl ?_
        exact t_X14_readNumber_70 @ih R hf
      · have hf := ie c114 hf
        refine go_lload_n (i := 3) (pc' := 48) dX14_readNumber_47 rfl rfl rfl ?_
        refine go_goto (pc' := 0) (tgt := 70) dX14_readNumber_48 (by decide) ?_
        exact t_X14_readNumber_70 @ih R hf
def b_X14_readNumber_14 (n : Nat) (x1 : Int32) (xs0 : Int32) (xs1 : Int32) (σ : xσ) : Option (Unit × xσ) := st (wI σ 233 41 (xs1 + xs0)) (fun σ101 => st (sI σ101 233 41) (fun x104 => l_X14_readNumber_25 n xFU x1 x104 ((0 : Int64)) σ101))
set_option maxRecDepth 100000 in
set_option maxHeartbeats 4000000 in
theorem t_X14_readNumber_14 {G : xG} {n : Nat} {x1 : Int32} {xs0 : Int32} {xs1 : Int32} {σ : xσ} {h : xH} {r : Unit × xσ} {d2 : Option Value} {d3 : Option Value} {d4 : Option Value} : Rl n σ h → b_X14_readNumber_14 n x1 xs0 xs1 σ = some r → Go G mX14_readNumber 14 [some (.ref 233), some (.int x1), d2, d3, d4] [.int xs0, .int xs1, .ref 233] h (fun v h' => xRok (xRt mX14_readNumber) v ∧ v = none ∧ Rl n r.2 h') := by
  intro R hf
  rw [b_X14_readNumber_14] at hf
  refine go_iadd (pc' := 15) dX14_readNumber_14 rfl ?_
  obtain ⟨σ101, e102, hf⟩ := st_some hf
  refine go_putI (pc' := 18) dX14_readNumber_15 rfl pf_LandBaseModel_379 R (R.at rfl (by decide)) (by decide) rfl rfl rfl (fun h103 R => ?_)
  have R := Rl.cast e102 R
  refine go_aload_n (i := 0) (pc' := 19) dX14_readNumber_18 rfl rfl rfl ?_
  refine go_getS (pc' := 22) dX14_readNumber_19 rfl gf_LandBaseModel_379 R (R.at rfl (by decide)) (by decide) rfl ?_
  obtain ⟨x104, e105, hf⟩ := st_some hf
  refine go_istore_nE e105 (i := 2) (pc' := 23) dX14_readNumber_22 rfl rfl (by decide) rfl ?_
  refine go_lconst (v := 0) (pc' := 24) dX14_readNumber_23 rfl (by decide) ?_
  refine go_lstore_nE rfl (i := 3) (pc' := 25) dX14_readNumber_24 rfl rfl (by decide) rfl ?_
  exact t_X14_readNumber_25 xFU R hf
def f_X14_readNumber (n : Nat) (x1 : Int32) (σ : xσ) : Option (Unit × xσ) := if x1 = 0 then b_X14_readNumber_14 n x1 0 (sI σ 233 41) σ else b_X14_readNumber_14 n x1 1 (sI σ 233 41) σ
set_option maxRecDepth 100000 in
set_option maxHeartbeats 4000000 in
theorem c_X14_readNumber {G : xG} {n : Nat} {σ : xσ} {h : xH} {x1 : Int32} {v1 : Unit} {σ1 : xσ} (R : Rl n σ h) (hf : f_X14_readNumber n x1 σ = some (v1, σ1)) : Ca G mX14_readNumber [.ref 233, .int x1] h (fun v h' => v = none ∧ Rl n σ1 h') := by
  refine Ca.of rfl (Nat.le_of_ble_eq_true rfl) ?_
  generalize hr : (v1, σ1) = r at hf
  suffices q : Go G mX14_readNumber 0 (xent (xMl mX14_readNumber) [.ref 233, .int x1]) [] h (fun v h' => xRok (xRt mX14_readNumber) v ∧ v = none ∧ Rl n r.2 h') by
    subst hr
    exact q
  clear hr
  rw [f_X14_readNumber] at hf
  refine go_aload_n (i := 0) (pc' := 1) dX14_readNumber_0 rfl rfl rfl ?_
  refine go_dup (pc' := 2) dX14_readNumber_1 rfl rfl ?_
  refine go_getS (pc' := 5) dX14_readNumber_2 rfl gf_LandBaseModel_379 R (R.at rfl (by decide)) (by decide) rfl ?_
  refine go_iload_n (i := 1) (pc' := 6) dX14_readNumber_5 rfl rfl rfl ?_
  refine go_if_eq (pc' := 9) (tgt := 13) dX14_readNumber_6 (by decide) rfl (fun c101 => ?_) (fun c101 => ?_)
  · have hf := it c101 hf
    refine go_iconst (v := 0) (pc' := 14) dX14_readNumber_13 rfl (by decide) ?_
    exact t_X14_readNumber_14 R hf
  · have hf := ie c101 hf
    refine go_iconst (v := 1) (pc' := 10) dX14_readNumber_9 rfl (by decide) ?_
    refine go_goto (pc' := 0) (tgt := 14) dX14_readNumber_10 (by decide) ?_
    exact t_X14_readNumber_14 R hf
def l_X14_next_80 (n : Nat) : Nat → xσ → Option (Unit × xσ)
  | 0, _ => none
  | f + 1, σ => bd (f_X14_byteAt n (sI σ 233 41) σ) (fun v101 σ102 => bd (f_X14_isGreat n v101 σ102) (fun v106 σ107 => if v106 = 0 then some ((), σ107) else st (wI σ107 233 41 ((sI σ107 233 41) + 1)) (fun σ112 => (l_X14_next_80 n f) σ112)))
set_option maxRecDepth 100000 in
set_option maxHeartbeats 4000000 in
theorem t_X14_next_80 {G : xG} {n : Nat} : ∀ (f : Nat) {σ : xσ} {h : xH} {r : Unit × xσ} {d1 : Option Value}, Rl n σ h → l_X14_next_80 n f σ = some r → Go G mX14_next 80 [some (.ref 233), d1] [] h (fun v h' => xRok (xRt mX14_next) v ∧ v = none ∧ Rl n r.2 h') := by
  intro f
  induction f with
  | zero =>
    intros
    rename _ = some _ => hf
    rw [l_X14_next_80] at hf
    cases hf
  | succ f ih =>
    intro  σ h r d1 R hf
    rw [l_X14_next_80] at hf
    refine go_aload_n (i := 0) (pc' := 81) dX14_next_80 rfl rfl rfl ?_
    refine go_aload_n (i := 0) (pc' := 82) dX14_next_81 rfl rfl rfl ?_
    refine go_getS (pc' := 85) dX14_next_82 rfl gf_LandBaseModel_379 R (R.at rfl (by decide)) (by decide) rfl ?_
    obtain ⟨v101, σ102, e103, hf⟩ := bd_some hf
    refine go_invV (As := [_]) (pc' := 88) dX14_next_85 rfl cf_X14_next_382 rfl (R.ob (R.at rfl (by decide))) rfl rfl (Nat.le_of_ble_eq_true rfl) (c_X14_byteAt R e103) (fun q104v h105 q104 => ?_)
    obtain ⟨rfl, R⟩ := q104
    obtain ⟨v106, σ107, e108, hf⟩ := bd_some hf
    refine go_invS (As := [_]) (pc' := 91) dX14_next_88 rfl cf_X14_next_388 rfl rfl (Nat.le_of_ble_eq_true rfl) (c_X14_isGreat R e108) (fun q109v h110 q109 => ?_)
    obtain ⟨rfl, R⟩ := q109
    refine go_if_eq (pc' := 94) (tgt := 197) dX14_next_91 (by decide) rfl (fun c111 => ?_) (fun c111 => ?_)
    · have hf := it c111 hf
      obtain rfl := Option.some.inj hf
      exact Go.ret (v := none) dX14_next_197 rfl ⟨trivial, rfl, R⟩
    · have hf := ie c111 hf
      refine go_aload_n (i := 0) (pc' := 95) dX14_next_94 rfl rfl rfl ?_
      refine go_dup (pc' := 96) dX14_next_95 rfl rfl ?_
      refine go_getS (pc' := 99) dX14_next_96 rfl gf_LandBaseModel_379 R (R.at rfl (by decide)) (by decide) rfl ?_
      refine go_iconst (v := 1) (pc' := 100) dX14_next_99 rfl (by decide) ?_
      refine go_iadd (pc' := 101) dX14_next_100 rfl ?_
      obtain ⟨σ112, e113, hf⟩ := st_some hf
      refine go_putI (pc' := 104) dX14_next_101 rfl pf_LandBaseModel_379 R (R.at rfl (by decide)) (by decide) rfl rfl rfl (fun h114 R => ?_)
      have R := Rl.cast e113 R
      refine go_goto (pc' := 0) (tgt := 80) dX14_next_104 (by decide) ?_
      exact ih R hf
def b_X14_next_148 (n : Nat) (xs0 : Int32) (σ : xσ) : Option (Unit × xσ) := bd (f_X14_readNumber n xs0 σ) (fun v101 σ102 => some ((), σ102))
set_option maxRecDepth 100000 in
set_option maxHeartbeats 4000000 in
theorem t_X14_next_148 {G : xG} {n : Nat} {xs0 : Int32} {σ : xσ} {h : xH} {r : Unit × xσ} {d0 : Option Value} {d1 : Option Value} : Rl n σ h → b_X14_next_148 n xs0 σ = some r → Go G mX14_next 148 [d0, d1] [.int xs0, .ref 233] h (fun v h' => xRok (xRt mX14_next) v ∧ v = none ∧ Rl n r.2 h') := by
  intro R hf
  rw [b_X14_next_148] at hf
  obtain ⟨v101, σ102, e103, hf⟩ := bd_some hf
  refine go_invV (As := [_]) (pc' := 151) dX14_next_148 rfl cf_X14_next_394 rfl (R.ob (R.at rfl (by decide))) rfl rfl (Nat.le_of_ble_eq_true rfl) (c_X14_readNumber R e103) (fun q104v h105 q104 => ?_)
  obtain ⟨rfl, R⟩ := q104
  refine go_goto (pc' := 0) (tgt := 197) dX14_next_151 (by decide) ?_
  obtain rfl := Option.some.inj hf
  exact Go.ret (v := none) dX14_next_197 rfl ⟨trivial, rfl, R⟩
def b_X14_next_184 (n : Nat) (xs0 : Int32) (σ : xσ) : Option (Unit × xσ) := st (wI σ 233 45 xs0) (fun σ101 => st (wI σ101 233 41 ((sI σ101 233 41) + 1)) (fun σ104 => some ((), σ104)))
set_option maxRecDepth 100000 in
set_option maxHeartbeats 4000000 in
theorem t_X14_next_184 {G : xG} {n : Nat} {xs0 : Int32} {σ : xσ} {h : xH} {r : Unit × xσ} {d1 : Option Value} : Rl n σ h → b_X14_next_184 n xs0 σ = some r → Go G mX14_next 184 [some (.ref 233), d1] [.int xs0, .ref 233] h (fun v h' => xRok (xRt mX14_next) v ∧ v = none ∧ Rl n r.2 h') := by
  intro R hf
  rw [b_X14_next_184] at hf
  obtain ⟨σ101, e102, hf⟩ := st_some hf
  refine go_putI (pc' := 187) dX14_next_184 rfl pf_LandBaseModel_385 R (R.at rfl (by decide)) (by decide) rfl rfl rfl (fun h103 R => ?_)
  have R := Rl.cast e102 R
  refine go_aload_n (i := 0) (pc' := 188) dX14_next_187 rfl rfl rfl ?_
  refine go_dup (pc' := 189) dX14_next_188 rfl rfl ?_
  refine go_getS (pc' := 192) dX14_next_189 rfl gf_LandBaseModel_379 R (R.at rfl (by decide)) (by decide) rfl ?_
  refine go_iconst (v := 1) (pc' := 193) dX14_next_192 rfl (by decide) ?_
  refine go_iadd (pc' := 194) dX14_next_193 rfl ?_
  obtain ⟨σ104, e105, hf⟩ := st_some hf
  refine go_putI (pc' := 197) dX14_next_194 rfl pf_LandBaseModel_379 R (R.at rfl (by decide)) (by decide) rfl rfl rfl (fun h106 R => ?_)
  have R := Rl.cast e105 R
  obtain rfl := Option.some.inj hf
  exact Go.ret (v := none) dX14_next_197 rfl ⟨trivial, rfl, R⟩
def l_X14_next_0 (n : Nat) : Nat → xσ → Option (Unit × xσ)
  | 0, _ => none
  | f + 1, σ => bd (f_X14_byteAt n (sI σ 233 41) σ) (fun v101 σ102 => if v101 = 32 then st (wI σ102 233 41 ((sI σ102 233 41) + 1)) (fun σ107 => (l_X14_next_0 n f) σ107) else bd (f_X14_byteAt n (sI σ102 233 41) σ102) (fun v110 σ111 => if v110 = 10 then st (wI σ111 233 41 ((sI σ111 233 41) + 1)) (fun σ165 => (l_X14_next_0 n f) σ165) else st (wI σ111 233 46 (sI σ111 233 41)) (fun σ116 => bd (f_X14_byteAt n (sI σ116 233 41) σ116) (fun v119 σ120 => if 0 ≤ v119 then bd (f_X14_isGreat n v119 σ120) (fun v125 σ126 => if v125 = 0 then bd (f_X14_isDigit n v119 σ126) (fun v131 σ132 => if v131 = 0 then if v119 = 45 then bd (f_X14_byteAt n ((sI σ132 233 41) + 1) σ132) (fun v143 σ144 => bd (f_X14_isDigit n v143 σ144) (fun v148 σ149 => if v148 = 0 then if v119 = 40 then b_X14_next_184 n 3 σ149 else if v119 = 41 then b_X14_next_184 n 3 σ149 else if v119 = 44 then b_X14_next_184 n 3 σ149 else if v119 = 59 then b_X14_next_184 n 3 σ149 else b_X14_next_184 n 4 σ149 else if v119 = 45 then b_X14_next_148 n 1 σ149 else b_X14_next_148 n 0 σ149)) else if v119 = 40 then b_X14_next_184 n 3 σ132 else if v119 = 41 then b_X14_next_184 n 3 σ132 else if v119 = 44 then b_X14_next_184 n 3 σ132 else if v119 = 59 then b_X14_next_184 n 3 σ132 else b_X14_next_184 n 4 σ132 else if v119 = 45 then b_X14_next_148 n 1 σ132 else b_X14_next_148 n 0 σ132) else st (wI σ126 233 45 1) (fun σ159 => l_X14_next_80 n xFU σ159)) else st (wI σ120 233 45 0) (fun σ162 => some ((), σ162))))))
set_option maxRecDepth 100000 in
set_option maxHeartbeats 4000000 in
theorem t_X14_next_0 {G : xG} {n : Nat} : ∀ (f : Nat) {σ : xσ} {h : xH} {r : Unit × xσ} {d1 : Option Value}, Rl n σ h → l_X14_next_0 n f σ = some r → Go G mX14_next 0 [some (.ref 233), d1] [] h (fun v h' => xRok (xRt mX14_next) v ∧ v = none ∧ Rl n r.2 h') := by
  intro f
  induction f with
  | zero =>
    intros
    rename _ = some _ => hf
    rw [l_X14_next_0] at hf
    cases hf
  | succ f ih =>
    intro  σ h r d1 R hf
    rw [l_X14_next_0] at hf
    refine go_aload_n (i := 0) (pc' := 1) dX14_next_0 rfl rfl rfl ?_
    refine go_aload_n (i := 0) (pc' := 2) dX14_next_1 rfl rfl rfl ?_
    refine go_getS (pc' := 5) dX14_next_2 rfl gf_LandBaseModel_379 R (R.at rfl (by decide)) (by decide) rfl ?_
    obtain ⟨v101, σ102, e103, hf⟩ := bd_some hf
    refine go_invV (As := [_]) (pc' := 8) dX14_next_5 rfl cf_X14_next_382 rfl (R.ob (R.at rfl (by decide))) rfl rfl (Nat.le_of_ble_eq_true rfl) (c_X14_byteAt R e103) (fun q104v h105 q104 => ?_)
    obtain ⟨rfl, R⟩ := q104
    refine go_bipush (v := 32) (pc' := 10) dX14_next_8 rfl (by decide) ?_
    refine go_icmp_eq (pc' := 13) (tgt := 26) dX14_next_10 (by decide) rfl (fun c106 => ?_) (fun c106 => ?_)
    · have hf := it c106 hf
      refine go_aload_n (i := 0) (pc' := 27) dX14_next_26 rfl rfl rfl ?_
      refine go_dup (pc' := 28) dX14_next_27 rfl rfl ?_
      refine go_getS (pc' := 31) dX14_next_28 rfl gf_LandBaseModel_379 R (R.at rfl (by decide)) (by decide) rfl ?_
      refine go_iconst (v := 1) (pc' := 32) dX14_next_31 rfl (by decide) ?_
      refine go_iadd (pc' := 33) dX14_next_32 rfl ?_
      obtain ⟨σ107, e108, hf⟩ := st_some hf
      refine go_putI (pc' := 36) dX14_next_33 rfl pf_LandBaseModel_379 R (R.at rfl (by decide)) (by decide) rfl rfl rfl (fun h109 R => ?_)
      have R := Rl.cast e108 R
      refine go_goto (pc' := 0) (tgt := 0) dX14_next_36 (by decide) ?_
      exact ih R hf
    · have hf := ie c106 hf
      refine go_aload_n (i := 0) (pc' := 14) dX14_next_13 rfl rfl rfl ?_
      refine go_aload_n (i := 0) (pc' := 15) dX14_next_14 rfl rfl rfl ?_
      refine go_getS (pc' := 18) dX14_next_15 rfl gf_LandBaseModel_379 R (R.at rfl (by decide)) (by decide) rfl ?_
      obtain ⟨v110, σ111, e112, hf⟩ := bd_some hf
      refine go_invV (As := [_]) (pc' := 21) dX14_next_18 rfl cf_X14_next_382 rfl (R.ob (R.at rfl (by decide))) rfl rfl (Nat.le_of_ble_eq_true rfl) (c_X14_byteAt R e112) (fun q113v h114 q113 => ?_)
      obtain ⟨rfl, R⟩ := q113
      refine go_bipush (v := 10) (pc' := 23) dX14_next_21 rfl (by decide) ?_
      refine go_icmp_ne (pc' := 26) (tgt := 39) dX14_next_23 (by decide) rfl (fun c115 => ?_) (fun c115 => ?_)
      · have hf := ie c115 hf
        refine go_aload_n (i := 0) (pc' := 40) dX14_next_39 rfl rfl rfl ?_
        refine go_aload_n (i := 0) (pc' := 41) dX14_next_40 rfl rfl rfl ?_
        refine go_getS (pc' := 44) dX14_next_41 rfl gf_LandBaseModel_379 R (R.at rfl (by decide)) (by decide) rfl ?_
        obtain ⟨σ116, e117, hf⟩ := st_some hf
        refine go_putI (pc' := 47) dX14_next_44 rfl pf_LandBaseModel_368 R (R.at rfl (by decide)) (by decide) rfl rfl rfl (fun h118 R => ?_)
        have R := Rl.cast e117 R
        refine go_aload_n (i := 0) (pc' := 48) dX14_next_47 rfl rfl rfl ?_
        refine go_aload_n (i := 0) (pc' := 49) dX14_next_48 rfl rfl rfl ?_
        refine go_getS (pc' := 52) dX14_next_49 rfl gf_LandBaseModel_379 R (R.at rfl (by decide)) (by decide) rfl ?_
        obtain ⟨v119, σ120, e121, hf⟩ := bd_some hf
        refine go_invV (As := [_]) (pc' := 55) dX14_next_52 rfl cf_X14_next_382 rfl (R.ob (R.at rfl (by decide))) rfl rfl (Nat.le_of_ble_eq_true rfl) (c_X14_byteAt R e121) (fun q122v h123 q122 => ?_)
        obtain ⟨rfl, R⟩ := q122
        refine go_istore_nE rfl (i := 1) (pc' := 56) dX14_next_55 rfl rfl (by decide) rfl ?_
        refine go_iload_n (i := 1) (pc' := 57) dX14_next_56 rfl rfl rfl ?_
        refine go_if_ge (pc' := 60) (tgt := 68) dX14_next_57 (by decide) rfl (fun c124 => ?_) (fun c124 => ?_)
        · have hf := it c124 hf
          refine go_iload_n (i := 1) (pc' := 69) dX14_next_68 rfl rfl rfl ?_
          obtain ⟨v125, σ126, e127, hf⟩ := bd_some hf
          refine go_invS (As := [_]) (pc' := 72) dX14_next_69 rfl cf_X14_next_388 rfl rfl (Nat.le_of_ble_eq_true rfl) (c_X14_isGreat R e127) (fun q128v h129 q128 => ?_)
          obtain ⟨rfl, R⟩ := q128
          refine go_if_eq (pc' := 75) (tgt := 107) dX14_next_72 (by decide) rfl (fun c130 => ?_) (fun c130 => ?_)
          · have hf := it c130 hf
            refine go_iload_n (i := 1) (pc' := 108) dX14_next_107 rfl rfl rfl ?_
            obtain ⟨v131, σ132, e133, hf⟩ := bd_some hf
            refine go_invS (As := [_]) (pc' := 111) dX14_next_108 rfl cf_X14_next_391 rfl rfl (Nat.le_of_ble_eq_true rfl) (c_X14_isDigit R e133) (fun q134v h135 q134 => ?_)
            obtain ⟨rfl, R⟩ := q134
            refine go_if_ne (pc' := 114) (tgt := 136) dX14_next_111 (by decide) rfl (fun c136 => ?_) (fun c136 => ?_)
            · have hf := ie c136 hf
              refine go_aload_n (i := 0) (pc' := 137) dX14_next_136 rfl rfl rfl ?_
              refine go_iload_n (i := 1) (pc' := 138) dX14_next_137 rfl rfl rfl ?_
              refine go_bipush (v := 45) (pc' := 140) dX14_next_138 rfl (by decide) ?_
              refine go_icmp_ne (pc' := 143) (tgt := 147) dX14_next_140 (by decide) rfl (fun c137 => ?_) (fun c137 => ?_)
              · have hf := ie c137 hf
                refine go_iconst (v := 0) (pc' := 148) dX14_next_147 rfl (by decide) ?_
                exact t_X14_next_148 R hf
              · have hf := it c137 hf
                refine go_iconst (v := 1) (pc' := 144) dX14_next_143 rfl (by decide) ?_
                refine go_goto (pc' := 0) (tgt := 148) dX14_next_144 (by decide) ?_
                exact t_X14_next_148 R hf
            · have hf := it c136 hf
              refine go_iload_n (i := 1) (pc' := 115) dX14_next_114 rfl rfl rfl ?_
              refine go_bipush (v := 45) (pc' := 117) dX14_next_115 rfl (by decide) ?_
              refine go_icmp_ne (pc' := 120) (tgt := 154) dX14_next_117 (by decide) rfl (fun c138 => ?_) (fun c138 => ?_)
              · have hf := ie c138 hf
                refine go_aload_n (i := 0) (pc' := 155) dX14_next_154 rfl rfl rfl ?_
                refine go_iload_n (i := 1) (pc' := 156) dX14_next_155 rfl rfl rfl ?_
                refine go_bipush (v := 40) (pc' := 158) dX14_next_156 rfl (by decide) ?_
                refine go_icmp_eq (pc' := 161) (tgt := 179) dX14_next_158 (by decide) rfl (fun c139 => ?_) (fun c139 => ?_)
                · have hf := it c139 hf
                  refine go_iconst (v := 3) (pc' := 180) dX14_next_179 rfl (by decide) ?_
                  refine go_goto (pc' := 0) (tgt := 184) dX14_next_180 (by decide) ?_
                  exact t_X14_next_184 R hf
                · have hf := ie c139 hf
                  refine go_iload_n (i := 1) (pc' := 162) dX14_next_161 rfl rfl rfl ?_
                  refine go_bipush (v := 41) (pc' := 164) dX14_next_162 rfl (by decide) ?_
                  refine go_icmp_eq (pc' := 167) (tgt := 179) dX14_next_164 (by decide) rfl (fun c140 => ?_) (fun c140 => ?_)
                  · have hf := it c140 hf
                    refine go_iconst (v := 3) (pc' := 180) dX14_next_179 rfl (by decide) ?_
                    refine go_goto (pc' := 0) (tgt := 184) dX14_next_180 (by decide) ?_
                    exact t_X14_next_184 R hf
                  · have hf := ie c140 hf
                    refine go_iload_n (i := 1) (pc' := 168) dX14_next_167 rfl rfl rfl ?_
                    refine go_bipush (v := 44) (pc' := 170) dX14_next_168 rfl (by decide) ?_
                    refine go_icmp_eq (pc' := 173) (tgt := 179) dX14_next_170 (by decide) rfl (fun c141 => ?_) (fun c141 => ?_)
                    · have hf := it c141 hf
                      refine go_iconst (v := 3) (pc' := 180) dX14_next_179 rfl (by decide) ?_
                      refine go_goto (pc' := 0) (tgt := 184) dX14_next_180 (by decide) ?_
                      exact t_X14_next_184 R hf
                    · have hf := ie c141 hf
                      refine go_iload_n (i := 1) (pc' := 174) dX14_next_173 rfl rfl rfl ?_
                      refine go_bipush (v := 59) (pc' := 176) dX14_next_174 rfl (by decide) ?_
                      refine go_icmp_ne (pc' := 179) (tgt := 183) dX14_next_176 (by decide) rfl (fun c142 => ?_) (fun c142 => ?_)
                      · have hf := ie c142 hf
                        refine go_iconst (v := 4) (pc' := 184) dX14_next_183 rfl (by decide) ?_
                        exact t_X14_next_184 R hf
                      · have hf := it c142 hf
                        refine go_iconst (v := 3) (pc' := 180) dX14_next_179 rfl (by decide) ?_
                        refine go_goto (pc' := 0) (tgt := 184) dX14_next_180 (by decide) ?_
                        exact t_X14_next_184 R hf
              · have hf := it c138 hf
                refine go_aload_n (i := 0) (pc' := 121) dX14_next_120 rfl rfl rfl ?_
                refine go_aload_n (i := 0) (pc' := 122) dX14_next_121 rfl rfl rfl ?_
                refine go_getS (pc' := 125) dX14_next_122 rfl gf_LandBaseModel_379 R (R.at rfl (by decide)) (by decide) rfl ?_
                refine go_iconst (v := 1) (pc' := 126) dX14_next_125 rfl (by decide) ?_
                refine go_iadd (pc' := 127) dX14_next_126 rfl ?_
                obtain ⟨v143, σ144, e145, hf⟩ := bd_some hf
                refine go_invV (As := [_]) (pc' := 130) dX14_next_127 rfl cf_X14_next_382 rfl (R.ob (R.at rfl (by decide))) rfl rfl (Nat.le_of_ble_eq_true rfl) (c_X14_byteAt R e145) (fun q146v h147 q146 => ?_)
                obtain ⟨rfl, R⟩ := q146
                obtain ⟨v148, σ149, e150, hf⟩ := bd_some hf
                refine go_invS (As := [_]) (pc' := 133) dX14_next_130 rfl cf_X14_next_391 rfl rfl (Nat.le_of_ble_eq_true rfl) (c_X14_isDigit R e150) (fun q151v h152 q151 => ?_)
                obtain ⟨rfl, R⟩ := q151
                refine go_if_eq (pc' := 136) (tgt := 154) dX14_next_133 (by decide) rfl (fun c153 => ?_) (fun c153 => ?_)
                · have hf := it c153 hf
                  refine go_aload_n (i := 0) (pc' := 155) dX14_next_154 rfl rfl rfl ?_
                  refine go_iload_n (i := 1) (pc' := 156) dX14_next_155 rfl rfl rfl ?_
                  refine go_bipush (v := 40) (pc' := 158) dX14_next_156 rfl (by decide) ?_
                  refine go_icmp_eq (pc' := 161) (tgt := 179) dX14_next_158 (by decide) rfl (fun c154 => ?_) (fun c154 => ?_)
                  · have hf := it c154 hf
                    refine go_iconst (v := 3) (pc' := 180) dX14_next_179 rfl (by decide) ?_
                    refine go_goto (pc' := 0) (tgt := 184) dX14_next_180 (by decide) ?_
                    exact t_X14_next_184 R hf
                  · have hf := ie c154 hf
                    refine go_iload_n (i := 1) (pc' := 162) dX14_next_161 rfl rfl rfl ?_
                    refine go_bipush (v := 41) (pc' := 164) dX14_next_162 rfl (by decide) ?_
                    refine go_icmp_eq (pc' := 167) (tgt := 179) dX14_next_164 (by decide) rfl (fun c155 => ?_) (fun c155 => ?_)
                    · have hf := it c155 hf
                      refine go_iconst (v := 3) (pc' := 180) dX14_next_179 rfl (by decide) ?_
                      refine go_goto (pc' := 0) (tgt := 184) dX14_next_180 (by decide) ?_
                      exact t_X14_next_184 R hf
                    · have hf := ie c155 hf
                      refine go_iload_n (i := 1) (pc' := 168) dX14_next_167 rfl rfl rfl ?_
                      refine go_bipush (v := 44) (pc' := 170) dX14_next_168 rfl (by decide) ?_
                      refine go_icmp_eq (pc' := 173) (tgt := 179) dX14_next_170 (by decide) rfl (fun c156 => ?_) (fun c156 => ?_)
                      · have hf := it c156 hf
                        refine go_iconst (v := 3) (pc' := 180) dX14_next_179 rfl (by decide) ?_
                        refine go_goto (pc' := 0) (tgt := 184) dX14_next_180 (by decide) ?_
                        exact t_X14_next_184 R hf
                      · have hf := ie c156 hf
                        refine go_iload_n (i := 1) (pc' := 174) dX14_next_173 rfl rfl rfl ?_
                        refine go_bipush (v := 59) (pc' := 176) dX14_next_174 rfl (by decide) ?_
                        refine go_icmp_ne (pc' := 179) (tgt := 183) dX14_next_176 (by decide) rfl (fun c157 => ?_) (fun c157 => ?_)
                        · have hf := ie c157 hf
                          refine go_iconst (v := 4) (pc' := 184) dX14_next_183 rfl (by decide) ?_
                          exact t_X14_next_184 R hf
                        · have hf := it c157 hf
                          refine go_iconst (v := 3) (pc' := 180) dX14_next_179 rfl (by decide) ?_
                          refine go_goto (pc' := 0) (tgt := 184) dX14_next_180 (by decide) ?_
                          exact t_X14_next_184 R hf
                · have hf := ie c153 hf
                  refine go_aload_n (i := 0) (pc' := 137) dX14_next_136 rfl rfl rfl ?_
                  refine go_iload_n (i := 1) (pc' := 138) dX14_next_137 rfl rfl rfl ?_
                  refine go_bipush (v := 45) (pc' := 140) dX14_next_138 rfl (by decide) ?_
                  refine go_icmp_ne (pc' := 143) (tgt := 147) dX14_next_140 (by decide) rfl (fun c158 => ?_) (fun c158 => ?_)
                  · have hf := ie c158 hf
                    refine go_iconst (v := 0) (pc' := 148) dX14_next_147 rfl (by decide) ?_
                    exact t_X14_next_148 R hf
                  · have hf := it c158 hf
                    refine go_iconst (v := 1) (pc' := 144) dX14_next_143 rfl (by decide) ?_
                    refine go_goto (pc' := 0) (tgt := 148) dX14_next_144 (by decide) ?_
                    exact t_X14_next_148 R hf
          · have hf := ie c130 hf
            refine go_aload_n (i := 0) (pc' := 76) dX14_next_75 rfl rfl rfl ?_
            refine go_iconst (v := 1) (pc' := 77) dX14_next_76 rfl (by decide) ?_
            obtain ⟨σ159, e160, hf⟩ := st_some hf
            refine go_putI (pc' := 80) dX14_next_77 rfl pf_LandBaseModel_385 R (R.at rfl (by decide)) (by decide) rfl rfl rfl (fun h161 R => ?_)
            have R := Rl.cast e160 R
            exact t_X14_next_80 xFU R hf
        · have hf := ie c124 hf
          refine go_aload_n (i := 0) (pc' := 61) dX14_next_60 rfl rfl rfl ?_
          refine go_iconst (v := 0) (pc' := 62) dX14_next_61 rfl (by decide) ?_
          obtain ⟨σ162, e163, hf⟩ := st_some hf
          refine go_putI (pc' := 65) dX14_next_62 rfl pf_LandBaseModel_385 R (R.at rfl (by decide)) (by decide) rfl rfl rfl (fun h164 R => ?_)
          have R := Rl.cast e163 R
          refine go_goto (pc' := 0) (tgt := 197) dX14_next_65 (by decide) ?_
          obtain rfl := Option.some.inj hf
          exact Go.ret (v := none) dX14_next_197 rfl ⟨trivial, rfl, R⟩
      · have hf := it c115 hf
        refine go_aload_n (i := 0) (pc' := 27) dX14_next_26 rfl rfl rfl ?_
        refine go_dup (pc' := 28) dX14_next_27 rfl rfl ?_
        refine go_getS (pc' := 31) dX14_next_28 rfl gf_LandBaseModel_379 R (R.at rfl (by decide)) (by decide) rfl ?_
        refine go_iconst (v := 1) (pc' := 32) dX14_next_31 rfl (by decide) ?_
        refine go_iadd (pc' := 33) dX14_next_32 rfl ?_
        obtain ⟨σ165, e166, hf⟩ := st_some hf
        refine go_putI (pc' := 36) dX14_next_33 rfl pf_LandBaseModel_379 R (R.at rfl (by decide)) (by decide) rfl rfl rfl (fun h167 R => ?_)
        have R := Rl.cast e166 R
        refine go_goto (pc' := 0) (tgt := 0) dX14_next_36 (by decide) ?_
        exact ih R hf
def f_X14_next (n : Nat)  (σ : xσ) : Option (Unit × xσ) := l_X14_next_0 n xFU σ
set_option maxRecDepth 100000 in
set_option maxHeartbeats 4000000 in
theorem c_X14_next {G : xG} {n : Nat} {σ : xσ} {h : xH}  {v1 : Unit} {σ1 : xσ} (R : Rl n σ h) (hf : f_X14_next n σ = some (v1, σ1)) : Ca G mX14_next [.ref 233] h (fun v h' => v = none ∧ Rl n σ1 h') := by
  refine Ca.of rfl (Nat.le_of_ble_eq_true rfl) ?_
  generalize hr : (v1, σ1) = r at hf
  suffices q : Go G mX14_next 0 (xent (xMl mX14_next) [.ref 233]) [] h (fun v h' => xRok (xRt mX14_next) v ∧ v = none ∧ Rl n r.2 h') by
    subst hr
    exact q
  clear hr
  rw [f_X14_next] at hf
  exact t_X14_next_0 xFU R hf
def l_X14_isWord_28 (n : Nat) : Nat → Nat → Int32 → xσ → Option (Int32 × xσ)
  | 0, _, _, _ => none
  | f + 1, j1, x2, σ => gd (j1 < 28) (if (tlen j1) ≤ x2 then some (1, σ) else gd (inb ((sI σ 233 46) + x2) 4000) (gd (j1 < 28) (gd (inb x2 (xTb j1).length) (if (sI σ 1863 ((sI σ 233 46) + x2).toNatClampNeg) = (tchr j1 x2.toNatClampNeg) then (l_X14_isWord_28 n f) j1 (x2 + 1) σ else some (0, σ)))))
set_option maxRecDepth 100000 in
set_option maxHeartbeats 4000000 in
theorem t_X14_isWord_28 {G : xG} {n : Nat} : ∀ (f : Nat) {j1 : Nat} {x2 : Int32} {σ : xσ} {h : xH} {r : Int32 × xσ}, Rl n σ h → l_X14_isWord_28 n f j1 x2 σ = some r → Go G mX14_isWord 28 [some (.ref 233), some (.retAddr j1), some (.int x2)] [] h (fun v h' => xRok (xRt mX14_isWord) v ∧ v = some (.int r.1) ∧ Rl n r.2 h') := by
  intro f
  induction f with
  | zero =>
    intros
    rename _ = some _ => hf
    rw [l_X14_isWord_28] at hf
    cases hf
  | succ f ih =>
    intro j1 x2 σ h r  R hf
    rw [l_X14_isWord_28] at hf
    refine go_iload_n (i := 2) (pc' := 29) dX14_isWord_28 rfl rfl rfl ?_
    refine go_aloadX_n (i := 1) (pc' := 30) dX14_isWord_29 rfl rfl rfl ?_
    obtain ⟨g101, hf⟩ := gd_some hf
    refine go_slen (pc' := 33) dX14_isWord_30 rfl cf_X14_isWord_407 (Nat.le_of_ble_eq_true rfl) g101 ?_
    refine go_icmp_ge (pc' := 36) (tgt := 63) dX14_isWord_33 (by decide) rfl (fun c102 => ?_) (fun c102 => ?_)
    · have hf := it c102 hf
      refine go_iconst (v := 1) (pc' := 64) dX14_isWord_63 rfl (by decide) ?_
      obtain rfl := Option.some.inj hf
      exact Go.ret (v := some (.int _)) dX14_isWord_64 ⟨_, rfl⟩ ⟨rfl, rfl, R⟩
    · have hf := ie c102 hf
      refine go_aload_n (i := 0) (pc' := 37) dX14_isWord_36 rfl rfl rfl ?_
      refine go_getS (pc' := 40) dX14_isWord_37 rfl gf_LandBaseModel_376 R (R.at rfl (by decide)) (by decide) rfl ?_
      refine go_aload_n (i := 0) (pc' := 41) dX14_isWord_40 rfl rfl rfl ?_
      refine go_getS (pc' := 44) dX14_isWord_41 rfl gf_LandBaseModel_368 R (R.at rfl (by decide)) (by decide) rfl ?_
      refine go_iload_n (i := 2) (pc' := 45) dX14_isWord_44 rfl rfl rfl ?_
      refine go_iadd (pc' := 46) dX14_isWord_45 rfl ?_
      obtain ⟨g103, hf⟩ := gd_some hf
      refine go_ialoadS (pc' := 47) dX14_isWord_46 rfl R (R.aa rfl (by decide)) g103 ?_
      refine go_aloadX_n (i := 1) (pc' := 48) dX14_isWord_47 rfl rfl rfl ?_
      refine go_iload_n (i := 2) (pc' := 49) dX14_isWord_48 rfl rfl rfl ?_
      obtain ⟨g104, hf⟩ := gd_some hf
      obtain ⟨g105, hf⟩ := gd_some hf
      refine go_schar (pc' := 52) dX14_isWord_49 rfl cf_X14_isWord_413 (Nat.le_of_ble_eq_true rfl) g104 g105 ?_
      refine go_icmp_eq (pc' := 55) (tgt := 57) dX14_isWord_52 (by decide) rfl (fun c106 => ?_) (fun c106 => ?_)
      · have hf := it c106 hf
        refine go_iincC (kk := 1) (pc' := 60) dX14_isWord_57 rfl rfl (by decide) (by decide) rfl ?_
        refine go_goto (pc' := 0) (tgt := 28) dX14_isWord_60 (by decide) ?_
        exact ih R hf
      · have hf := ie c106 hf
        refine go_iconst (v := 0) (pc' := 56) dX14_isWord_55 rfl (by decide) ?_
        obtain rfl := Option.some.inj hf
        exact Go.ret (v := some (.int _)) dX14_isWord_56 ⟨_, rfl⟩ ⟨rfl, rfl, R⟩
def f_X14_isWord (n : Nat) (j1 : Nat) (σ : xσ) : Option (Int32 × xσ) := if (sI σ 233 45) = 1 then gd (j1 < 28) (if ((sI σ 233 41) - (sI σ 233 46)) = (tlen j1) then l_X14_isWord_28 n xFU j1 0 σ else some (0, σ)) else some (0, σ)
set_option maxRecDepth 100000 in
set_option maxHeartbeats 4000000 in
theorem c_X14_isWord {G : xG} {n : Nat} {σ : xσ} {h : xH} {j1 : Nat} {v1 : Int32} {σ1 : xσ} (R : Rl n σ h) (hf : f_X14_isWord n j1 σ = some (v1, σ1)) : Ca G mX14_isWord [.ref 233, .retAddr j1] h (fun v h' => v = some (.int v1) ∧ Rl n σ1 h') := by
  refine Ca.of rfl (Nat.le_of_ble_eq_true rfl) ?_
  generalize hr : (v1, σ1) = r at hf
  suffices q : Go G mX14_isWord 0 (xent (xMl mX14_isWord) [.ref 233, .retAddr j1]) [] h (fun v h' => xRok (xRt mX14_isWord) v ∧ v = some (.int r.1) ∧ Rl n r.2 h') by
    subst hr
    exact q
  clear hr
  rw [f_X14_isWord] at hf
  refine go_aload_n (i := 0) (pc' := 1) dX14_isWord_0 rfl rfl rfl ?_
  refine go_getS (pc' := 4) dX14_isWord_1 rfl gf_LandBaseModel_385 R (R.at rfl (by decide)) (by decide) rfl ?_
  refine go_iconst (v := 1) (pc' := 5) dX14_isWord_4 rfl (by decide) ?_
  refine go_icmp_ne (pc' := 8) (tgt := 24) dX14_isWord_5 (by decide) rfl (fun c101 => ?_) (fun c101 => ?_)
  · have hf := ie c101 hf
    refine go_iconst (v := 0) (pc' := 25) dX14_isWord_24 rfl (by decide) ?_
    obtain rfl := Option.some.inj hf
    exact Go.ret (v := some (.int _)) dX14_isWord_25 ⟨_, rfl⟩ ⟨rfl, rfl, R⟩
  · have hf := it c101 hf
    refine go_aload_n (i := 0) (pc' := 9) dX14_isWord_8 rfl rfl rfl ?_
    refine go_getS (pc' := 12) dX14_isWord_9 rfl gf_LandBaseModel_379 R (R.at rfl (by decide)) (by decide) rfl ?_
    refine go_aload_n (i := 0) (pc' := 13) dX14_isWord_12 rfl rfl rfl ?_
    refine go_getS (pc' := 16) dX14_isWord_13 rfl gf_LandBaseModel_368 R (R.at rfl (by decide)) (by decide) rfl ?_
    refine go_isub (pc' := 17) dX14_isWord_16 rfl ?_
    refine go_aloadX_n (i := 1) (pc' := 18) dX14_isWord_17 rfl rfl rfl ?_
    obtain ⟨g102, hf⟩ := gd_some hf
    refine go_slen (pc' := 21) dX14_isWord_18 rfl cf_X14_isWord_407 (Nat.le_of_ble_eq_true rfl) g102 ?_
    refine go_icmp_eq (pc' := 24) (tgt := 26) dX14_isWord_21 (by decide) rfl (fun c103 => ?_) (fun c103 => ?_)
    · have hf := it c103 hf
      refine go_iconst (v := 0) (pc' := 27) dX14_isWord_26 rfl (by decide) ?_
      refine go_istore_nE rfl (i := 2) (pc' := 28) dX14_isWord_27 rfl rfl (by decide) rfl ?_
      exact t_X14_isWord_28 xFU R hf
    · have hf := ie c103 hf
      refine go_iconst (v := 0) (pc' := 25) dX14_isWord_24 rfl (by decide) ?_
      obtain rfl := Option.some.inj hf
      exact Go.ret (v := some (.int _)) dX14_isWord_25 ⟨_, rfl⟩ ⟨rfl, rfl, R⟩
def f_X14_isSign (n : Nat) (x1 : Int32) (σ : xσ) : Option (Int32 × xσ) := if (sI σ 233 45) = 3 then gd (inb (sI σ 233 46) 4000) (if (sI σ 1863 (sI σ 233 46).toNatClampNeg) = x1 then some (1, σ) else some (0, σ)) else some (0, σ)
set_option maxRecDepth 100000 in
set_option maxHeartbeats 4000000 in
theorem c_X14_isSign {G : xG} {n : Nat} {σ : xσ} {h : xH} {x1 : Int32} {v1 : Int32} {σ1 : xσ} (R : Rl n σ h) (hf : f_X14_isSign n x1 σ = some (v1, σ1)) : Ca G mX14_isSign [.ref 233, .int x1] h (fun v h' => v = some (.int v1) ∧ Rl n σ1 h') := by
  refine Ca.of rfl (Nat.le_of_ble_eq_true rfl) ?_
  generalize hr : (v1, σ1) = r at hf
  suffices q : Go G mX14_isSign 0 (xent (xMl mX14_isSign) [.ref 233, .int x1]) [] h (fun v h' => xRok (xRt mX14_isSign) v ∧ v = some (.int r.1) ∧ Rl n r.2 h') by
    subst hr
    exact q
  clear hr
  rw [f_X14_isSign] at hf
  refine go_aload_n (i := 0) (pc' := 1) dX14_isSign_0 rfl rfl rfl ?_
  refine go_getS (pc' := 4) dX14_isSign_1 rfl gf_LandBaseModel_385 R (R.at rfl (by decide)) (by decide) rfl ?_
  refine go_iconst (v := 3) (pc' := 5) dX14_isSign_4 rfl (by decide) ?_
  refine go_icmp_ne (pc' := 8) (tgt := 25) dX14_isSign_5 (by decide) rfl (fun c101 => ?_) (fun c101 => ?_)
  · have hf := ie c101 hf
    refine go_iconst (v := 0) (pc' := 26) dX14_isSign_25 rfl (by decide) ?_
    obtain rfl := Option.some.inj hf
    exact Go.ret (v := some (.int _)) dX14_isSign_26 ⟨_, rfl⟩ ⟨rfl, rfl, R⟩
  · have hf := it c101 hf
    refine go_aload_n (i := 0) (pc' := 9) dX14_isSign_8 rfl rfl rfl ?_
    refine go_getS (pc' := 12) dX14_isSign_9 rfl gf_LandBaseModel_376 R (R.at rfl (by decide)) (by decide) rfl ?_
    refine go_aload_n (i := 0) (pc' := 13) dX14_isSign_12 rfl rfl rfl ?_
    refine go_getS (pc' := 16) dX14_isSign_13 rfl gf_LandBaseModel_368 R (R.at rfl (by decide)) (by decide) rfl ?_
    obtain ⟨g102, hf⟩ := gd_some hf
    refine go_ialoadS (pc' := 17) dX14_isSign_16 rfl R (R.aa rfl (by decide)) g102 ?_
    refine go_iload_n (i := 1) (pc' := 18) dX14_isSign_17 rfl rfl rfl ?_
    refine go_icmp_ne (pc' := 21) (tgt := 25) dX14_isSign_18 (by decide) rfl (fun c103 => ?_) (fun c103 => ?_)
    · have hf := ie c103 hf
      refine go_iconst (v := 0) (pc' := 26) dX14_isSign_25 rfl (by decide) ?_
      obtain rfl := Option.some.inj hf
      exact Go.ret (v := some (.int _)) dX14_isSign_26 ⟨_, rfl⟩ ⟨rfl, rfl, R⟩
    · have hf := it c103 hf
      refine go_iconst (v := 1) (pc' := 22) dX14_isSign_21 rfl (by decide) ?_
      refine go_goto (pc' := 0) (tgt := 26) dX14_isSign_22 (by decide) ?_
      obtain rfl := Option.some.inj hf
      exact Go.ret (v := some (.int _)) dX14_isSign_26 ⟨_, rfl⟩ ⟨rfl, rfl, R⟩
def f_X14_expect (n : Nat) (x1 : Int32) (σ : xσ) : Option (Unit × xσ) := if (sI σ 233 48) = 0 then bd (f_X14_isSign n x1 σ) (fun v102 σ103 => if v102 = 0 then bd (f_X14_refuse n σ103) (fun v113 σ114 => some ((), σ114)) else bd (f_X14_next n σ103) (fun v108 σ109 => some ((), σ109))) else some ((), σ)
set_option maxRecDepth 100000 in
set_option maxHeartbeats 4000000 in
theorem c_X14_expect {G : xG} {n : Nat} {σ : xσ} {h : xH} {x1 : Int32} {v1 : Unit} {σ1 : xσ} (R : Rl n σ h) (hf : f_X14_expect n x1 σ = some (v1, σ1)) : Ca G mX14_expect [.ref 233, .int x1] h (fun v h' => v = none ∧ Rl n σ1 h') := by
  refine Ca.of rfl (Nat.le_of_ble_eq_true rfl) ?_
  generalize hr : (v1, σ1) = r at hf
  suffices q : Go G mX14_expect 0 (xent (xMl mX14_expect) [.ref 233, .int x1]) [] h (fun v h' => xRok (xRt mX14_expect) v ∧ v = none ∧ Rl n r.2 h') by
    subst hr
    exact q
  clear hr
  rw [f_X14_expect] at hf
  refine go_aload_n (i := 0) (pc' := 1) dX14_expect_0 rfl rfl rfl ?_
  refine go_getS (pc' := 4) dX14_expect_1 rfl gf_LandBaseModel_365 R (R.at rfl (by decide)) (by decide) rfl ?_
  refine go_if_eq (pc' := 7) (tgt := 8) dX14_expect_4 (by decide) rfl (fun c101 => ?_) (fun c101 => ?_)
  · have hf := it c101 hf
    refine go_aload_n (i := 0) (pc' := 9) dX14_expect_8 rfl rfl rfl ?_
    refine go_iload_n (i := 1) (pc' := 10) dX14_expect_9 rfl rfl rfl ?_
    obtain ⟨v102, σ103, e104, hf⟩ := bd_some hf
    refine go_invV (As := [_]) (pc' := 13) dX14_expect_10 rfl cf_X14_expect_417 rfl (R.ob (R.at rfl (by decide))) rfl rfl (Nat.le_of_ble_eq_true rfl) (c_X14_isSign R e104) (fun q105v h106 q105 => ?_)
    obtain ⟨rfl, R⟩ := q105
    refine go_if_ne (pc' := 16) (tgt := 23) dX14_expect_13 (by decide) rfl (fun c107 => ?_) (fun c107 => ?_)
    · have hf := ie c107 hf
      refine go_aload_n (i := 0) (pc' := 24) dX14_expect_23 rfl rfl rfl ?_
      obtain ⟨v108, σ109, e110, hf⟩ := bd_some hf
      refine go_invV (As := []) (pc' := 27) dX14_expect_24 rfl cf_X14_expect_423 rfl (R.ob (R.at rfl (by decide))) rfl rfl (Nat.le_of_ble_eq_true rfl) (c_X14_next R e110) (fun q111v h112 q111 => ?_)
      obtain ⟨rfl, R⟩ := q111
      obtain rfl := Option.some.inj hf
      exact Go.ret (v := none) dX14_expect_27 rfl ⟨trivial, rfl, R⟩
    · have hf := it c107 hf
      refine go_aload_n (i := 0) (pc' := 17) dX14_expect_16 rfl rfl rfl ?_
      obtain ⟨v113, σ114, e115, hf⟩ := bd_some hf
      refine go_invV (As := []) (pc' := 20) dX14_expect_17 rfl cf_X14_expect_420 rfl (R.ob (R.at rfl (by decide))) rfl rfl (Nat.le_of_ble_eq_true rfl) (c_X14_refuse R e115) (fun q116v h117 q116 => ?_)
      obtain ⟨rfl, R⟩ := q116
      refine go_goto (pc' := 0) (tgt := 27) dX14_expect_20 (by decide) ?_
      obtain rfl := Option.some.inj hf
      exact Go.ret (v := none) dX14_expect_27 rfl ⟨trivial, rfl, R⟩
  · have hf := ie c101 hf
    obtain rfl := Option.some.inj hf
    exact Go.ret (v := none) dX14_expect_7 rfl ⟨trivial, rfl, R⟩
def f_X14_readInt (n : Nat)  (σ : xσ) : Option (Int32 × xσ) := if (sI σ 233 48) = 0 then if (sI σ 233 45) = 2 then st (sI σ 233 47) (fun x103 => bd (f_X14_next n σ) (fun v105 σ106 => some (x103, σ106))) else bd (f_X14_refuse n σ) (fun v110 σ111 => some (0, σ111)) else some (0, σ)
set_option maxRecDepth 100000 in
set_option maxHeartbeats 4000000 in
theorem c_X14_readInt {G : xG} {n : Nat} {σ : xσ} {h : xH}  {v1 : Int32} {σ1 : xσ} (R : Rl n σ h) (hf : f_X14_readInt n σ = some (v1, σ1)) : Ca G mX14_readInt [.ref 233] h (fun v h' => v = some (.int v1) ∧ Rl n σ1 h') := by
  refine Ca.of rfl (Nat.le_of_ble_eq_true rfl) ?_
  generalize hr : (v1, σ1) = r at hf
  suffices q : Go G mX14_readInt 0 (xent (xMl mX14_readInt) [.ref 233]) [] h (fun v h' => xRok (xRt mX14_readInt) v ∧ v = some (.int r.1) ∧ Rl n r.2 h') by
    subst hr
    exact q
  clear hr
  rw [f_X14_readInt] at hf
  refine go_aload_n (i := 0) (pc' := 1) dX14_readInt_0 rfl rfl rfl ?_
  refine go_getS (pc' := 4) dX14_readInt_1 rfl gf_LandBaseModel_365 R (R.at rfl (by decide)) (by decide) rfl ?_
  refine go_if_eq (pc' := 7) (tgt := 9) dX14_readInt_4 (by decide) rfl (fun c101 => ?_) (fun c101 => ?_)
  · have hf := it c101 hf
    refine go_aload_n (i := 0) (pc' := 10) dX14_readInt_9 rfl rfl rfl ?_
    refine go_getS (pc' := 13) dX14_readInt_10 rfl gf_LandBaseModel_385 R (R.at rfl (by decide)) (by decide) rfl ?_
    refine go_iconst (v := 2) (pc' := 14) dX14_readInt_13 rfl (by decide) ?_
    refine go_icmp_eq (pc' := 17) (tgt := 23) dX14_readInt_14 (by decide) rfl (fun c102 => ?_) (fun c102 => ?_)
    · have hf := it c102 hf
      refine go_aload_n (i := 0) (pc' := 24) dX14_readInt_23 rfl rfl rfl ?_
      refine go_getS (pc' := 27) dX14_readInt_24 rfl gf_LandBaseModel_404 R (R.at rfl (by decide)) (by decide) rfl ?_
      obtain ⟨x103, e104, hf⟩ := st_some hf
      refine go_istore_nE e104 (i := 1) (pc' := 28) dX14_readInt_27 rfl rfl (by decide) rfl ?_
      refine go_aload_n (i := 0) (pc' := 29) dX14_readInt_28 rfl rfl rfl ?_
      obtain ⟨v105, σ106, e107, hf⟩ := bd_some hf
      refine go_invV (As := []) (pc' := 32) dX14_readInt_29 rfl cf_X14_readInt_423 rfl (R.ob (R.at rfl (by decide))) rfl rfl (Nat.le_of_ble_eq_true rfl) (c_X14_next R e107) (fun q108v h109 q108 => ?_)
      obtain ⟨rfl, R⟩ := q108
      refine go_iload_n (i := 1) (pc' := 33) dX14_readInt_32 rfl rfl rfl ?_
      obtain rfl := Option.some.inj hf
      exact Go.ret (v := some (.int _)) dX14_readInt_33 ⟨_, rfl⟩ ⟨rfl, rfl, R⟩
    · have hf := ie c102 hf
      refine go_aload_n (i := 0) (pc' := 18) dX14_readInt_17 rfl rfl rfl ?_
      obtain ⟨v110, σ111, e112, hf⟩ := bd_some hf
      refine go_invV (As := []) (pc' := 21) dX14_readInt_18 rfl cf_X14_readInt_420 rfl (R.ob (R.at rfl (by decide))) rfl rfl (Nat.le_of_ble_eq_true rfl) (c_X14_refuse R e112) (fun q113v h114 q113 => ?_)
      obtain ⟨rfl, R⟩ := q113
      refine go_iconst (v := 0) (pc' := 22) dX14_readInt_21 rfl (by decide) ?_
      obtain rfl := Option.some.inj hf
      exact Go.ret (v := some (.int _)) dX14_readInt_22 ⟨_, rfl⟩ ⟨rfl, rfl, R⟩
  · have hf := ie c101 hf
    refine go_iconst (v := 0) (pc' := 8) dX14_readInt_7 rfl (by decide) ?_
    obtain rfl := Option.some.inj hf
    exact Go.ret (v := some (.int _)) dX14_readInt_8 ⟨_, rfl⟩ ⟨rfl, rfl, R⟩
def b_X14_readPlace_28 (n : Nat) (σ : xσ) : Option (Unit × xσ) := st (wI σ 233 50 ((sI σ 233 50) + 1)) (fun σ101 => some ((), σ101))
set_option maxRecDepth 100000 in
set_option maxHeartbeats 4000000 in
theorem t_X14_readPlace_28 {G : xG} {n : Nat} {σ : xσ} {h : xH} {r : Unit × xσ} {d1 : Option Value} {d2 : Option Value} : Rl n σ h → b_X14_readPlace_28 n σ = some r → Go G mX14_readPlace 28 [some (.ref 233), d1, d2] [] h (fun v h' => xRok (xRt mX14_readPlace) v ∧ v = none ∧ Rl n r.2 h') := by
  intro R hf
  rw [b_X14_readPlace_28] at hf
  refine go_aload_n (i := 0) (pc' := 29) dX14_readPlace_28 rfl rfl rfl ?_
  refine go_dup (pc' := 30) dX14_readPlace_29 rfl rfl ?_
  refine go_getS (pc' := 33) dX14_readPlace_30 rfl gf_LandBaseModel_429 R (R.at rfl (by decide)) (by decide) rfl ?_
  refine go_iconst (v := 1) (pc' := 34) dX14_readPlace_33 rfl (by decide) ?_
  refine go_iadd (pc' := 35) dX14_readPlace_34 rfl ?_
  obtain ⟨σ101, e102, hf⟩ := st_some hf
  refine go_putI (pc' := 38) dX14_readPlace_35 rfl pf_LandBaseModel_429 R (R.at rfl (by decide)) (by decide) rfl rfl rfl (fun h103 R => ?_)
  have R := Rl.cast e102 R
  obtain rfl := Option.some.inj hf
  exact Go.ret (v := none) dX14_readPlace_38 rfl ⟨trivial, rfl, R⟩
def f_X14_readPlace (n : Nat)  (σ : xσ) : Option (Unit × xσ) := bd (f_X14_readInt n σ) (fun v101 σ102 => bd (f_X14_readInt n σ102) (fun v106 σ107 => if 40 ≤ (sI σ107 233 50) then st (wI σ107 233 50 ((sI σ107 233 50) + 1)) (fun σ112 => some ((), σ112)) else bd (f_X12_add n 1865 v101 v106 σ107) (fun v115 σ116 => b_X14_readPlace_28 n σ116)))
set_option maxRecDepth 100000 in
set_option maxHeartbeats 4000000 in
theorem c_X14_readPlace {G : xG} {n : Nat} {σ : xσ} {h : xH}  {v1 : Unit} {σ1 : xσ} (R : Rl n σ h) (hf : f_X14_readPlace n σ = some (v1, σ1)) : Ca G mX14_readPlace [.ref 233] h (fun v h' => v = none ∧ Rl n σ1 h') := by
  refine Ca.of rfl (Nat.le_of_ble_eq_true rfl) ?_
  generalize hr : (v1, σ1) = r at hf
  suffices q : Go G mX14_readPlace 0 (xent (xMl mX14_readPlace) [.ref 233]) [] h (fun v h' => xRok (xRt mX14_readPlace) v ∧ v = none ∧ Rl n r.2 h') by
    subst hr
    exact q
  clear hr
  rw [f_X14_readPlace] at hf
  refine go_aload_n (i := 0) (pc' := 1) dX14_readPlace_0 rfl rfl rfl ?_
  obtain ⟨v101, σ102, e103, hf⟩ := bd_some hf
  refine go_invV (As := []) (pc' := 4) dX14_readPlace_1 rfl cf_X14_readPlace_426 rfl (R.ob (R.at rfl (by decide))) rfl rfl (Nat.le_of_ble_eq_true rfl) (c_X14_readInt R e103) (fun q104v h105 q104 => ?_)
  obtain ⟨rfl, R⟩ := q104
  refine go_istore_nE rfl (i := 1) (pc' := 5) dX14_readPlace_4 rfl rfl (by decide) rfl ?_
  refine go_aload_n (i := 0) (pc' := 6) dX14_readPlace_5 rfl rfl rfl ?_
  obtain ⟨v106, σ107, e108, hf⟩ := bd_some hf
  refine go_invV (As := []) (pc' := 9) dX14_readPlace_6 rfl cf_X14_readPlace_426 rfl (R.ob (R.at rfl (by decide))) rfl rfl (Nat.le_of_ble_eq_true rfl) (c_X14_readInt R e108) (fun q109v h110 q109 => ?_)
  obtain ⟨rfl, R⟩ := q109
  refine go_istore_nE rfl (i := 2) (pc' := 10) dX14_readPlace_9 rfl rfl (by decide) rfl ?_
  refine go_aload_n (i := 0) (pc' := 11) dX14_readPlace_10 rfl rfl rfl ?_
  refine go_getS (pc' := 14) dX14_readPlace_11 rfl gf_LandBaseModel_429 R (R.at rfl (by decide)) (by decide) rfl ?_
  refine go_bipush (v := 40) (pc' := 16) dX14_readPlace_14 rfl (by decide) ?_
  refine go_icmp_ge (pc' := 19) (tgt := 28) dX14_readPlace_16 (by decide) rfl (fun c111 => ?_) (fun c111 => ?_)
  · have hf := it c111 hf
    refine go_aload_n (i := 0) (pc' := 29) dX14_readPlace_28 rfl rfl rfl ?_
    refine go_dup (pc' := 30) dX14_readPlace_29 rfl rfl ?_
    refine go_getS (pc' := 33) dX14_readPlace_30 rfl gf_LandBaseModel_429 R (R.at rfl (by decide)) (by decide) rfl ?_
    refine go_iconst (v := 1) (pc' := 34) dX14_readPlace_33 rfl (by decide) ?_
    refine go_iadd (pc' := 35) dX14_readPlace_34 rfl ?_
    obtain ⟨σ112, e113, hf⟩ := st_some hf
    refine go_putI (pc' := 38) dX14_readPlace_35 rfl pf_LandBaseModel_429 R (R.at rfl (by decide)) (by decide) rfl rfl rfl (fun h114 R => ?_)
    have R := Rl.cast e113 R
    obtain rfl := Option.some.inj hf
    exact Go.ret (v := none) dX14_readPlace_38 rfl ⟨trivial, rfl, R⟩
  · have hf := ie c111 hf
    refine go_aload_n (i := 0) (pc' := 20) dX14_readPlace_19 rfl rfl rfl ?_
    refine go_getS (pc' := 23) dX14_readPlace_20 rfl gf_LandBaseModel_432 R (R.at rfl (by decide)) (by decide) rfl ?_
    refine go_iload_n (i := 1) (pc' := 24) dX14_readPlace_23 rfl rfl rfl ?_
    refine go_iload_n (i := 2) (pc' := 25) dX14_readPlace_24 rfl rfl rfl ?_
    obtain ⟨v115, σ116, e117, hf⟩ := bd_some hf
    refine go_invV (As := [_, _]) (pc' := 28) dX14_readPlace_25 rfl cf_X14_readPlace_242 rfl (R.ob (R.at rfl (by decide))) rfl rfl (Nat.le_of_ble_eq_true rfl) (c_X12_add R e117) (fun q118v h119 q118 => ?_)
    obtain ⟨rfl, R⟩ := q118
    exact t_X14_readPlace_28 R hf
def b_X14_readPlaceRow_59 (n : Nat) (σ : xσ) : Option (Unit × xσ) := st (wI σ 233 51 ((sI σ 233 51) + 1)) (fun σ101 => some ((), σ101))
set_option maxRecDepth 100000 in
set_option maxHeartbeats 4000000 in
theorem t_X14_readPlaceRow_59 {G : xG} {n : Nat} {σ : xσ} {h : xH} {r : Unit × xσ} : Rl n σ h → b_X14_readPlaceRow_59 n σ = some r → Go G mX14_readPlaceRow 59 [some (.ref 233)] [] h (fun v h' => xRok (xRt mX14_readPlaceRow) v ∧ v = none ∧ Rl n r.2 h') := by
  intro R hf
  rw [b_X14_readPlaceRow_59] at hf
  refine go_aload_n (i := 0) (pc' := 60) dX14_readPlaceRow_59 rfl rfl rfl ?_
  refine go_dup (pc' := 61) dX14_readPlaceRow_60 rfl rfl ?_
  refine go_getS (pc' := 64) dX14_readPlaceRow_61 rfl gf_LandBaseModel_441 R (R.at rfl (by decide)) (by decide) rfl ?_
  refine go_iconst (v := 1) (pc' := 65) dX14_readPlaceRow_64 rfl (by decide) ?_
  refine go_iadd (pc' := 66) dX14_readPlaceRow_65 rfl ?_
  obtain ⟨σ101, e102, hf⟩ := st_some hf
  refine go_putI (pc' := 69) dX14_readPlaceRow_66 rfl pf_LandBaseModel_441 R (R.at rfl (by decide)) (by decide) rfl rfl rfl (fun h103 R => ?_)
  have R := Rl.cast e102 R
  obtain rfl := Option.some.inj hf
  exact Go.ret (v := none) dX14_readPlaceRow_69 rfl ⟨trivial, rfl, R⟩
def l_X14_readPlaceRow_10 (n : Nat) : Nat → xσ → Option (Unit × xσ)
  | 0, _ => none
  | f + 1, σ => if (sI σ 233 48) = 0 then bd (f_X14_isSign n 44 σ) (fun v116 σ117 => if v116 = 0 then bd (f_X14_expect n 41 σ117) (fun v122 σ123 => if 8 ≤ (sI σ123 233 51) then st (wI σ123 233 51 ((sI σ123 233 51) + 1)) (fun σ128 => some ((), σ128)) else bd (f_X12_endRing n 1865 σ123) (fun v131 σ132 => b_X14_readPlaceRow_59 n σ132)) else bd (f_X14_next n σ117) (fun v136 σ137 => bd (f_X14_readPlace n σ137) (fun v141 σ142 => (l_X14_readPlaceRow_10 n f) σ142))) else bd (f_X14_expect n 41 σ) (fun v102 σ103 => if 8 ≤ (sI σ103 233 51) then st (wI σ103 233 51 ((sI σ103 233 51) + 1)) (fun σ108 => some ((), σ108)) else bd (f_X12_endRing n 1865 σ103) (fun v111 σ112 => b_X14_readPlaceRow_59 n σ112))
set_option maxRecDepth 100000 in
set_option maxHeartbeats 4000000 in
theorem t_X14_readPlaceRow_10 {G : xG} {n : Nat} : ∀ (f : Nat) {σ : xσ} {h : xH} {r : Unit × xσ}, Rl n σ h → l_X14_readPlaceRow_10 n f σ = some r → Go G mX14_readPlaceRow 10 [some (.ref 233)] [] h (fun v h' => xRok (xRt mX14_readPlaceRow) v ∧ v = none ∧ Rl n r.2 h') := by
  intro f
  induction f with
  | zero =>
    intros
    rename _ = some _ => hf
    rw [l_X14_readPlaceRow_10] at hf
    cases hf
  | succ f ih =>
    intro  σ h r  R hf
    rw [l_X14_readPlaceRow_10] at hf
    refine go_aload_n (i := 0) (pc' := 11) dX14_readPlaceRow_10 rfl rfl rfl ?_
    refine go_getS (pc' := 14) dX14_readPlaceRow_11 rfl gf_LandBaseModel_365 R (R.at rfl (by decide)) (by decide) rfl ?_
    refine go_if_ne (pc' := 17) (tgt := 37) dX14_readPlaceRow_14 (by decide) rfl (fun c101 => ?_) (fun c101 => ?_)
    · have hf := ie c101 hf
      refine go_aload_n (i := 0) (pc' := 38) dX14_readPlaceRow_37 rfl rfl rfl ?_
      refine go_bipush (v := 41) (pc' := 40) dX14_readPlaceRow_38 rfl (by decide) ?_
      obtain ⟨v102, σ103, e104, hf⟩ := bd_some hf
      refine go_invV (As := [_]) (pc' := 43) dX14_readPlaceRow_40 rfl cf_X14_readPlaceRow_435 rfl (R.ob (R.at rfl (by decide))) rfl rfl (Nat.le_of_ble_eq_true rfl) (c_X14_expect R e104) (fun q105v h106 q105 => ?_)
      obtain ⟨rfl, R⟩ := q105
      refine go_aload_n (i := 0) (pc' := 44) dX14_readPlaceRow_43 rfl rfl rfl ?_
      refine go_getS (pc' := 47) dX14_readPlaceRow_44 rfl gf_LandBaseModel_441 R (R.at rfl (by decide)) (by decide) rfl ?_
      refine go_bipush (v := 8) (pc' := 49) dX14_readPlaceRow_47 rfl (by decide) ?_
      refine go_icmp_ge (pc' := 52) (tgt := 59) dX14_readPlaceRow_49 (by decide) rfl (fun c107 => ?_) (fun c107 => ?_)
      · have hf := it c107 hf
        refine go_aload_n (i := 0) (pc' := 60) dX14_readPlaceRow_59 rfl rfl rfl ?_
        refine go_dup (pc' := 61) dX14_readPlaceRow_60 rfl rfl ?_
        refine go_getS (pc' := 64) dX14_readPlaceRow_61 rfl gf_LandBaseModel_441 R (R.at rfl (by decide)) (by decide) rfl ?_
        refine go_iconst (v := 1) (pc' := 65) dX14_readPlaceRow_64 rfl (by decide) ?_
        refine go_iadd (pc' := 66) dX14_readPlaceRow_65 rfl ?_
        obtain ⟨σ108, e109, hf⟩ := st_some hf
        refine go_putI (pc' := 69) dX14_readPlaceRow_66 rfl pf_LandBaseModel_441 R (R.at rfl (by decide)) (by decide) rfl rfl rfl (fun h110 R => ?_)
        have R := Rl.cast e109 R
        obtain rfl := Option.some.inj hf
        exact Go.ret (v := none) dX14_readPlaceRow_69 rfl ⟨trivial, rfl, R⟩
      · have hf := ie c107 hf
        refine go_aload_n (i := 0) (pc' := 53) dX14_readPlaceRow_52 rfl rfl rfl ?_
        refine go_getS (pc' := 56) dX14_readPlaceRow_53 rfl gf_LandBaseModel_432 R (R.at rfl (by decide)) (by decide) rfl ?_
        obtain ⟨v111, σ112, e113, hf⟩ := bd_some hf
        refine go_invV (As := []) (pc' := 59) dX14_readPlaceRow_56 rfl cf_X14_readPlaceRow_246 rfl (R.ob (R.at rfl (by decide))) rfl rfl (Nat.le_of_ble_eq_true rfl) (c_X12_endRing R e113) (fun q114v h115 q114 => ?_)
        obtain ⟨rfl, R⟩ := q114
        exact t_X14_readPlaceRow_59 R hf
    · have hf := it c101 hf
      refine go_aload_n (i := 0) (pc' := 18) dX14_readPlaceRow_17 rfl rfl rfl ?_
      refine go_bipush (v := 44) (pc' := 20) dX14_readPlaceRow_18 rfl (by decide) ?_
      obtain ⟨v116, σ117, e118, hf⟩ := bd_some hf
      refine go_invV (As := [_]) (pc' := 23) dX14_readPlaceRow_20 rfl cf_X14_readPlaceRow_417 rfl (R.ob (R.at rfl (by decide))) rfl rfl (Nat.le_of_ble_eq_true rfl) (c_X14_isSign R e118) (fun q119v h120 q119 => ?_)
      obtain ⟨rfl, R⟩ := q119
      refine go_if_eq (pc' := 26) (tgt := 37) dX14_readPlaceRow_23 (by decide) rfl (fun c121 => ?_) (fun c121 => ?_)
      · have hf := it c121 hf
        refine go_aload_n (i := 0) (pc' := 38) dX14_readPlaceRow_37 rfl rfl rfl ?_
        refine go_bipush (v := 41) (pc' := 40) dX14_readPlaceRow_38 rfl (by decide) ?_
        obtain ⟨v122, σ123, e124, hf⟩ := bd_some hf
        refine go_invV (As := [_]) (pc' := 43) dX14_readPlaceRow_40 rfl cf_X14_readPlaceRow_435 rfl (R.ob (R.at rfl (by decide))) rfl rfl (Nat.le_of_ble_eq_true rfl) (c_X14_expect R e124) (fun q125v h126 q125 => ?_)
        obtain ⟨rfl, R⟩ := q125
        refine go_aload_n (i := 0) (pc' := 44) dX14_readPlaceRow_43 rfl rfl rfl ?_
        refine go_getS (pc' := 47) dX14_readPlaceRow_44 rfl gf_LandBaseModel_441 R (R.at rfl (by decide)) (by decide) rfl ?_
        refine go_bipush (v := 8) (pc' := 49) dX14_readPlaceRow_47 rfl (by decide) ?_
        refine go_icmp_ge (pc' := 52) (tgt := 59) dX14_readPlaceRow_49 (by decide) rfl (fun c127 => ?_) (fun c127 => ?_)
        · have hf := it c127 hf
          refine go_aload_n (i := 0) (pc' := 60) dX14_readPlaceRow_59 rfl rfl rfl ?_
          refine go_dup (pc' := 61) dX14_readPlaceRow_60 rfl rfl ?_
          refine go_getS (pc' := 64) dX14_readPlaceRow_61 rfl gf_LandBaseModel_441 R (R.at rfl (by decide)) (by decide) rfl ?_
          refine go_iconst (v := 1) (pc' := 65) dX14_readPlaceRow_64 rfl (by decide) ?_
          refine go_iadd (pc' := 66) dX14_readPlaceRow_65 rfl ?_
          obtain ⟨σ128, e129, hf⟩ := st_some hf
          refine go_putI (pc' := 69) dX14_readPlaceRow_66 rfl pf_LandBaseModel_441 R (R.at rfl (by decide)) (by decide) rfl rfl rfl (fun h130 R => ?_)
          have R := Rl.cast e129 R
          obtain rfl := Option.some.inj hf
          exact Go.ret (v := none) dX14_readPlaceRow_69 rfl ⟨trivial, rfl, R⟩
        · have hf := ie c127 hf
          refine go_aload_n (i := 0) (pc' := 53) dX14_readPlaceRow_52 rfl rfl rfl ?_
          refine go_getS (pc' := 56) dX14_readPlaceRow_53 rfl gf_LandBaseModel_432 R (R.at rfl (by decide)) (by decide) rfl ?_
          obtain ⟨v131, σ132, e133, hf⟩ := bd_some hf
          refine go_invV (As := []) (pc' := 59) dX14_readPlaceRow_56 rfl cf_X14_readPlaceRow_246 rfl (R.ob (R.at rfl (by decide))) rfl rfl (Nat.le_of_ble_eq_true rfl) (c_X12_endRing R e133) (fun q134v h135 q134 => ?_)
          obtain ⟨rfl, R⟩ := q134
          exact t_X14_readPlaceRow_59 R hf
      · have hf := ie c121 hf
        refine go_aload_n (i := 0) (pc' := 27) dX14_readPlaceRow_26 rfl rfl rfl ?_
        obtain ⟨v136, σ137, e138, hf⟩ := bd_some hf
        refine go_invV (As := []) (pc' := 30) dX14_readPlaceRow_27 rfl cf_X14_readPlaceRow_423 rfl (R.ob (R.at rfl (by decide))) rfl rfl (Nat.le_of_ble_eq_true rfl) (c_X14_next R e138) (fun q139v h140 q139 => ?_)
        obtain ⟨rfl, R⟩ := q139
        refine go_aload_n (i := 0) (pc' := 31) dX14_readPlaceRow_30 rfl rfl rfl ?_
        obtain ⟨v141, σ142, e143, hf⟩ := bd_some hf
        refine go_invV (As := []) (pc' := 34) dX14_readPlaceRow_31 rfl cf_X14_readPlaceRow_438 rfl (R.ob (R.at rfl (by decide))) rfl rfl (Nat.le_of_ble_eq_true rfl) (c_X14_readPlace R e143) (fun q144v h145 q144 => ?_)
        obtain ⟨rfl, R⟩ := q144
        refine go_goto (pc' := 0) (tgt := 10) dX14_readPlaceRow_34 (by decide) ?_
        exact ih R hf
def f_X14_readPlaceRow (n : Nat)  (σ : xσ) : Option (Unit × xσ) := bd (f_X14_expect n 40 σ) (fun v101 σ102 => bd (f_X14_readPlace n σ102) (fun v106 σ107 => l_X14_readPlaceRow_10 n xFU σ107))
set_option maxRecDepth 100000 in
set_option maxHeartbeats 4000000 in
theorem c_X14_readPlaceRow {G : xG} {n : Nat} {σ : xσ} {h : xH}  {v1 : Unit} {σ1 : xσ} (R : Rl n σ h) (hf : f_X14_readPlaceRow n σ = some (v1, σ1)) : Ca G mX14_readPlaceRow [.ref 233] h (fun v h' => v = none ∧ Rl n σ1 h') := by
  refine Ca.of rfl (Nat.le_of_ble_eq_true rfl) ?_
  generalize hr : (v1, σ1) = r at hf
  suffices q : Go G mX14_readPlaceRow 0 (xent (xMl mX14_readPlaceRow) [.ref 233]) [] h (fun v h' => xRok (xRt mX14_readPlaceRow) v ∧ v = none ∧ Rl n r.2 h') by
    subst hr
    exact q
  clear hr
  rw [f_X14_readPlaceRow] at hf
  refine go_aload_n (i := 0) (pc' := 1) dX14_readPlaceRow_0 rfl rfl rfl ?_
  refine go_bipush (v := 40) (pc' := 3) dX14_readPlaceRow_1 rfl (by decide) ?_
  obtain ⟨v101, σ102, e103, hf⟩ := bd_some hf
  refine go_invV (As := [_]) (pc' := 6) dX14_readPlaceRow_3 rfl cf_X14_readPlaceRow_435 rfl (R.ob (R.at rfl (by decide))) rfl rfl (Nat.le_of_ble_eq_true rfl) (c_X14_expect R e103) (fun q104v h105 q104 => ?_)
  obtain ⟨rfl, R⟩ := q104
  refine go_aload_n (i := 0) (pc' := 7) dX14_readPlaceRow_6 rfl rfl rfl ?_
  obtain ⟨v106, σ107, e108, hf⟩ := bd_some hf
  refine go_invV (As := []) (pc' := 10) dX14_readPlaceRow_7 rfl cf_X14_readPlaceRow_438 rfl (R.ob (R.at rfl (by decide))) rfl rfl (Nat.le_of_ble_eq_true rfl) (c_X14_readPlace R e108) (fun q109v h110 q109 => ?_)
  obtain ⟨rfl, R⟩ := q109
  exact t_X14_readPlaceRow_10 xFU R hf
def l_X14_readShape_141 (n : Nat) : Nat → xσ → Option (Unit × xσ)
  | 0, _ => none
  | f + 1, σ => if (sI σ 233 48) = 0 then bd (f_X14_isSign n 44 σ) (fun v107 σ108 => if v107 = 0 then bd (f_X14_expect n 41 σ108) (fun v113 σ114 => some ((), σ114)) else bd (f_X14_next n σ108) (fun v118 σ119 => bd (f_X14_readPlaceRow n σ119) (fun v123 σ124 => (l_X14_readShape_141 n f) σ124))) else bd (f_X14_expect n 41 σ) (fun v102 σ103 => some ((), σ103))
set_option maxRecDepth 100000 in
set_option maxHeartbeats 4000000 in
theorem t_X14_readShape_141 {G : xG} {n : Nat} : ∀ (f : Nat) {σ : xσ} {h : xH} {r : Unit × xσ} {d1 : Option Value} {d2 : Option Value}, Rl n σ h → l_X14_readShape_141 n f σ = some r → Go G mX14_readShape 141 [some (.ref 233), d1, d2] [] h (fun v h' => xRok (xRt mX14_readShape) v ∧ v = none ∧ Rl n r.2 h') := by
  intro f
  induction f with
  | zero =>
    intros
    rename _ = some _ => hf
    rw [l_X14_readShape_141] at hf
    cases hf
  | succ f ih =>
    intro  σ h r d1 d2 R hf
    rw [l_X14_readShape_141] at hf
    refine go_aload_n (i := 0) (pc' := 142) dX14_readShape_141 rfl rfl rfl ?_
    refine go_getS (pc' := 145) dX14_readShape_142 rfl gf_LandBaseModel_365 R (R.at rfl (by decide)) (by decide) rfl ?_
    refine go_if_ne (pc' := 148) (tgt := 168) dX14_readShape_145 (by decide) rfl (fun c101 => ?_) (fun c101 => ?_)
    · have hf := ie c101 hf
      refine go_aload_n (i := 0) (pc' := 169) dX14_readShape_168 rfl rfl rfl ?_
      refine go_bipush (v := 41) (pc' := 171) dX14_readShape_169 rfl (by decide) ?_
      obtain ⟨v102, σ103, e104, hf⟩ := bd_some hf
      refine go_invV (As := [_]) (pc' := 174) dX14_readShape_171 rfl cf_X14_readShape_435 rfl (R.ob (R.at rfl (by decide))) rfl rfl (Nat.le_of_ble_eq_true rfl) (c_X14_expect R e104) (fun q105v h106 q105 => ?_)
      obtain ⟨rfl, R⟩ := q105
      obtain rfl := Option.some.inj hf
      exact Go.ret (v := none) dX14_readShape_174 rfl ⟨trivial, rfl, R⟩
    · have hf := it c101 hf
      refine go_aload_n (i := 0) (pc' := 149) dX14_readShape_148 rfl rfl rfl ?_
      refine go_bipush (v := 44) (pc' := 151) dX14_readShape_149 rfl (by decide) ?_
      obtain ⟨v107, σ108, e109, hf⟩ := bd_some hf
      refine go_invV (As := [_]) (pc' := 154) dX14_readShape_151 rfl cf_X14_readShape_417 rfl (R.ob (R.at rfl (by decide))) rfl rfl (Nat.le_of_ble_eq_true rfl) (c_X14_isSign R e109) (fun q110v h111 q110 => ?_)
      obtain ⟨rfl, R⟩ := q110
      refine go_if_eq (pc' := 157) (tgt := 168) dX14_readShape_154 (by decide) rfl (fun c112 => ?_) (fun c112 => ?_)
      · have hf := it c112 hf
        refine go_aload_n (i := 0) (pc' := 169) dX14_readShape_168 rfl rfl rfl ?_
        refine go_bipush (v := 41) (pc' := 171) dX14_readShape_169 rfl (by decide) ?_
        obtain ⟨v113, σ114, e115, hf⟩ := bd_some hf
        refine go_invV (As := [_]) (pc' := 174) dX14_readShape_171 rfl cf_X14_readShape_435 rfl (R.ob (R.at rfl (by decide))) rfl rfl (Nat.le_of_ble_eq_true rfl) (c_X14_expect R e115) (fun q116v h117 q116 => ?_)
        obtain ⟨rfl, R⟩ := q116
        obtain rfl := Option.some.inj hf
        exact Go.ret (v := none) dX14_readShape_174 rfl ⟨trivial, rfl, R⟩
      · have hf := ie c112 hf
        refine go_aload_n (i := 0) (pc' := 158) dX14_readShape_157 rfl rfl rfl ?_
        obtain ⟨v118, σ119, e120, hf⟩ := bd_some hf
        refine go_invV (As := []) (pc' := 161) dX14_readShape_158 rfl cf_X14_readShape_423 rfl (R.ob (R.at rfl (by decide))) rfl rfl (Nat.le_of_ble_eq_true rfl) (c_X14_next R e120) (fun q121v h122 q121 => ?_)
        obtain ⟨rfl, R⟩ := q121
        refine go_aload_n (i := 0) (pc' := 162) dX14_readShape_161 rfl rfl rfl ?_
        obtain ⟨v123, σ124, e125, hf⟩ := bd_some hf
        refine go_invV (As := []) (pc' := 165) dX14_readShape_162 rfl cf_X14_readShape_454 rfl (R.ob (R.at rfl (by decide))) rfl rfl (Nat.le_of_ble_eq_true rfl) (c_X14_readPlaceRow R e125) (fun q126v h127 q126 => ?_)
        obtain ⟨rfl, R⟩ := q126
        refine go_goto (pc' := 0) (tgt := 141) dX14_readShape_165 (by decide) ?_
        exact ih R hf
def b_X14_readShape_78 (n : Nat) (x1 : Int32) (x2 : Int32) (xs0 : Int32) (σ : xσ) : Option (Unit × xσ) := bd (f_X12_begin n 1865 xs0 σ) (fun v101 σ102 => bd (f_X14_next n σ102) (fun v106 σ107 => if x1 = 0 then if x2 = 0 then bd (f_X14_expect n 40 σ107) (fun v113 σ114 => bd (f_X14_readPlaceRow n σ114) (fun v118 σ119 => l_X14_readShape_141 n xFU σ119)) else bd (f_X14_readPlaceRow n σ107) (fun v123 σ124 => some ((), σ124)) else bd (f_X14_expect n 40 σ107) (fun v128 σ129 => bd (f_X14_readPlace n σ129) (fun v133 σ134 => bd (f_X14_expect n 41 σ134) (fun v138 σ139 => bd (f_X12_endRing n 1865 σ139) (fun v143 σ144 => st (wI σ144 233 51 1) (fun σ148 => some ((), σ148))))))))
set_option maxRecDepth 100000 in
set_option maxHeartbeats 4000000 in
theorem t_X14_readShape_78 {G : xG} {n : Nat} {x1 : Int32} {x2 : Int32} {xs0 : Int32} {σ : xσ} {h : xH} {r : Unit × xσ} : Rl n σ h → b_X14_readShape_78 n x1 x2 xs0 σ = some r → Go G mX14_readShape 78 [some (.ref 233), some (.int x1), some (.int x2)] [.int xs0, .ref 1865] h (fun v h' => xRok (xRt mX14_readShape) v ∧ v = none ∧ Rl n r.2 h') := by
  intro R hf
  rw [b_X14_readShape_78] at hf
  obtain ⟨v101, σ102, e103, hf⟩ := bd_some hf
  refine go_invV (As := [_]) (pc' := 81) dX14_readShape_78 rfl cf_X14_readShape_238 rfl (R.ob (R.at rfl (by decide))) rfl rfl (Nat.le_of_ble_eq_true rfl) (c_X12_begin R e103) (fun q104v h105 q104 => ?_)
  obtain ⟨rfl, R⟩ := q104
  refine go_aload_n (i := 0) (pc' := 82) dX14_readShape_81 rfl rfl rfl ?_
  obtain ⟨v106, σ107, e108, hf⟩ := bd_some hf
  refine go_invV (As := []) (pc' := 85) dX14_readShape_82 rfl cf_X14_readShape_423 rfl (R.ob (R.at rfl (by decide))) rfl rfl (Nat.le_of_ble_eq_true rfl) (c_X14_next R e108) (fun q109v h110 q109 => ?_)
  obtain ⟨rfl, R⟩ := q109
  refine go_iload_n (i := 1) (pc' := 86) dX14_readShape_85 rfl rfl rfl ?_
  refine go_if_eq (pc' := 89) (tgt := 120) dX14_readShape_86 (by decide) rfl (fun c111 => ?_) (fun c111 => ?_)
  · have hf := it c111 hf
    refine go_iload_n (i := 2) (pc' := 121) dX14_readShape_120 rfl rfl rfl ?_
    refine go_if_eq (pc' := 124) (tgt := 131) dX14_readShape_121 (by decide) rfl (fun c112 => ?_) (fun c112 => ?_)
    · have hf := it c112 hf
      refine go_aload_n (i := 0) (pc' := 132) dX14_readShape_131 rfl rfl rfl ?_
      refine go_bipush (v := 40) (pc' := 134) dX14_readShape_132 rfl (by decide) ?_
      obtain ⟨v113, σ114, e115, hf⟩ := bd_some hf
      refine go_invV (As := [_]) (pc' := 137) dX14_readShape_134 rfl cf_X14_readShape_435 rfl (R.ob (R.at rfl (by decide))) rfl rfl (Nat.le_of_ble_eq_true rfl) (c_X14_expect R e115) (fun q116v h117 q116 => ?_)
      obtain ⟨rfl, R⟩ := q116
      refine go_aload_n (i := 0) (pc' := 138) dX14_readShape_137 rfl rfl rfl ?_
      obtain ⟨v118, σ119, e120, hf⟩ := bd_some hf
      refine go_invV (As := []) (pc' := 141) dX14_readShape_138 rfl cf_X14_readShape_454 rfl (R.ob (R.at rfl (by decide))) rfl rfl (Nat.le_of_ble_eq_true rfl) (c_X14_readPlaceRow R e120) (fun q121v h122 q121 => ?_)
      obtain ⟨rfl, R⟩ := q121
      exact t_X14_readShape_141 xFU R hf
    · have hf := ie c112 hf
      refine go_aload_n (i := 0) (pc' := 125) dX14_readShape_124 rfl rfl rfl ?_
      obtain ⟨v123, σ124, e125, hf⟩ := bd_some hf
      refine go_invV (As := []) (pc' := 128) dX14_readShape_125 rfl cf_X14_readShape_454 rfl (R.ob (R.at rfl (by decide))) rfl rfl (Nat.le_of_ble_eq_true rfl) (c_X14_readPlaceRow R e125) (fun q126v h127 q126 => ?_)
      obtain ⟨rfl, R⟩ := q126
      refine go_goto (pc' := 0) (tgt := 174) dX14_readShape_128 (by decide) ?_
      obtain rfl := Option.some.inj hf
      exact Go.ret (v := none) dX14_readShape_174 rfl ⟨trivial, rfl, R⟩
  · have hf := ie c111 hf
    refine go_aload_n (i := 0) (pc' := 90) dX14_readShape_89 rfl rfl rfl ?_
    refine go_bipush (v := 40) (pc' := 92) dX14_readShape_90 rfl (by decide) ?_
    obtain ⟨v128, σ129, e130, hf⟩ := bd_some hf
    refine go_invV (As := [_]) (pc' := 95) dX14_readShape_92 rfl cf_X14_readShape_435 rfl (R.ob (R.at rfl (by decide))) rfl rfl (Nat.le_of_ble_eq_true rfl) (c_X14_expect R e130) (fun q131v h132 q131 => ?_)
    obtain ⟨rfl, R⟩ := q131
    refine go_aload_n (i := 0) (pc' := 96) dX14_readShape_95 rfl rfl rfl ?_
    obtain ⟨v133, σ134, e135, hf⟩ := bd_some hf
    refine go_invV (As := []) (pc' := 99) dX14_readShape_96 rfl cf_X14_readShape_438 rfl (R.ob (R.at rfl (by decide))) rfl rfl (Nat.le_of_ble_eq_true rfl) (c_X14_readPlace R e135) (fun q136v h137 q136 => ?_)
    obtain ⟨rfl, R⟩ := q136
    refine go_aload_n (i := 0) (pc' := 100) dX14_readShape_99 rfl rfl rfl ?_
    refine go_bipush (v := 41) (pc' := 102) dX14_readShape_100 rfl (by decide) ?_
    obtain ⟨v138, σ139, e140, hf⟩ := bd_some hf
    refine go_invV (As := [_]) (pc' := 105) dX14_readShape_102 rfl cf_X14_readShape_435 rfl (R.ob (R.at rfl (by decide))) rfl rfl (Nat.le_of_ble_eq_true rfl) (c_X14_expect R e140) (fun q141v h142 q141 => ?_)
    obtain ⟨rfl, R⟩ := q141
    refine go_aload_n (i := 0) (pc' := 106) dX14_readShape_105 rfl rfl rfl ?_
    refine go_getS (pc' := 109) dX14_readShape_106 rfl gf_LandBaseModel_432 R (R.at rfl (by decide)) (by decide) rfl ?_
    obtain ⟨v143, σ144, e145, hf⟩ := bd_some hf
    refine go_invV (As := []) (pc' := 112) dX14_readShape_109 rfl cf_X14_readShape_246 rfl (R.ob (R.at rfl (by decide))) rfl rfl (Nat.le_of_ble_eq_true rfl) (c_X12_endRing R e145) (fun q146v h147 q146 => ?_)
    obtain ⟨rfl, R⟩ := q146
    refine go_aload_n (i := 0) (pc' := 113) dX14_readShape_112 rfl rfl rfl ?_
    refine go_iconst (v := 1) (pc' := 114) dX14_readShape_113 rfl (by decide) ?_
    obtain ⟨σ148, e149, hf⟩ := st_some hf
    refine go_putI (pc' := 117) dX14_readShape_114 rfl pf_LandBaseModel_441 R (R.at rfl (by decide)) (by decide) rfl rfl rfl (fun h150 R => ?_)
    have R := Rl.cast e149 R
    refine go_goto (pc' := 0) (tgt := 174) dX14_readShape_117 (by decide) ?_
    obtain rfl := Option.some.inj hf
    exact Go.ret (v := none) dX14_readShape_174 rfl ⟨trivial, rfl, R⟩
def f_X14_readShape (n : Nat)  (σ : xσ) : Option (Unit × xσ) := if (sI σ 233 48) = 0 then st (wI σ 233 50 0) (fun σ102 => st (wI σ102 233 51 0) (fun σ105 => bd (f_X14_isWord n 5 σ105) (fun v108 σ109 => bd (f_X14_isWord n 6 σ109) (fun v113 σ114 => if v108 = 0 then if v113 = 0 then bd (f_X14_isWord n 7 σ114) (fun v124 σ125 => if v124 = 0 then bd (f_X14_refuse n σ125) (fun v132 σ133 => some ((), σ133)) else if v108 = 0 then if v113 = 0 then b_X14_readShape_78 n v108 v113 2 σ125 else b_X14_readShape_78 n v108 v113 1 σ125 else b_X14_readShape_78 n v108 v113 0 σ125) else if v108 = 0 then if v113 = 0 then b_X14_readShape_78 n v108 v113 2 σ114 else b_X14_readShape_78 n v108 v113 1 σ114 else b_X14_readShape_78 n v108 v113 0 σ114 else if v108 = 0 then if v113 = 0 then b_X14_readShape_78 n v108 v113 2 σ114 else b_X14_readShape_78 n v108 v113 1 σ114 else b_X14_readShape_78 n v108 v113 0 σ114)))) else some ((), σ)
set_option maxRecDepth 100000 in
set_option maxHeartbeats 4000000 in
theorem c_X14_readShape {G : xG} {n : Nat} {σ : xσ} {h : xH}  {v1 : Unit} {σ1 : xσ} (R : Rl n σ h) (hf : f_X14_readShape n σ = some (v1, σ1)) : Ca G mX14_readShape [.ref 233] h (fun v h' => v = none ∧ Rl n σ1 h') := by
  refine Ca.of rfl (Nat.le_of_ble_eq_true rfl) ?_
  generalize hr : (v1, σ1) = r at hf
  suffices q : Go G mX14_readShape 0 (xent (xMl mX14_readShape) [.ref 233]) [] h (fun v h' => xRok (xRt mX14_readShape) v ∧ v = none ∧ Rl n r.2 h') by
    subst hr
    exact q
  clear hr
  rw [f_X14_readShape] at hf
  refine go_aload_n (i := 0) (pc' := 1) dX14_readShape_0 rfl rfl rfl ?_
  refine go_getS (pc' := 4) dX14_readShape_1 rfl gf_LandBaseModel_365 R (R.at rfl (by decide)) (by decide) rfl ?_
  refine go_if_eq (pc' := 7) (tgt := 8) dX14_readShape_4 (by decide) rfl (fun c101 => ?_) (fun c101 => ?_)
  · have hf := it c101 hf
    refine go_aload_n (i := 0) (pc' := 9) dX14_readShape_8 rfl rfl rfl ?_
    refine go_iconst (v := 0) (pc' := 10) dX14_readShape_9 rfl (by decide) ?_
    obtain ⟨σ102, e103, hf⟩ := st_some hf
    refine go_putI (pc' := 13) dX14_readShape_10 rfl pf_LandBaseModel_429 R (R.at rfl (by decide)) (by decide) rfl rfl rfl (fun h104 R => ?_)
    have R := Rl.cast e103 R
    refine go_aload_n (i := 0) (pc' := 14) dX14_readShape_13 rfl rfl rfl ?_
    refine go_iconst (v := 0) (pc' := 15) dX14_readShape_14 rfl (by decide) ?_
    obtain ⟨σ105, e106, hf⟩ := st_some hf
    refine go_putI (pc' := 18) dX14_readShape_15 rfl pf_LandBaseModel_441 R (R.at rfl (by decide)) (by decide) rfl rfl rfl (fun h107 R => ?_)
    have R := Rl.cast e106 R
    refine go_aload_n (i := 0) (pc' := 19) dX14_readShape_18 rfl rfl rfl ?_
    refine go_ldcSw (j := 5) (pc' := 22) dX14_readShape_19 rfl rfl ?_
    obtain ⟨v108, σ109, e110, hf⟩ := bd_some hf
    refine go_invV (As := [_]) (pc' := 25) dX14_readShape_22 rfl cf_X14_readShape_446 rfl (R.ob (R.at rfl (by decide))) rfl rfl (Nat.le_of_ble_eq_true rfl) (c_X14_isWord R e110) (fun q111v h112 q111 => ?_)
    obtain ⟨rfl, R⟩ := q111
    refine go_istore_nE rfl (i := 1) (pc' := 26) dX14_readShape_25 rfl rfl (by decide) rfl ?_
    refine go_aload_n (i := 0) (pc' := 27) dX14_readShape_26 rfl rfl rfl ?_
    refine go_ldcSw (j := 6) (pc' := 30) dX14_readShape_27 rfl rfl ?_
    obtain ⟨v113, σ114, e115, hf⟩ := bd_some hf
    refine go_invV (As := [_]) (pc' := 33) dX14_readShape_30 rfl cf_X14_readShape_446 rfl (R.ob (R.at rfl (by decide))) rfl rfl (Nat.le_of_ble_eq_true rfl) (c_X14_isWord R e115) (fun q116v h117 q116 => ?_)
    obtain ⟨rfl, R⟩ := q116
    refine go_istore_nE rfl (i := 2) (pc' := 34) dX14_readShape_33 rfl rfl (by decide) rfl ?_
    refine go_iload_n (i := 1) (pc' := 35) dX14_readShape_34 rfl rfl rfl ?_
    refine go_if_ne (pc' := 38) (tgt := 57) dX14_readShape_35 (by decide) rfl (fun c118 => ?_) (fun c118 => ?_)
    · have hf := ie c118 hf
      refine go_aload_n (i := 0) (pc' := 58) dX14_readShape_57 rfl rfl rfl ?_
      refine go_getS (pc' := 61) dX14_readShape_58 rfl gf_LandBaseModel_432 R (R.at rfl (by decide)) (by decide) rfl ?_
      refine go_iload_n (i := 1) (pc' := 62) dX14_readShape_61 rfl rfl rfl ?_
      refine go_if_eq (pc' := 65) (tgt := 69) dX14_readShape_62 (by decide) rfl (fun c119 => ?_) (fun c119 => ?_)
      · have hf := it c119 hf
        refine go_iload_n (i := 2) (pc' := 70) dX14_readShape_69 rfl rfl rfl ?_
        refine go_if_eq (pc' := 73) (tgt := 77) dX14_readShape_70 (by decide) rfl (fun c120 => ?_) (fun c120 => ?_)
        · have hf := it c120 hf
          refine go_iconst (v := 2) (pc' := 78) dX14_readShape_77 rfl (by decide) ?_
          exact t_X14_readShape_78 R hf
        · have hf := ie c120 hf
          refine go_iconst (v := 1) (pc' := 74) dX14_readShape_73 rfl (by decide) ?_
          refine go_goto (pc' := 0) (tgt := 78) dX14_readShape_74 (by decide) ?_
          exact t_X14_readShape_78 R hf
      · have hf := ie c119 hf
        refine go_iconst (v := 0) (pc' := 66) dX14_readShape_65 rfl (by decide) ?_
        refine go_goto (pc' := 0) (tgt := 78) dX14_readShape_66 (by decide) ?_
        exact t_X14_readShape_78 R hf
    · have hf := it c118 hf
      refine go_iload_n (i := 2) (pc' := 39) dX14_readShape_38 rfl rfl rfl ?_
      refine go_if_ne (pc' := 42) (tgt := 57) dX14_readShape_39 (by decide) rfl (fun c121 => ?_) (fun c121 => ?_)
      · have hf := ie c121 hf
        refine go_aload_n (i := 0) (pc' := 58) dX14_readShape_57 rfl rfl rfl ?_
        refine go_getS (pc' := 61) dX14_readShape_58 rfl gf_LandBaseModel_432 R (R.at rfl (by decide)) (by decide) rfl ?_
        refine go_iload_n (i := 1) (pc' := 62) dX14_readShape_61 rfl rfl rfl ?_
        refine go_if_eq (pc' := 65) (tgt := 69) dX14_readShape_62 (by decide) rfl (fun c122 => ?_) (fun c122 => ?_)
        · have hf := it c122 hf
          refine go_iload_n (i := 2) (pc' := 70) dX14_readShape_69 rfl rfl rfl ?_
          refine go_if_eq (pc' := 73) (tgt := 77) dX14_readShape_70 (by decide) rfl (fun c123 => ?_) (fun c123 => ?_)
          · have hf := it c123 hf
            refine go_iconst (v := 2) (pc' := 78) dX14_readShape_77 rfl (by decide) ?_
            exact t_X14_readShape_78 R hf
          · have hf := ie c123 hf
            refine go_iconst (v := 1) (pc' := 74) dX14_readShape_73 rfl (by decide) ?_
            refine go_goto (pc' := 0) (tgt := 78) dX14_readShape_74 (by decide) ?_
            exact t_X14_readShape_78 R hf
        · have hf := ie c122 hf
          refine go_iconst (v := 0) (pc' := 66) dX14_readShape_65 rfl (by decide) ?_
          refine go_goto (pc' := 0) (tgt := 78) dX14_readShape_66 (by decide) ?_
          exact t_X14_readShape_78 R hf
      · have hf := it c121 hf
        refine go_aload_n (i := 0) (pc' := 43) dX14_readShape_42 rfl rfl rfl ?_
        refine go_ldcSw (j := 7) (pc' := 46) dX14_readShape_43 rfl rfl ?_
        obtain ⟨v124, σ125, e126, hf⟩ := bd_some hf
        refine go_invV (As := [_]) (pc' := 49) dX14_readShape_46 rfl cf_X14_readShape_446 rfl (R.ob (R.at rfl (by decide))) rfl rfl (Nat.le_of_ble_eq_true rfl) (c_X14_isWord R e126) (fun q127v h128 q127 => ?_)
        obtain ⟨rfl, R⟩ := q127
        refine go_if_ne (pc' := 52) (tgt := 57) dX14_readShape_49 (by decide) rfl (fun c129 => ?_) (fun c129 => ?_)
        · have hf := ie c129 hf
          refine go_aload_n (i := 0) (pc' := 58) dX14_readShape_57 rfl rfl rfl ?_
          refine go_getS (pc' := 61) dX14_readShape_58 rfl gf_LandBaseModel_432 R (R.at rfl (by decide)) (by decide) rfl ?_
          refine go_iload_n (i := 1) (pc' := 62) dX14_readShape_61 rfl rfl rfl ?_
          refine go_if_eq (pc' := 65) (tgt := 69) dX14_readShape_62 (by decide) rfl (fun c130 => ?_) (fun c130 => ?_)
          · have hf := it c130 hf
            refine go_iload_n (i := 2) (pc' := 70) dX14_readShape_69 rfl rfl rfl ?_
            refine go_if_eq (pc' := 73) (tgt := 77) dX14_readShape_70 (by decide) rfl (fun c131 => ?_) (fun c131 => ?_)
            · have hf := it c131 hf
              refine go_iconst (v := 2) (pc' := 78) dX14_readShape_77 rfl (by decide) ?_
              exact t_X14_readShape_78 R hf
            · have hf := ie c131 hf
              refine go_iconst (v := 1) (pc' := 74) dX14_readShape_73 rfl (by decide) ?_
              refine go_goto (pc' := 0) (tgt := 78) dX14_readShape_74 (by decide) ?_
              exact t_X14_readShape_78 R hf
          · have hf := ie c130 hf
            refine go_iconst (v := 0) (pc' := 66) dX14_readShape_65 rfl (by decide) ?_
            refine go_goto (pc' := 0) (tgt := 78) dX14_readShape_66 (by decide) ?_
            exact t_X14_readShape_78 R hf
        · have hf := it c129 hf
          refine go_aload_n (i := 0) (pc' := 53) dX14_readShape_52 rfl rfl rfl ?_
          obtain ⟨v132, σ133, e134, hf⟩ := bd_some hf
          refine go_invV (As := []) (pc' := 56) dX14_readShape_53 rfl cf_X14_readShape_420 rfl (R.ob (R.at rfl (by decide))) rfl rfl (Nat.le_of_ble_eq_true rfl) (c_X14_refuse R e134) (fun q135v h136 q135 => ?_)
          obtain ⟨rfl, R⟩ := q135
          obtain rfl := Option.some.inj hf
          exact Go.ret (v := none) dX14_readShape_56 rfl ⟨trivial, rfl, R⟩
  · have hf := ie c101 hf
    obtain rfl := Option.some.inj hf
    exact Go.ret (v := none) dX14_readShape_7 rfl ⟨trivial, rfl, R⟩
def f_X14_isTooGreat (n : Nat)  (σ : xσ) : Option (Int32 × xσ) := if 40 < (sI σ 233 50) then some (1, σ) else if (sI σ 233 51) ≤ 8 then some (0, σ) else some (1, σ)
set_option maxRecDepth 100000 in
set_option maxHeartbeats 4000000 in
theorem c_X14_isTooGreat {G : xG} {n : Nat} {σ : xσ} {h : xH}  {v1 : Int32} {σ1 : xσ} (R : Rl n σ h) (hf : f_X14_isTooGreat n σ = some (v1, σ1)) : Ca G mX14_isTooGreat [.ref 233] h (fun v h' => v = some (.int v1) ∧ Rl n σ1 h') := by
  refine Ca.of rfl (Nat.le_of_ble_eq_true rfl) ?_
  generalize hr : (v1, σ1) = r at hf
  suffices q : Go G mX14_isTooGreat 0 (xent (xMl mX14_isTooGreat) [.ref 233]) [] h (fun v h' => xRok (xRt mX14_isTooGreat) v ∧ v = some (.int r.1) ∧ Rl n r.2 h') by
    subst hr
    exact q
  clear hr
  rw [f_X14_isTooGreat] at hf
  refine go_aload_n (i := 0) (pc' := 1) dX14_isTooGreat_0 rfl rfl rfl ?_
  refine go_getS (pc' := 4) dX14_isTooGreat_1 rfl gf_LandBaseModel_429 R (R.at rfl (by decide)) (by decide) rfl ?_
  refine go_bipush (v := 40) (pc' := 6) dX14_isTooGreat_4 rfl (by decide) ?_
  refine go_icmp_gt (pc' := 9) (tgt := 18) dX14_isTooGreat_6 (by decide) rfl (fun c101 => ?_) (fun c101 => ?_)
  · have hf := it c101 hf
    refine go_iconst (v := 1) (pc' := 19) dX14_isTooGreat_18 rfl (by decide) ?_
    refine go_goto (pc' := 0) (tgt := 23) dX14_isTooGreat_19 (by decide) ?_
    obtain rfl := Option.some.inj hf
    exact Go.ret (v := some (.int _)) dX14_isTooGreat_23 ⟨_, rfl⟩ ⟨rfl, rfl, R⟩
  · have hf := ie c101 hf
    refine go_aload_n (i := 0) (pc' := 10) dX14_isTooGreat_9 rfl rfl rfl ?_
    refine go_getS (pc' := 13) dX14_isTooGreat_10 rfl gf_LandBaseModel_441 R (R.at rfl (by decide)) (by decide) rfl ?_
    refine go_bipush (v := 8) (pc' := 15) dX14_isTooGreat_13 rfl (by decide) ?_
    refine go_icmp_le (pc' := 18) (tgt := 22) dX14_isTooGreat_15 (by decide) rfl (fun c102 => ?_) (fun c102 => ?_)
    · have hf := it c102 hf
      refine go_iconst (v := 0) (pc' := 23) dX14_isTooGreat_22 rfl (by decide) ?_
      obtain rfl := Option.some.inj hf
      exact Go.ret (v := some (.int _)) dX14_isTooGreat_23 ⟨_, rfl⟩ ⟨rfl, rfl, R⟩
    · have hf := ie c102 hf
      refine go_iconst (v := 1) (pc' := 19) dX14_isTooGreat_18 rfl (by decide) ?_
      refine go_goto (pc' := 0) (tgt := 23) dX14_isTooGreat_19 (by decide) ?_
      obtain rfl := Option.some.inj hf
      exact Go.ret (v := some (.int _)) dX14_isTooGreat_23 ⟨_, rfl⟩ ⟨rfl, rfl, R⟩
def l_X14_readInts_2 (n : Nat) : Nat → Int32 → Int32 → xσ → Option (Unit × xσ)
  | 0, _, _, _ => none
  | f + 1, x1, x2, σ => if x1 ≤ x2 then some ((), σ) else bd (f_X14_readInt n σ) (fun v102 σ103 => gd (inb x2 8) (st (wI σ103 1869 x2.toNatClampNeg v102) (fun σ108 => (l_X14_readInts_2 n f) x1 (x2 + 1) σ108)))
set_option maxRecDepth 100000 in
set_option maxHeartbeats 4000000 in
theorem t_X14_readInts_2 {G : xG} {n : Nat} : ∀ (f : Nat) {x1 : Int32} {x2 : Int32} {σ : xσ} {h : xH} {r : Unit × xσ}, Rl n σ h → l_X14_readInts_2 n f x1 x2 σ = some r → Go G mX14_readInts 2 [some (.ref 233), some (.int x1), some (.int x2)] [] h (fun v h' => xRok (xRt mX14_readInts) v ∧ v = none ∧ Rl n r.2 h') := by
  intro f
  induction f with
  | zero =>
    intros
    rename _ = some _ => hf
    rw [l_X14_readInts_2] at hf
    cases hf
  | succ f ih =>
    intro x1 x2 σ h r  R hf
    rw [l_X14_readInts_2] at hf
    refine go_iload_n (i := 2) (pc' := 3) dX14_readInts_2 rfl rfl rfl ?_
    refine go_iload_n (i := 1) (pc' := 4) dX14_readInts_3 rfl rfl rfl ?_
    refine go_icmp_ge (pc' := 7) (tgt := 23) dX14_readInts_4 (by decide) rfl (fun c101 => ?_) (fun c101 => ?_)
    · have hf := it c101 hf
      obtain rfl := Option.some.inj hf
      exact Go.ret (v := none) dX14_readInts_23 rfl ⟨trivial, rfl, R⟩
    · have hf := ie c101 hf
      refine go_aload_n (i := 0) (pc' := 8) dX14_readInts_7 rfl rfl rfl ?_
      refine go_getS (pc' := 11) dX14_readInts_8 rfl gf_LandBaseModel_471 R (R.at rfl (by decide)) (by decide) rfl ?_
      refine go_iload_n (i := 2) (pc' := 12) dX14_readInts_11 rfl rfl rfl ?_
      refine go_aload_n (i := 0) (pc' := 13) dX14_readInts_12 rfl rfl rfl ?_
      obtain ⟨v102, σ103, e104, hf⟩ := bd_some hf
      refine go_invV (As := []) (pc' := 16) dX14_readInts_13 rfl cf_X14_readInts_426 rfl (R.ob (R.at rfl (by decide))) rfl rfl (Nat.le_of_ble_eq_true rfl) (c_X14_readInt R e104) (fun q105v h106 q105 => ?_)
      obtain ⟨rfl, R⟩ := q105
      obtain ⟨g107, hf⟩ := gd_some hf
      obtain ⟨σ108, e109, hf⟩ := st_some hf
      refine go_iastoreS (pc' := 17) dX14_readInts_16 rfl R (R.aa rfl (by decide)) g107 (fun h110 R => ?_)
      have R := Rl.cast e109 R
      refine go_iincC (kk := 1) (pc' := 20) dX14_readInts_17 rfl rfl (by decide) (by decide) rfl ?_
      refine go_goto (pc' := 0) (tgt := 2) dX14_readInts_20 (by decide) ?_
      exact ih R hf
def f_X14_readInts (n : Nat) (x1 : Int32) (σ : xσ) : Option (Unit × xσ) := l_X14_readInts_2 n xFU x1 0 σ
set_option maxRecDepth 100000 in
set_option maxHeartbeats 4000000 in
theorem c_X14_readInts {G : xG} {n : Nat} {σ : xσ} {h : xH} {x1 : Int32} {v1 : Unit} {σ1 : xσ} (R : Rl n σ h) (hf : f_X14_readInts n x1 σ = some (v1, σ1)) : Ca G mX14_readInts [.ref 233, .int x1] h (fun v h' => v = none ∧ Rl n σ1 h') := by
  refine Ca.of rfl (Nat.le_of_ble_eq_true rfl) ?_
  generalize hr : (v1, σ1) = r at hf
  suffices q : Go G mX14_readInts 0 (xent (xMl mX14_readInts) [.ref 233, .int x1]) [] h (fun v h' => xRok (xRt mX14_readInts) v ∧ v = none ∧ Rl n r.2 h') by
    subst hr
    exact q
  clear hr
  rw [f_X14_readInts] at hf
  refine go_iconst (v := 0) (pc' := 1) dX14_readInts_0 rfl (by decide) ?_
  refine go_istore_nE rfl (i := 2) (pc' := 2) dX14_readInts_1 rfl rfl (by decide) rfl ?_
  exact t_X14_readInts_2 xFU R hf
def b_X14_relationHere_87 (n : Nat) (x1 : Int32) (σ : xσ) : Option (Int32 × xσ) := some (x1, σ)
set_option maxRecDepth 100000 in
set_option maxHeartbeats 4000000 in
theorem t_X14_relationHere_87 {G : xG} {n : Nat} {x1 : Int32} {σ : xσ} {h : xH} {r : Int32 × xσ} {d0 : Option Value} : Rl n σ h → b_X14_relationHere_87 n x1 σ = some r → Go G mX14_relationHere 87 [d0, some (.int x1)] [] h (fun v h' => xRok (xRt mX14_relationHere) v ∧ v = some (.int r.1) ∧ Rl n r.2 h') := by
  intro R hf
  rw [b_X14_relationHere_87] at hf
  refine go_iload_n (i := 1) (pc' := 88) dX14_relationHere_87 rfl rfl rfl ?_
  obtain rfl := Option.some.inj hf
  exact Go.ret (v := some (.int _)) dX14_relationHere_88 ⟨_, rfl⟩ ⟨rfl, rfl, R⟩
def b_X14_relationHere_71 (n : Nat) (xs0 : Int32) (σ : xσ) : Option (Int32 × xσ) := if 0 ≤ xs0 then bd (f_X14_next n σ) (fun v102 σ103 => b_X14_relationHere_87 n xs0 σ103) else bd (f_X14_refuse n σ) (fun v107 σ108 => b_X14_relationHere_87 n xs0 σ108)
set_option maxRecDepth 100000 in
set_option maxHeartbeats 4000000 in
theorem t_X14_relationHere_71 {G : xG} {n : Nat} {xs0 : Int32} {σ : xσ} {h : xH} {r : Int32 × xσ} {d1 : Option Value} : Rl n σ h → b_X14_relationHere_71 n xs0 σ = some r → Go G mX14_relationHere 71 [some (.ref 233), d1] [.int xs0] h (fun v h' => xRok (xRt mX14_relationHere) v ∧ v = some (.int r.1) ∧ Rl n r.2 h') := by
  intro R hf
  rw [b_X14_relationHere_71] at hf
  refine go_istore_nE rfl (i := 1) (pc' := 72) dX14_relationHere_71 rfl rfl (by decide) rfl ?_
  refine go_iload_n (i := 1) (pc' := 73) dX14_relationHere_72 rfl rfl rfl ?_
  refine go_if_ge (pc' := 76) (tgt := 83) dX14_relationHere_73 (by decide) rfl (fun c101 => ?_) (fun c101 => ?_)
  · have hf := it c101 hf
    refine go_aload_n (i := 0) (pc' := 84) dX14_relationHere_83 rfl rfl rfl ?_
    obtain ⟨v102, σ103, e104, hf⟩ := bd_some hf
    refine go_invV (As := []) (pc' := 87) dX14_relationHere_84 rfl cf_X14_relationHere_423 rfl (R.ob (R.at rfl (by decide))) rfl rfl (Nat.le_of_ble_eq_true rfl) (c_X14_next R e104) (fun q105v h106 q105 => ?_)
    obtain ⟨rfl, R⟩ := q105
    exact t_X14_relationHere_87 R hf
  · have hf := ie c101 hf
    refine go_aload_n (i := 0) (pc' := 77) dX14_relationHere_76 rfl rfl rfl ?_
    obtain ⟨v107, σ108, e109, hf⟩ := bd_some hf
    refine go_invV (As := []) (pc' := 80) dX14_relationHere_77 rfl cf_X14_relationHere_420 rfl (R.ob (R.at rfl (by decide))) rfl rfl (Nat.le_of_ble_eq_true rfl) (c_X14_refuse R e109) (fun q110v h111 q110 => ?_)
    obtain ⟨rfl, R⟩ := q110
    refine go_goto (pc' := 0) (tgt := 87) dX14_relationHere_80 (by decide) ?_
    exact t_X14_relationHere_87 R hf
def f_X14_relationHere (n : Nat)  (σ : xσ) : Option (Int32 × xσ) := bd (f_X14_isWord n 15 σ) (fun v101 σ102 => if v101 = 0 then bd (f_X14_isWord n 16 σ102) (fun v107 σ108 => if v107 = 0 then bd (f_X14_isWord n 17 σ108) (fun v113 σ114 => if v113 = 0 then bd (f_X14_isWord n 18 σ114) (fun v119 σ120 => if v119 = 0 then bd (f_X14_isWord n 19 σ120) (fun v125 σ126 => if v125 = 0 then b_X14_relationHere_71 n ((-1)) σ126 else b_X14_relationHere_71 n 4 σ126) else b_X14_relationHere_71 n 3 σ120) else b_X14_relationHere_71 n 2 σ114) else b_X14_relationHere_71 n 1 σ108) else b_X14_relationHere_71 n 0 σ102)
set_option maxRecDepth 100000 in
set_option maxHeartbeats 4000000 in
theorem c_X14_relationHere {G : xG} {n : Nat} {σ : xσ} {h : xH}  {v1 : Int32} {σ1 : xσ} (R : Rl n σ h) (hf : f_X14_relationHere n σ = some (v1, σ1)) : Ca G mX14_relationHere [.ref 233] h (fun v h' => v = some (.int v1) ∧ Rl n σ1 h') := by
  refine Ca.of rfl (Nat.le_of_ble_eq_true rfl) ?_
  generalize hr : (v1, σ1) = r at hf
  suffices q : Go G mX14_relationHere 0 (xent (xMl mX14_relationHere) [.ref 233]) [] h (fun v h' => xRok (xRt mX14_relationHere) v ∧ v = some (.int r.1) ∧ Rl n r.2 h') by
    subst hr
    exact q
  clear hr
  rw [f_X14_relationHere] at hf
  refine go_aload_n (i := 0) (pc' := 1) dX14_relationHere_0 rfl rfl rfl ?_
  refine go_ldcSw (j := 15) (pc' := 4) dX14_relationHere_1 rfl rfl ?_
  obtain ⟨v101, σ102, e103, hf⟩ := bd_some hf
  refine go_invV (As := [_]) (pc' := 7) dX14_relationHere_4 rfl cf_X14_relationHere_446 rfl (R.ob (R.at rfl (by decide))) rfl rfl (Nat.le_of_ble_eq_true rfl) (c_X14_isWord R e103) (fun q104v h105 q104 => ?_)
  obtain ⟨rfl, R⟩ := q104
  refine go_if_eq (pc' := 10) (tgt := 14) dX14_relationHere_7 (by decide) rfl (fun c106 => ?_) (fun c106 => ?_)
  · have hf := it c106 hf
    refine go_aload_n (i := 0) (pc' := 15) dX14_relationHere_14 rfl rfl rfl ?_
    refine go_ldcSw (j := 16) (pc' := 18) dX14_relationHere_15 rfl rfl ?_
    obtain ⟨v107, σ108, e109, hf⟩ := bd_some hf
    refine go_invV (As := [_]) (pc' := 21) dX14_relationHere_18 rfl cf_X14_relationHere_446 rfl (R.ob (R.at rfl (by decide))) rfl rfl (Nat.le_of_ble_eq_true rfl) (c_X14_isWord R e109) (fun q110v h111 q110 => ?_)
    obtain ⟨rfl, R⟩ := q110
    refine go_if_eq (pc' := 24) (tgt := 28) dX14_relationHere_21 (by decide) rfl (fun c112 => ?_) (fun c112 => ?_)
    · have hf := it c112 hf
      refine go_aload_n (i := 0) (pc' := 29) dX14_relationHere_28 rfl rfl rfl ?_
      refine go_ldcSw (j := 17) (pc' := 32) dX14_relationHere_29 rfl rfl ?_
      obtain ⟨v113, σ114, e115, hf⟩ := bd_some hf
      refine go_invV (As := [_]) (pc' := 35) dX14_relationHere_32 rfl cf_X14_relationHere_446 rfl (R.ob (R.at rfl (by decide))) rfl rfl (Nat.le_of_ble_eq_true rfl) (c_X14_isWord R e115) (fun q116v h117 q116 => ?_)
      obtain ⟨rfl, R⟩ := q116
      refine go_if_eq (pc' := 38) (tgt := 42) dX14_relationHere_35 (by decide) rfl (fun c118 => ?_) (fun c118 => ?_)
      · have hf := it c118 hf
        refine go_aload_n (i := 0) (pc' := 43) dX14_relationHere_42 rfl rfl rfl ?_
        refine go_ldcSw (j := 18) (pc' := 46) dX14_relationHere_43 rfl rfl ?_
        obtain ⟨v119, σ120, e121, hf⟩ := bd_some hf
        refine go_invV (As := [_]) (pc' := 49) dX14_relationHere_46 rfl cf_X14_relationHere_446 rfl (R.ob (R.at rfl (by decide))) rfl rfl (Nat.le_of_ble_eq_true rfl) (c_X14_isWord R e121) (fun q122v h123 q122 => ?_)
        obtain ⟨rfl, R⟩ := q122
        refine go_if_eq (pc' := 52) (tgt := 56) dX14_relationHere_49 (by decide) rfl (fun c124 => ?_) (fun c124 => ?_)
        · have hf := it c124 hf
          refine go_aload_n (i := 0) (pc' := 57) dX14_relationHere_56 rfl rfl rfl ?_
          refine go_ldcSw (j := 19) (pc' := 60) dX14_relationHere_57 rfl rfl ?_
          obtain ⟨v125, σ126, e127, hf⟩ := bd_some hf
          refine go_invV (As := [_]) (pc' := 63) dX14_relationHere_60 rfl cf_X14_relationHere_446 rfl (R.ob (R.at rfl (by decide))) rfl rfl (Nat.le_of_ble_eq_true rfl) (c_X14_isWord R e127) (fun q128v h129 q128 => ?_)
          obtain ⟨rfl, R⟩ := q128
          refine go_if_eq (pc' := 66) (tgt := 70) dX14_relationHere_63 (by decide) rfl (fun c130 => ?_) (fun c130 => ?_)
          · have hf := it c130 hf
            refine go_iconst (v := (-1)) (pc' := 71) dX14_relationHere_70 rfl (by decide) ?_
            exact t_X14_relationHere_71 R hf
          · have hf := ie c130 hf
            refine go_iconst (v := 4) (pc' := 67) dX14_relationHere_66 rfl (by decide) ?_
            refine go_goto (pc' := 0) (tgt := 71) dX14_relationHere_67 (by decide) ?_
            exact t_X14_relationHere_71 R hf
        · have hf := ie c124 hf
          refine go_iconst (v := 3) (pc' := 53) dX14_relationHere_52 rfl (by decide) ?_
          refine go_goto (pc' := 0) (tgt := 71) dX14_relationHere_53 (by decide) ?_
          exact t_X14_relationHere_71 R hf
      · have hf := ie c118 hf
        refine go_iconst (v := 2) (pc' := 39) dX14_relationHere_38 rfl (by decide) ?_
        refine go_goto (pc' := 0) (tgt := 71) dX14_relationHere_39 (by decide) ?_
        exact t_X14_relationHere_71 R hf
    · have hf := ie c112 hf
      refine go_iconst (v := 1) (pc' := 25) dX14_relationHere_24 rfl (by decide) ?_
      refine go_goto (pc' := 0) (tgt := 71) dX14_relationHere_25 (by decide) ?_
      exact t_X14_relationHere_71 R hf
  · have hf := ie c106 hf
    refine go_iconst (v := 0) (pc' := 11) dX14_relationHere_10 rfl (by decide) ?_
    refine go_goto (pc' := 0) (tgt := 71) dX14_relationHere_11 (by decide) ?_
    exact t_X14_relationHere_71 R hf
def f_X14_changed (n : Nat) (x1 : Int32) (σ : xσ) : Option (Unit × xσ) := st (wI σ 233 34 ((sI σ 233 34) + x1)) (fun σ101 => if (sI σ101 233 32) = 0 then bd (f_X14_isCommitted n σ101) (fun v110 σ111 => if v110 = 0 then some ((), σ111) else bd (f_X14_put n 0 σ111) (fun v116 σ117 => some ((), σ117))) else bd (f_X14_put n 0 σ101) (fun v105 σ106 => some ((), σ106)))
set_option maxRecDepth 100000 in
set_option maxHeartbeats 4000000 in
theorem c_X14_changed {G : xG} {n : Nat} {σ : xσ} {h : xH} {x1 : Int32} {v1 : Unit} {σ1 : xσ} (R : Rl n σ h) (hf : f_X14_changed n x1 σ = some (v1, σ1)) : Ca G mX14_changed [.ref 233, .int x1] h (fun v h' => v = none ∧ Rl n σ1 h') := by
  refine Ca.of rfl (Nat.le_of_ble_eq_true rfl) ?_
  generalize hr : (v1, σ1) = r at hf
  suffices q : Go G mX14_changed 0 (xent (xMl mX14_changed) [.ref 233, .int x1]) [] h (fun v h' => xRok (xRt mX14_changed) v ∧ v = none ∧ Rl n r.2 h') by
    subst hr
    exact q
  clear hr
  rw [f_X14_changed] at hf
  refine go_aload_n (i := 0) (pc' := 1) dX14_changed_0 rfl rfl rfl ?_
  refine go_dup (pc' := 2) dX14_changed_1 rfl rfl ?_
  refine go_getS (pc' := 5) dX14_changed_2 rfl gf_LandBaseModel_338 R (R.at rfl (by decide)) (by decide) rfl ?_
  refine go_iload_n (i := 1) (pc' := 6) dX14_changed_5 rfl rfl rfl ?_
  refine go_iadd (pc' := 7) dX14_changed_6 rfl ?_
  obtain ⟨σ101, e102, hf⟩ := st_some hf
  refine go_putI (pc' := 10) dX14_changed_7 rfl pf_LandBaseModel_338 R (R.at rfl (by decide)) (by decide) rfl rfl rfl (fun h103 R => ?_)
  have R := Rl.cast e102 R
  refine go_aload_n (i := 0) (pc' := 11) dX14_changed_10 rfl rfl rfl ?_
  refine go_getS (pc' := 14) dX14_changed_11 rfl gf_LandBaseModel_321 R (R.at rfl (by decide)) (by decide) rfl ?_
  refine go_if_ne (pc' := 17) (tgt := 24) dX14_changed_14 (by decide) rfl (fun c104 => ?_) (fun c104 => ?_)
  · have hf := ie c104 hf
    refine go_aload_n (i := 0) (pc' := 25) dX14_changed_24 rfl rfl rfl ?_
    refine go_iconst (v := 0) (pc' := 26) dX14_changed_25 rfl (by decide) ?_
    obtain ⟨v105, σ106, e107, hf⟩ := bd_some hf
    refine go_invV (As := [_]) (pc' := 29) dX14_changed_26 rfl cf_X14_changed_557 rfl (R.ob (R.at rfl (by decide))) rfl rfl (Nat.le_of_ble_eq_true rfl) (c_X14_put R e107) (fun q108v h109 q108 => ?_)
    obtain ⟨rfl, R⟩ := q108
    obtain rfl := Option.some.inj hf
    exact Go.ret (v := none) dX14_changed_29 rfl ⟨trivial, rfl, R⟩
  · have hf := it c104 hf
    refine go_aload_n (i := 0) (pc' := 18) dX14_changed_17 rfl rfl rfl ?_
    obtain ⟨v110, σ111, e112, hf⟩ := bd_some hf
    refine go_invV (As := []) (pc' := 21) dX14_changed_18 rfl cf_X14_changed_560 rfl (R.ob (R.at rfl (by decide))) rfl rfl (Nat.le_of_ble_eq_true rfl) (c_X14_isCommitted R e112) (fun q113v h114 q113 => ?_)
    obtain ⟨rfl, R⟩ := q113
    refine go_if_eq (pc' := 24) (tgt := 29) dX14_changed_21 (by decide) rfl (fun c115 => ?_) (fun c115 => ?_)
    · have hf := it c115 hf
      obtain rfl := Option.some.inj hf
      exact Go.ret (v := none) dX14_changed_29 rfl ⟨trivial, rfl, R⟩
    · have hf := ie c115 hf
      refine go_aload_n (i := 0) (pc' := 25) dX14_changed_24 rfl rfl rfl ?_
      refine go_iconst (v := 0) (pc' := 26) dX14_changed_25 rfl (by decide) ?_
      obtain ⟨v116, σ117, e118, hf⟩ := bd_some hf
      refine go_invV (As := [_]) (pc' := 29) dX14_changed_26 rfl cf_X14_changed_557 rfl (R.ob (R.at rfl (by decide))) rfl rfl (Nat.le_of_ble_eq_true rfl) (c_X14_put R e118) (fun q119v h120 q119 => ?_)
      obtain ⟨rfl, R⟩ := q119
      obtain rfl := Option.some.inj hf
      exact Go.ret (v := none) dX14_changed_29 rfl ⟨trivial, rfl, R⟩
def f_X14_add (n : Nat) (x1 : Int32) (σ : xσ) : Option (Unit × xσ) := if x1 < 1 then bd (f_X14_put n 5 σ) (fun v102 σ103 => some ((), σ103)) else if x1 ≤ 9999 then bd (f_X13_find n 259 x1 σ) (fun v108 σ109 => if v108 < 0 then bd (f_X14_isTooGreat n σ109) (fun v114 σ115 => if v114 = 0 then bd (f_X14_isValid n 1865 σ115) (fun v120 σ121 => if v120 = 0 then bd (f_X14_put n 3 σ121) (fun v155 σ156 => some ((), σ156)) else st ((16 + (4 * (sI σ121 1865 3))) + (8 * (sI σ121 1865 2))) (fun x126 => if (sI σ121 259 1) = 200 then bd (f_X14_put n 4 σ121) (fun v129 σ130 => some ((), σ130)) else bd (f_X14_hasRoom n x126 σ121) (fun v134 σ135 => if v134 = 0 then bd (f_X14_put n 4 σ135) (fun v150 σ151 => some ((), σ151)) else bd (f_X13_add n 259 x1 1865 σ135) (fun v140 σ141 => bd (f_X14_changed n x126 σ141) (fun v145 σ146 => some ((), σ146)))))) else bd (f_X14_put n 4 σ115) (fun v160 σ161 => some ((), σ161))) else bd (f_X14_put n 1 σ109) (fun v165 σ166 => some ((), σ166))) else bd (f_X14_put n 5 σ) (fun v170 σ171 => some ((), σ171))
set_option maxRecDepth 100000 in
set_option maxHeartbeats 4000000 in
theorem c_X14_add {G : xG} {n : Nat} {σ : xσ} {h : xH} {x1 : Int32} {v1 : Unit} {σ1 : xσ} (R : Rl n σ h) (hf : f_X14_add n x1 σ = some (v1, σ1)) : Ca G mX14_add [.ref 233, .int x1] h (fun v h' => v = none ∧ Rl n σ1 h') := by
  refine Ca.of rfl (Nat.le_of_ble_eq_true rfl) ?_
  generalize hr : (v1, σ1) = r at hf
  suffices q : Go G mX14_add 0 (xent (xMl mX14_add) [.ref 233, .int x1]) [] h (fun v h' => xRok (xRt mX14_add) v ∧ v = none ∧ Rl n r.2 h') by
    subst hr
    exact q
  clear hr
  rw [f_X14_add] at hf
  refine go_iload_n (i := 1) (pc' := 1) dX14_add_0 rfl rfl rfl ?_
  refine go_iconst (v := 1) (pc' := 2) dX14_add_1 rfl (by decide) ?_
  refine go_icmp_lt (pc' := 5) (tgt := 12) dX14_add_2 (by decide) rfl (fun c101 => ?_) (fun c101 => ?_)
  · have hf := it c101 hf
    refine go_aload_n (i := 0) (pc' := 13) dX14_add_12 rfl rfl rfl ?_
    refine go_iconst (v := 5) (pc' := 14) dX14_add_13 rfl (by decide) ?_
    obtain ⟨v102, σ103, e104, hf⟩ := bd_some hf
    refine go_invV (As := [_]) (pc' := 17) dX14_add_14 rfl cf_X14_add_557 rfl (R.ob (R.at rfl (by decide))) rfl rfl (Nat.le_of_ble_eq_true rfl) (c_X14_put R e104) (fun q105v h106 q105 => ?_)
    obtain ⟨rfl, R⟩ := q105
    refine go_goto (pc' := 0) (tgt := 143) dX14_add_17 (by decide) ?_
    obtain rfl := Option.some.inj hf
    exact Go.ret (v := none) dX14_add_143 rfl ⟨trivial, rfl, R⟩
  · have hf := ie c101 hf
    refine go_iload_n (i := 1) (pc' := 6) dX14_add_5 rfl rfl rfl ?_
    refine go_sipush (v := 9999) (pc' := 9) dX14_add_6 rfl (by decide) ?_
    refine go_icmp_le (pc' := 12) (tgt := 20) dX14_add_9 (by decide) rfl (fun c107 => ?_) (fun c107 => ?_)
    · have hf := it c107 hf
      refine go_aload_n (i := 0) (pc' := 21) dX14_add_20 rfl rfl rfl ?_
      refine go_getS (pc' := 24) dX14_add_21 rfl gf_LandBaseModel_351 R (R.at rfl (by decide)) (by decide) rfl ?_
      refine go_iload_n (i := 1) (pc' := 25) dX14_add_24 rfl rfl rfl ?_
      obtain ⟨v108, σ109, e110, hf⟩ := bd_some hf
      refine go_invV (As := [_]) (pc' := 28) dX14_add_25 rfl cf_X14_add_573 rfl (R.ob (R.at rfl (by decide))) rfl rfl (Nat.le_of_ble_eq_true rfl) (c_X13_find R e110) (fun q111v h112 q111 => ?_)
      obtain ⟨rfl, R⟩ := q111
      refine go_if_lt (pc' := 31) (tgt := 39) dX14_add_28 (by decide) rfl (fun c113 => ?_) (fun c113 => ?_)
      · have hf := it c113 hf
        refine go_aload_n (i := 0) (pc' := 40) dX14_add_39 rfl rfl rfl ?_
        obtain ⟨v114, σ115, e116, hf⟩ := bd_some hf
        refine go_invV (As := []) (pc' := 43) dX14_add_40 rfl cf_X14_add_575 rfl (R.ob (R.at rfl (by decide))) rfl rfl (Nat.le_of_ble_eq_true rfl) (c_X14_isTooGreat R e116) (fun q117v h118 q117 => ?_)
        obtain ⟨rfl, R⟩ := q117
        refine go_if_eq (pc' := 46) (tgt := 54) dX14_add_43 (by decide) rfl (fun c119 => ?_) (fun c119 => ?_)
        · have hf := it c119 hf
          refine go_aload_n (i := 0) (pc' := 55) dX14_add_54 rfl rfl rfl ?_
          refine go_aload_n (i := 0) (pc' := 56) dX14_add_55 rfl rfl rfl ?_
          refine go_getS (pc' := 59) dX14_add_56 rfl gf_LandBaseModel_432 R (R.at rfl (by decide)) (by decide) rfl ?_
          obtain ⟨v120, σ121, e122, hf⟩ := bd_some hf
          refine go_invV (As := [_]) (pc' := 62) dX14_add_59 rfl cf_X14_add_578 rfl (R.ob (R.at rfl (by decide))) rfl rfl (Nat.le_of_ble_eq_true rfl) (c_X14_isValid R e122) (fun q123v h124 q123 => ?_)
          obtain ⟨rfl, R⟩ := q123
          refine go_if_ne (pc' := 65) (tgt := 73) dX14_add_62 (by decide) rfl (fun c125 => ?_) (fun c125 => ?_)
          · have hf := ie c125 hf
            refine go_bipush (v := 16) (pc' := 75) dX14_add_73 rfl (by decide) ?_
            refine go_iconst (v := 4) (pc' := 76) dX14_add_75 rfl (by decide) ?_
            refine go_aload_n (i := 0) (pc' := 77) dX14_add_76 rfl rfl rfl ?_
            refine go_getS (pc' := 80) dX14_add_77 rfl gf_LandBaseModel_432 R (R.at rfl (by decide)) (by decide) rfl ?_
            refine go_getS (pc' := 83) dX14_add_80 rfl gf_LandBaseModel_180 R (R.at rfl (by decide)) (by decide) rfl ?_
            refine go_imul (pc' := 84) dX14_add_83 rfl ?_
            refine go_iadd (pc' := 85) dX14_add_84 rfl ?_
            refine go_bipush (v := 8) (pc' := 87) dX14_add_85 rfl (by decide) ?_
            refine go_aload_n (i := 0) (pc' := 88) dX14_add_87 rfl rfl rfl ?_
            refine go_getS (pc' := 91) dX14_add_88 rfl gf_LandBaseModel_432 R (R.at rfl (by decide)) (by decide) rfl ?_
            refine go_getS (pc' := 94) dX14_add_91 rfl gf_LandBaseModel_79 R (R.at rfl (by decide)) (by decide) rfl ?_
            refine go_imul (pc' := 95) dX14_add_94 rfl ?_
            refine go_iadd (pc' := 96) dX14_add_95 rfl ?_
            obtain ⟨x126, e127, hf⟩ := st_some hf
            refine go_istore_nE e127 (i := 2) (pc' := 97) dX14_add_96 rfl rfl (by decide) rfl ?_
            refine go_aload_n (i := 0) (pc' := 98) dX14_add_97 rfl rfl rfl ?_
            refine go_getS (pc' := 101) dX14_add_98 rfl gf_LandBaseModel_351 R (R.at rfl (by decide)) (by decide) rfl ?_
            refine go_getS (pc' := 104) dX14_add_101 rfl gf_LandBaseModel_581 R (R.at rfl (by decide)) (by decide) rfl ?_
            refine go_sipush (v := 200) (pc' := 107) dX14_add_104 rfl (by decide) ?_
            refine go_icmp_eq (pc' := 110) (tgt := 118) dX14_add_107 (by decide) rfl (fun c128 => ?_) (fun c128 => ?_)
            · have hf := it c128 hf
              refine go_aload_n (i := 0) (pc' := 119) dX14_add_118 rfl rfl rfl ?_
              refine go_iconst (v := 4) (pc' := 120) dX14_add_119 rfl (by decide) ?_
              obtain ⟨v129, σ130, e131, hf⟩ := bd_some hf
              refine go_invV (As := [_]) (pc' := 123) dX14_add_120 rfl cf_X14_add_557 rfl (R.ob (R.at rfl (by decide))) rfl rfl (Nat.le_of_ble_eq_true rfl) (c_X14_put R e131) (fun q132v h133 q132 => ?_)
              obtain ⟨rfl, R⟩ := q132
              refine go_goto (pc' := 0) (tgt := 143) dX14_add_123 (by decide) ?_
              obtain rfl := Option.some.inj hf
              exact Go.ret (v := none) dX14_add_143 rfl ⟨trivial, rfl, R⟩
            · have hf := ie c128 hf
              refine go_aload_n (i := 0) (pc' := 111) dX14_add_110 rfl rfl rfl ?_
              refine go_iload_n (i := 2) (pc' := 112) dX14_add_111 rfl rfl rfl ?_
              obtain ⟨v134, σ135, e136, hf⟩ := bd_some hf
              refine go_invV (As := [_]) (pc' := 115) dX14_add_112 rfl cf_X14_add_584 rfl (R.ob (R.at rfl (by decide))) rfl rfl (Nat.le_of_ble_eq_true rfl) (c_X14_hasRoom R e136) (fun q137v h138 q137 => ?_)
              obtain ⟨rfl, R⟩ := q137
              refine go_if_ne (pc' := 118) (tgt := 126) dX14_add_115 (by decide) rfl (fun c139 => ?_) (fun c139 => ?_)
              · have hf := ie c139 hf
                refine go_aload_n (i := 0) (pc' := 127) dX14_add_126 rfl rfl rfl ?_
                refine go_getS (pc' := 130) dX14_add_127 rfl gf_LandBaseModel_351 R (R.at rfl (by decide)) (by decide) rfl ?_
                refine go_iload_n (i := 1) (pc' := 131) dX14_add_130 rfl rfl rfl ?_
                refine go_aload_n (i := 0) (pc' := 132) dX14_add_131 rfl rfl rfl ?_
                refine go_getS (pc' := 135) dX14_add_132 rfl gf_LandBaseModel_432 R (R.at rfl (by decide)) (by decide) rfl ?_
                obtain ⟨v140, σ141, e142, hf⟩ := bd_some hf
                refine go_invV (As := [_, _]) (pc' := 138) dX14_add_135 rfl cf_X14_add_587 rfl (R.ob (R.at rfl (by decide))) rfl rfl (Nat.le_of_ble_eq_true rfl) (c_X13_add R e142) (fun q143v h144 q143 => ?_)
                obtain ⟨rfl, R⟩ := q143
                refine go_aload_n (i := 0) (pc' := 139) dX14_add_138 rfl rfl rfl ?_
                refine go_iload_n (i := 2) (pc' := 140) dX14_add_139 rfl rfl rfl ?_
                obtain ⟨v145, σ146, e147, hf⟩ := bd_some hf
                refine go_invV (As := [_]) (pc' := 143) dX14_add_140 rfl cf_X14_add_590 rfl (R.ob (R.at rfl (by decide))) rfl rfl (Nat.le_of_ble_eq_true rfl) (c_X14_changed R e147) (fun q148v h149 q148 => ?_)
                obtain ⟨rfl, R⟩ := q148
                obtain rfl := Option.some.inj hf
                exact Go.ret (v := none) dX14_add_143 rfl ⟨trivial, rfl, R⟩
              · have hf := it c139 hf
                refine go_aload_n (i := 0) (pc' := 119) dX14_add_118 rfl rfl rfl ?_
                refine go_iconst (v := 4) (pc' := 120) dX14_add_119 rfl (by decide) ?_
                obtain ⟨v150, σ151, e152, hf⟩ := bd_some hf
                refine go_invV (As := [_]) (pc' := 123) dX14_add_120 rfl cf_X14_add_557 rfl (R.ob (R.at rfl (by decide))) rfl rfl (Nat.le_of_ble_eq_true rfl) (c_X14_put R e152) (fun q153v h154 q153 => ?_)
                obtain ⟨rfl, R⟩ := q153
                refine go_goto (pc' := 0) (tgt := 143) dX14_add_123 (by decide) ?_
                obtain rfl := Option.some.inj hf
                exact Go.ret (v := none) dX14_add_143 rfl ⟨trivial, rfl, R⟩
          · have hf := it c125 hf
            refine go_aload_n (i := 0) (pc' := 66) dX14_add_65 rfl rfl rfl ?_
            refine go_iconst (v := 3) (pc' := 67) dX14_add_66 rfl (by decide) ?_
            obtain ⟨v155, σ156, e157, hf⟩ := bd_some hf
            refine go_invV (As := [_]) (pc' := 70) dX14_add_67 rfl cf_X14_add_557 rfl (R.ob (R.at rfl (by decide))) rfl rfl (Nat.le_of_ble_eq_true rfl) (c_X14_put R e157) (fun q158v h159 q158 => ?_)
            obtain ⟨rfl, R⟩ := q158
            refine go_goto (pc' := 0) (tgt := 143) dX14_add_70 (by decide) ?_
            obtain rfl := Option.some.inj hf
            exact Go.ret (v := none) dX14_add_143 rfl ⟨trivial, rfl, R⟩
        · have hf := ie c119 hf
          refine go_aload_n (i := 0) (pc' := 47) dX14_add_46 rfl rfl rfl ?_
          refine go_iconst (v := 4) (pc' := 48) dX14_add_47 rfl (by decide) ?_
          obtain ⟨v160, σ161, e162, hf⟩ := bd_some hf
          refine go_invV (As := [_]) (pc' := 51) dX14_add_48 rfl cf_X14_add_557 rfl (R.ob (R.at rfl (by decide))) rfl rfl (Nat.le_of_ble_eq_true rfl) (c_X14_put R e162) (fun q163v h164 q163 => ?_)
          obtain ⟨rfl, R⟩ := q163
          refine go_goto (pc' := 0) (tgt := 143) dX14_add_51 (by decide) ?_
          obtain rfl := Option.some.inj hf
          exact Go.ret (v := none) dX14_add_143 rfl ⟨trivial, rfl, R⟩
      · have hf := ie c113 hf
        refine go_aload_n (i := 0) (pc' := 32) dX14_add_31 rfl rfl rfl ?_
        refine go_iconst (v := 1) (pc' := 33) dX14_add_32 rfl (by decide) ?_
        obtain ⟨v165, σ166, e167, hf⟩ := bd_some hf
        refine go_invV (As := [_]) (pc' := 36) dX14_add_33 rfl cf_X14_add_557 rfl (R.ob (R.at rfl (by decide))) rfl rfl (Nat.le_of_ble_eq_true rfl) (c_X14_put R e167) (fun q168v h169 q168 => ?_)
        obtain ⟨rfl, R⟩ := q168
        refine go_goto (pc' := 0) (tgt := 143) dX14_add_36 (by decide) ?_
        obtain rfl := Option.some.inj hf
        exact Go.ret (v := none) dX14_add_143 rfl ⟨trivial, rfl, R⟩
    · have hf := ie c107 hf
      refine go_aload_n (i := 0) (pc' := 13) dX14_add_12 rfl rfl rfl ?_
      refine go_iconst (v := 5) (pc' := 14) dX14_add_13 rfl (by decide) ?_
      obtain ⟨v170, σ171, e172, hf⟩ := bd_some hf
      refine go_invV (As := [_]) (pc' := 17) dX14_add_14 rfl cf_X14_add_557 rfl (R.ob (R.at rfl (by decide))) rfl rfl (Nat.le_of_ble_eq_true rfl) (c_X14_put R e172) (fun q173v h174 q173 => ?_)
      obtain ⟨rfl, R⟩ := q173
      refine go_goto (pc' := 0) (tgt := 143) dX14_add_17 (by decide) ?_
      obtain rfl := Option.some.inj hf
      exact Go.ret (v := none) dX14_add_143 rfl ⟨trivial, rfl, R⟩
def f_X14_drop (n : Nat) (x1 : Int32) (σ : xσ) : Option (Unit × xσ) := bd (f_X13_find n 259 x1 σ) (fun v101 σ102 => if 0 ≤ v101 then bd (f_X14_hasRoom n 8 σ102) (fun v107 σ108 => if v107 = 0 then bd (f_X14_put n 4 σ108) (fun v123 σ124 => some ((), σ124)) else bd (f_X13_drop n 259 v101 σ108) (fun v113 σ114 => bd (f_X14_changed n 8 σ114) (fun v118 σ119 => some ((), σ119)))) else bd (f_X14_put n 2 σ102) (fun v128 σ129 => some ((), σ129)))
set_option maxRecDepth 100000 in
set_option maxHeartbeats 4000000 in
theorem c_X14_drop {G : xG} {n : Nat} {σ : xσ} {h : xH} {x1 : Int32} {v1 : Unit} {σ1 : xσ} (R : Rl n σ h) (hf : f_X14_drop n x1 σ = some (v1, σ1)) : Ca G mX14_drop [.ref 233, .int x1] h (fun v h' => v = none ∧ Rl n σ1 h') := by
  refine Ca.of rfl (Nat.le_of_ble_eq_true rfl) ?_
  generalize hr : (v1, σ1) = r at hf
  suffices q : Go G mX14_drop 0 (xent (xMl mX14_drop) [.ref 233, .int x1]) [] h (fun v h' => xRok (xRt mX14_drop) v ∧ v = none ∧ Rl n r.2 h') by
    subst hr
    exact q
  clear hr
  rw [f_X14_drop] at hf
  refine go_aload_n (i := 0) (pc' := 1) dX14_drop_0 rfl rfl rfl ?_
  refine go_getS (pc' := 4) dX14_drop_1 rfl gf_LandBaseModel_351 R (R.at rfl (by decide)) (by decide) rfl ?_
  refine go_iload_n (i := 1) (pc' := 5) dX14_drop_4 rfl rfl rfl ?_
  obtain ⟨v101, σ102, e103, hf⟩ := bd_some hf
  refine go_invV (As := [_]) (pc' := 8) dX14_drop_5 rfl cf_X14_drop_573 rfl (R.ob (R.at rfl (by decide))) rfl rfl (Nat.le_of_ble_eq_true rfl) (c_X13_find R e103) (fun q104v h105 q104 => ?_)
  obtain ⟨rfl, R⟩ := q104
  refine go_istore_nE rfl (i := 2) (pc' := 9) dX14_drop_8 rfl rfl (by decide) rfl ?_
  refine go_iload_n (i := 2) (pc' := 10) dX14_drop_9 rfl rfl rfl ?_
  refine go_if_ge (pc' := 13) (tgt := 21) dX14_drop_10 (by decide) rfl (fun c106 => ?_) (fun c106 => ?_)
  · have hf := it c106 hf
    refine go_aload_n (i := 0) (pc' := 22) dX14_drop_21 rfl rfl rfl ?_
    refine go_bipush (v := 8) (pc' := 24) dX14_drop_22 rfl (by decide) ?_
    obtain ⟨v107, σ108, e109, hf⟩ := bd_some hf
    refine go_invV (As := [_]) (pc' := 27) dX14_drop_24 rfl cf_X14_drop_584 rfl (R.ob (R.at rfl (by decide))) rfl rfl (Nat.le_of_ble_eq_true rfl) (c_X14_hasRoom R e109) (fun q110v h111 q110 => ?_)
    obtain ⟨rfl, R⟩ := q110
    refine go_if_ne (pc' := 30) (tgt := 38) dX14_drop_27 (by decide) rfl (fun c112 => ?_) (fun c112 => ?_)
    · have hf := ie c112 hf
      refine go_aload_n (i := 0) (pc' := 39) dX14_drop_38 rfl rfl rfl ?_
      refine go_getS (pc' := 42) dX14_drop_39 rfl gf_LandBaseModel_351 R (R.at rfl (by decide)) (by decide) rfl ?_
      refine go_iload_n (i := 2) (pc' := 43) dX14_drop_42 rfl rfl rfl ?_
      obtain ⟨v113, σ114, e115, hf⟩ := bd_some hf
      refine go_invV (As := [_]) (pc' := 46) dX14_drop_43 rfl cf_X14_drop_593 rfl (R.ob (R.at rfl (by decide))) rfl rfl (Nat.le_of_ble_eq_true rfl) (c_X13_drop R e115) (fun q116v h117 q116 => ?_)
      obtain ⟨rfl, R⟩ := q116
      refine go_aload_n (i := 0) (pc' := 47) dX14_drop_46 rfl rfl rfl ?_
      refine go_bipush (v := 8) (pc' := 49) dX14_drop_47 rfl (by decide) ?_
      obtain ⟨v118, σ119, e120, hf⟩ := bd_some hf
      refine go_invV (As := [_]) (pc' := 52) dX14_drop_49 rfl cf_X14_drop_590 rfl (R.ob (R.at rfl (by decide))) rfl rfl (Nat.le_of_ble_eq_true rfl) (c_X14_changed R e120) (fun q121v h122 q121 => ?_)
      obtain ⟨rfl, R⟩ := q121
      obtain rfl := Option.some.inj hf
      exact Go.ret (v := none) dX14_drop_52 rfl ⟨trivial, rfl, R⟩
    · have hf := it c112 hf
      refine go_aload_n (i := 0) (pc' := 31) dX14_drop_30 rfl rfl rfl ?_
      refine go_iconst (v := 4) (pc' := 32) dX14_drop_31 rfl (by decide) ?_
      obtain ⟨v123, σ124, e125, hf⟩ := bd_some hf
      refine go_invV (As := [_]) (pc' := 35) dX14_drop_32 rfl cf_X14_drop_557 rfl (R.ob (R.at rfl (by decide))) rfl rfl (Nat.le_of_ble_eq_true rfl) (c_X14_put R e125) (fun q126v h127 q126 => ?_)
      obtain ⟨rfl, R⟩ := q126
      refine go_goto (pc' := 0) (tgt := 52) dX14_drop_35 (by decide) ?_
      obtain rfl := Option.some.inj hf
      exact Go.ret (v := none) dX14_drop_52 rfl ⟨trivial, rfl, R⟩
  · have hf := ie c106 hf
    refine go_aload_n (i := 0) (pc' := 14) dX14_drop_13 rfl rfl rfl ?_
    refine go_iconst (v := 2) (pc' := 15) dX14_drop_14 rfl (by decide) ?_
    obtain ⟨v128, σ129, e130, hf⟩ := bd_some hf
    refine go_invV (As := [_]) (pc' := 18) dX14_drop_15 rfl cf_X14_drop_557 rfl (R.ob (R.at rfl (by decide))) rfl rfl (Nat.le_of_ble_eq_true rfl) (c_X14_put R e130) (fun q131v h132 q131 => ?_)
    obtain ⟨rfl, R⟩ := q131
    refine go_goto (pc' := 0) (tgt := 52) dX14_drop_18 (by decide) ?_
    obtain rfl := Option.some.inj hf
    exact Go.ret (v := none) dX14_drop_52 rfl ⟨trivial, rfl, R⟩
def f_X14_isNumber (n : Nat) (l0 : Int64) (σ : xσ) : Option (Int32 × xσ) := if (lg_cmp l0 ((-1073741823 : Int64))) < 0 then some (0, σ) else if 0 < (lg_cmp l0 ((1073741823 : Int64))) then some (0, σ) else some (1, σ)
set_option maxRecDepth 100000 in
set_option maxHeartbeats 4000000 in
theorem c_X14_isNumber {G : xG} {n : Nat} {σ : xσ} {h : xH} {l0 : Int64} {v1 : Int32} {σ1 : xσ} (R : Rl n σ h) (hf : f_X14_isNumber n l0 σ = some (v1, σ1)) : Ca G mX14_isNumber [.long l0] h (fun v h' => v = some (.int v1) ∧ Rl n σ1 h') := by
  refine Ca.of rfl (Nat.le_of_ble_eq_true rfl) ?_
  generalize hr : (v1, σ1) = r at hf
  suffices q : Go G mX14_isNumber 0 (xent (xMl mX14_isNumber) [.long l0]) [] h (fun v h' => xRok (xRt mX14_isNumber) v ∧ v = some (.int r.1) ∧ Rl n r.2 h') by
    subst hr
    exact q
  clear hr
  rw [f_X14_isNumber] at hf
  refine go_lload_n (i := 0) (pc' := 1) dX14_isNumber_0 rfl rfl rfl ?_
  refine go_ldc2 (pc' := 4) dX14_isNumber_1 rfl wd_1512 ?_
  refine go_lcmp (pc' := 5) dX14_isNumber_4 rfl ?_
  refine go_if_lt (pc' := 8) (tgt := 20) dX14_isNumber_5 (by decide) rfl (fun c101 => ?_) (fun c101 => ?_)
  · have hf := it c101 hf
    refine go_iconst (v := 0) (pc' := 21) dX14_isNumber_20 rfl (by decide) ?_
    obtain rfl := Option.some.inj hf
    exact Go.ret (v := some (.int _)) dX14_isNumber_21 ⟨_, rfl⟩ ⟨rfl, rfl, R⟩
  · have hf := ie c101 hf
    refine go_lload_n (i := 0) (pc' := 9) dX14_isNumber_8 rfl rfl rfl ?_
    refine go_ldc2 (pc' := 12) dX14_isNumber_9 rfl wd_1262 ?_
    refine go_lcmp (pc' := 13) dX14_isNumber_12 rfl ?_
    refine go_if_gt (pc' := 16) (tgt := 20) dX14_isNumber_13 (by decide) rfl (fun c102 => ?_) (fun c102 => ?_)
    · have hf := it c102 hf
      refine go_iconst (v := 0) (pc' := 21) dX14_isNumber_20 rfl (by decide) ?_
      obtain rfl := Option.some.inj hf
      exact Go.ret (v := some (.int _)) dX14_isNumber_21 ⟨_, rfl⟩ ⟨rfl, rfl, R⟩
    · have hf := ie c102 hf
      refine go_iconst (v := 1) (pc' := 17) dX14_isNumber_16 rfl (by decide) ?_
      refine go_goto (pc' := 0) (tgt := 21) dX14_isNumber_17 (by decide) ?_
      obtain rfl := Option.some.inj hf
      exact Go.ret (v := some (.int _)) dX14_isNumber_21 ⟨_, rfl⟩ ⟨rfl, rfl, R⟩

/-! methods as functions, by program (gen/dcmall.py) -/
def l_X14_copy_2 (n : Nat) : Nat → Nat → Nat → Int32 → xσ → Option (Unit × xσ)
  | 0, _, _, _, _ => none
  | f + 1, a0, a1, x2, σ => if 8 ≤ x2 then some ((), σ) else gd (inb x2 8) (gd (inb x2 8) (st (wJ σ a0 x2.toNatClampNeg (sJ σ a1 x2.toNatClampNeg)) (fun σ104 => (l_X14_copy_2 n f) a0 a1 (x2 + 1) σ104)))
set_option maxRecDepth 100000 in
set_option maxHeartbeats 4000000 in
theorem t_X14_copy_2 {G : xG} {n : Nat} : ∀ (f : Nat) {a0 : Nat} {a1 : Nat} {x2 : Int32} {σ : xσ} {h : xH} {r : Unit × xσ}, Rl n σ h → okL a0 → okL a1 → l_X14_copy_2 n f a0 a1 x2 σ = some r → Go G mX14_copy 2 [some (.ref a0), some (.ref a1), some (.int x2)] [] h (fun v h' => xRok (xRt mX14_copy) v ∧ v = none ∧ Rl n r.2 h') := by
  intro f
  induction f with
  | zero =>
    intros
    rename _ = some _ => hf
    rw [l_X14_copy_2] at hf
    cases hf
  | succ f ih =>
    intro a0 a1 x2 σ h r  R g0 g1 hf
    rw [l_X14_copy_2] at hf
    refine go_iload_n (i := 2) (pc' := 3) dX14_copy_2 rfl rfl rfl ?_
    refine go_bipush (v := 8) (pc' := 5) dX14_copy_3 rfl (by decide) ?_
    refine go_icmp_ge (pc' := 8) (tgt := 20) dX14_copy_5 (by decide) rfl (fun c101 => ?_) (fun c101 => ?_)
    · have hf := it c101 hf
      obtain rfl := Option.some.inj hf
      exact Go.ret (v := none) dX14_copy_20 rfl ⟨trivial, rfl, R⟩
    · have hf := ie c101 hf
      refine go_aload_n (i := 0) (pc' := 9) dX14_copy_8 rfl rfl rfl ?_
      refine go_iload_n (i := 2) (pc' := 10) dX14_copy_9 rfl rfl rfl ?_
      refine go_aload_n (i := 1) (pc' := 11) dX14_copy_10 rfl rfl rfl ?_
      refine go_iload_n (i := 2) (pc' := 12) dX14_copy_11 rfl rfl rfl ?_
      obtain ⟨g102, hf⟩ := gd_some hf
      refine go_laloadS (pc' := 13) dX14_copy_12 rfl R (g1.aa R) g102 ?_
      obtain ⟨g103, hf⟩ := gd_some hf
      obtain ⟨σ104, e105, hf⟩ := st_some hf
      refine go_lastoreS (pc' := 14) dX14_copy_13 rfl R (g0.aa R) g103 (fun h106 R => ?_)
      have R := Rl.cast e105 R
      refine go_iincC (kk := 1) (pc' := 17) dX14_copy_14 rfl rfl (by decide) (by decide) rfl ?_
      refine go_goto (pc' := 0) (tgt := 2) dX14_copy_17 (by decide) ?_
      exact ih R g0 g1 hf
def f_X14_copy (n : Nat) (a0 : Nat) (a1 : Nat) (σ : xσ) : Option (Unit × xσ) := gd (okL a0) (gd (okL a1) (l_X14_copy_2 n xFU a0 a1 0 σ))
set_option maxRecDepth 100000 in
set_option maxHeartbeats 4000000 in
theorem c_X14_copy {G : xG} {n : Nat} {σ : xσ} {h : xH} {a0 : Nat} {a1 : Nat} {v1 : Unit} {σ1 : xσ} (R : Rl n σ h) (hf : f_X14_copy n a0 a1 σ = some (v1, σ1)) : Ca G mX14_copy [.ref a0, .ref a1] h (fun v h' => v = none ∧ Rl n σ1 h') := by
  refine Ca.of rfl (Nat.le_of_ble_eq_true rfl) ?_
  generalize hr : (v1, σ1) = r at hf
  suffices q : Go G mX14_copy 0 (xent (xMl mX14_copy) [.ref a0, .ref a1]) [] h (fun v h' => xRok (xRt mX14_copy) v ∧ v = none ∧ Rl n r.2 h') by
    subst hr
    exact q
  clear hr
  rw [f_X14_copy] at hf
  obtain ⟨g0, hf⟩ := gd_some hf
  obtain ⟨g1, hf⟩ := gd_some hf
  refine go_iconst (v := 0) (pc' := 1) dX14_copy_0 rfl (by decide) ?_
  refine go_istore_nE rfl (i := 2) (pc' := 2) dX14_copy_1 rfl rfl (by decide) rfl ?_
  exact t_X14_copy_2 xFU R g0 g1 hf
def f_X11_take (n : Nat) (a0 : Nat) (a1 : Nat) (σ : xσ) : Option (Unit × xσ) := gd (okE a0) (gd (okE a1) (bd (f_X14_copy n (a0 + 1) (a1 + 1) σ) (fun v101 σ102 => bd (f_X14_copy n (a0 + 2) (a1 + 2) σ102) (fun v106 σ107 => some ((), σ107)))))
set_option maxRecDepth 100000 in
set_option maxHeartbeats 4000000 in
theorem c_X11_take {G : xG} {n : Nat} {σ : xσ} {h : xH} {a0 : Nat} {a1 : Nat} {v1 : Unit} {σ1 : xσ} (R : Rl n σ h) (hf : f_X11_take n a0 a1 σ = some (v1, σ1)) : Ca G mX11_take [.ref a0, .ref a1] h (fun v h' => v = none ∧ Rl n σ1 h') := by
  refine Ca.of rfl (Nat.le_of_ble_eq_true rfl) ?_
  generalize hr : (v1, σ1) = r at hf
  suffices q : Go G mX11_take 0 (xent (xMl mX11_take) [.ref a0, .ref a1]) [] h (fun v h' => xRok (xRt mX11_take) v ∧ v = none ∧ Rl n r.2 h') by
    subst hr
    exact q
  clear hr
  rw [f_X11_take] at hf
  obtain ⟨g0, hf⟩ := gd_some hf
  obtain ⟨g1, hf⟩ := gd_some hf
  refine go_aload_n (i := 0) (pc' := 1) dX11_take_0 rfl rfl rfl ?_
  refine go_getS (pc' := 4) dX11_take_1 rfl gf_LandBaseModel_Distance_9 R (g0.at R) (by decide) rfl ?_
  refine go_aload_n (i := 1) (pc' := 5) dX11_take_4 rfl rfl rfl ?_
  refine go_getS (pc' := 8) dX11_take_5 rfl gf_LandBaseModel_Distance_9 R (g1.at R) (by decide) rfl ?_
  obtain ⟨v101, σ102, e103, hf⟩ := bd_some hf
  refine go_invSN (As := [_, _]) (pc' := 11) dX11_take_8 rfl cf_X11_take_18 rfl rfl (Nat.le_of_ble_eq_true rfl) (c_X14_copy R e103) (fun q104v h105 q104 => ?_)
  obtain ⟨rfl, R⟩ := q104
  refine go_aload_n (i := 0) (pc' := 12) dX11_take_11 rfl rfl rfl ?_
  refine go_getS (pc' := 15) dX11_take_12 rfl gf_LandBaseModel_Distance_15 R (g0.at R) (by decide) rfl ?_
  refine go_aload_n (i := 1) (pc' := 16) dX11_take_15 rfl rfl rfl ?_
  refine go_getS (pc' := 19) dX11_take_16 rfl gf_LandBaseModel_Distance_15 R (g1.at R) (by decide) rfl ?_
  obtain ⟨v106, σ107, e108, hf⟩ := bd_some hf
  refine go_invSN (As := [_, _]) (pc' := 22) dX11_take_19 rfl cf_X11_take_18 rfl rfl (Nat.le_of_ble_eq_true rfl) (c_X14_copy R e108) (fun q109v h110 q109 => ?_)
  obtain ⟨rfl, R⟩ := q109
  obtain rfl := Option.some.inj hf
  exact Go.ret (v := none) dX11_take_22 rfl ⟨trivial, rfl, R⟩
def l_X12_take_62 (n : Nat) : Nat → Nat → Nat → Int32 → xσ → Option (Unit × xσ)
  | 0, _, _, _, _ => none
  | f + 1, a0, a1, x2, σ => if (sI σ a0 2) ≤ x2 then some ((), σ) else gd (inb x2 40) (gd (inb x2 40) (st (wI σ (a0 + 2) x2.toNatClampNeg (sI σ (a1 + 2) x2.toNatClampNeg)) (fun σ104 => gd (inb x2 40) (gd (inb x2 40) (st (wI σ104 (a0 + 3) x2.toNatClampNeg (sI σ104 (a1 + 3) x2.toNatClampNeg)) (fun σ109 => (l_X12_take_62 n f) a0 a1 (x2 + 1) σ109))))))
set_option maxRecDepth 100000 in
set_option maxHeartbeats 4000000 in
theorem t_X12_take_62 {G : xG} {n : Nat} : ∀ (f : Nat) {a0 : Nat} {a1 : Nat} {x2 : Int32} {σ : xσ} {h : xH} {r : Unit × xσ}, Rl n σ h → okM a0 → okM a1 → l_X12_take_62 n f a0 a1 x2 σ = some r → Go G mX12_take 62 [some (.ref a0), some (.ref a1), some (.int x2)] [] h (fun v h' => xRok (xRt mX12_take) v ∧ v = none ∧ Rl n r.2 h') := by
  intro f
  induction f with
  | zero =>
    intros
    rename _ = some _ => hf
    rw [l_X12_take_62] at hf
    cases hf
  | succ f ih =>
    intro a0 a1 x2 σ h r  R g0 g1 hf
    rw [l_X12_take_62] at hf
    refine go_iload_n (i := 2) (pc' := 63) dX12_take_62 rfl rfl rfl ?_
    refine go_aload_n (i := 0) (pc' := 64) dX12_take_63 rfl rfl rfl ?_
    refine go_getS (pc' := 67) dX12_take_64 rfl gf_LandBaseModel_Shape_28 R (g0.at R) (by decide) rfl ?_
    refine go_icmp_ge (pc' := 70) (tgt := 100) dX12_take_67 (by decide) rfl (fun c101 => ?_) (fun c101 => ?_)
    · have hf := it c101 hf
      obtain rfl := Option.some.inj hf
      exact Go.ret (v := none) dX12_take_100 rfl ⟨trivial, rfl, R⟩
    · have hf := ie c101 hf
      refine go_aload_n (i := 0) (pc' := 71) dX12_take_70 rfl rfl rfl ?_
      refine go_getS (pc' := 74) dX12_take_71 rfl gf_LandBaseModel_Shape_15 R (g0.at R) (by decide) rfl ?_
      refine go_iload_n (i := 2) (pc' := 75) dX12_take_74 rfl rfl rfl ?_
      refine go_aload_n (i := 1) (pc' := 76) dX12_take_75 rfl rfl rfl ?_
      refine go_getS (pc' := 79) dX12_take_76 rfl gf_LandBaseModel_Shape_15 R (g1.at R) (by decide) rfl ?_
      refine go_iload_n (i := 2) (pc' := 80) dX12_take_79 rfl rfl rfl ?_
      obtain ⟨g102, hf⟩ := gd_some hf
      refine go_ialoadS (pc' := 81) dX12_take_80 rfl R (g1.x R) g102 ?_
      obtain ⟨g103, hf⟩ := gd_some hf
      obtain ⟨σ104, e105, hf⟩ := st_some hf
      refine go_iastoreS (pc' := 82) dX12_take_81 rfl R (g0.x R) g103 (fun h106 R => ?_)
      have R := Rl.cast e105 R
      refine go_aload_n (i := 0) (pc' := 83) dX12_take_82 rfl rfl rfl ?_
      refine go_getS (pc' := 86) dX12_take_83 rfl gf_LandBaseModel_Shape_18 R (g0.at R) (by decide) rfl ?_
      refine go_iload_n (i := 2) (pc' := 87) dX12_take_86 rfl rfl rfl ?_
      refine go_aload_n (i := 1) (pc' := 88) dX12_take_87 rfl rfl rfl ?_
      refine go_getS (pc' := 91) dX12_take_88 rfl gf_LandBaseModel_Shape_18 R (g1.at R) (by decide) rfl ?_
      refine go_iload_n (i := 2) (pc' := 92) dX12_take_91 rfl rfl rfl ?_
      obtain ⟨g107, hf⟩ := gd_some hf
      refine go_ialoadS (pc' := 93) dX12_take_92 rfl R (g1.y R) g107 ?_
      obtain ⟨g108, hf⟩ := gd_some hf
      obtain ⟨σ109, e110, hf⟩ := st_some hf
      refine go_iastoreS (pc' := 94) dX12_take_93 rfl R (g0.y R) g108 (fun h111 R => ?_)
      have R := Rl.cast e110 R
      refine go_iincC (kk := 1) (pc' := 97) dX12_take_94 rfl rfl (by decide) (by decide) rfl ?_
      refine go_goto (pc' := 0) (tgt := 62) dX12_take_97 (by decide) ?_
      exact ih R g0 g1 hf
def l_X12_take_34 (n : Nat) : Nat → Nat → Nat → Int32 → xσ → Option (Unit × xσ)
  | 0, _, _, _, _ => none
  | f + 1, a0, a1, x2, σ => if (sI σ a0 3) ≤ x2 then l_X12_take_62 n xFU a0 a1 0 σ else gd (inb x2 8) (gd (inb x2 8) (st (wI σ (a0 + 1) x2.toNatClampNeg (sI σ (a1 + 1) x2.toNatClampNeg)) (fun σ104 => (l_X12_take_34 n f) a0 a1 (x2 + 1) σ104)))
set_option maxRecDepth 100000 in
set_option maxHeartbeats 4000000 in
theorem t_X12_take_34 {G : xG} {n : Nat} : ∀ (f : Nat) {a0 : Nat} {a1 : Nat} {x2 : Int32} {σ : xσ} {h : xH} {r : Unit × xσ}, Rl n σ h → okM a0 → okM a1 → l_X12_take_34 n f a0 a1 x2 σ = some r → Go G mX12_take 34 [some (.ref a0), some (.ref a1), some (.int x2)] [] h (fun v h' => xRok (xRt mX12_take) v ∧ v = none ∧ Rl n r.2 h') := by
  intro f
  induction f with
  | zero =>
    intros
    rename _ = some _ => hf
    rw [l_X12_take_34] at hf
    cases hf
  | succ f ih =>
    intro a0 a1 x2 σ h r  R g0 g1 hf
    rw [l_X12_take_34] at hf
    refine go_iload_n (i := 2) (pc' := 35) dX12_take_34 rfl rfl rfl ?_
    refine go_aload_n (i := 0) (pc' := 36) dX12_take_35 rfl rfl rfl ?_
    refine go_getS (pc' := 39) dX12_take_36 rfl gf_LandBaseModel_Shape_31 R (g0.at R) (by decide) rfl ?_
    refine go_icmp_ge (pc' := 42) (tgt := 60) dX12_take_39 (by decide) rfl (fun c101 => ?_) (fun c101 => ?_)
    · have hf := it c101 hf
      refine go_iconst (v := 0) (pc' := 61) dX12_take_60 rfl (by decide) ?_
      refine go_istore_nE rfl (i := 2) (pc' := 62) dX12_take_61 rfl rfl (by decide) rfl ?_
      exact t_X12_take_62 xFU R g0 g1 hf
    · have hf := ie c101 hf
      refine go_aload_n (i := 0) (pc' := 43) dX12_take_42 rfl rfl rfl ?_
      refine go_getS (pc' := 46) dX12_take_43 rfl gf_LandBaseModel_Shape_9 R (g0.at R) (by decide) rfl ?_
      refine go_iload_n (i := 2) (pc' := 47) dX12_take_46 rfl rfl rfl ?_
      refine go_aload_n (i := 1) (pc' := 48) dX12_take_47 rfl rfl rfl ?_
      refine go_getS (pc' := 51) dX12_take_48 rfl gf_LandBaseModel_Shape_9 R (g1.at R) (by decide) rfl ?_
      refine go_iload_n (i := 2) (pc' := 52) dX12_take_51 rfl rfl rfl ?_
      obtain ⟨g102, hf⟩ := gd_some hf
      refine go_ialoadS (pc' := 53) dX12_take_52 rfl R (g1.e R) g102 ?_
      obtain ⟨g103, hf⟩ := gd_some hf
      obtain ⟨σ104, e105, hf⟩ := st_some hf
      refine go_iastoreS (pc' := 54) dX12_take_53 rfl R (g0.e R) g103 (fun h106 R => ?_)
      have R := Rl.cast e105 R
      refine go_iincC (kk := 1) (pc' := 57) dX12_take_54 rfl rfl (by decide) (by decide) rfl ?_
      refine go_goto (pc' := 0) (tgt := 34) dX12_take_57 (by decide) ?_
      exact ih R g0 g1 hf
def f_X12_take (n : Nat) (a0 : Nat) (a1 : Nat) (σ : xσ) : Option (Unit × xσ) := gd (okM a0) (gd (okM a1) (st (wI σ a0 0 (sI σ a1 0)) (fun σ101 => st (wI σ101 a0 1 (sI σ101 a1 1)) (fun σ104 => st (wI σ104 a0 2 (sI σ104 a1 2)) (fun σ107 => st (wI σ107 a0 3 (sI σ107 a1 3)) (fun σ110 => l_X12_take_34 n xFU a0 a1 0 σ110))))))
set_option maxRecDepth 100000 in
set_option maxHeartbeats 4000000 in
theorem c_X12_take {G : xG} {n : Nat} {σ : xσ} {h : xH} {a0 : Nat} {a1 : Nat} {v1 : Unit} {σ1 : xσ} (R : Rl n σ h) (hf : f_X12_take n a0 a1 σ = some (v1, σ1)) : Ca G mX12_take [.ref a0, .ref a1] h (fun v h' => v = none ∧ Rl n σ1 h') := by
  refine Ca.of rfl (Nat.le_of_ble_eq_true rfl) ?_
  generalize hr : (v1, σ1) = r at hf
  suffices q : Go G mX12_take 0 (xent (xMl mX12_take) [.ref a0, .ref a1]) [] h (fun v h' => xRok (xRt mX12_take) v ∧ v = none ∧ Rl n r.2 h') by
    subst hr
    exact q
  clear hr
  rw [f_X12_take] at hf
  obtain ⟨g0, hf⟩ := gd_some hf
  obtain ⟨g1, hf⟩ := gd_some hf
  refine go_aload_n (i := 0) (pc' := 1) dX12_take_0 rfl rfl rfl ?_
  refine go_aload_n (i := 1) (pc' := 2) dX12_take_1 rfl rfl rfl ?_
  refine go_getS (pc' := 5) dX12_take_2 rfl gf_LandBaseModel_Shape_21 R (g1.at R) (by decide) rfl ?_
  obtain ⟨σ101, e102, hf⟩ := st_some hf
  refine go_putI (pc' := 8) dX12_take_5 rfl pf_LandBaseModel_Shape_21 R (g0.at R) (by decide) rfl rfl rfl (fun h103 R => ?_)
  have R := Rl.cast e102 R
  refine go_aload_n (i := 0) (pc' := 9) dX12_take_8 rfl rfl rfl ?_
  refine go_aload_n (i := 1) (pc' := 10) dX12_take_9 rfl rfl rfl ?_
  refine go_getS (pc' := 13) dX12_take_10 rfl gf_LandBaseModel_Shape_25 R (g1.at R) (by decide) rfl ?_
  obtain ⟨σ104, e105, hf⟩ := st_some hf
  refine go_putI (pc' := 16) dX12_take_13 rfl pf_LandBaseModel_Shape_25 R (g0.at R) (by decide) rfl rfl rfl (fun h106 R => ?_)
  have R := Rl.cast e105 R
  refine go_aload_n (i := 0) (pc' := 17) dX12_take_16 rfl rfl rfl ?_
  refine go_aload_n (i := 1) (pc' := 18) dX12_take_17 rfl rfl rfl ?_
  refine go_getS (pc' := 21) dX12_take_18 rfl gf_LandBaseModel_Shape_28 R (g1.at R) (by decide) rfl ?_
  obtain ⟨σ107, e108, hf⟩ := st_some hf
  refine go_putI (pc' := 24) dX12_take_21 rfl pf_LandBaseModel_Shape_28 R (g0.at R) (by decide) rfl rfl rfl (fun h109 R => ?_)
  have R := Rl.cast e108 R
  refine go_aload_n (i := 0) (pc' := 25) dX12_take_24 rfl rfl rfl ?_
  refine go_aload_n (i := 1) (pc' := 26) dX12_take_25 rfl rfl rfl ?_
  refine go_getS (pc' := 29) dX12_take_26 rfl gf_LandBaseModel_Shape_31 R (g1.at R) (by decide) rfl ?_
  obtain ⟨σ110, e111, hf⟩ := st_some hf
  refine go_putI (pc' := 32) dX12_take_29 rfl pf_LandBaseModel_Shape_31 R (g0.at R) (by decide) rfl rfl rfl (fun h112 R => ?_)
  have R := Rl.cast e111 R
  refine go_iconst (v := 0) (pc' := 33) dX12_take_32 rfl (by decide) ?_
  refine go_istore_nE rfl (i := 2) (pc' := 34) dX12_take_33 rfl rfl (by decide) rfl ?_
  exact t_X12_take_34 xFU R g0 g1 hf
def f_X12_begin (n : Nat) (a0 : Nat) (x1 : Int32) (σ : xσ) : Option (Unit × xσ) := gd (okM a0) (st (wI σ a0 1 x1) (fun σ101 => st (wI σ101 a0 2 0) (fun σ104 => st (wI σ104 a0 3 0) (fun σ107 => some ((), σ107)))))
set_option maxRecDepth 100000 in
set_option maxHeartbeats 4000000 in
theorem c_X12_begin {G : xG} {n : Nat} {σ : xσ} {h : xH} {a0 : Nat} {x1 : Int32} {v1 : Unit} {σ1 : xσ} (R : Rl n σ h) (hf : f_X12_begin n a0 x1 σ = some (v1, σ1)) : Ca G mX12_begin [.ref a0, .int x1] h (fun v h' => v = none ∧ Rl n σ1 h') := by
  refine Ca.of rfl (Nat.le_of_ble_eq_true rfl) ?_
  generalize hr : (v1, σ1) = r at hf
  suffices q : Go G mX12_begin 0 (xent (xMl mX12_begin) [.ref a0, .int x1]) [] h (fun v h' => xRok (xRt mX12_begin) v ∧ v = none ∧ Rl n r.2 h') by
    subst hr
    exact q
  clear hr
  rw [f_X12_begin] at hf
  obtain ⟨g0, hf⟩ := gd_some hf
  refine go_aload_n (i := 0) (pc' := 1) dX12_begin_0 rfl rfl rfl ?_
  refine go_iload_n (i := 1) (pc' := 2) dX12_begin_1 rfl rfl rfl ?_
  obtain ⟨σ101, e102, hf⟩ := st_some hf
  refine go_putI (pc' := 5) dX12_begin_2 rfl pf_LandBaseModel_Shape_25 R (g0.at R) (by decide) rfl rfl rfl (fun h103 R => ?_)
  have R := Rl.cast e102 R
  refine go_aload_n (i := 0) (pc' := 6) dX12_begin_5 rfl rfl rfl ?_
  refine go_iconst (v := 0) (pc' := 7) dX12_begin_6 rfl (by decide) ?_
  obtain ⟨σ104, e105, hf⟩ := st_some hf
  refine go_putI (pc' := 10) dX12_begin_7 rfl pf_LandBaseModel_Shape_28 R (g0.at R) (by decide) rfl rfl rfl (fun h106 R => ?_)
  have R := Rl.cast e105 R
  refine go_aload_n (i := 0) (pc' := 11) dX12_begin_10 rfl rfl rfl ?_
  refine go_iconst (v := 0) (pc' := 12) dX12_begin_11 rfl (by decide) ?_
  obtain ⟨σ107, e108, hf⟩ := st_some hf
  refine go_putI (pc' := 15) dX12_begin_12 rfl pf_LandBaseModel_Shape_31 R (g0.at R) (by decide) rfl rfl rfl (fun h109 R => ?_)
  have R := Rl.cast e108 R
  obtain rfl := Option.some.inj hf
  exact Go.ret (v := none) dX12_begin_15 rfl ⟨trivial, rfl, R⟩
def f_X12_add (n : Nat) (a0 : Nat) (x1 : Int32) (x2 : Int32) (σ : xσ) : Option (Unit × xσ) := gd (okM a0) (gd (inb (sI σ a0 2) 40) (st (wI σ (a0 + 2) (sI σ a0 2).toNatClampNeg x1) (fun σ102 => gd (inb (sI σ102 a0 2) 40) (st (wI σ102 (a0 + 3) (sI σ102 a0 2).toNatClampNeg x2) (fun σ106 => st (wI σ106 a0 2 ((sI σ106 a0 2) + 1)) (fun σ109 => some ((), σ109)))))))
set_option maxRecDepth 100000 in
set_option maxHeartbeats 4000000 in
theorem c_X12_add {G : xG} {n : Nat} {σ : xσ} {h : xH} {a0 : Nat} {x1 : Int32} {x2 : Int32} {v1 : Unit} {σ1 : xσ} (R : Rl n σ h) (hf : f_X12_add n a0 x1 x2 σ = some (v1, σ1)) : Ca G mX12_add [.ref a0, .int x1, .int x2] h (fun v h' => v = none ∧ Rl n σ1 h') := by
  refine Ca.of rfl (Nat.le_of_ble_eq_true rfl) ?_
  generalize hr : (v1, σ1) = r at hf
  suffices q : Go G mX12_add 0 (xent (xMl mX12_add) [.ref a0, .int x1, .int x2]) [] h (fun v h' => xRok (xRt mX12_add) v ∧ v = none ∧ Rl n r.2 h') by
    subst hr
    exact q
  clear hr
  rw [f_X12_add] at hf
  obtain ⟨g0, hf⟩ := gd_some hf
  refine go_aload_n (i := 0) (pc' := 1) dX12_add_0 rfl rfl rfl ?_
  refine go_getS (pc' := 4) dX12_add_1 rfl gf_LandBaseModel_Shape_15 R (g0.at R) (by decide) rfl ?_
  refine go_aload_n (i := 0) (pc' := 5) dX12_add_4 rfl rfl rfl ?_
  refine go_getS (pc' := 8) dX12_add_5 rfl gf_LandBaseModel_Shape_28 R (g0.at R) (by decide) rfl ?_
  refine go_iload_n (i := 1) (pc' := 9) dX12_add_8 rfl rfl rfl ?_
  obtain ⟨g101, hf⟩ := gd_some hf
  obtain ⟨σ102, e103, hf⟩ := st_some hf
  refine go_iastoreS (pc' := 10) dX12_add_9 rfl R (g0.x R) g101 (fun h104 R => ?_)
  have R := Rl.cast e103 R
  refine go_aload_n (i := 0) (pc' := 11) dX12_add_10 rfl rfl rfl ?_
  refine go_getS (pc' := 14) dX12_add_11 rfl gf_LandBaseModel_Shape_18 R (g0.at R) (by decide) rfl ?_
  refine go_aload_n (i := 0) (pc' := 15) dX12_add_14 rfl rfl rfl ?_
  refine go_getS (pc' := 18) dX12_add_15 rfl gf_LandBaseModel_Shape_28 R (g0.at R) (by decide) rfl ?_
  refine go_iload_n (i := 2) (pc' := 19) dX12_add_18 rfl rfl rfl ?_
  obtain ⟨g105, hf⟩ := gd_some hf
  obtain ⟨σ106, e107, hf⟩ := st_some hf
  refine go_iastoreS (pc' := 20) dX12_add_19 rfl R (g0.y R) g105 (fun h108 R => ?_)
  have R := Rl.cast e107 R
  refine go_aload_n (i := 0) (pc' := 21) dX12_add_20 rfl rfl rfl ?_
  refine go_dup (pc' := 22) dX12_add_21 rfl rfl ?_
  refine go_getS (pc' := 25) dX12_add_22 rfl gf_LandBaseModel_Shape_28 R (g0.at R) (by decide) rfl ?_
  refine go_iconst (v := 1) (pc' := 26) dX12_add_25 rfl (by decide) ?_
  refine go_iadd (pc' := 27) dX12_add_26 rfl ?_
  obtain ⟨σ109, e110, hf⟩ := st_some hf
  refine go_putI (pc' := 30) dX12_add_27 rfl pf_LandBaseModel_Shape_28 R (g0.at R) (by decide) rfl rfl rfl (fun h111 R => ?_)
  have R := Rl.cast e110 R
  obtain rfl := Option.some.inj hf
  exact Go.ret (v := none) dX12_add_30 rfl ⟨trivial, rfl, R⟩
def f_X12_endRing (n : Nat) (a0 : Nat) (σ : xσ) : Option (Unit × xσ) := gd (okM a0) (gd (inb (sI σ a0 3) 8) (st (wI σ (a0 + 1) (sI σ a0 3).toNatClampNeg (sI σ a0 2)) (fun σ102 => st (wI σ102 a0 3 ((sI σ102 a0 3) + 1)) (fun σ105 => some ((), σ105)))))
set_option maxRecDepth 100000 in
set_option maxHeartbeats 4000000 in
theorem c_X12_endRing {G : xG} {n : Nat} {σ : xσ} {h : xH} {a0 : Nat} {v1 : Unit} {σ1 : xσ} (R : Rl n σ h) (hf : f_X12_endRing n a0 σ = some (v1, σ1)) : Ca G mX12_endRing [.ref a0] h (fun v h' => v = none ∧ Rl n σ1 h') := by
  refine Ca.of rfl (Nat.le_of_ble_eq_true rfl) ?_
  generalize hr : (v1, σ1) = r at hf
  suffices q : Go G mX12_endRing 0 (xent (xMl mX12_endRing) [.ref a0]) [] h (fun v h' => xRok (xRt mX12_endRing) v ∧ v = none ∧ Rl n r.2 h') by
    subst hr
    exact q
  clear hr
  rw [f_X12_endRing] at hf
  obtain ⟨g0, hf⟩ := gd_some hf
  refine go_aload_n (i := 0) (pc' := 1) dX12_endRing_0 rfl rfl rfl ?_
  refine go_getS (pc' := 4) dX12_endRing_1 rfl gf_LandBaseModel_Shape_9 R (g0.at R) (by decide) rfl ?_
  refine go_aload_n (i := 0) (pc' := 5) dX12_endRing_4 rfl rfl rfl ?_
  refine go_getS (pc' := 8) dX12_endRing_5 rfl gf_LandBaseModel_Shape_31 R (g0.at R) (by decide) rfl ?_
  refine go_aload_n (i := 0) (pc' := 9) dX12_endRing_8 rfl rfl rfl ?_
  refine go_getS (pc' := 12) dX12_endRing_9 rfl gf_LandBaseModel_Shape_28 R (g0.at R) (by decide) rfl ?_
  obtain ⟨g101, hf⟩ := gd_some hf
  obtain ⟨σ102, e103, hf⟩ := st_some hf
  refine go_iastoreS (pc' := 13) dX12_endRing_12 rfl R (g0.e R) g101 (fun h104 R => ?_)
  have R := Rl.cast e103 R
  refine go_aload_n (i := 0) (pc' := 14) dX12_endRing_13 rfl rfl rfl ?_
  refine go_dup (pc' := 15) dX12_endRing_14 rfl rfl ?_
  refine go_getS (pc' := 18) dX12_endRing_15 rfl gf_LandBaseModel_Shape_31 R (g0.at R) (by decide) rfl ?_
  refine go_iconst (v := 1) (pc' := 19) dX12_endRing_18 rfl (by decide) ?_
  refine go_iadd (pc' := 20) dX12_endRing_19 rfl ?_
  obtain ⟨σ105, e106, hf⟩ := st_some hf
  refine go_putI (pc' := 23) dX12_endRing_20 rfl pf_LandBaseModel_Shape_31 R (g0.at R) (by decide) rfl rfl rfl (fun h107 R => ?_)
  have R := Rl.cast e106 R
  obtain rfl := Option.some.inj hf
  exact Go.ret (v := none) dX12_endRing_23 rfl ⟨trivial, rfl, R⟩
def f_X12_beginOf (n : Nat) (a0 : Nat) (x1 : Int32) (σ : xσ) : Option (Int32 × xσ) := gd (okM a0) (if x1 = 0 then some (0, σ) else gd (inb (x1 - 1) 8) (some (sI σ (a0 + 1) (x1 - 1).toNatClampNeg, σ)))
set_option maxRecDepth 100000 in
set_option maxHeartbeats 4000000 in
theorem c_X12_beginOf {G : xG} {n : Nat} {σ : xσ} {h : xH} {a0 : Nat} {x1 : Int32} {v1 : Int32} {σ1 : xσ} (R : Rl n σ h) (hf : f_X12_beginOf n a0 x1 σ = some (v1, σ1)) : Ca G mX12_beginOf [.ref a0, .int x1] h (fun v h' => v = some (.int v1) ∧ Rl n σ1 h') := by
  refine Ca.of rfl (Nat.le_of_ble_eq_true rfl) ?_
  generalize hr : (v1, σ1) = r at hf
  suffices q : Go G mX12_beginOf 0 (xent (xMl mX12_beginOf) [.ref a0, .int x1]) [] h (fun v h' => xRok (xRt mX12_beginOf) v ∧ v = some (.int r.1) ∧ Rl n r.2 h') by
    subst hr
    exact q
  clear hr
  rw [f_X12_beginOf] at hf
  obtain ⟨g0, hf⟩ := gd_some hf
  refine go_iload_n (i := 1) (pc' := 1) dX12_beginOf_0 rfl rfl rfl ?_
  refine go_if_ne (pc' := 4) (tgt := 8) dX12_beginOf_1 (by decide) rfl (fun c101 => ?_) (fun c101 => ?_)
  · have hf := ie c101 hf
    refine go_aload_n (i := 0) (pc' := 9) dX12_beginOf_8 rfl rfl rfl ?_
    refine go_getS (pc' := 12) dX12_beginOf_9 rfl gf_LandBaseModel_Shape_9 R (g0.at R) (by decide) rfl ?_
    refine go_iload_n (i := 1) (pc' := 13) dX12_beginOf_12 rfl rfl rfl ?_
    refine go_iconst (v := 1) (pc' := 14) dX12_beginOf_13 rfl (by decide) ?_
    refine go_isub (pc' := 15) dX12_beginOf_14 rfl ?_
    obtain ⟨g102, hf⟩ := gd_some hf
    refine go_ialoadS (pc' := 16) dX12_beginOf_15 rfl R (g0.e R) g102 ?_
    obtain rfl := Option.some.inj hf
    exact Go.ret (v := some (.int _)) dX12_beginOf_16 ⟨_, rfl⟩ ⟨rfl, rfl, R⟩
  · have hf := it c101 hf
    refine go_iconst (v := 0) (pc' := 5) dX12_beginOf_4 rfl (by decide) ?_
    refine go_goto (pc' := 0) (tgt := 16) dX12_beginOf_5 (by decide) ?_
    obtain rfl := Option.some.inj hf
    exact Go.ret (v := some (.int _)) dX12_beginOf_16 ⟨_, rfl⟩ ⟨rfl, rfl, R⟩
def f_X12_isLike (n : Nat) (a0 : Nat) (x1 : Int32) (x2 : Int32) (σ : xσ) : Option (Int32 × xσ) := gd (okM a0) (gd (inb x1 40) (gd (inb x2 40) (if (sI σ (a0 + 2) x1.toNatClampNeg) = (sI σ (a0 + 2) x2.toNatClampNeg) then gd (inb x1 40) (gd (inb x2 40) (if (sI σ (a0 + 3) x1.toNatClampNeg) = (sI σ (a0 + 3) x2.toNatClampNeg) then some (1, σ) else some (0, σ))) else some (0, σ))))
set_option maxRecDepth 100000 in
set_option maxHeartbeats 4000000 in
theorem c_X12_isLike {G : xG} {n : Nat} {σ : xσ} {h : xH} {a0 : Nat} {x1 : Int32} {x2 : Int32} {v1 : Int32} {σ1 : xσ} (R : Rl n σ h) (hf : f_X12_isLike n a0 x1 x2 σ = some (v1, σ1)) : Ca G mX12_isLike [.ref a0, .int x1, .int x2] h (fun v h' => v = some (.int v1) ∧ Rl n σ1 h') := by
  refine Ca.of rfl (Nat.le_of_ble_eq_true rfl) ?_
  generalize hr : (v1, σ1) = r at hf
  suffices q : Go G mX12_isLike 0 (xent (xMl mX12_isLike) [.ref a0, .int x1, .int x2]) [] h (fun v h' => xRok (xRt mX12_isLike) v ∧ v = some (.int r.1) ∧ Rl n r.2 h') by
    subst hr
    exact q
  clear hr
  rw [f_X12_isLike] at hf
  obtain ⟨g0, hf⟩ := gd_some hf
  refine go_aload_n (i := 0) (pc' := 1) dX12_isLike_0 rfl rfl rfl ?_
  refine go_getS (pc' := 4) dX12_isLike_1 rfl gf_LandBaseModel_Shape_15 R (g0.at R) (by decide) rfl ?_
  refine go_iload_n (i := 1) (pc' := 5) dX12_isLike_4 rfl rfl rfl ?_
  obtain ⟨g101, hf⟩ := gd_some hf
  refine go_ialoadS (pc' := 6) dX12_isLike_5 rfl R (g0.x R) g101 ?_
  refine go_aload_n (i := 0) (pc' := 7) dX12_isLike_6 rfl rfl rfl ?_
  refine go_getS (pc' := 10) dX12_isLike_7 rfl gf_LandBaseModel_Shape_15 R (g0.at R) (by decide) rfl ?_
  refine go_iload_n (i := 2) (pc' := 11) dX12_isLike_10 rfl rfl rfl ?_
  obtain ⟨g102, hf⟩ := gd_some hf
  refine go_ialoadS (pc' := 12) dX12_isLike_11 rfl R (g0.x R) g102 ?_
  refine go_icmp_ne (pc' := 15) (tgt := 34) dX12_isLike_12 (by decide) rfl (fun c103 => ?_) (fun c103 => ?_)
  · have hf := ie c103 hf
    refine go_iconst (v := 0) (pc' := 35) dX12_isLike_34 rfl (by decide) ?_
    obtain rfl := Option.some.inj hf
    exact Go.ret (v := some (.int _)) dX12_isLike_35 ⟨_, rfl⟩ ⟨rfl, rfl, R⟩
  · have hf := it c103 hf
    refine go_aload_n (i := 0) (pc' := 16) dX12_isLike_15 rfl rfl rfl ?_
    refine go_getS (pc' := 19) dX12_isLike_16 rfl gf_LandBaseModel_Shape_18 R (g0.at R) (by decide) rfl ?_
    refine go_iload_n (i := 1) (pc' := 20) dX12_isLike_19 rfl rfl rfl ?_
    obtain ⟨g104, hf⟩ := gd_some hf
    refine go_ialoadS (pc' := 21) dX12_isLike_20 rfl R (g0.y R) g104 ?_
    refine go_aload_n (i := 0) (pc' := 22) dX12_isLike_21 rfl rfl rfl ?_
    refine go_getS (pc' := 25) dX12_isLike_22 rfl gf_LandBaseModel_Shape_18 R (g0.at R) (by decide) rfl ?_
    refine go_iload_n (i := 2) (pc' := 26) dX12_isLike_25 rfl rfl rfl ?_
    obtain ⟨g105, hf⟩ := gd_some hf
    refine go_ialoadS (pc' := 27) dX12_isLike_26 rfl R (g0.y R) g105 ?_
    refine go_icmp_ne (pc' := 30) (tgt := 34) dX12_isLike_27 (by decide) rfl (fun c106 => ?_) (fun c106 => ?_)
    · have hf := ie c106 hf
      refine go_iconst (v := 0) (pc' := 35) dX12_isLike_34 rfl (by decide) ?_
      obtain rfl := Option.some.inj hf
      exact Go.ret (v := some (.int _)) dX12_isLike_35 ⟨_, rfl⟩ ⟨rfl, rfl, R⟩
    · have hf := it c106 hf
      refine go_iconst (v := 1) (pc' := 31) dX12_isLike_30 rfl (by decide) ?_
      refine go_goto (pc' := 0) (tgt := 35) dX12_isLike_31 (by decide) ?_
      obtain rfl := Option.some.inj hf
      exact Go.ret (v := some (.int _)) dX12_isLike_35 ⟨_, rfl⟩ ⟨rfl, rfl, R⟩
def l_X12_isWay_21 (n : Nat) : Nat → Nat → Int32 → Int32 → xσ → Option (Int32 × xσ)
  | 0, _, _, _, _ => none
  | f + 1, a0, x1, x2, σ => if (sI σ a0 3) ≤ x2 then some (1, σ) else gd (inb x2 8) (if (sI σ (a0 + 1) x2.toNatClampNeg) = (x1 + 1) then some (0, σ) else (l_X12_isWay_21 n f) a0 x1 (x2 + 1) σ)
set_option maxRecDepth 100000 in
set_option maxHeartbeats 4000000 in
theorem t_X12_isWay_21 {G : xG} {n : Nat} : ∀ (f : Nat) {a0 : Nat} {x1 : Int32} {x2 : Int32} {σ : xσ} {h : xH} {r : Int32 × xσ}, Rl n σ h → okM a0 → l_X12_isWay_21 n f a0 x1 x2 σ = some r → Go G mX12_isWay 21 [some (.ref a0), some (.int x1), some (.int x2)] [] h (fun v h' => xRok (xRt mX12_isWay) v ∧ v = some (.int r.1) ∧ Rl n r.2 h') := by
  intro f
  induction f with
  | zero =>
    intros
    rename _ = some _ => hf
    rw [l_X12_isWay_21] at hf
    cases hf
  | succ f ih =>
    intro a0 x1 x2 σ h r  R g0 hf
    rw [l_X12_isWay_21] at hf
    refine go_iload_n (i := 2) (pc' := 22) dX12_isWay_21 rfl rfl rfl ?_
    refine go_aload_n (i := 0) (pc' := 23) dX12_isWay_22 rfl rfl rfl ?_
    refine go_getS (pc' := 26) dX12_isWay_23 rfl gf_LandBaseModel_Shape_31 R (g0.at R) (by decide) rfl ?_
    refine go_icmp_ge (pc' := 29) (tgt := 49) dX12_isWay_26 (by decide) rfl (fun c101 => ?_) (fun c101 => ?_)
    · have hf := it c101 hf
      refine go_iconst (v := 1) (pc' := 50) dX12_isWay_49 rfl (by decide) ?_
      obtain rfl := Option.some.inj hf
      exact Go.ret (v := some (.int _)) dX12_isWay_50 ⟨_, rfl⟩ ⟨rfl, rfl, R⟩
    · have hf := ie c101 hf
      refine go_aload_n (i := 0) (pc' := 30) dX12_isWay_29 rfl rfl rfl ?_
      refine go_getS (pc' := 33) dX12_isWay_30 rfl gf_LandBaseModel_Shape_9 R (g0.at R) (by decide) rfl ?_
      refine go_iload_n (i := 2) (pc' := 34) dX12_isWay_33 rfl rfl rfl ?_
      obtain ⟨g102, hf⟩ := gd_some hf
      refine go_ialoadS (pc' := 35) dX12_isWay_34 rfl R (g0.e R) g102 ?_
      refine go_iload_n (i := 1) (pc' := 36) dX12_isWay_35 rfl rfl rfl ?_
      refine go_iconst (v := 1) (pc' := 37) dX12_isWay_36 rfl (by decide) ?_
      refine go_iadd (pc' := 38) dX12_isWay_37 rfl ?_
      refine go_icmp_ne (pc' := 41) (tgt := 43) dX12_isWay_38 (by decide) rfl (fun c103 => ?_) (fun c103 => ?_)
      · have hf := ie c103 hf
        refine go_iincC (kk := 1) (pc' := 46) dX12_isWay_43 rfl rfl (by decide) (by decide) rfl ?_
        refine go_goto (pc' := 0) (tgt := 21) dX12_isWay_46 (by decide) ?_
        exact ih R g0 hf
      · have hf := it c103 hf
        refine go_iconst (v := 0) (pc' := 42) dX12_isWay_41 rfl (by decide) ?_
        obtain rfl := Option.some.inj hf
        exact Go.ret (v := some (.int _)) dX12_isWay_42 ⟨_, rfl⟩ ⟨rfl, rfl, R⟩
def f_X12_isWay (n : Nat) (a0 : Nat) (x1 : Int32) (σ : xσ) : Option (Int32 × xσ) := gd (okM a0) (if (sI σ a0 1) = 0 then some (0, σ) else if (x1 + 1) < (sI σ a0 2) then l_X12_isWay_21 n xFU a0 x1 0 σ else some (0, σ))
set_option maxRecDepth 100000 in
set_option maxHeartbeats 4000000 in
theorem c_X12_isWay {G : xG} {n : Nat} {σ : xσ} {h : xH} {a0 : Nat} {x1 : Int32} {v1 : Int32} {σ1 : xσ} (R : Rl n σ h) (hf : f_X12_isWay n a0 x1 σ = some (v1, σ1)) : Ca G mX12_isWay [.ref a0, .int x1] h (fun v h' => v = some (.int v1) ∧ Rl n σ1 h') := by
  refine Ca.of rfl (Nat.le_of_ble_eq_true rfl) ?_
  generalize hr : (v1, σ1) = r at hf
  suffices q : Go G mX12_isWay 0 (xent (xMl mX12_isWay) [.ref a0, .int x1]) [] h (fun v h' => xRok (xRt mX12_isWay) v ∧ v = some (.int r.1) ∧ Rl n r.2 h') by
    subst hr
    exact q
  clear hr
  rw [f_X12_isWay] at hf
  obtain ⟨g0, hf⟩ := gd_some hf
  refine go_aload_n (i := 0) (pc' := 1) dX12_isWay_0 rfl rfl rfl ?_
  refine go_getS (pc' := 4) dX12_isWay_1 rfl gf_LandBaseModel_Shape_25 R (g0.at R) (by decide) rfl ?_
  refine go_if_eq (pc' := 7) (tgt := 17) dX12_isWay_4 (by decide) rfl (fun c101 => ?_) (fun c101 => ?_)
  · have hf := it c101 hf
    refine go_iconst (v := 0) (pc' := 18) dX12_isWay_17 rfl (by decide) ?_
    obtain rfl := Option.some.inj hf
    exact Go.ret (v := some (.int _)) dX12_isWay_18 ⟨_, rfl⟩ ⟨rfl, rfl, R⟩
  · have hf := ie c101 hf
    refine go_iload_n (i := 1) (pc' := 8) dX12_isWay_7 rfl rfl rfl ?_
    refine go_iconst (v := 1) (pc' := 9) dX12_isWay_8 rfl (by decide) ?_
    refine go_iadd (pc' := 10) dX12_isWay_9 rfl ?_
    refine go_aload_n (i := 0) (pc' := 11) dX12_isWay_10 rfl rfl rfl ?_
    refine go_getS (pc' := 14) dX12_isWay_11 rfl gf_LandBaseModel_Shape_28 R (g0.at R) (by decide) rfl ?_
    refine go_icmp_lt (pc' := 17) (tgt := 19) dX12_isWay_14 (by decide) rfl (fun c102 => ?_) (fun c102 => ?_)
    · have hf := it c102 hf
      refine go_iconst (v := 0) (pc' := 20) dX12_isWay_19 rfl (by decide) ?_
      refine go_istore_nE rfl (i := 2) (pc' := 21) dX12_isWay_20 rfl rfl (by decide) rfl ?_
      exact t_X12_isWay_21 xFU R g0 hf
    · have hf := ie c102 hf
      refine go_iconst (v := 0) (pc' := 18) dX12_isWay_17 rfl (by decide) ?_
      obtain rfl := Option.some.inj hf
      exact Go.ret (v := some (.int _)) dX12_isWay_18 ⟨_, rfl⟩ ⟨rfl, rfl, R⟩
def f_X12_isOpen (n : Nat) (a0 : Nat) (σ : xσ) : Option (Int32 × xσ) := gd (okM a0) (if (sI σ a0 1) = 1 then bd (f_X12_isLike n a0 0 ((sI σ a0 2) - 1) σ) (fun v102 σ103 => if v102 = 0 then some (1, σ103) else some (0, σ103)) else some (0, σ))
set_option maxRecDepth 100000 in
set_option maxHeartbeats 4000000 in
theorem c_X12_isOpen {G : xG} {n : Nat} {σ : xσ} {h : xH} {a0 : Nat} {v1 : Int32} {σ1 : xσ} (R : Rl n σ h) (hf : f_X12_isOpen n a0 σ = some (v1, σ1)) : Ca G mX12_isOpen [.ref a0] h (fun v h' => v = some (.int v1) ∧ Rl n σ1 h') := by
  refine Ca.of rfl (Nat.le_of_ble_eq_true rfl) ?_
  generalize hr : (v1, σ1) = r at hf
  suffices q : Go G mX12_isOpen 0 (xent (xMl mX12_isOpen) [.ref a0]) [] h (fun v h' => xRok (xRt mX12_isOpen) v ∧ v = some (.int r.1) ∧ Rl n r.2 h') by
    subst hr
    exact q
  clear hr
  rw [f_X12_isOpen] at hf
  obtain ⟨g0, hf⟩ := gd_some hf
  refine go_aload_n (i := 0) (pc' := 1) dX12_isOpen_0 rfl rfl rfl ?_
  refine go_getS (pc' := 4) dX12_isOpen_1 rfl gf_LandBaseModel_Shape_25 R (g0.at R) (by decide) rfl ?_
  refine go_iconst (v := 1) (pc' := 5) dX12_isOpen_4 rfl (by decide) ?_
  refine go_icmp_ne (pc' := 8) (tgt := 26) dX12_isOpen_5 (by decide) rfl (fun c101 => ?_) (fun c101 => ?_)
  · have hf := ie c101 hf
    refine go_iconst (v := 0) (pc' := 27) dX12_isOpen_26 rfl (by decide) ?_
    obtain rfl := Option.some.inj hf
    exact Go.ret (v := some (.int _)) dX12_isOpen_27 ⟨_, rfl⟩ ⟨rfl, rfl, R⟩
  · have hf := it c101 hf
    refine go_aload_n (i := 0) (pc' := 9) dX12_isOpen_8 rfl rfl rfl ?_
    refine go_iconst (v := 0) (pc' := 10) dX12_isOpen_9 rfl (by decide) ?_
    refine go_aload_n (i := 0) (pc' := 11) dX12_isOpen_10 rfl rfl rfl ?_
    refine go_getS (pc' := 14) dX12_isOpen_11 rfl gf_LandBaseModel_Shape_28 R (g0.at R) (by decide) rfl ?_
    refine go_iconst (v := 1) (pc' := 15) dX12_isOpen_14 rfl (by decide) ?_
    refine go_isub (pc' := 16) dX12_isOpen_15 rfl ?_
    obtain ⟨v102, σ103, e104, hf⟩ := bd_some hf
    refine go_invV (As := [_, _]) (pc' := 19) dX12_isOpen_16 rfl cf_X12_isOpen_34 rfl (R.ob (g0.at R)) rfl rfl (Nat.le_of_ble_eq_true rfl) (c_X12_isLike R e104) (fun q105v h106 q105 => ?_)
    obtain ⟨rfl, R⟩ := q105
    refine go_if_ne (pc' := 22) (tgt := 26) dX12_isOpen_19 (by decide) rfl (fun c107 => ?_) (fun c107 => ?_)
    · have hf := ie c107 hf
      refine go_iconst (v := 0) (pc' := 27) dX12_isOpen_26 rfl (by decide) ?_
      obtain rfl := Option.some.inj hf
      exact Go.ret (v := some (.int _)) dX12_isOpen_27 ⟨_, rfl⟩ ⟨rfl, rfl, R⟩
    · have hf := it c107 hf
      refine go_iconst (v := 1) (pc' := 23) dX12_isOpen_22 rfl (by decide) ?_
      refine go_goto (pc' := 0) (tgt := 27) dX12_isOpen_23 (by decide) ?_
      obtain rfl := Option.some.inj hf
      exact Go.ret (v := some (.int _)) dX12_isOpen_27 ⟨_, rfl⟩ ⟨rfl, rfl, R⟩
def l_X13_take_10 (n : Nat) : Nat → Nat → Nat → Int32 → xσ → Option (Unit × xσ)
  | 0, _, _, _, _ => none
  | f + 1, a0, a1, x2, σ => if (sI σ a0 1) ≤ x2 then some ((), σ) else gd (inb x2 200) (nn (sR σ (a0 + 1) x2.toNatClampNeg) (fun a103 => gd (okM a103) (gd (inb x2 200) (nn (sR σ (a1 + 1) x2.toNatClampNeg) (fun a107 => gd (okM a107) (bd (f_X12_take n a103 a107 σ) (fun v110 σ111 => (l_X13_take_10 n f) a0 a1 (x2 + 1) σ111)))))))
set_option maxRecDepth 100000 in
set_option maxHeartbeats 4000000 in
theorem t_X13_take_10 {G : xG} {n : Nat} : ∀ (f : Nat) {a0 : Nat} {a1 : Nat} {x2 : Int32} {σ : xσ} {h : xH} {r : Unit × xσ}, Rl n σ h → okU a0 → okU a1 → l_X13_take_10 n f a0 a1 x2 σ = some r → Go G mX13_take 10 [some (.ref a0), some (.ref a1), some (.int x2)] [] h (fun v h' => xRok (xRt mX13_take) v ∧ v = none ∧ Rl n r.2 h') := by
  intro f
  induction f with
  | zero =>
    intros
    rename _ = some _ => hf
    rw [l_X13_take_10] at hf
    cases hf
  | succ f ih =>
    intro a0 a1 x2 σ h r  R g0 g1 hf
    rw [l_X13_take_10] at hf
    refine go_iload_n (i := 2) (pc' := 11) dX13_take_10 rfl rfl rfl ?_
    refine go_aload_n (i := 0) (pc' := 12) dX13_take_11 rfl rfl rfl ?_
    refine go_getS (pc' := 15) dX13_take_12 rfl gf_LandBaseModel_State_18 R (g0.at R) (by decide) rfl ?_
    refine go_icmp_ge (pc' := 18) (tgt := 39) dX13_take_15 (by decide) rfl (fun c101 => ?_) (fun c101 => ?_)
    · have hf := it c101 hf
      obtain rfl := Option.some.inj hf
      exact Go.ret (v := none) dX13_take_39 rfl ⟨trivial, rfl, R⟩
    · have hf := ie c101 hf
      refine go_aload_n (i := 0) (pc' := 19) dX13_take_18 rfl rfl rfl ?_
      refine go_getS (pc' := 22) dX13_take_19 rfl gf_LandBaseModel_State_11 R (g0.at R) (by decide) rfl ?_
      refine go_iload_n (i := 2) (pc' := 23) dX13_take_22 rfl rfl rfl ?_
      obtain ⟨g102, hf⟩ := gd_some hf
      obtain ⟨a103, e104, hf⟩ := nn_some hf
      obtain ⟨g105, hf⟩ := gd_some hf
      refine go_aaloadS (pc' := 24) dX13_take_23 rfl (by decide) R (g0.a R) g102 e104 ?_
      refine go_aload_n (i := 1) (pc' := 25) dX13_take_24 rfl rfl rfl ?_
      refine go_getS (pc' := 28) dX13_take_25 rfl gf_LandBaseModel_State_11 R (g1.at R) (by decide) rfl ?_
      refine go_iload_n (i := 2) (pc' := 29) dX13_take_28 rfl rfl rfl ?_
      obtain ⟨g106, hf⟩ := gd_some hf
      obtain ⟨a107, e108, hf⟩ := nn_some hf
      obtain ⟨g109, hf⟩ := gd_some hf
      refine go_aaloadS (pc' := 30) dX13_take_29 rfl (by decide) R (g1.a R) g106 e108 ?_
      obtain ⟨v110, σ111, e112, hf⟩ := bd_some hf
      refine go_invV (As := [_]) (pc' := 33) dX13_take_30 rfl cf_X13_take_22 rfl (R.ob (g105.at R)) rfl rfl (Nat.le_of_ble_eq_true rfl) (c_X12_take R e112) (fun q113v h114 q113 => ?_)
      obtain ⟨rfl, R⟩ := q113
      refine go_iincC (kk := 1) (pc' := 36) dX13_take_33 rfl rfl (by decide) (by decide) rfl ?_
      refine go_goto (pc' := 0) (tgt := 10) dX13_take_36 (by decide) ?_
      exact ih R g0 g1 hf
def f_X13_take (n : Nat) (a0 : Nat) (a1 : Nat) (σ : xσ) : Option (Unit × xσ) := gd (okU a0) (gd (okU a1) (st (wI σ a0 1 (sI σ a1 1)) (fun σ101 => l_X13_take_10 n xFU a0 a1 0 σ101)))
set_option maxRecDepth 100000 in
set_option maxHeartbeats 4000000 in
theorem c_X13_take {G : xG} {n : Nat} {σ : xσ} {h : xH} {a0 : Nat} {a1 : Nat} {v1 : Unit} {σ1 : xσ} (R : Rl n σ h) (hf : f_X13_take n a0 a1 σ = some (v1, σ1)) : Ca G mX13_take [.ref a0, .ref a1] h (fun v h' => v = none ∧ Rl n σ1 h') := by
  refine Ca.of rfl (Nat.le_of_ble_eq_true rfl) ?_
  generalize hr : (v1, σ1) = r at hf
  suffices q : Go G mX13_take 0 (xent (xMl mX13_take) [.ref a0, .ref a1]) [] h (fun v h' => xRok (xRt mX13_take) v ∧ v = none ∧ Rl n r.2 h') by
    subst hr
    exact q
  clear hr
  rw [f_X13_take] at hf
  obtain ⟨g0, hf⟩ := gd_some hf
  obtain ⟨g1, hf⟩ := gd_some hf
  refine go_aload_n (i := 0) (pc' := 1) dX13_take_0 rfl rfl rfl ?_
  refine go_aload_n (i := 1) (pc' := 2) dX13_take_1 rfl rfl rfl ?_
  refine go_getS (pc' := 5) dX13_take_2 rfl gf_LandBaseModel_State_18 R (g1.at R) (by decide) rfl ?_
  obtain ⟨σ101, e102, hf⟩ := st_some hf
  refine go_putI (pc' := 8) dX13_take_5 rfl pf_LandBaseModel_State_18 R (g0.at R) (by decide) rfl rfl rfl (fun h103 R => ?_)
  have R := Rl.cast e102 R
  refine go_iconst (v := 0) (pc' := 9) dX13_take_8 rfl (by decide) ?_
  refine go_istore_nE rfl (i := 2) (pc' := 10) dX13_take_9 rfl rfl (by decide) rfl ?_
  exact t_X13_take_10 xFU R g0 g1 hf
def l_X13_find_2 (n : Nat) : Nat → Nat → Int32 → Int32 → xσ → Option (Int32 × xσ)
  | 0, _, _, _, _ => none
  | f + 1, a0, x1, x2, σ => if (sI σ a0 1) ≤ x2 then some ((-1), σ) else gd (inb x2 200) (nn (sR σ (a0 + 1) x2.toNatClampNeg) (fun a103 => gd (okM a103) (if (sI σ a103 0) = x1 then some (x2, σ) else (l_X13_find_2 n f) a0 x1 (x2 + 1) σ)))
set_option maxRecDepth 100000 in
set_option maxHeartbeats 4000000 in
theorem t_X13_find_2 {G : xG} {n : Nat} : ∀ (f : Nat) {a0 : Nat} {x1 : Int32} {x2 : Int32} {σ : xσ} {h : xH} {r : Int32 × xσ}, Rl n σ h → okU a0 → l_X13_find_2 n f a0 x1 x2 σ = some r → Go G mX13_find 2 [some (.ref a0), some (.int x1), some (.int x2)] [] h (fun v h' => xRok (xRt mX13_find) v ∧ v = some (.int r.1) ∧ Rl n r.2 h') := by
  intro f
  induction f with
  | zero =>
    intros
    rename _ = some _ => hf
    rw [l_X13_find_2] at hf
    cases hf
  | succ f ih =>
    intro a0 x1 x2 σ h r  R g0 hf
    rw [l_X13_find_2] at hf
    refine go_iload_n (i := 2) (pc' := 3) dX13_find_2 rfl rfl rfl ?_
    refine go_aload_n (i := 0) (pc' := 4) dX13_find_3 rfl rfl rfl ?_
    refine go_getS (pc' := 7) dX13_find_4 rfl gf_LandBaseModel_State_18 R (g0.at R) (by decide) rfl ?_
    refine go_icmp_ge (pc' := 10) (tgt := 31) dX13_find_7 (by decide) rfl (fun c101 => ?_) (fun c101 => ?_)
    · have hf := it c101 hf
      refine go_iconst (v := (-1)) (pc' := 32) dX13_find_31 rfl (by decide) ?_
      obtain rfl := Option.some.inj hf
      exact Go.ret (v := some (.int _)) dX13_find_32 ⟨_, rfl⟩ ⟨rfl, rfl, R⟩
    · have hf := ie c101 hf
      refine go_aload_n (i := 0) (pc' := 11) dX13_find_10 rfl rfl rfl ?_
      refine go_getS (pc' := 14) dX13_find_11 rfl gf_LandBaseModel_State_11 R (g0.at R) (by decide) rfl ?_
      refine go_iload_n (i := 2) (pc' := 15) dX13_find_14 rfl rfl rfl ?_
      obtain ⟨g102, hf⟩ := gd_some hf
      obtain ⟨a103, e104, hf⟩ := nn_some hf
      obtain ⟨g105, hf⟩ := gd_some hf
      refine go_aaloadS (pc' := 16) dX13_find_15 rfl (by decide) R (g0.a R) g102 e104 ?_
      refine go_getS (pc' := 19) dX13_find_16 rfl gf_LandBaseModel_State_26 R (g105.at R) (by decide) rfl ?_
      refine go_iload_n (i := 1) (pc' := 20) dX13_find_19 rfl rfl rfl ?_
      refine go_icmp_ne (pc' := 23) (tgt := 25) dX13_find_20 (by decide) rfl (fun c106 => ?_) (fun c106 => ?_)
      · have hf := ie c106 hf
        refine go_iincC (kk := 1) (pc' := 28) dX13_find_25 rfl rfl (by decide) (by decide) rfl ?_
        refine go_goto (pc' := 0) (tgt := 2) dX13_find_28 (by decide) ?_
        exact ih R g0 hf
      · have hf := it c106 hf
        refine go_iload_n (i := 2) (pc' := 24) dX13_find_23 rfl rfl rfl ?_
        obtain rfl := Option.some.inj hf
        exact Go.ret (v := some (.int _)) dX13_find_24 ⟨_, rfl⟩ ⟨rfl, rfl, R⟩
def f_X13_find (n : Nat) (a0 : Nat) (x1 : Int32) (σ : xσ) : Option (Int32 × xσ) := gd (okU a0) (l_X13_find_2 n xFU a0 x1 0 σ)
set_option maxRecDepth 100000 in
set_option maxHeartbeats 4000000 in
theorem c_X13_find {G : xG} {n : Nat} {σ : xσ} {h : xH} {a0 : Nat} {x1 : Int32} {v1 : Int32} {σ1 : xσ} (R : Rl n σ h) (hf : f_X13_find n a0 x1 σ = some (v1, σ1)) : Ca G mX13_find [.ref a0, .int x1] h (fun v h' => v = some (.int v1) ∧ Rl n σ1 h') := by
  refine Ca.of rfl (Nat.le_of_ble_eq_true rfl) ?_
  generalize hr : (v1, σ1) = r at hf
  suffices q : Go G mX13_find 0 (xent (xMl mX13_find) [.ref a0, .int x1]) [] h (fun v h' => xRok (xRt mX13_find) v ∧ v = some (.int r.1) ∧ Rl n r.2 h') by
    subst hr
    exact q
  clear hr
  rw [f_X13_find] at hf
  obtain ⟨g0, hf⟩ := gd_some hf
  refine go_iconst (v := 0) (pc' := 1) dX13_find_0 rfl (by decide) ?_
  refine go_istore_nE rfl (i := 2) (pc' := 2) dX13_find_1 rfl rfl (by decide) rfl ?_
  exact t_X13_find_2 xFU R g0 hf
def l_X13_add_16 (n : Nat) : Nat → Nat → Int32 → Nat → Nat → Int32 → xσ → Option (Unit × xσ)
  | 0, _, _, _, _, _, _ => none
  | f + 1, a0, x1, a2, a3, x4, σ => if x4 ≤ 0 then gd (inb x4 200) (st (wR σ (a0 + 1) x4.toNatClampNeg (some a3)) (fun σ103 => bd (f_X12_take n a3 a2 σ103) (fun v106 σ107 => st (wI σ107 a3 0 x1) (fun σ111 => st (wI σ111 a0 1 ((sI σ111 a0 1) + 1)) (fun σ114 => some ((), σ114)))))) else gd (inb (x4 - 1) 200) (nn (sR σ (a0 + 1) (x4 - 1).toNatClampNeg) (fun a118 => gd (okM a118) (if (sI σ a118 0) ≤ x1 then gd (inb x4 200) (st (wR σ (a0 + 1) x4.toNatClampNeg (some a3)) (fun σ123 => bd (f_X12_take n a3 a2 σ123) (fun v126 σ127 => st (wI σ127 a3 0 x1) (fun σ131 => st (wI σ131 a0 1 ((sI σ131 a0 1) + 1)) (fun σ134 => some ((), σ134)))))) else gd (inb (x4 - 1) 200) (nn (sR σ (a0 + 1) (x4 - 1).toNatClampNeg) (fun a138 => gd (okM a138) (gd (inb x4 200) (st (wR σ (a0 + 1) x4.toNatClampNeg (some a138)) (fun σ142 => (l_X13_add_16 n f) a0 x1 a2 a3 (x4 + (-1)) σ142))))))))
set_option maxRecDepth 100000 in
set_option maxHeartbeats 4000000 in
theorem t_X13_add_16 {G : xG} {n : Nat} : ∀ (f : Nat) {a0 : Nat} {x1 : Int32} {a2 : Nat} {a3 : Nat} {x4 : Int32} {σ : xσ} {h : xH} {r : Unit × xσ}, Rl n σ h → okU a0 → okM a2 → okM a3 → l_X13_add_16 n f a0 x1 a2 a3 x4 σ = some r → Go G mX13_add 16 [some (.ref a0), some (.int x1), some (.ref a2), some (.ref a3), some (.int x4)] [] h (fun v h' => xRok (xRt mX13_add) v ∧ v = none ∧ Rl n r.2 h') := by
  intro f
  induction f with
  | zero =>
    intros
    rename _ = some _ => hf
    rw [l_X13_add_16] at hf
    cases hf
  | succ f ih =>
    intro a0 x1 a2 a3 x4 σ h r  R g0 g2 g3 hf
    rw [l_X13_add_16] at hf
    refine go_iload (pc' := 18) dX13_add_16 rfl rfl ?_
    refine go_if_le (pc' := 21) (tgt := 59) dX13_add_18 (by decide) rfl (fun c101 => ?_) (fun c101 => ?_)
    · have hf := it c101 hf
      refine go_aload_n (i := 0) (pc' := 60) dX13_add_59 rfl rfl rfl ?_
      refine go_getS (pc' := 63) dX13_add_60 rfl gf_LandBaseModel_State_11 R (g0.at R) (by decide) rfl ?_
      refine go_iload (pc' := 65) dX13_add_63 rfl rfl ?_
      refine go_aload_n (i := 3) (pc' := 66) dX13_add_65 rfl rfl rfl ?_
      obtain ⟨g102, hf⟩ := gd_some hf
      obtain ⟨σ103, e104, hf⟩ := st_some hf
      refine go_aastoreS (pc' := 67) dX13_add_66 rfl (by decide) rfl rfl R (g0.a R) (g3.at R) g102 (fun h105 R => ?_)
      have R := Rl.cast e104 R
      refine go_aload_n (i := 3) (pc' := 68) dX13_add_67 rfl rfl rfl ?_
      refine go_aload_n (i := 2) (pc' := 69) dX13_add_68 rfl rfl rfl ?_
      obtain ⟨v106, σ107, e108, hf⟩ := bd_some hf
      refine go_invV (As := [_]) (pc' := 72) dX13_add_69 rfl cf_X13_add_22 rfl (R.ob (g3.at R)) rfl rfl (Nat.le_of_ble_eq_true rfl) (c_X12_take R e108) (fun q109v h110 q109 => ?_)
      obtain ⟨rfl, R⟩ := q109
      refine go_aload_n (i := 3) (pc' := 73) dX13_add_72 rfl rfl rfl ?_
      refine go_iload_n (i := 1) (pc' := 74) dX13_add_73 rfl rfl rfl ?_
      obtain ⟨σ111, e112, hf⟩ := st_some hf
      refine go_putI (pc' := 77) dX13_add_74 rfl pf_LandBaseModel_State_26 R (g3.at R) (by decide) rfl rfl rfl (fun h113 R => ?_)
      have R := Rl.cast e112 R
      refine go_aload_n (i := 0) (pc' := 78) dX13_add_77 rfl rfl rfl ?_
      refine go_dup (pc' := 79) dX13_add_78 rfl rfl ?_
      refine go_getS (pc' := 82) dX13_add_79 rfl gf_LandBaseModel_State_18 R (g0.at R) (by decide) rfl ?_
      refine go_iconst (v := 1) (pc' := 83) dX13_add_82 rfl (by decide) ?_
      refine go_iadd (pc' := 84) dX13_add_83 rfl ?_
      obtain ⟨σ114, e115, hf⟩ := st_some hf
      refine go_putI (pc' := 87) dX13_add_84 rfl pf_LandBaseModel_State_18 R (g0.at R) (by decide) rfl rfl rfl (fun h116 R => ?_)
      have R := Rl.cast e115 R
      obtain rfl := Option.some.inj hf
      exact Go.ret (v := none) dX13_add_87 rfl ⟨trivial, rfl, R⟩
    · have hf := ie c101 hf
      refine go_aload_n (i := 0) (pc' := 22) dX13_add_21 rfl rfl rfl ?_
      refine go_getS (pc' := 25) dX13_add_22 rfl gf_LandBaseModel_State_11 R (g0.at R) (by decide) rfl ?_
      refine go_iload (pc' := 27) dX13_add_25 rfl rfl ?_
      refine go_iconst (v := 1) (pc' := 28) dX13_add_27 rfl (by decide) ?_
      refine go_isub (pc' := 29) dX13_add_28 rfl ?_
      obtain ⟨g117, hf⟩ := gd_some hf
      obtain ⟨a118, e119, hf⟩ := nn_some hf
      obtain ⟨g120, hf⟩ := gd_some hf
      refine go_aaloadS (pc' := 30) dX13_add_29 rfl (by decide) R (g0.a R) g117 e119 ?_
      refine go_getS (pc' := 33) dX13_add_30 rfl gf_LandBaseModel_State_26 R (g120.at R) (by decide) rfl ?_
      refine go_iload_n (i := 1) (pc' := 34) dX13_add_33 rfl rfl rfl ?_
      refine go_icmp_le (pc' := 37) (tgt := 59) dX13_add_34 (by decide) rfl (fun c121 => ?_) (fun c121 => ?_)
      · have hf := it c121 hf
        refine go_aload_n (i := 0) (pc' := 60) dX13_add_59 rfl rfl rfl ?_
        refine go_getS (pc' := 63) dX13_add_60 rfl gf_LandBaseModel_State_11 R (g0.at R) (by decide) rfl ?_
        refine go_iload (pc' := 65) dX13_add_63 rfl rfl ?_
        refine go_aload_n (i := 3) (pc' := 66) dX13_add_65 rfl rfl rfl ?_
        obtain ⟨g122, hf⟩ := gd_some hf
        obtain ⟨σ123, e124, hf⟩ := st_some hf
        refine go_aastoreS (pc' := 67) dX13_add_66 rfl (by decide) rfl rfl R (g0.a R) (g3.at R) g122 (fun h125 R => ?_)
        have R := Rl.cast e124 R
        refine go_aload_n (i := 3) (pc' := 68) dX13_add_67 rfl rfl rfl ?_
        refine go_aload_n (i := 2) (pc' := 69) dX13_add_68 rfl rfl rfl ?_
        obtain ⟨v126, σ127, e128, hf⟩ := bd_some hf
        refine go_invV (As := [_]) (pc' := 72) dX13_add_69 rfl cf_X13_add_22 rfl (R.ob (g3.at R)) rfl rfl (Nat.le_of_ble_eq_true rfl) (c_X12_take R e128) (fun q129v h130 q129 => ?_)
        obtain ⟨rfl, R⟩ := q129
        refine go_aload_n (i := 3) (pc' := 73) dX13_add_72 rfl rfl rfl ?_
        refine go_iload_n (i := 1) (pc' := 74) dX13_add_73 rfl rfl rfl ?_
        obtain ⟨σ131, e132, hf⟩ := st_some hf
        refine go_putI (pc' := 77) dX13_add_74 rfl pf_LandBaseModel_State_26 R (g3.at R) (by decide) rfl rfl rfl (fun h133 R => ?_)
        have R := Rl.cast e132 R
        refine go_aload_n (i := 0) (pc' := 78) dX13_add_77 rfl rfl rfl ?_
        refine go_dup (pc' := 79) dX13_add_78 rfl rfl ?_
        refine go_getS (pc' := 82) dX13_add_79 rfl gf_LandBaseModel_State_18 R (g0.at R) (by decide) rfl ?_
        refine go_iconst (v := 1) (pc' := 83) dX13_add_82 rfl (by decide) ?_
        refine go_iadd (pc' := 84) dX13_add_83 rfl ?_
        obtain ⟨σ134, e135, hf⟩ := st_some hf
        refine go_putI (pc' := 87) dX13_add_84 rfl pf_LandBaseModel_State_18 R (g0.at R) (by decide) rfl rfl rfl (fun h136 R => ?_)
        have R := Rl.cast e135 R
        obtain rfl := Option.some.inj hf
        exact Go.ret (v := none) dX13_add_87 rfl ⟨trivial, rfl, R⟩
      · have hf := ie c121 hf
        refine go_aload_n (i := 0) (pc' := 38) dX13_add_37 rfl rfl rfl ?_
        refine go_getS (pc' := 41) dX13_add_38 rfl gf_LandBaseModel_State_11 R (g0.at R) (by decide) rfl ?_
        refine go_iload (pc' := 43) dX13_add_41 rfl rfl ?_
        refine go_aload_n (i := 0) (pc' := 44) dX13_add_43 rfl rfl rfl ?_
        refine go_getS (pc' := 47) dX13_add_44 rfl gf_LandBaseModel_State_11 R (g0.at R) (by decide) rfl ?_
        refine go_iload (pc' := 49) dX13_add_47 rfl rfl ?_
        refine go_iconst (v := 1) (pc' := 50) dX13_add_49 rfl (by decide) ?_
        refine go_isub (pc' := 51) dX13_add_50 rfl ?_
        obtain ⟨g137, hf⟩ := gd_some hf
        obtain ⟨a138, e139, hf⟩ := nn_some hf
        obtain ⟨g140, hf⟩ := gd_some hf
        refine go_aaloadS (pc' := 52) dX13_add_51 rfl (by decide) R (g0.a R) g137 e139 ?_
        obtain ⟨g141, hf⟩ := gd_some hf
        obtain ⟨σ142, e143, hf⟩ := st_some hf
        refine go_aastoreS (pc' := 53) dX13_add_52 rfl (by decide) rfl rfl R (g0.a R) (g140.at R) g141 (fun h144 R => ?_)
        have R := Rl.cast e143 R
        refine go_iincC (kk := (-1)) (pc' := 56) dX13_add_53 rfl rfl (by decide) (by decide) rfl ?_
        refine go_goto (pc' := 0) (tgt := 16) dX13_add_56 (by decide) ?_
        exact ih R g0 g2 g3 hf
def f_X13_add (n : Nat) (a0 : Nat) (x1 : Int32) (a2 : Nat) (σ : xσ) : Option (Unit × xσ) := gd (okU a0) (gd (okM a2) (gd (inb (sI σ a0 1) 200) (nn (sR σ (a0 + 1) (sI σ a0 1).toNatClampNeg) (fun a102 => gd (okM a102) (st (sI σ a0 1) (fun x105 => l_X13_add_16 n xFU a0 x1 a2 a102 x105 σ))))))
set_option maxRecDepth 100000 in
set_option maxHeartbeats 4000000 in
theorem c_X13_add {G : xG} {n : Nat} {σ : xσ} {h : xH} {a0 : Nat} {x1 : Int32} {a2 : Nat} {v1 : Unit} {σ1 : xσ} (R : Rl n σ h) (hf : f_X13_add n a0 x1 a2 σ = some (v1, σ1)) : Ca G mX13_add [.ref a0, .int x1, .ref a2] h (fun v h' => v = none ∧ Rl n σ1 h') := by
  refine Ca.of rfl (Nat.le_of_ble_eq_true rfl) ?_
  generalize hr : (v1, σ1) = r at hf
  suffices q : Go G mX13_add 0 (xent (xMl mX13_add) [.ref a0, .int x1, .ref a2]) [] h (fun v h' => xRok (xRt mX13_add) v ∧ v = none ∧ Rl n r.2 h') by
    subst hr
    exact q
  clear hr
  rw [f_X13_add] at hf
  obtain ⟨g0, hf⟩ := gd_some hf
  obtain ⟨g2, hf⟩ := gd_some hf
  refine go_aload_n (i := 0) (pc' := 1) dX13_add_0 rfl rfl rfl ?_
  refine go_getS (pc' := 4) dX13_add_1 rfl gf_LandBaseModel_State_11 R (g0.at R) (by decide) rfl ?_
  refine go_aload_n (i := 0) (pc' := 5) dX13_add_4 rfl rfl rfl ?_
  refine go_getS (pc' := 8) dX13_add_5 rfl gf_LandBaseModel_State_18 R (g0.at R) (by decide) rfl ?_
  obtain ⟨g101, hf⟩ := gd_some hf
  obtain ⟨a102, e103, hf⟩ := nn_some hf
  obtain ⟨g104, hf⟩ := gd_some hf
  refine go_aaloadS (pc' := 9) dX13_add_8 rfl (by decide) R (g0.a R) g101 e103 ?_
  refine go_astore_n (i := 3) (pc' := 10) dX13_add_9 rfl rfl (by decide) rfl ?_
  refine go_aload_n (i := 0) (pc' := 11) dX13_add_10 rfl rfl rfl ?_
  refine go_getS (pc' := 14) dX13_add_11 rfl gf_LandBaseModel_State_18 R (g0.at R) (by decide) rfl ?_
  obtain ⟨x105, e106, hf⟩ := st_some hf
  refine go_istoreE e106 (pc' := 16) dX13_add_14 rfl (by decide) rfl ?_
  exact t_X13_add_16 xFU R g0 g2 g104 hf
def l_X13_drop_9 (n : Nat) : Nat → Nat → Nat → Int32 → xσ → Option (Unit × xσ)
  | 0, _, _, _, _ => none
  | f + 1, a0, a2, x3, σ => if (sI σ a0 1) ≤ (x3 + 1) then st (wI σ a0 1 ((sI σ a0 1) - 1)) (fun σ102 => gd (inb (sI σ102 a0 1) 200) (st (wR σ102 (a0 + 1) (sI σ102 a0 1).toNatClampNeg (some a2)) (fun σ106 => some ((), σ106)))) else gd (inb (x3 + 1) 200) (nn (sR σ (a0 + 1) (x3 + 1).toNatClampNeg) (fun a110 => gd (okM a110) (gd (inb x3 200) (st (wR σ (a0 + 1) x3.toNatClampNeg (some a110)) (fun σ114 => (l_X13_drop_9 n f) a0 a2 (x3 + 1) σ114)))))
set_option maxRecDepth 100000 in
set_option maxHeartbeats 4000000 in
theorem t_X13_drop_9 {G : xG} {n : Nat} : ∀ (f : Nat) {a0 : Nat} {a2 : Nat} {x3 : Int32} {σ : xσ} {h : xH} {r : Unit × xσ} {d1 : Option Value}, Rl n σ h → okU a0 → okM a2 → l_X13_drop_9 n f a0 a2 x3 σ = some r → Go G mX13_drop 9 [some (.ref a0), d1, some (.ref a2), some (.int x3)] [] h (fun v h' => xRok (xRt mX13_drop) v ∧ v = none ∧ Rl n r.2 h') := by
  intro f
  induction f with
  | zero =>
    intros
    rename _ = some _ => hf
    rw [l_X13_drop_9] at hf
    cases hf
  | succ f ih =>
    intro a0 a2 x3 σ h r d1 R g0 g2 hf
    rw [l_X13_drop_9] at hf
    refine go_iload_n (i := 3) (pc' := 10) dX13_drop_9 rfl rfl rfl ?_
    refine go_iconst (v := 1) (pc' := 11) dX13_drop_10 rfl (by decide) ?_
    refine go_iadd (pc' := 12) dX13_drop_11 rfl ?_
    refine go_aload_n (i := 0) (pc' := 13) dX13_drop_12 rfl rfl rfl ?_
    refine go_getS (pc' := 16) dX13_drop_13 rfl gf_LandBaseModel_State_18 R (g0.at R) (by decide) rfl ?_
    refine go_icmp_ge (pc' := 19) (tgt := 39) dX13_drop_16 (by decide) rfl (fun c101 => ?_) (fun c101 => ?_)
    · have hf := it c101 hf
      refine go_aload_n (i := 0) (pc' := 40) dX13_drop_39 rfl rfl rfl ?_
      refine go_dup (pc' := 41) dX13_drop_40 rfl rfl ?_
      refine go_getS (pc' := 44) dX13_drop_41 rfl gf_LandBaseModel_State_18 R (g0.at R) (by decide) rfl ?_
      refine go_iconst (v := 1) (pc' := 45) dX13_drop_44 rfl (by decide) ?_
      refine go_isub (pc' := 46) dX13_drop_45 rfl ?_
      obtain ⟨σ102, e103, hf⟩ := st_some hf
      refine go_putI (pc' := 49) dX13_drop_46 rfl pf_LandBaseModel_State_18 R (g0.at R) (by decide) rfl rfl rfl (fun h104 R => ?_)
      have R := Rl.cast e103 R
      refine go_aload_n (i := 0) (pc' := 50) dX13_drop_49 rfl rfl rfl ?_
      refine go_getS (pc' := 53) dX13_drop_50 rfl gf_LandBaseModel_State_11 R (g0.at R) (by decide) rfl ?_
      refine go_aload_n (i := 0) (pc' := 54) dX13_drop_53 rfl rfl rfl ?_
      refine go_getS (pc' := 57) dX13_drop_54 rfl gf_LandBaseModel_State_18 R (g0.at R) (by decide) rfl ?_
      refine go_aload_n (i := 2) (pc' := 58) dX13_drop_57 rfl rfl rfl ?_
      obtain ⟨g105, hf⟩ := gd_some hf
      obtain ⟨σ106, e107, hf⟩ := st_some hf
      refine go_aastoreS (pc' := 59) dX13_drop_58 rfl (by decide) rfl rfl R (g0.a R) (g2.at R) g105 (fun h108 R => ?_)
      have R := Rl.cast e107 R
      obtain rfl := Option.some.inj hf
      exact Go.ret (v := none) dX13_drop_59 rfl ⟨trivial, rfl, R⟩
    · have hf := ie c101 hf
      refine go_aload_n (i := 0) (pc' := 20) dX13_drop_19 rfl rfl rfl ?_
      refine go_getS (pc' := 23) dX13_drop_20 rfl gf_LandBaseModel_State_11 R (g0.at R) (by decide) rfl ?_
      refine go_iload_n (i := 3) (pc' := 24) dX13_drop_23 rfl rfl rfl ?_
      refine go_aload_n (i := 0) (pc' := 25) dX13_drop_24 rfl rfl rfl ?_
      refine go_getS (pc' := 28) dX13_drop_25 rfl gf_LandBaseModel_State_11 R (g0.at R) (by decide) rfl ?_
      refine go_iload_n (i := 3) (pc' := 29) dX13_drop_28 rfl rfl rfl ?_
      refine go_iconst (v := 1) (pc' := 30) dX13_drop_29 rfl (by decide) ?_
      refine go_iadd (pc' := 31) dX13_drop_30 rfl ?_
      obtain ⟨g109, hf⟩ := gd_some hf
      obtain ⟨a110, e111, hf⟩ := nn_some hf
      obtain ⟨g112, hf⟩ := gd_some hf
      refine go_aaloadS (pc' := 32) dX13_drop_31 rfl (by decide) R (g0.a R) g109 e111 ?_
      obtain ⟨g113, hf⟩ := gd_some hf
      obtain ⟨σ114, e115, hf⟩ := st_some hf
      refine go_aastoreS (pc' := 33) dX13_drop_32 rfl (by decide) rfl rfl R (g0.a R) (g112.at R) g113 (fun h116 R => ?_)
      have R := Rl.cast e115 R
      refine go_iincC (kk := 1) (pc' := 36) dX13_drop_33 rfl rfl (by decide) (by decide) rfl ?_
      refine go_goto (pc' := 0) (tgt := 9) dX13_drop_36 (by decide) ?_
      exact ih R g0 g2 hf
def f_X13_drop (n : Nat) (a0 : Nat) (x1 : Int32) (σ : xσ) : Option (Unit × xσ) := gd (okU a0) (gd (inb x1 200) (nn (sR σ (a0 + 1) x1.toNatClampNeg) (fun a102 => gd (okM a102) (l_X13_drop_9 n xFU a0 a102 x1 σ))))
set_option maxRecDepth 100000 in
set_option maxHeartbeats 4000000 in
theorem c_X13_drop {G : xG} {n : Nat} {σ : xσ} {h : xH} {a0 : Nat} {x1 : Int32} {v1 : Unit} {σ1 : xσ} (R : Rl n σ h) (hf : f_X13_drop n a0 x1 σ = some (v1, σ1)) : Ca G mX13_drop [.ref a0, .int x1] h (fun v h' => v = none ∧ Rl n σ1 h') := by
  refine Ca.of rfl (Nat.le_of_ble_eq_true rfl) ?_
  generalize hr : (v1, σ1) = r at hf
  suffices q : Go G mX13_drop 0 (xent (xMl mX13_drop) [.ref a0, .int x1]) [] h (fun v h' => xRok (xRt mX13_drop) v ∧ v = none ∧ Rl n r.2 h') by
    subst hr
    exact q
  clear hr
  rw [f_X13_drop] at hf
  obtain ⟨g0, hf⟩ := gd_some hf
  refine go_aload_n (i := 0) (pc' := 1) dX13_drop_0 rfl rfl rfl ?_
  refine go_getS (pc' := 4) dX13_drop_1 rfl gf_LandBaseModel_State_11 R (g0.at R) (by decide) rfl ?_
  refine go_iload_n (i := 1) (pc' := 5) dX13_drop_4 rfl rfl rfl ?_
  obtain ⟨g101, hf⟩ := gd_some hf
  obtain ⟨a102, e103, hf⟩ := nn_some hf
  obtain ⟨g104, hf⟩ := gd_some hf
  refine go_aaloadS (pc' := 6) dX13_drop_5 rfl (by decide) R (g0.a R) g101 e103 ?_
  refine go_astore_n (i := 2) (pc' := 7) dX13_drop_6 rfl rfl (by decide) rfl ?_
  refine go_iload_n (i := 1) (pc' := 8) dX13_drop_7 rfl rfl rfl ?_
  refine go_istore_nE rfl (i := 3) (pc' := 9) dX13_drop_8 rfl rfl (by decide) rfl ?_
  exact t_X13_drop_9 xFU R g0 g104 hf
def l_X14_set_5 (n : Nat) : Nat → Nat → Int64 → Int32 → xσ → Option (Unit × xσ)
  | 0, _, _, _, _ => none
  | f + 1, a0, l3, x5, σ => if 8 ≤ x5 then some ((), σ) else gd (¬ ((268435456 : Int64)) = 0) (gd (inb x5 8) (st (wJ σ a0 x5.toNatClampNeg (l3 - l3 / ((268435456 : Int64)) * ((268435456 : Int64)))) (fun σ104 => gd (¬ ((268435456 : Int64)) = 0) (st (l3 / ((268435456 : Int64))) (fun l108 => (l_X14_set_5 n f) a0 l108 (x5 + 1) σ104)))))
set_option maxRecDepth 100000 in
set_option maxHeartbeats 4000000 in
theorem t_X14_set_5 {G : xG} {n : Nat} : ∀ (f : Nat) {a0 : Nat} {l3 : Int64} {x5 : Int32} {σ : xσ} {h : xH} {r : Unit × xσ} {d1 : Option Value} {d2 : Option Value}, Rl n σ h → okL a0 → l_X14_set_5 n f a0 l3 x5 σ = some r → Go G mX14_set 5 [some (.ref a0), d1, d2, some (.long l3), none, some (.int x5)] [] h (fun v h' => xRok (xRt mX14_set) v ∧ v = none ∧ Rl n r.2 h') := by
  intro f
  induction f with
  | zero =>
    intros
    rename _ = some _ => hf
    rw [l_X14_set_5] at hf
    cases hf
  | succ f ih =>
    intro a0 l3 x5 σ h r d1 d2 R g0 hf
    rw [l_X14_set_5] at hf
    refine go_iload (pc' := 7) dX14_set_5 rfl rfl ?_
    refine go_bipush (v := 8) (pc' := 9) dX14_set_7 rfl (by decide) ?_
    refine go_icmp_ge (pc' := 12) (tgt := 33) dX14_set_9 (by decide) rfl (fun c101 => ?_) (fun c101 => ?_)
    · have hf := it c101 hf
      obtain rfl := Option.some.inj hf
      exact Go.ret (v := none) dX14_set_33 rfl ⟨trivial, rfl, R⟩
    · have hf := ie c101 hf
      refine go_aload_n (i := 0) (pc' := 13) dX14_set_12 rfl rfl rfl ?_
      refine go_iload (pc' := 15) dX14_set_13 rfl rfl ?_
      refine go_lload_n (i := 3) (pc' := 16) dX14_set_15 rfl rfl rfl ?_
      refine go_ldc2 (pc' := 19) dX14_set_16 rfl wd_1422 ?_
      obtain ⟨g102, hf⟩ := gd_some hf
      refine go_lrem (pc' := 20) dX14_set_19 rfl g102 ?_
      obtain ⟨g103, hf⟩ := gd_some hf
      obtain ⟨σ104, e105, hf⟩ := st_some hf
      refine go_lastoreS (pc' := 21) dX14_set_20 rfl R (g0.aa R) g103 (fun h106 R => ?_)
      have R := Rl.cast e105 R
      refine go_lload_n (i := 3) (pc' := 22) dX14_set_21 rfl rfl rfl ?_
      refine go_ldc2 (pc' := 25) dX14_set_22 rfl wd_1422 ?_
      obtain ⟨g107, hf⟩ := gd_some hf
      refine go_ldiv (pc' := 26) dX14_set_25 rfl g107 ?_
      obtain ⟨l108, e109, hf⟩ := st_some hf
      refine go_lstore_nE e109 (i := 3) (pc' := 27) dX14_set_26 rfl rfl (by decide) rfl ?_
      refine go_iincC (kk := 1) (pc' := 30) dX14_set_27 rfl rfl (by decide) (by decide) rfl ?_
      refine go_goto (pc' := 0) (tgt := 5) dX14_set_30 (by decide) ?_
      exact ih R g0 hf
def f_X14_set (n : Nat) (a0 : Nat) (l1 : Int64) (σ : xσ) : Option (Unit × xσ) := gd (okL a0) (l_X14_set_5 n xFU a0 l1 0 σ)
set_option maxRecDepth 100000 in
set_option maxHeartbeats 4000000 in
theorem c_X14_set {G : xG} {n : Nat} {σ : xσ} {h : xH} {a0 : Nat} {l1 : Int64} {v1 : Unit} {σ1 : xσ} (R : Rl n σ h) (hf : f_X14_set n a0 l1 σ = some (v1, σ1)) : Ca G mX14_set [.ref a0, .long l1] h (fun v h' => v = none ∧ Rl n σ1 h') := by
  refine Ca.of rfl (Nat.le_of_ble_eq_true rfl) ?_
  generalize hr : (v1, σ1) = r at hf
  suffices q : Go G mX14_set 0 (xent (xMl mX14_set) [.ref a0, .long l1]) [] h (fun v h' => xRok (xRt mX14_set) v ∧ v = none ∧ Rl n r.2 h') by
    subst hr
    exact q
  clear hr
  rw [f_X14_set] at hf
  obtain ⟨g0, hf⟩ := gd_some hf
  refine go_lload_n (i := 1) (pc' := 1) dX14_set_0 rfl rfl rfl ?_
  refine go_lstore_nE rfl (i := 3) (pc' := 2) dX14_set_1 rfl rfl (by decide) rfl ?_
  refine go_iconst (v := 0) (pc' := 3) dX14_set_2 rfl (by decide) ?_
  refine go_istoreE rfl (pc' := 5) dX14_set_3 rfl (by decide) rfl ?_
  exact t_X14_set_5 xFU R g0 hf
def l_X14_times_18 (n : Nat) (k5 : Nat → Nat → Nat → Int64 → Int32 → xσ → Option (Unit × xσ)) : Nat → Nat → Nat → Nat → Int32 → Int64 → Int32 → xσ → Option (Unit × xσ)
  | 0, _, _, _, _, _, _, _ => none
  | f + 1, a0, a1, a2, x5, l6, x8, σ => if x5 < x8 then gd (¬ ((268435456 : Int64)) = 0) (gd (inb x5 8) (st (wJ σ a0 x5.toNatClampNeg (l6 - l6 / ((268435456 : Int64)) * ((268435456 : Int64)))) (fun σ104 => gd (¬ ((268435456 : Int64)) = 0) (st (l6 / ((268435456 : Int64))) (fun l108 => k5 a0 a1 a2 l108 (x5 + 1) σ104))))) else gd (inb x8 8) (gd (inb (x5 - x8) 8) (st (l6 + ((sJ σ a1 x8.toNatClampNeg) * (sJ σ a2 (x5 - x8).toNatClampNeg))) (fun l112 => (l_X14_times_18 n k5 f) a0 a1 a2 x5 l112 (x8 + 1) σ)))
set_option maxRecDepth 100000 in
set_option maxHeartbeats 4000000 in
theorem t_X14_times_18 {G : xG} {n : Nat} {k5 : Nat → Nat → Nat → Int64 → Int32 → xσ → Option (Unit × xσ)} (hk5 : ∀ {a0 : Nat} {a1 : Nat} {a2 : Nat} {l3 : Int64} {x5 : Int32} {σ : xσ} {h : xH} {r : Unit × xσ} {d6 : Option Value} {d7 : Option Value} {d8 : Option Value}, Rl n σ h → okL a0 → okL a1 → okL a2 → k5 a0 a1 a2 l3 x5 σ = some r → Go G mX14_times 5 [some (.ref a0), some (.ref a1), some (.ref a2), some (.long l3), none, some (.int x5), d6, d7, d8] [] h (fun v h' => xRok (xRt mX14_times) v ∧ v = none ∧ Rl n r.2 h')) : ∀ (f : Nat) {a0 : Nat} {a1 : Nat} {a2 : Nat} {x5 : Int32} {l6 : Int64} {x8 : Int32} {σ : xσ} {h : xH} {r : Unit × xσ} {d3 : Option Value} {d4 : Option Value}, Rl n σ h → okL a0 → okL a1 → okL a2 → l_X14_times_18 n k5 f a0 a1 a2 x5 l6 x8 σ = some r → Go G mX14_times 18 [some (.ref a0), some (.ref a1), some (.ref a2), d3, d4, some (.int x5), some (.long l6), none, some (.int x8)] [] h (fun v h' => xRok (xRt mX14_times) v ∧ v = none ∧ Rl n r.2 h') := by
  intro f
  induction f with
  | zero =>
    intros
    rename _ = some _ => hf
    rw [l_X14_times_18] at hf
    cases hf
  | succ f ih =>
    intro a0 a1 a2 x5 l6 x8 σ h r d3 d4 R g0 g1 g2 hf
    rw [l_X14_times_18] at hf
    refine go_iload (pc' := 20) dX14_times_18 rfl rfl ?_
    refine go_iload (pc' := 22) dX14_times_20 rfl rfl ?_
    refine go_icmp_gt (pc' := 25) (tgt := 48) dX14_times_22 (by decide) rfl (fun c101 => ?_) (fun c101 => ?_)
    · have hf := it c101 hf
      refine go_aload_n (i := 0) (pc' := 49) dX14_times_48 rfl rfl rfl ?_
      refine go_iload (pc' := 51) dX14_times_49 rfl rfl ?_
      refine go_lload (pc' := 53) dX14_times_51 rfl rfl ?_
      refine go_ldc2 (pc' := 56) dX14_times_53 rfl wd_1422 ?_
      obtain ⟨g102, hf⟩ := gd_some hf
      refine go_lrem (pc' := 57) dX14_times_56 rfl g102 ?_
      obtain ⟨g103, hf⟩ := gd_some hf
      obtain ⟨σ104, e105, hf⟩ := st_some hf
      refine go_lastoreS (pc' := 58) dX14_times_57 rfl R (g0.aa R) g103 (fun h106 R => ?_)
      have R := Rl.cast e105 R
      refine go_lload (pc' := 60) dX14_times_58 rfl rfl ?_
      refine go_ldc2 (pc' := 63) dX14_times_60 rfl wd_1422 ?_
      obtain ⟨g107, hf⟩ := gd_some hf
      refine go_ldiv (pc' := 64) dX14_times_63 rfl g107 ?_
      obtain ⟨l108, e109, hf⟩ := st_some hf
      refine go_lstore_nE e109 (i := 3) (pc' := 65) dX14_times_64 rfl rfl (by decide) rfl ?_
      refine go_iincC (kk := 1) (pc' := 68) dX14_times_65 rfl rfl (by decide) (by decide) rfl ?_
      refine go_goto (pc' := 0) (tgt := 5) dX14_times_68 (by decide) ?_
      exact hk5 R g0 g1 g2 hf
    · have hf := ie c101 hf
      refine go_lload (pc' := 27) dX14_times_25 rfl rfl ?_
      refine go_aload_n (i := 1) (pc' := 28) dX14_times_27 rfl rfl rfl ?_
      refine go_iload (pc' := 30) dX14_times_28 rfl rfl ?_
      obtain ⟨g110, hf⟩ := gd_some hf
      refine go_laloadS (pc' := 31) dX14_times_30 rfl R (g1.aa R) g110 ?_
      refine go_aload_n (i := 2) (pc' := 32) dX14_times_31 rfl rfl rfl ?_
      refine go_iload (pc' := 34) dX14_times_32 rfl rfl ?_
      refine go_iload (pc' := 36) dX14_times_34 rfl rfl ?_
      refine go_isub (pc' := 37) dX14_times_36 rfl ?_
      obtain ⟨g111, hf⟩ := gd_some hf
      refine go_laloadS (pc' := 38) dX14_times_37 rfl R (g2.aa R) g111 ?_
      refine go_lmul (pc' := 39) dX14_times_38 rfl ?_
      refine go_ladd (pc' := 40) dX14_times_39 rfl ?_
      obtain ⟨l112, e113, hf⟩ := st_some hf
      refine go_lstoreE e113 (pc' := 42) dX14_times_40 rfl (by decide) rfl ?_
      refine go_iincC (kk := 1) (pc' := 45) dX14_times_42 rfl rfl (by decide) (by decide) rfl ?_
      refine go_goto (pc' := 0) (tgt := 18) dX14_times_45 (by decide) ?_
      exact ih R g0 g1 g2 hf
def l_X14_times_5 (n : Nat) : Nat → Nat → Nat → Nat → Int64 → Int32 → xσ → Option (Unit × xσ)
  | 0, _, _, _, _, _, _ => none
  | f + 1, a0, a1, a2, l3, x5, σ => if 8 ≤ x5 then some ((), σ) else l_X14_times_18 n (l_X14_times_5 n f) xFU a0 a1 a2 x5 l3 0 σ
set_option maxRecDepth 100000 in
set_option maxHeartbeats 4000000 in
theorem t_X14_times_5 {G : xG} {n : Nat} : ∀ (f : Nat) {a0 : Nat} {a1 : Nat} {a2 : Nat} {l3 : Int64} {x5 : Int32} {σ : xσ} {h : xH} {r : Unit × xσ} {d6 : Option Value} {d7 : Option Value} {d8 : Option Value}, Rl n σ h → okL a0 → okL a1 → okL a2 → l_X14_times_5 n f a0 a1 a2 l3 x5 σ = some r → Go G mX14_times 5 [some (.ref a0), some (.ref a1), some (.ref a2), some (.long l3), none, some (.int x5), d6, d7, d8] [] h (fun v h' => xRok (xRt mX14_times) v ∧ v = none ∧ Rl n r.2 h') := by
  intro f
  induction f with
  | zero =>
    intros
    rename _ = some _ => hf
    rw [l_X14_times_5] at hf
    cases hf
  | succ f ih =>
    intro a0 a1 a2 l3 x5 σ h r d6 d7 d8 R g0 g1 g2 hf
    rw [l_X14_times_5] at hf
    refine go_iload (pc' := 7) dX14_times_5 rfl rfl ?_
    refine go_bipush (v := 8) (pc' := 9) dX14_times_7 rfl (by decide) ?_
    refine go_icmp_ge (pc' := 12) (tgt := 71) dX14_times_9 (by decide) rfl (fun c101 => ?_) (fun c101 => ?_)
    · have hf := it c101 hf
      obtain rfl := Option.some.inj hf
      exact Go.ret (v := none) dX14_times_71 rfl ⟨trivial, rfl, R⟩
    · have hf := ie c101 hf
      refine go_lload_n (i := 3) (pc' := 13) dX14_times_12 rfl rfl rfl ?_
      refine go_lstoreE rfl (pc' := 15) dX14_times_13 rfl (by decide) rfl ?_
      refine go_iconst (v := 0) (pc' := 16) dX14_times_15 rfl (by decide) ?_
      refine go_istoreE rfl (pc' := 18) dX14_times_16 rfl (by decide) rfl ?_
      exact t_X14_times_18 @ih xFU R g0 g1 g2 hf
def f_X14_times (n : Nat) (a0 : Nat) (a1 : Nat) (a2 : Nat) (σ : xσ) : Option (Unit × xσ) := gd (okL a0) (gd (okL a1) (gd (okL a2) (l_X14_times_5 n xFU a0 a1 a2 ((0 : Int64)) 0 σ)))
set_option maxRecDepth 100000 in
set_option maxHeartbeats 4000000 in
theorem c_X14_times {G : xG} {n : Nat} {σ : xσ} {h : xH} {a0 : Nat} {a1 : Nat} {a2 : Nat} {v1 : Unit} {σ1 : xσ} (R : Rl n σ h) (hf : f_X14_times n a0 a1 a2 σ = some (v1, σ1)) : Ca G mX14_times [.ref a0, .ref a1, .ref a2] h (fun v h' => v = none ∧ Rl n σ1 h') := by
  refine Ca.of rfl (Nat.le_of_ble_eq_true rfl) ?_
  generalize hr : (v1, σ1) = r at hf
  suffices q : Go G mX14_times 0 (xent (xMl mX14_times) [.ref a0, .ref a1, .ref a2]) [] h (fun v h' => xRok (xRt mX14_times) v ∧ v = none ∧ Rl n r.2 h') by
    subst hr
    exact q
  clear hr
  rw [f_X14_times] at hf
  obtain ⟨g0, hf⟩ := gd_some hf
  obtain ⟨g1, hf⟩ := gd_some hf
  obtain ⟨g2, hf⟩ := gd_some hf
  refine go_lconst (v := 0) (pc' := 1) dX14_times_0 rfl (by decide) ?_
  refine go_lstore_nE rfl (i := 3) (pc' := 2) dX14_times_1 rfl rfl (by decide) rfl ?_
  refine go_iconst (v := 0) (pc' := 3) dX14_times_2 rfl (by decide) ?_
  refine go_istoreE rfl (pc' := 5) dX14_times_3 rfl (by decide) rfl ?_
  exact t_X14_times_5 xFU R g0 g1 g2 hf
def l_X14_compare_3 (n : Nat) : Nat → Nat → Nat → Int32 → xσ → Option (Int32 × xσ)
  | 0, _, _, _, _ => none
  | f + 1, a0, a1, x2, σ => if x2 < 0 then some (0, σ) else gd (inb x2 8) (gd (inb x2 8) (if (lg_cmp (sJ σ a0 x2.toNatClampNeg) (sJ σ a1 x2.toNatClampNeg)) = 0 then (l_X14_compare_3 n f) a0 a1 (x2 + (-1)) σ else gd (inb x2 8) (gd (inb x2 8) (if 0 ≤ (lg_cmp (sJ σ a0 x2.toNatClampNeg) (sJ σ a1 x2.toNatClampNeg)) then some (1, σ) else some ((-1), σ)))))
set_option maxRecDepth 100000 in
set_option maxHeartbeats 4000000 in
theorem t_X14_compare_3 {G : xG} {n : Nat} : ∀ (f : Nat) {a0 : Nat} {a1 : Nat} {x2 : Int32} {σ : xσ} {h : xH} {r : Int32 × xσ}, Rl n σ h → okL a0 → okL a1 → l_X14_compare_3 n f a0 a1 x2 σ = some r → Go G mX14_compare 3 [some (.ref a0), some (.ref a1), some (.int x2)] [] h (fun v h' => xRok (xRt mX14_compare) v ∧ v = some (.int r.1) ∧ Rl n r.2 h') := by
  intro f
  induction f with
  | zero =>
    intros
    rename _ = some _ => hf
    rw [l_X14_compare_3] at hf
    cases hf
  | succ f ih =>
    intro a0 a1 x2 σ h r  R g0 g1 hf
    rw [l_X14_compare_3] at hf
    refine go_iload_n (i := 2) (pc' := 4) dX14_compare_3 rfl rfl rfl ?_
    refine go_if_lt (pc' := 7) (tgt := 39) dX14_compare_4 (by decide) rfl (fun c101 => ?_) (fun c101 => ?_)
    · have hf := it c101 hf
      refine go_iconst (v := 0) (pc' := 40) dX14_compare_39 rfl (by decide) ?_
      obtain rfl := Option.some.inj hf
      exact Go.ret (v := some (.int _)) dX14_compare_40 ⟨_, rfl⟩ ⟨rfl, rfl, R⟩
    · have hf := ie c101 hf
      refine go_aload_n (i := 0) (pc' := 8) dX14_compare_7 rfl rfl rfl ?_
      refine go_iload_n (i := 2) (pc' := 9) dX14_compare_8 rfl rfl rfl ?_
      obtain ⟨g102, hf⟩ := gd_some hf
      refine go_laloadS (pc' := 10) dX14_compare_9 rfl R (g0.aa R) g102 ?_
      refine go_aload_n (i := 1) (pc' := 11) dX14_compare_10 rfl rfl rfl ?_
      refine go_iload_n (i := 2) (pc' := 12) dX14_compare_11 rfl rfl rfl ?_
      obtain ⟨g103, hf⟩ := gd_some hf
      refine go_laloadS (pc' := 13) dX14_compare_12 rfl R (g1.aa R) g103 ?_
      refine go_lcmp (pc' := 14) dX14_compare_13 rfl ?_
      refine go_if_eq (pc' := 17) (tgt := 33) dX14_compare_14 (by decide) rfl (fun c104 => ?_) (fun c104 => ?_)
      · have hf := it c104 hf
        refine go_iincC (kk := (-1)) (pc' := 36) dX14_compare_33 rfl rfl (by decide) (by decide) rfl ?_
        refine go_goto (pc' := 0) (tgt := 3) dX14_compare_36 (by decide) ?_
        exact ih R g0 g1 hf
      · have hf := ie c104 hf
        refine go_aload_n (i := 0) (pc' := 18) dX14_compare_17 rfl rfl rfl ?_
        refine go_iload_n (i := 2) (pc' := 19) dX14_compare_18 rfl rfl rfl ?_
        obtain ⟨g105, hf⟩ := gd_some hf
        refine go_laloadS (pc' := 20) dX14_compare_19 rfl R (g0.aa R) g105 ?_
        refine go_aload_n (i := 1) (pc' := 21) dX14_compare_20 rfl rfl rfl ?_
        refine go_iload_n (i := 2) (pc' := 22) dX14_compare_21 rfl rfl rfl ?_
        obtain ⟨g106, hf⟩ := gd_some hf
        refine go_laloadS (pc' := 23) dX14_compare_22 rfl R (g1.aa R) g106 ?_
        refine go_lcmp (pc' := 24) dX14_compare_23 rfl ?_
        refine go_if_ge (pc' := 27) (tgt := 31) dX14_compare_24 (by decide) rfl (fun c107 => ?_) (fun c107 => ?_)
        · have hf := it c107 hf
          refine go_iconst (v := 1) (pc' := 32) dX14_compare_31 rfl (by decide) ?_
          obtain rfl := Option.some.inj hf
          exact Go.ret (v := some (.int _)) dX14_compare_32 ⟨_, rfl⟩ ⟨rfl, rfl, R⟩
        · have hf := ie c107 hf
          refine go_iconst (v := (-1)) (pc' := 28) dX14_compare_27 rfl (by decide) ?_
          refine go_goto (pc' := 0) (tgt := 32) dX14_compare_28 (by decide) ?_
          obtain rfl := Option.some.inj hf
          exact Go.ret (v := some (.int _)) dX14_compare_32 ⟨_, rfl⟩ ⟨rfl, rfl, R⟩
def f_X14_compare (n : Nat) (a0 : Nat) (a1 : Nat) (σ : xσ) : Option (Int32 × xσ) := gd (okL a0) (gd (okL a1) (l_X14_compare_3 n xFU a0 a1 7 σ))
set_option maxRecDepth 100000 in
set_option maxHeartbeats 4000000 in
theorem c_X14_compare {G : xG} {n : Nat} {σ : xσ} {h : xH} {a0 : Nat} {a1 : Nat} {v1 : Int32} {σ1 : xσ} (R : Rl n σ h) (hf : f_X14_compare n a0 a1 σ = some (v1, σ1)) : Ca G mX14_compare [.ref a0, .ref a1] h (fun v h' => v = some (.int v1) ∧ Rl n σ1 h') := by
  refine Ca.of rfl (Nat.le_of_ble_eq_true rfl) ?_
  generalize hr : (v1, σ1) = r at hf
  suffices q : Go G mX14_compare 0 (xent (xMl mX14_compare) [.ref a0, .ref a1]) [] h (fun v h' => xRok (xRt mX14_compare) v ∧ v = some (.int r.1) ∧ Rl n r.2 h') by
    subst hr
    exact q
  clear hr
  rw [f_X14_compare] at hf
  obtain ⟨g0, hf⟩ := gd_some hf
  obtain ⟨g1, hf⟩ := gd_some hf
  refine go_bipush (v := 7) (pc' := 2) dX14_compare_0 rfl (by decide) ?_
  refine go_istore_nE rfl (i := 2) (pc' := 3) dX14_compare_2 rfl rfl (by decide) rfl ?_
  exact t_X14_compare_3 xFU R g0 g1 hf
def f_X14_compare_ (n : Nat) (l1 : Int64) (l3 : Int64) (l5 : Int64) (l7 : Int64) (σ : xσ) : Option (Int32 × xσ) := bd (f_X14_set n 234 l1 σ) (fun v101 σ102 => bd (f_X14_set n 235 l7 σ102) (fun v106 σ107 => bd (f_X14_times n 236 234 235 σ107) (fun v111 σ112 => bd (f_X14_set n 234 l5 σ112) (fun v116 σ117 => bd (f_X14_set n 235 l3 σ117) (fun v121 σ122 => bd (f_X14_times n 237 234 235 σ122) (fun v126 σ127 => bd (f_X14_compare n 236 237 σ127) (fun v131 σ132 => some (v131, σ132))))))))
set_option maxRecDepth 100000 in
set_option maxHeartbeats 4000000 in
theorem c_X14_compare_ {G : xG} {n : Nat} {σ : xσ} {h : xH} {l1 : Int64} {l3 : Int64} {l5 : Int64} {l7 : Int64} {v1 : Int32} {σ1 : xσ} (R : Rl n σ h) (hf : f_X14_compare_ n l1 l3 l5 l7 σ = some (v1, σ1)) : Ca G mX14_compare_ [.ref 233, .long l1, .long l3, .long l5, .long l7] h (fun v h' => v = some (.int v1) ∧ Rl n σ1 h') := by
  refine Ca.of rfl (Nat.le_of_ble_eq_true rfl) ?_
  generalize hr : (v1, σ1) = r at hf
  suffices q : Go G mX14_compare_ 0 (xent (xMl mX14_compare_) [.ref 233, .long l1, .long l3, .long l5, .long l7]) [] h (fun v h' => xRok (xRt mX14_compare_) v ∧ v = some (.int r.1) ∧ Rl n r.2 h') by
    subst hr
    exact q
  clear hr
  rw [f_X14_compare_] at hf
  refine go_aload_n (i := 0) (pc' := 1) dX14_compare__0 rfl rfl rfl ?_
  refine go_getS (pc' := 4) dX14_compare__1 rfl gf_LandBaseModel_5 R (R.at rfl (by decide)) (by decide) rfl ?_
  refine go_lload_n (i := 1) (pc' := 5) dX14_compare__4 rfl rfl rfl ?_
  obtain ⟨v101, σ102, e103, hf⟩ := bd_some hf
  refine go_invS (As := [_, _]) (pc' := 8) dX14_compare__5 rfl cf_X14_compare__9 rfl rfl (Nat.le_of_ble_eq_true rfl) (c_X14_set R e103) (fun q104v h105 q104 => ?_)
  obtain ⟨rfl, R⟩ := q104
  refine go_aload_n (i := 0) (pc' := 9) dX14_compare__8 rfl rfl rfl ?_
  refine go_getS (pc' := 12) dX14_compare__9 rfl gf_LandBaseModel_13 R (R.at rfl (by decide)) (by decide) rfl ?_
  refine go_lload (pc' := 14) dX14_compare__12 rfl rfl ?_
  obtain ⟨v106, σ107, e108, hf⟩ := bd_some hf
  refine go_invS (As := [_, _]) (pc' := 17) dX14_compare__14 rfl cf_X14_compare__9 rfl rfl (Nat.le_of_ble_eq_true rfl) (c_X14_set R e108) (fun q109v h110 q109 => ?_)
  obtain ⟨rfl, R⟩ := q109
  refine go_aload_n (i := 0) (pc' := 18) dX14_compare__17 rfl rfl rfl ?_
  refine go_getS (pc' := 21) dX14_compare__18 rfl gf_LandBaseModel_16 R (R.at rfl (by decide)) (by decide) rfl ?_
  refine go_aload_n (i := 0) (pc' := 22) dX14_compare__21 rfl rfl rfl ?_
  refine go_getS (pc' := 25) dX14_compare__22 rfl gf_LandBaseModel_5 R (R.at rfl (by decide)) (by decide) rfl ?_
  refine go_aload_n (i := 0) (pc' := 26) dX14_compare__25 rfl rfl rfl ?_
  refine go_getS (pc' := 29) dX14_compare__26 rfl gf_LandBaseModel_13 R (R.at rfl (by decide)) (by decide) rfl ?_
  obtain ⟨v111, σ112, e113, hf⟩ := bd_some hf
  refine go_invS (As := [_, _, _]) (pc' := 32) dX14_compare__29 rfl cf_X14_compare__19 rfl rfl (Nat.le_of_ble_eq_true rfl) (c_X14_times R e113) (fun q114v h115 q114 => ?_)
  obtain ⟨rfl, R⟩ := q114
  refine go_aload_n (i := 0) (pc' := 33) dX14_compare__32 rfl rfl rfl ?_
  refine go_getS (pc' := 36) dX14_compare__33 rfl gf_LandBaseModel_5 R (R.at rfl (by decide)) (by decide) rfl ?_
  refine go_lload (pc' := 38) dX14_compare__36 rfl rfl ?_
  obtain ⟨v116, σ117, e118, hf⟩ := bd_some hf
  refine go_invS (As := [_, _]) (pc' := 41) dX14_compare__38 rfl cf_X14_compare__9 rfl rfl (Nat.le_of_ble_eq_true rfl) (c_X14_set R e118) (fun q119v h120 q119 => ?_)
  obtain ⟨rfl, R⟩ := q119
  refine go_aload_n (i := 0) (pc' := 42) dX14_compare__41 rfl rfl rfl ?_
  refine go_getS (pc' := 45) dX14_compare__42 rfl gf_LandBaseModel_13 R (R.at rfl (by decide)) (by decide) rfl ?_
  refine go_lload_n (i := 3) (pc' := 46) dX14_compare__45 rfl rfl rfl ?_
  obtain ⟨v121, σ122, e123, hf⟩ := bd_some hf
  refine go_invS (As := [_, _]) (pc' := 49) dX14_compare__46 rfl cf_X14_compare__9 rfl rfl (Nat.le_of_ble_eq_true rfl) (c_X14_set R e123) (fun q124v h125 q124 => ?_)
  obtain ⟨rfl, R⟩ := q124
  refine go_aload_n (i := 0) (pc' := 50) dX14_compare__49 rfl rfl rfl ?_
  refine go_getS (pc' := 53) dX14_compare__50 rfl gf_LandBaseModel_23 R (R.at rfl (by decide)) (by decide) rfl ?_
  refine go_aload_n (i := 0) (pc' := 54) dX14_compare__53 rfl rfl rfl ?_
  refine go_getS (pc' := 57) dX14_compare__54 rfl gf_LandBaseModel_5 R (R.at rfl (by decide)) (by decide) rfl ?_
  refine go_aload_n (i := 0) (pc' := 58) dX14_compare__57 rfl rfl rfl ?_
  refine go_getS (pc' := 61) dX14_compare__58 rfl gf_LandBaseModel_13 R (R.at rfl (by decide)) (by decide) rfl ?_
  obtain ⟨v126, σ127, e128, hf⟩ := bd_some hf
  refine go_invS (As := [_, _, _]) (pc' := 64) dX14_compare__61 rfl cf_X14_compare__19 rfl rfl (Nat.le_of_ble_eq_true rfl) (c_X14_times R e128) (fun q129v h130 q129 => ?_)
  obtain ⟨rfl, R⟩ := q129
  refine go_aload_n (i := 0) (pc' := 65) dX14_compare__64 rfl rfl rfl ?_
  refine go_getS (pc' := 68) dX14_compare__65 rfl gf_LandBaseModel_16 R (R.at rfl (by decide)) (by decide) rfl ?_
  refine go_aload_n (i := 0) (pc' := 69) dX14_compare__68 rfl rfl rfl ?_
  refine go_getS (pc' := 72) dX14_compare__69 rfl gf_LandBaseModel_23 R (R.at rfl (by decide)) (by decide) rfl ?_
  obtain ⟨v131, σ132, e133, hf⟩ := bd_some hf
  refine go_invS (As := [_, _]) (pc' := 75) dX14_compare__72 rfl cf_X14_compare__26 rfl rfl (Nat.le_of_ble_eq_true rfl) (c_X14_compare R e133) (fun q134v h135 q134 => ?_)
  obtain ⟨rfl, R⟩ := q134
  obtain rfl := Option.some.inj hf
  exact Go.ret (v := some (.int _)) dX14_compare__75 ⟨_, rfl⟩ ⟨rfl, rfl, R⟩
def f_X14_cross (n : Nat) (l0 : Int64) (l2 : Int64) (l4 : Int64) (l6 : Int64) (σ : xσ) : Option (Int64 × xσ) := some ((l0 * l6) - (l2 * l4), σ)
set_option maxRecDepth 100000 in
set_option maxHeartbeats 4000000 in
theorem c_X14_cross {G : xG} {n : Nat} {σ : xσ} {h : xH} {l0 : Int64} {l2 : Int64} {l4 : Int64} {l6 : Int64} {v1 : Int64} {σ1 : xσ} (R : Rl n σ h) (hf : f_X14_cross n l0 l2 l4 l6 σ = some (v1, σ1)) : Ca G mX14_cross [.long l0, .long l2, .long l4, .long l6] h (fun v h' => v = some (.long v1) ∧ Rl n σ1 h') := by
  refine Ca.of rfl (Nat.le_of_ble_eq_true rfl) ?_
  generalize hr : (v1, σ1) = r at hf
  suffices q : Go G mX14_cross 0 (xent (xMl mX14_cross) [.long l0, .long l2, .long l4, .long l6]) [] h (fun v h' => xRok (xRt mX14_cross) v ∧ v = some (.long r.1) ∧ Rl n r.2 h') by
    subst hr
    exact q
  clear hr
  rw [f_X14_cross] at hf
  refine go_lload_n (i := 0) (pc' := 1) dX14_cross_0 rfl rfl rfl ?_
  refine go_lload (pc' := 3) dX14_cross_1 rfl rfl ?_
  refine go_lmul (pc' := 4) dX14_cross_3 rfl ?_
  refine go_lload_n (i := 2) (pc' := 5) dX14_cross_4 rfl rfl rfl ?_
  refine go_lload (pc' := 7) dX14_cross_5 rfl rfl ?_
  refine go_lmul (pc' := 8) dX14_cross_7 rfl ?_
  refine go_lsub (pc' := 9) dX14_cross_8 rfl ?_
  obtain rfl := Option.some.inj hf
  exact Go.ret (v := some (.long _)) dX14_cross_9 ⟨_, rfl⟩ ⟨trivial, rfl, R⟩
def f_X14_dot (n : Nat) (l0 : Int64) (l2 : Int64) (l4 : Int64) (l6 : Int64) (σ : xσ) : Option (Int64 × xσ) := some ((l0 * l4) + (l2 * l6), σ)
set_option maxRecDepth 100000 in
set_option maxHeartbeats 4000000 in
theorem c_X14_dot {G : xG} {n : Nat} {σ : xσ} {h : xH} {l0 : Int64} {l2 : Int64} {l4 : Int64} {l6 : Int64} {v1 : Int64} {σ1 : xσ} (R : Rl n σ h) (hf : f_X14_dot n l0 l2 l4 l6 σ = some (v1, σ1)) : Ca G mX14_dot [.long l0, .long l2, .long l4, .long l6] h (fun v h' => v = some (.long v1) ∧ Rl n σ1 h') := by
  refine Ca.of rfl (Nat.le_of_ble_eq_true rfl) ?_
  generalize hr : (v1, σ1) = r at hf
  suffices q : Go G mX14_dot 0 (xent (xMl mX14_dot) [.long l0, .long l2, .long l4, .long l6]) [] h (fun v h' => xRok (xRt mX14_dot) v ∧ v = some (.long r.1) ∧ Rl n r.2 h') by
    subst hr
    exact q
  clear hr
  rw [f_X14_dot] at hf
  refine go_lload_n (i := 0) (pc' := 1) dX14_dot_0 rfl rfl rfl ?_
  refine go_lload (pc' := 3) dX14_dot_1 rfl rfl ?_
  refine go_lmul (pc' := 4) dX14_dot_3 rfl ?_
  refine go_lload_n (i := 2) (pc' := 5) dX14_dot_4 rfl rfl rfl ?_
  refine go_lload (pc' := 7) dX14_dot_5 rfl rfl ?_
  refine go_lmul (pc' := 8) dX14_dot_7 rfl ?_
  refine go_ladd (pc' := 9) dX14_dot_8 rfl ?_
  obtain rfl := Option.some.inj hf
  exact Go.ret (v := some (.long _)) dX14_dot_9 ⟨_, rfl⟩ ⟨trivial, rfl, R⟩
def f_X14_sign (n : Nat) (l0 : Int64) (σ : xσ) : Option (Int32 × xσ) := if (lg_cmp l0 ((0 : Int64))) ≤ 0 then if 0 ≤ (lg_cmp l0 ((0 : Int64))) then some (0, σ) else some ((-1), σ) else some (1, σ)
set_option maxRecDepth 100000 in
set_option maxHeartbeats 4000000 in
theorem c_X14_sign {G : xG} {n : Nat} {σ : xσ} {h : xH} {l0 : Int64} {v1 : Int32} {σ1 : xσ} (R : Rl n σ h) (hf : f_X14_sign n l0 σ = some (v1, σ1)) : Ca G mX14_sign [.long l0] h (fun v h' => v = some (.int v1) ∧ Rl n σ1 h') := by
  refine Ca.of rfl (Nat.le_of_ble_eq_true rfl) ?_
  generalize hr : (v1, σ1) = r at hf
  suffices q : Go G mX14_sign 0 (xent (xMl mX14_sign) [.long l0]) [] h (fun v h' => xRok (xRt mX14_sign) v ∧ v = some (.int r.1) ∧ Rl n r.2 h') by
    subst hr
    exact q
  clear hr
  rw [f_X14_sign] at hf
  refine go_lload_n (i := 0) (pc' := 1) dX14_sign_0 rfl rfl rfl ?_
  refine go_lconst (v := 0) (pc' := 2) dX14_sign_1 rfl (by decide) ?_
  refine go_lcmp (pc' := 3) dX14_sign_2 rfl ?_
  refine go_if_le (pc' := 6) (tgt := 10) dX14_sign_3 (by decide) rfl (fun c101 => ?_) (fun c101 => ?_)
  · have hf := it c101 hf
    refine go_lload_n (i := 0) (pc' := 11) dX14_sign_10 rfl rfl rfl ?_
    refine go_lconst (v := 0) (pc' := 12) dX14_sign_11 rfl (by decide) ?_
    refine go_lcmp (pc' := 13) dX14_sign_12 rfl ?_
    refine go_if_ge (pc' := 16) (tgt := 20) dX14_sign_13 (by decide) rfl (fun c102 => ?_) (fun c102 => ?_)
    · have hf := it c102 hf
      refine go_iconst (v := 0) (pc' := 21) dX14_sign_20 rfl (by decide) ?_
      obtain rfl := Option.some.inj hf
      exact Go.ret (v := some (.int _)) dX14_sign_21 ⟨_, rfl⟩ ⟨rfl, rfl, R⟩
    · have hf := ie c102 hf
      refine go_iconst (v := (-1)) (pc' := 17) dX14_sign_16 rfl (by decide) ?_
      refine go_goto (pc' := 0) (tgt := 21) dX14_sign_17 (by decide) ?_
      obtain rfl := Option.some.inj hf
      exact Go.ret (v := some (.int _)) dX14_sign_21 ⟨_, rfl⟩ ⟨rfl, rfl, R⟩
  · have hf := ie c101 hf
    refine go_iconst (v := 1) (pc' := 7) dX14_sign_6 rfl (by decide) ?_
    refine go_goto (pc' := 0) (tgt := 21) dX14_sign_7 (by decide) ?_
    obtain rfl := Option.some.inj hf
    exact Go.ret (v := some (.int _)) dX14_sign_21 ⟨_, rfl⟩ ⟨rfl, rfl, R⟩
def f_X14_side (n : Nat) (a0 : Nat) (x1 : Int32) (x2 : Int32) (x3 : Int32) (σ : xσ) : Option (Int32 × xσ) := gd (okM a0) (gd (inb (x1 + 1) 40) (gd (inb x1 40) (gd (inb (x1 + 1) 40) (gd (inb x1 40) (gd (inb x1 40) (gd (inb x1 40) (bd (f_X14_cross n (((sI σ (a0 + 2) (x1 + 1).toNatClampNeg).toInt64) - ((sI σ (a0 + 2) x1.toNatClampNeg).toInt64)) (((sI σ (a0 + 3) (x1 + 1).toNatClampNeg).toInt64) - ((sI σ (a0 + 3) x1.toNatClampNeg).toInt64)) ((x2.toInt64) - ((sI σ (a0 + 2) x1.toNatClampNeg).toInt64)) ((x3.toInt64) - ((sI σ (a0 + 3) x1.toNatClampNeg).toInt64)) σ) (fun v107 σ108 => bd (f_X14_sign n v107 σ108) (fun v112 σ113 => some (v112, σ113))))))))))
set_option maxRecDepth 100000 in
set_option maxHeartbeats 4000000 in
theorem c_X14_side {G : xG} {n : Nat} {σ : xσ} {h : xH} {a0 : Nat} {x1 : Int32} {x2 : Int32} {x3 : Int32} {v1 : Int32} {σ1 : xσ} (R : Rl n σ h) (hf : f_X14_side n a0 x1 x2 x3 σ = some (v1, σ1)) : Ca G mX14_side [.ref a0, .int x1, .int x2, .int x3] h (fun v h' => v = some (.int v1) ∧ Rl n σ1 h') := by
  refine Ca.of rfl (Nat.le_of_ble_eq_true rfl) ?_
  generalize hr : (v1, σ1) = r at hf
  suffices q : Go G mX14_side 0 (xent (xMl mX14_side) [.ref a0, .int x1, .int x2, .int x3]) [] h (fun v h' => xRok (xRt mX14_side) v ∧ v = some (.int r.1) ∧ Rl n r.2 h') by
    subst hr
    exact q
  clear hr
  rw [f_X14_side] at hf
  obtain ⟨g0, hf⟩ := gd_some hf
  refine go_aload_n (i := 0) (pc' := 1) dX14_side_0 rfl rfl rfl ?_
  refine go_getS (pc' := 4) dX14_side_1 rfl gf_LandBaseModel_30 R (g0.at R) (by decide) rfl ?_
  refine go_iload_n (i := 1) (pc' := 5) dX14_side_4 rfl rfl rfl ?_
  refine go_iconst (v := 1) (pc' := 6) dX14_side_5 rfl (by decide) ?_
  refine go_iadd (pc' := 7) dX14_side_6 rfl ?_
  obtain ⟨g101, hf⟩ := gd_some hf
  refine go_ialoadS (pc' := 8) dX14_side_7 rfl R (g0.x R) g101 ?_
  refine go_i2l (pc' := 9) dX14_side_8 rfl rfl ?_
  refine go_aload_n (i := 0) (pc' := 10) dX14_side_9 rfl rfl rfl ?_
  refine go_getS (pc' := 13) dX14_side_10 rfl gf_LandBaseModel_30 R (g0.at R) (by decide) rfl ?_
  refine go_iload_n (i := 1) (pc' := 14) dX14_side_13 rfl rfl rfl ?_
  obtain ⟨g102, hf⟩ := gd_some hf
  refine go_ialoadS (pc' := 15) dX14_side_14 rfl R (g0.x R) g102 ?_
  refine go_i2l (pc' := 16) dX14_side_15 rfl rfl ?_
  refine go_lsub (pc' := 17) dX14_side_16 rfl ?_
  refine go_aload_n (i := 0) (pc' := 18) dX14_side_17 rfl rfl rfl ?_
  refine go_getS (pc' := 21) dX14_side_18 rfl gf_LandBaseModel_36 R (g0.at R) (by decide) rfl ?_
  refine go_iload_n (i := 1) (pc' := 22) dX14_side_21 rfl rfl rfl ?_
  refine go_iconst (v := 1) (pc' := 23) dX14_side_22 rfl (by decide) ?_
  refine go_iadd (pc' := 24) dX14_side_23 rfl ?_
  obtain ⟨g103, hf⟩ := gd_some hf
  refine go_ialoadS (pc' := 25) dX14_side_24 rfl R (g0.y R) g103 ?_
  refine go_i2l (pc' := 26) dX14_side_25 rfl rfl ?_
  refine go_aload_n (i := 0) (pc' := 27) dX14_side_26 rfl rfl rfl ?_
  refine go_getS (pc' := 30) dX14_side_27 rfl gf_LandBaseModel_36 R (g0.at R) (by decide) rfl ?_
  refine go_iload_n (i := 1) (pc' := 31) dX14_side_30 rfl rfl rfl ?_
  obtain ⟨g104, hf⟩ := gd_some hf
  refine go_ialoadS (pc' := 32) dX14_side_31 rfl R (g0.y R) g104 ?_
  refine go_i2l (pc' := 33) dX14_side_32 rfl rfl ?_
  refine go_lsub (pc' := 34) dX14_side_33 rfl ?_
  refine go_iload_n (i := 2) (pc' := 35) dX14_side_34 rfl rfl rfl ?_
  refine go_i2l (pc' := 36) dX14_side_35 rfl rfl ?_
  refine go_aload_n (i := 0) (pc' := 37) dX14_side_36 rfl rfl rfl ?_
  refine go_getS (pc' := 40) dX14_side_37 rfl gf_LandBaseModel_30 R (g0.at R) (by decide) rfl ?_
  refine go_iload_n (i := 1) (pc' := 41) dX14_side_40 rfl rfl rfl ?_
  obtain ⟨g105, hf⟩ := gd_some hf
  refine go_ialoadS (pc' := 42) dX14_side_41 rfl R (g0.x R) g105 ?_
  refine go_i2l (pc' := 43) dX14_side_42 rfl rfl ?_
  refine go_lsub (pc' := 44) dX14_side_43 rfl ?_
  refine go_iload_n (i := 3) (pc' := 45) dX14_side_44 rfl rfl rfl ?_
  refine go_i2l (pc' := 46) dX14_side_45 rfl rfl ?_
  refine go_aload_n (i := 0) (pc' := 47) dX14_side_46 rfl rfl rfl ?_
  refine go_getS (pc' := 50) dX14_side_47 rfl gf_LandBaseModel_36 R (g0.at R) (by decide) rfl ?_
  refine go_iload_n (i := 1) (pc' := 51) dX14_side_50 rfl rfl rfl ?_
  obtain ⟨g106, hf⟩ := gd_some hf
  refine go_ialoadS (pc' := 52) dX14_side_51 rfl R (g0.y R) g106 ?_
  refine go_i2l (pc' := 53) dX14_side_52 rfl rfl ?_
  refine go_lsub (pc' := 54) dX14_side_53 rfl ?_
  obtain ⟨v107, σ108, e109, hf⟩ := bd_some hf
  refine go_invS (As := [_, _, _, _]) (pc' := 57) dX14_side_54 rfl cf_X14_side_39 rfl rfl (Nat.le_of_ble_eq_true rfl) (c_X14_cross R e109) (fun q110v h111 q110 => ?_)
  obtain ⟨rfl, R⟩ := q110
  obtain ⟨v112, σ113, e114, hf⟩ := bd_some hf
  refine go_invS (As := [_]) (pc' := 60) dX14_side_57 rfl cf_X14_side_43 rfl rfl (Nat.le_of_ble_eq_true rfl) (c_X14_sign R e114) (fun q115v h116 q115 => ?_)
  obtain ⟨rfl, R⟩ := q115
  obtain rfl := Option.some.inj hf
  exact Go.ret (v := some (.int _)) dX14_side_60 ⟨_, rfl⟩ ⟨rfl, rfl, R⟩
def f_X14_isBetween (n : Nat) (x0 : Int32) (x1 : Int32) (x2 : Int32) (σ : xσ) : Option (Int32 × xσ) := if x0 < (imin x1 x2) then some (0, σ) else if (imax x1 x2) < x0 then some (0, σ) else some (1, σ)
set_option maxRecDepth 100000 in
set_option maxHeartbeats 4000000 in
theorem c_X14_isBetween {G : xG} {n : Nat} {σ : xσ} {h : xH} {x0 : Int32} {x1 : Int32} {x2 : Int32} {v1 : Int32} {σ1 : xσ} (R : Rl n σ h) (hf : f_X14_isBetween n x0 x1 x2 σ = some (v1, σ1)) : Ca G mX14_isBetween [.int x0, .int x1, .int x2] h (fun v h' => v = some (.int v1) ∧ Rl n σ1 h') := by
  refine Ca.of rfl (Nat.le_of_ble_eq_true rfl) ?_
  generalize hr : (v1, σ1) = r at hf
  suffices q : Go G mX14_isBetween 0 (xent (xMl mX14_isBetween) [.int x0, .int x1, .int x2]) [] h (fun v h' => xRok (xRt mX14_isBetween) v ∧ v = some (.int r.1) ∧ Rl n r.2 h') by
    subst hr
    exact q
  clear hr
  rw [f_X14_isBetween] at hf
  refine go_iload_n (i := 0) (pc' := 1) dX14_isBetween_0 rfl rfl rfl ?_
  refine go_iload_n (i := 1) (pc' := 2) dX14_isBetween_1 rfl rfl rfl ?_
  refine go_iload_n (i := 2) (pc' := 3) dX14_isBetween_2 rfl rfl rfl ?_
  refine go_mmin (pc' := 6) dX14_isBetween_3 rfl cf_X14_isBetween_47 (Nat.le_of_ble_eq_true rfl) ?_
  refine go_icmp_lt (pc' := 9) (tgt := 22) dX14_isBetween_6 (by decide) rfl (fun c101 => ?_) (fun c101 => ?_)
  · have hf := it c101 hf
    refine go_iconst (v := 0) (pc' := 23) dX14_isBetween_22 rfl (by decide) ?_
    obtain rfl := Option.some.inj hf
    exact Go.ret (v := some (.int _)) dX14_isBetween_23 ⟨_, rfl⟩ ⟨rfl, rfl, R⟩
  · have hf := ie c101 hf
    refine go_iload_n (i := 0) (pc' := 10) dX14_isBetween_9 rfl rfl rfl ?_
    refine go_iload_n (i := 1) (pc' := 11) dX14_isBetween_10 rfl rfl rfl ?_
    refine go_iload_n (i := 2) (pc' := 12) dX14_isBetween_11 rfl rfl rfl ?_
    refine go_mmax (pc' := 15) dX14_isBetween_12 rfl cf_X14_isBetween_53 (Nat.le_of_ble_eq_true rfl) ?_
    refine go_icmp_gt (pc' := 18) (tgt := 22) dX14_isBetween_15 (by decide) rfl (fun c102 => ?_) (fun c102 => ?_)
    · have hf := it c102 hf
      refine go_iconst (v := 0) (pc' := 23) dX14_isBetween_22 rfl (by decide) ?_
      obtain rfl := Option.some.inj hf
      exact Go.ret (v := some (.int _)) dX14_isBetween_23 ⟨_, rfl⟩ ⟨rfl, rfl, R⟩
    · have hf := ie c102 hf
      refine go_iconst (v := 1) (pc' := 19) dX14_isBetween_18 rfl (by decide) ?_
      refine go_goto (pc' := 0) (tgt := 23) dX14_isBetween_19 (by decide) ?_
      obtain rfl := Option.some.inj hf
      exact Go.ret (v := some (.int _)) dX14_isBetween_23 ⟨_, rfl⟩ ⟨rfl, rfl, R⟩
def f_X14_isOn (n : Nat) (a0 : Nat) (x1 : Int32) (x2 : Int32) (x3 : Int32) (σ : xσ) : Option (Int32 × xσ) := gd (okM a0) (gd (inb x1 40) (gd (inb (x1 + 1) 40) (bd (f_X14_isBetween n x2 (sI σ (a0 + 2) x1.toNatClampNeg) (sI σ (a0 + 2) (x1 + 1).toNatClampNeg) σ) (fun v103 σ104 => if v103 = 0 then some (0, σ104) else gd (inb x1 40) (gd (inb (x1 + 1) 40) (bd (f_X14_isBetween n x3 (sI σ104 (a0 + 3) x1.toNatClampNeg) (sI σ104 (a0 + 3) (x1 + 1).toNatClampNeg) σ104) (fun v111 σ112 => if v111 = 0 then some (0, σ112) else bd (f_X14_side n a0 x1 x2 x3 σ112) (fun v117 σ118 => if v117 = 0 then some (1, σ118) else some (0, σ118)))))))))
set_option maxRecDepth 100000 in
set_option maxHeartbeats 4000000 in
theorem c_X14_isOn {G : xG} {n : Nat} {σ : xσ} {h : xH} {a0 : Nat} {x1 : Int32} {x2 : Int32} {x3 : Int32} {v1 : Int32} {σ1 : xσ} (R : Rl n σ h) (hf : f_X14_isOn n a0 x1 x2 x3 σ = some (v1, σ1)) : Ca G mX14_isOn [.ref a0, .int x1, .int x2, .int x3] h (fun v h' => v = some (.int v1) ∧ Rl n σ1 h') := by
  refine Ca.of rfl (Nat.le_of_ble_eq_true rfl) ?_
  generalize hr : (v1, σ1) = r at hf
  suffices q : Go G mX14_isOn 0 (xent (xMl mX14_isOn) [.ref a0, .int x1, .int x2, .int x3]) [] h (fun v h' => xRok (xRt mX14_isOn) v ∧ v = some (.int r.1) ∧ Rl n r.2 h') by
    subst hr
    exact q
  clear hr
  rw [f_X14_isOn] at hf
  obtain ⟨g0, hf⟩ := gd_some hf
  refine go_iload_n (i := 2) (pc' := 1) dX14_isOn_0 rfl rfl rfl ?_
  refine go_aload_n (i := 0) (pc' := 2) dX14_isOn_1 rfl rfl rfl ?_
  refine go_getS (pc' := 5) dX14_isOn_2 rfl gf_LandBaseModel_30 R (g0.at R) (by decide) rfl ?_
  refine go_iload_n (i := 1) (pc' := 6) dX14_isOn_5 rfl rfl rfl ?_
  obtain ⟨g101, hf⟩ := gd_some hf
  refine go_ialoadS (pc' := 7) dX14_isOn_6 rfl R (g0.x R) g101 ?_
  refine go_aload_n (i := 0) (pc' := 8) dX14_isOn_7 rfl rfl rfl ?_
  refine go_getS (pc' := 11) dX14_isOn_8 rfl gf_LandBaseModel_30 R (g0.at R) (by decide) rfl ?_
  refine go_iload_n (i := 1) (pc' := 12) dX14_isOn_11 rfl rfl rfl ?_
  refine go_iconst (v := 1) (pc' := 13) dX14_isOn_12 rfl (by decide) ?_
  refine go_iadd (pc' := 14) dX14_isOn_13 rfl ?_
  obtain ⟨g102, hf⟩ := gd_some hf
  refine go_ialoadS (pc' := 15) dX14_isOn_14 rfl R (g0.x R) g102 ?_
  obtain ⟨v103, σ104, e105, hf⟩ := bd_some hf
  refine go_invS (As := [_, _, _]) (pc' := 18) dX14_isOn_15 rfl cf_X14_isOn_56 rfl rfl (Nat.le_of_ble_eq_true rfl) (c_X14_isBetween R e105) (fun q106v h107 q106 => ?_)
  obtain ⟨rfl, R⟩ := q106
  refine go_if_eq (pc' := 21) (tgt := 56) dX14_isOn_18 (by decide) rfl (fun c108 => ?_) (fun c108 => ?_)
  · have hf := it c108 hf
    refine go_iconst (v := 0) (pc' := 57) dX14_isOn_56 rfl (by decide) ?_
    obtain rfl := Option.some.inj hf
    exact Go.ret (v := some (.int _)) dX14_isOn_57 ⟨_, rfl⟩ ⟨rfl, rfl, R⟩
  · have hf := ie c108 hf
    refine go_iload_n (i := 3) (pc' := 22) dX14_isOn_21 rfl rfl rfl ?_
    refine go_aload_n (i := 0) (pc' := 23) dX14_isOn_22 rfl rfl rfl ?_
    refine go_getS (pc' := 26) dX14_isOn_23 rfl gf_LandBaseModel_36 R (g0.at R) (by decide) rfl ?_
    refine go_iload_n (i := 1) (pc' := 27) dX14_isOn_26 rfl rfl rfl ?_
    obtain ⟨g109, hf⟩ := gd_some hf
    refine go_ialoadS (pc' := 28) dX14_isOn_27 rfl R (g0.y R) g109 ?_
    refine go_aload_n (i := 0) (pc' := 29) dX14_isOn_28 rfl rfl rfl ?_
    refine go_getS (pc' := 32) dX14_isOn_29 rfl gf_LandBaseModel_36 R (g0.at R) (by decide) rfl ?_
    refine go_iload_n (i := 1) (pc' := 33) dX14_isOn_32 rfl rfl rfl ?_
    refine go_iconst (v := 1) (pc' := 34) dX14_isOn_33 rfl (by decide) ?_
    refine go_iadd (pc' := 35) dX14_isOn_34 rfl ?_
    obtain ⟨g110, hf⟩ := gd_some hf
    refine go_ialoadS (pc' := 36) dX14_isOn_35 rfl R (g0.y R) g110 ?_
    obtain ⟨v111, σ112, e113, hf⟩ := bd_some hf
    refine go_invS (As := [_, _, _]) (pc' := 39) dX14_isOn_36 rfl cf_X14_isOn_56 rfl rfl (Nat.le_of_ble_eq_true rfl) (c_X14_isBetween R e113) (fun q114v h115 q114 => ?_)
    obtain ⟨rfl, R⟩ := q114
    refine go_if_eq (pc' := 42) (tgt := 56) dX14_isOn_39 (by decide) rfl (fun c116 => ?_) (fun c116 => ?_)
    · have hf := it c116 hf
      refine go_iconst (v := 0) (pc' := 57) dX14_isOn_56 rfl (by decide) ?_
      obtain rfl := Option.some.inj hf
      exact Go.ret (v := some (.int _)) dX14_isOn_57 ⟨_, rfl⟩ ⟨rfl, rfl, R⟩
    · have hf := ie c116 hf
      refine go_aload_n (i := 0) (pc' := 43) dX14_isOn_42 rfl rfl rfl ?_
      refine go_iload_n (i := 1) (pc' := 44) dX14_isOn_43 rfl rfl rfl ?_
      refine go_iload_n (i := 2) (pc' := 45) dX14_isOn_44 rfl rfl rfl ?_
      refine go_iload_n (i := 3) (pc' := 46) dX14_isOn_45 rfl rfl rfl ?_
      obtain ⟨v117, σ118, e119, hf⟩ := bd_some hf
      refine go_invS (As := [_, _, _, _]) (pc' := 49) dX14_isOn_46 rfl cf_X14_isOn_60 rfl rfl (Nat.le_of_ble_eq_true rfl) (c_X14_side R e119) (fun q120v h121 q120 => ?_)
      obtain ⟨rfl, R⟩ := q120
      refine go_if_ne (pc' := 52) (tgt := 56) dX14_isOn_49 (by decide) rfl (fun c122 => ?_) (fun c122 => ?_)
      · have hf := ie c122 hf
        refine go_iconst (v := 0) (pc' := 57) dX14_isOn_56 rfl (by decide) ?_
        obtain rfl := Option.some.inj hf
        exact Go.ret (v := some (.int _)) dX14_isOn_57 ⟨_, rfl⟩ ⟨rfl, rfl, R⟩
      · have hf := it c122 hf
        refine go_iconst (v := 1) (pc' := 53) dX14_isOn_52 rfl (by decide) ?_
        refine go_goto (pc' := 0) (tgt := 57) dX14_isOn_53 (by decide) ?_
        obtain rfl := Option.some.inj hf
        exact Go.ret (v := some (.int _)) dX14_isOn_57 ⟨_, rfl⟩ ⟨rfl, rfl, R⟩
def l_X14_isOnRing_7 (n : Nat) : Nat → Nat → Int32 → Int32 → Int32 → Int32 → xσ → Option (Int32 × xσ)
  | 0, _, _, _, _, _, _ => none
  | f + 1, a0, x1, x2, x3, x4, σ => gd (inb x1 8) (if (sI σ (a0 + 1) x1.toNatClampNeg) ≤ (x4 + 1) then some (0, σ) else bd (f_X14_isOn n a0 x4 x2 x3 σ) (fun v103 σ104 => if v103 = 0 then (l_X14_isOnRing_7 n f) a0 x1 x2 x3 (x4 + 1) σ104 else some (1, σ104)))
set_option maxRecDepth 100000 in
set_option maxHeartbeats 4000000 in
theorem t_X14_isOnRing_7 {G : xG} {n : Nat} : ∀ (f : Nat) {a0 : Nat} {x1 : Int32} {x2 : Int32} {x3 : Int32} {x4 : Int32} {σ : xσ} {h : xH} {r : Int32 × xσ}, Rl n σ h → okM a0 → l_X14_isOnRing_7 n f a0 x1 x2 x3 x4 σ = some r → Go G mX14_isOnRing 7 [some (.ref a0), some (.int x1), some (.int x2), some (.int x3), some (.int x4)] [] h (fun v h' => xRok (xRt mX14_isOnRing) v ∧ v = some (.int r.1) ∧ Rl n r.2 h') := by
  intro f
  induction f with
  | zero =>
    intros
    rename _ = some _ => hf
    rw [l_X14_isOnRing_7] at hf
    cases hf
  | succ f ih =>
    intro a0 x1 x2 x3 x4 σ h r  R g0 hf
    rw [l_X14_isOnRing_7] at hf
    refine go_iload (pc' := 9) dX14_isOnRing_7 rfl rfl ?_
    refine go_iconst (v := 1) (pc' := 10) dX14_isOnRing_9 rfl (by decide) ?_
    refine go_iadd (pc' := 11) dX14_isOnRing_10 rfl ?_
    refine go_aload_n (i := 0) (pc' := 12) dX14_isOnRing_11 rfl rfl rfl ?_
    refine go_getS (pc' := 15) dX14_isOnRing_12 rfl gf_LandBaseModel_68 R (g0.at R) (by decide) rfl ?_
    refine go_iload_n (i := 1) (pc' := 16) dX14_isOnRing_15 rfl rfl rfl ?_
    obtain ⟨g101, hf⟩ := gd_some hf
    refine go_ialoadS (pc' := 17) dX14_isOnRing_16 rfl R (g0.e R) g101 ?_
    refine go_icmp_ge (pc' := 20) (tgt := 39) dX14_isOnRing_17 (by decide) rfl (fun c102 => ?_) (fun c102 => ?_)
    · have hf := it c102 hf
      refine go_iconst (v := 0) (pc' := 40) dX14_isOnRing_39 rfl (by decide) ?_
      obtain rfl := Option.some.inj hf
      exact Go.ret (v := some (.int _)) dX14_isOnRing_40 ⟨_, rfl⟩ ⟨rfl, rfl, R⟩
    · have hf := ie c102 hf
      refine go_aload_n (i := 0) (pc' := 21) dX14_isOnRing_20 rfl rfl rfl ?_
      refine go_iload (pc' := 23) dX14_isOnRing_21 rfl rfl ?_
      refine go_iload_n (i := 2) (pc' := 24) dX14_isOnRing_23 rfl rfl rfl ?_
      refine go_iload_n (i := 3) (pc' := 25) dX14_isOnRing_24 rfl rfl rfl ?_
      obtain ⟨v103, σ104, e105, hf⟩ := bd_some hf
      refine go_invS (As := [_, _, _, _]) (pc' := 28) dX14_isOnRing_25 rfl cf_X14_isOnRing_71 rfl rfl (Nat.le_of_ble_eq_true rfl) (c_X14_isOn R e105) (fun q106v h107 q106 => ?_)
      obtain ⟨rfl, R⟩ := q106
      refine go_if_eq (pc' := 31) (tgt := 33) dX14_isOnRing_28 (by decide) rfl (fun c108 => ?_) (fun c108 => ?_)
      · have hf := it c108 hf
        refine go_iincC (kk := 1) (pc' := 36) dX14_isOnRing_33 rfl rfl (by decide) (by decide) rfl ?_
        refine go_goto (pc' := 0) (tgt := 7) dX14_isOnRing_36 (by decide) ?_
        exact ih R g0 hf
      · have hf := ie c108 hf
        refine go_iconst (v := 1) (pc' := 32) dX14_isOnRing_31 rfl (by decide) ?_
        obtain rfl := Option.some.inj hf
        exact Go.ret (v := some (.int _)) dX14_isOnRing_32 ⟨_, rfl⟩ ⟨rfl, rfl, R⟩
def f_X14_isOnRing (n : Nat) (a0 : Nat) (x1 : Int32) (x2 : Int32) (x3 : Int32) (σ : xσ) : Option (Int32 × xσ) := gd (okM a0) (bd (f_X12_beginOf n a0 x1 σ) (fun v101 σ102 => l_X14_isOnRing_7 n xFU a0 x1 x2 x3 v101 σ102))
set_option maxRecDepth 100000 in
set_option maxHeartbeats 4000000 in
theorem c_X14_isOnRing {G : xG} {n : Nat} {σ : xσ} {h : xH} {a0 : Nat} {x1 : Int32} {x2 : Int32} {x3 : Int32} {v1 : Int32} {σ1 : xσ} (R : Rl n σ h) (hf : f_X14_isOnRing n a0 x1 x2 x3 σ = some (v1, σ1)) : Ca G mX14_isOnRing [.ref a0, .int x1, .int x2, .int x3] h (fun v h' => v = some (.int v1) ∧ Rl n σ1 h') := by
  refine Ca.of rfl (Nat.le_of_ble_eq_true rfl) ?_
  generalize hr : (v1, σ1) = r at hf
  suffices q : Go G mX14_isOnRing 0 (xent (xMl mX14_isOnRing) [.ref a0, .int x1, .int x2, .int x3]) [] h (fun v h' => xRok (xRt mX14_isOnRing) v ∧ v = some (.int r.1) ∧ Rl n r.2 h') by
    subst hr
    exact q
  clear hr
  rw [f_X14_isOnRing] at hf
  obtain ⟨g0, hf⟩ := gd_some hf
  refine go_aload_n (i := 0) (pc' := 1) dX14_isOnRing_0 rfl rfl rfl ?_
  refine go_iload_n (i := 1) (pc' := 2) dX14_isOnRing_1 rfl rfl rfl ?_
  obtain ⟨v101, σ102, e103, hf⟩ := bd_some hf
  refine go_invV (As := [_]) (pc' := 5) dX14_isOnRing_2 rfl cf_X14_isOnRing_64 rfl (R.ob (g0.at R)) rfl rfl (Nat.le_of_ble_eq_true rfl) (c_X12_beginOf R e103) (fun q104v h105 q104 => ?_)
  obtain ⟨rfl, R⟩ := q104
  refine go_istoreE rfl (pc' := 7) dX14_isOnRing_5 rfl (by decide) rfl ?_
  exact t_X14_isOnRing_7 xFU R g0 hf
def f_X14_meet (n : Nat) (a0 : Nat) (x1 : Int32) (a2 : Nat) (x3 : Int32) (σ : xσ) : Option (Int32 × xσ) := gd (okM a0) (gd (okM a2) (gd (inb x3 40) (gd (inb x3 40) (bd (f_X14_side n a0 x1 (sI σ (a2 + 2) x3.toNatClampNeg) (sI σ (a2 + 3) x3.toNatClampNeg) σ) (fun v103 σ104 => gd (inb (x3 + 1) 40) (gd (inb (x3 + 1) 40) (bd (f_X14_side n a0 x1 (sI σ104 (a2 + 2) (x3 + 1).toNatClampNeg) (sI σ104 (a2 + 3) (x3 + 1).toNatClampNeg) σ104) (fun v110 σ111 => gd (inb x1 40) (gd (inb x1 40) (bd (f_X14_side n a2 x3 (sI σ111 (a0 + 2) x1.toNatClampNeg) (sI σ111 (a0 + 3) x1.toNatClampNeg) σ111) (fun v117 σ118 => gd (inb (x1 + 1) 40) (gd (inb (x1 + 1) 40) (bd (f_X14_side n a2 x3 (sI σ118 (a0 + 2) (x1 + 1).toNatClampNeg) (sI σ118 (a0 + 3) (x1 + 1).toNatClampNeg) σ118) (fun v124 σ125 => if 0 ≤ (v103 * v110) then gd (inb x3 40) (gd (inb x3 40) (bd (f_X14_isOn n a0 x1 (sI σ125 (a2 + 2) x3.toNatClampNeg) (sI σ125 (a2 + 3) x3.toNatClampNeg) σ125) (fun v132 σ133 => if v132 = 0 then gd (inb (x3 + 1) 40) (gd (inb (x3 + 1) 40) (bd (f_X14_isOn n a0 x1 (sI σ133 (a2 + 2) (x3 + 1).toNatClampNeg) (sI σ133 (a2 + 3) (x3 + 1).toNatClampNeg) σ133) (fun v140 σ141 => if v140 = 0 then gd (inb x1 40) (gd (inb x1 40) (bd (f_X14_isOn n a2 x3 (sI σ141 (a0 + 2) x1.toNatClampNeg) (sI σ141 (a0 + 3) x1.toNatClampNeg) σ141) (fun v148 σ149 => if v148 = 0 then gd (inb (x1 + 1) 40) (gd (inb (x1 + 1) 40) (bd (f_X14_isOn n a2 x3 (sI σ149 (a0 + 2) (x1 + 1).toNatClampNeg) (sI σ149 (a0 + 3) (x1 + 1).toNatClampNeg) σ149) (fun v156 σ157 => if v156 = 0 then some (0, σ157) else some (1, σ157)))) else some (1, σ149)))) else some (1, σ141)))) else some (1, σ133)))) else if 0 ≤ (v117 * v124) then gd (inb x3 40) (gd (inb x3 40) (bd (f_X14_isOn n a0 x1 (sI σ125 (a2 + 2) x3.toNatClampNeg) (sI σ125 (a2 + 3) x3.toNatClampNeg) σ125) (fun v165 σ166 => if v165 = 0 then gd (inb (x3 + 1) 40) (gd (inb (x3 + 1) 40) (bd (f_X14_isOn n a0 x1 (sI σ166 (a2 + 2) (x3 + 1).toNatClampNeg) (sI σ166 (a2 + 3) (x3 + 1).toNatClampNeg) σ166) (fun v173 σ174 => if v173 = 0 then gd (inb x1 40) (gd (inb x1 40) (bd (f_X14_isOn n a2 x3 (sI σ174 (a0 + 2) x1.toNatClampNeg) (sI σ174 (a0 + 3) x1.toNatClampNeg) σ174) (fun v181 σ182 => if v181 = 0 then gd (inb (x1 + 1) 40) (gd (inb (x1 + 1) 40) (bd (f_X14_isOn n a2 x3 (sI σ182 (a0 + 2) (x1 + 1).toNatClampNeg) (sI σ182 (a0 + 3) (x1 + 1).toNatClampNeg) σ182) (fun v189 σ190 => if v189 = 0 then some (0, σ190) else some (1, σ190)))) else some (1, σ182)))) else some (1, σ174)))) else some (1, σ166)))) else some (1, σ125)))))))))))))))
set_option maxRecDepth 100000 in
set_option maxHeartbeats 4000000 in
theorem c_X14_meet {G : xG} {n : Nat} {σ : xσ} {h : xH} {a0 : Nat} {x1 : Int32} {a2 : Nat} {x3 : Int32} {v1 : Int32} {σ1 : xσ} (R : Rl n σ h) (hf : f_X14_meet n a0 x1 a2 x3 σ = some (v1, σ1)) : Ca G mX14_meet [.ref a0, .int x1, .ref a2, .int x3] h (fun v h' => v = some (.int v1) ∧ Rl n σ1 h') := by
  refine Ca.of rfl (Nat.le_of_ble_eq_true rfl) ?_
  generalize hr : (v1, σ1) = r at hf
  suffices q : Go G mX14_meet 0 (xent (xMl mX14_meet) [.ref a0, .int x1, .ref a2, .int x3]) [] h (fun v h' => xRok (xRt mX14_meet) v ∧ v = some (.int r.1) ∧ Rl n r.2 h') by
    subst hr
    exact q
  clear hr
  rw [f_X14_meet] at hf
  obtain ⟨g0, hf⟩ := gd_some hf
  obtain ⟨g2, hf⟩ := gd_some hf
  refine go_aload_n (i := 0) (pc' := 1) dX14_meet_0 rfl rfl rfl ?_
  refine go_iload_n (i := 1) (pc' := 2) dX14_meet_1 rfl rfl rfl ?_
  refine go_aload_n (i := 2) (pc' := 3) dX14_meet_2 rfl rfl rfl ?_
  refine go_getS (pc' := 6) dX14_meet_3 rfl gf_LandBaseModel_30 R (g2.at R) (by decide) rfl ?_
  refine go_iload_n (i := 3) (pc' := 7) dX14_meet_6 rfl rfl rfl ?_
  obtain ⟨g101, hf⟩ := gd_some hf
  refine go_ialoadS (pc' := 8) dX14_meet_7 rfl R (g2.x R) g101 ?_
  refine go_aload_n (i := 2) (pc' := 9) dX14_meet_8 rfl rfl rfl ?_
  refine go_getS (pc' := 12) dX14_meet_9 rfl gf_LandBaseModel_36 R (g2.at R) (by decide) rfl ?_
  refine go_iload_n (i := 3) (pc' := 13) dX14_meet_12 rfl rfl rfl ?_
  obtain ⟨g102, hf⟩ := gd_some hf
  refine go_ialoadS (pc' := 14) dX14_meet_13 rfl R (g2.y R) g102 ?_
  obtain ⟨v103, σ104, e105, hf⟩ := bd_some hf
  refine go_invS (As := [_, _, _, _]) (pc' := 17) dX14_meet_14 rfl cf_X14_meet_60 rfl rfl (Nat.le_of_ble_eq_true rfl) (c_X14_side R e105) (fun q106v h107 q106 => ?_)
  obtain ⟨rfl, R⟩ := q106
  refine go_istoreE rfl (pc' := 19) dX14_meet_17 rfl (by decide) rfl ?_
  refine go_aload_n (i := 0) (pc' := 20) dX14_meet_19 rfl rfl rfl ?_
  refine go_iload_n (i := 1) (pc' := 21) dX14_meet_20 rfl rfl rfl ?_
  refine go_aload_n (i := 2) (pc' := 22) dX14_meet_21 rfl rfl rfl ?_
  refine go_getS (pc' := 25) dX14_meet_22 rfl gf_LandBaseModel_30 R (g2.at R) (by decide) rfl ?_
  refine go_iload_n (i := 3) (pc' := 26) dX14_meet_25 rfl rfl rfl ?_
  refine go_iconst (v := 1) (pc' := 27) dX14_meet_26 rfl (by decide) ?_
  refine go_iadd (pc' := 28) dX14_meet_27 rfl ?_
  obtain ⟨g108, hf⟩ := gd_some hf
  refine go_ialoadS (pc' := 29) dX14_meet_28 rfl R (g2.x R) g108 ?_
  refine go_aload_n (i := 2) (pc' := 30) dX14_meet_29 rfl rfl rfl ?_
  refine go_getS (pc' := 33) dX14_meet_30 rfl gf_LandBaseModel_36 R (g2.at R) (by decide) rfl ?_
  refine go_iload_n (i := 3) (pc' := 34) dX14_meet_33 rfl rfl rfl ?_
  refine go_iconst (v := 1) (pc' := 35) dX14_meet_34 rfl (by decide) ?_
  refine go_iadd (pc' := 36) dX14_meet_35 rfl ?_
  obtain ⟨g109, hf⟩ := gd_some hf
  refine go_ialoadS (pc' := 37) dX14_meet_36 rfl R (g2.y R) g109 ?_
  obtain ⟨v110, σ111, e112, hf⟩ := bd_some hf
  refine go_invS (As := [_, _, _, _]) (pc' := 40) dX14_meet_37 rfl cf_X14_meet_60 rfl rfl (Nat.le_of_ble_eq_true rfl) (c_X14_side R e112) (fun q113v h114 q113 => ?_)
  obtain ⟨rfl, R⟩ := q113
  refine go_istoreE rfl (pc' := 42) dX14_meet_40 rfl (by decide) rfl ?_
  refine go_aload_n (i := 2) (pc' := 43) dX14_meet_42 rfl rfl rfl ?_
  refine go_iload_n (i := 3) (pc' := 44) dX14_meet_43 rfl rfl rfl ?_
  refine go_aload_n (i := 0) (pc' := 45) dX14_meet_44 rfl rfl rfl ?_
  refine go_getS (pc' := 48) dX14_meet_45 rfl gf_LandBaseModel_30 R (g0.at R) (by decide) rfl ?_
  refine go_iload_n (i := 1) (pc' := 49) dX14_meet_48 rfl rfl rfl ?_
  obtain ⟨g115, hf⟩ := gd_some hf
  refine go_ialoadS (pc' := 50) dX14_meet_49 rfl R (g0.x R) g115 ?_
  refine go_aload_n (i := 0) (pc' := 51) dX14_meet_50 rfl rfl rfl ?_
  refine go_getS (pc' := 54) dX14_meet_51 rfl gf_LandBaseModel_36 R (g0.at R) (by decide) rfl ?_
  refine go_iload_n (i := 1) (pc' := 55) dX14_meet_54 rfl rfl rfl ?_
  obtain ⟨g116, hf⟩ := gd_some hf
  refine go_ialoadS (pc' := 56) dX14_meet_55 rfl R (g0.y R) g116 ?_
  obtain ⟨v117, σ118, e119, hf⟩ := bd_some hf
  refine go_invS (As := [_, _, _, _]) (pc' := 59) dX14_meet_56 rfl cf_X14_meet_60 rfl rfl (Nat.le_of_ble_eq_true rfl) (c_X14_side R e119) (fun q120v h121 q120 => ?_)
  obtain ⟨rfl, R⟩ := q120
  refine go_istoreE rfl (pc' := 61) dX14_meet_59 rfl (by decide) rfl ?_
  refine go_aload_n (i := 2) (pc' := 62) dX14_meet_61 rfl rfl rfl ?_
  refine go_iload_n (i := 3) (pc' := 63) dX14_meet_62 rfl rfl rfl ?_
  refine go_aload_n (i := 0) (pc' := 64) dX14_meet_63 rfl rfl rfl ?_
  refine go_getS (pc' := 67) dX14_meet_64 rfl gf_LandBaseModel_30 R (g0.at R) (by decide) rfl ?_
  refine go_iload_n (i := 1) (pc' := 68) dX14_meet_67 rfl rfl rfl ?_
  refine go_iconst (v := 1) (pc' := 69) dX14_meet_68 rfl (by decide) ?_
  refine go_iadd (pc' := 70) dX14_meet_69 rfl ?_
  obtain ⟨g122, hf⟩ := gd_some hf
  refine go_ialoadS (pc' := 71) dX14_meet_70 rfl R (g0.x R) g122 ?_
  refine go_aload_n (i := 0) (pc' := 72) dX14_meet_71 rfl rfl rfl ?_
  refine go_getS (pc' := 75) dX14_meet_72 rfl gf_LandBaseModel_36 R (g0.at R) (by decide) rfl ?_
  refine go_iload_n (i := 1) (pc' := 76) dX14_meet_75 rfl rfl rfl ?_
  refine go_iconst (v := 1) (pc' := 77) dX14_meet_76 rfl (by decide) ?_
  refine go_iadd (pc' := 78) dX14_meet_77 rfl ?_
  obtain ⟨g123, hf⟩ := gd_some hf
  refine go_ialoadS (pc' := 79) dX14_meet_78 rfl R (g0.y R) g123 ?_
  obtain ⟨v124, σ125, e126, hf⟩ := bd_some hf
  refine go_invS (As := [_, _, _, _]) (pc' := 82) dX14_meet_79 rfl cf_X14_meet_60 rfl rfl (Nat.le_of_ble_eq_true rfl) (c_X14_side R e126) (fun q127v h128 q127 => ?_)
  obtain ⟨rfl, R⟩ := q127
  refine go_istoreE rfl (pc' := 84) dX14_meet_82 rfl (by decide) rfl ?_
  refine go_iload (pc' := 86) dX14_meet_84 rfl rfl ?_
  refine go_iload (pc' := 88) dX14_meet_86 rfl rfl ?_
  refine go_imul (pc' := 89) dX14_meet_88 rfl ?_
  refine go_if_ge (pc' := 92) (tgt := 102) dX14_meet_89 (by decide) rfl (fun c129 => ?_) (fun c129 => ?_)
  · have hf := it c129 hf
    refine go_aload_n (i := 0) (pc' := 103) dX14_meet_102 rfl rfl rfl ?_
    refine go_iload_n (i := 1) (pc' := 104) dX14_meet_103 rfl rfl rfl ?_
    refine go_aload_n (i := 2) (pc' := 105) dX14_meet_104 rfl rfl rfl ?_
    refine go_getS (pc' := 108) dX14_meet_105 rfl gf_LandBaseModel_30 R (g2.at R) (by decide) rfl ?_
    refine go_iload_n (i := 3) (pc' := 109) dX14_meet_108 rfl rfl rfl ?_
    obtain ⟨g130, hf⟩ := gd_some hf
    refine go_ialoadS (pc' := 110) dX14_meet_109 rfl R (g2.x R) g130 ?_
    refine go_aload_n (i := 2) (pc' := 111) dX14_meet_110 rfl rfl rfl ?_
    refine go_getS (pc' := 114) dX14_meet_111 rfl gf_LandBaseModel_36 R (g2.at R) (by decide) rfl ?_
    refine go_iload_n (i := 3) (pc' := 115) dX14_meet_114 rfl rfl rfl ?_
    obtain ⟨g131, hf⟩ := gd_some hf
    refine go_ialoadS (pc' := 116) dX14_meet_115 rfl R (g2.y R) g131 ?_
    obtain ⟨v132, σ133, e134, hf⟩ := bd_some hf
    refine go_invS (As := [_, _, _, _]) (pc' := 119) dX14_meet_116 rfl cf_X14_meet_71 rfl rfl (Nat.le_of_ble_eq_true rfl) (c_X14_isOn R e134) (fun q135v h136 q135 => ?_)
    obtain ⟨rfl, R⟩ := q135
    refine go_if_ne (pc' := 122) (tgt := 190) dX14_meet_119 (by decide) rfl (fun c137 => ?_) (fun c137 => ?_)
    · have hf := ie c137 hf
      refine go_iconst (v := 1) (pc' := 191) dX14_meet_190 rfl (by decide) ?_
      refine go_goto (pc' := 0) (tgt := 195) dX14_meet_191 (by decide) ?_
      obtain rfl := Option.some.inj hf
      exact Go.ret (v := some (.int _)) dX14_meet_195 ⟨_, rfl⟩ ⟨rfl, rfl, R⟩
    · have hf := it c137 hf
      refine go_aload_n (i := 0) (pc' := 123) dX14_meet_122 rfl rfl rfl ?_
      refine go_iload_n (i := 1) (pc' := 124) dX14_meet_123 rfl rfl rfl ?_
      refine go_aload_n (i := 2) (pc' := 125) dX14_meet_124 rfl rfl rfl ?_
      refine go_getS (pc' := 128) dX14_meet_125 rfl gf_LandBaseModel_30 R (g2.at R) (by decide) rfl ?_
      refine go_iload_n (i := 3) (pc' := 129) dX14_meet_128 rfl rfl rfl ?_
      refine go_iconst (v := 1) (pc' := 130) dX14_meet_129 rfl (by decide) ?_
      refine go_iadd (pc' := 131) dX14_meet_130 rfl ?_
      obtain ⟨g138, hf⟩ := gd_some hf
      refine go_ialoadS (pc' := 132) dX14_meet_131 rfl R (g2.x R) g138 ?_
      refine go_aload_n (i := 2) (pc' := 133) dX14_meet_132 rfl rfl rfl ?_
      refine go_getS (pc' := 136) dX14_meet_133 rfl gf_LandBaseModel_36 R (g2.at R) (by decide) rfl ?_
      refine go_iload_n (i := 3) (pc' := 137) dX14_meet_136 rfl rfl rfl ?_
      refine go_iconst (v := 1) (pc' := 138) dX14_meet_137 rfl (by decide) ?_
      refine go_iadd (pc' := 139) dX14_meet_138 rfl ?_
      obtain ⟨g139, hf⟩ := gd_some hf
      refine go_ialoadS (pc' := 140) dX14_meet_139 rfl R (g2.y R) g139 ?_
      obtain ⟨v140, σ141, e142, hf⟩ := bd_some hf
      refine go_invS (As := [_, _, _, _]) (pc' := 143) dX14_meet_140 rfl cf_X14_meet_71 rfl rfl (Nat.le_of_ble_eq_true rfl) (c_X14_isOn R e142) (fun q143v h144 q143 => ?_)
      obtain ⟨rfl, R⟩ := q143
      refine go_if_ne (pc' := 146) (tgt := 190) dX14_meet_143 (by decide) rfl (fun c145 => ?_) (fun c145 => ?_)
      · have hf := ie c145 hf
        refine go_iconst (v := 1) (pc' := 191) dX14_meet_190 rfl (by decide) ?_
        refine go_goto (pc' := 0) (tgt := 195) dX14_meet_191 (by decide) ?_
        obtain rfl := Option.some.inj hf
        exact Go.ret (v := some (.int _)) dX14_meet_195 ⟨_, rfl⟩ ⟨rfl, rfl, R⟩
      · have hf := it c145 hf
        refine go_aload_n (i := 2) (pc' := 147) dX14_meet_146 rfl rfl rfl ?_
        refine go_iload_n (i := 3) (pc' := 148) dX14_meet_147 rfl rfl rfl ?_
        refine go_aload_n (i := 0) (pc' := 149) dX14_meet_148 rfl rfl rfl ?_
        refine go_getS (pc' := 152) dX14_meet_149 rfl gf_LandBaseModel_30 R (g0.at R) (by decide) rfl ?_
        refine go_iload_n (i := 1) (pc' := 153) dX14_meet_152 rfl rfl rfl ?_
        obtain ⟨g146, hf⟩ := gd_some hf
        refine go_ialoadS (pc' := 154) dX14_meet_153 rfl R (g0.x R) g146 ?_
        refine go_aload_n (i := 0) (pc' := 155) dX14_meet_154 rfl rfl rfl ?_
        refine go_getS (pc' := 158) dX14_meet_155 rfl gf_LandBaseModel_36 R (g0.at R) (by decide) rfl ?_
        refine go_iload_n (i := 1) (pc' := 159) dX14_meet_158 rfl rfl rfl ?_
        obtain ⟨g147, hf⟩ := gd_some hf
        refine go_ialoadS (pc' := 160) dX14_meet_159 rfl R (g0.y R) g147 ?_
        obtain ⟨v148, σ149, e150, hf⟩ := bd_some hf
        refine go_invS (As := [_, _, _, _]) (pc' := 163) dX14_meet_160 rfl cf_X14_meet_71 rfl rfl (Nat.le_of_ble_eq_true rfl) (c_X14_isOn R e150) (fun q151v h152 q151 => ?_)
        obtain ⟨rfl, R⟩ := q151
        refine go_if_ne (pc' := 166) (tgt := 190) dX14_meet_163 (by decide) rfl (fun c153 => ?_) (fun c153 => ?_)
        · have hf := ie c153 hf
          refine go_iconst (v := 1) (pc' := 191) dX14_meet_190 rfl (by decide) ?_
          refine go_goto (pc' := 0) (tgt := 195) dX14_meet_191 (by decide) ?_
          obtain rfl := Option.some.inj hf
          exact Go.ret (v := some (.int _)) dX14_meet_195 ⟨_, rfl⟩ ⟨rfl, rfl, R⟩
        · have hf := it c153 hf
          refine go_aload_n (i := 2) (pc' := 167) dX14_meet_166 rfl rfl rfl ?_
          refine go_iload_n (i := 3) (pc' := 168) dX14_meet_167 rfl rfl rfl ?_
          refine go_aload_n (i := 0) (pc' := 169) dX14_meet_168 rfl rfl rfl ?_
          refine go_getS (pc' := 172) dX14_meet_169 rfl gf_LandBaseModel_30 R (g0.at R) (by decide) rfl ?_
          refine go_iload_n (i := 1) (pc' := 173) dX14_meet_172 rfl rfl rfl ?_
          refine go_iconst (v := 1) (pc' := 174) dX14_meet_173 rfl (by decide) ?_
          refine go_iadd (pc' := 175) dX14_meet_174 rfl ?_
          obtain ⟨g154, hf⟩ := gd_some hf
          refine go_ialoadS (pc' := 176) dX14_meet_175 rfl R (g0.x R) g154 ?_
          refine go_aload_n (i := 0) (pc' := 177) dX14_meet_176 rfl rfl rfl ?_
          refine go_getS (pc' := 180) dX14_meet_177 rfl gf_LandBaseModel_36 R (g0.at R) (by decide) rfl ?_
          refine go_iload_n (i := 1) (pc' := 181) dX14_meet_180 rfl rfl rfl ?_
          refine go_iconst (v := 1) (pc' := 182) dX14_meet_181 rfl (by decide) ?_
          refine go_iadd (pc' := 183) dX14_meet_182 rfl ?_
          obtain ⟨g155, hf⟩ := gd_some hf
          refine go_ialoadS (pc' := 184) dX14_meet_183 rfl R (g0.y R) g155 ?_
          obtain ⟨v156, σ157, e158, hf⟩ := bd_some hf
          refine go_invS (As := [_, _, _, _]) (pc' := 187) dX14_meet_184 rfl cf_X14_meet_71 rfl rfl (Nat.le_of_ble_eq_true rfl) (c_X14_isOn R e158) (fun q159v h160 q159 => ?_)
          obtain ⟨rfl, R⟩ := q159
          refine go_if_eq (pc' := 190) (tgt := 194) dX14_meet_187 (by decide) rfl (fun c161 => ?_) (fun c161 => ?_)
          · have hf := it c161 hf
            refine go_iconst (v := 0) (pc' := 195) dX14_meet_194 rfl (by decide) ?_
            obtain rfl := Option.some.inj hf
            exact Go.ret (v := some (.int _)) dX14_meet_195 ⟨_, rfl⟩ ⟨rfl, rfl, R⟩
          · have hf := ie c161 hf
            refine go_iconst (v := 1) (pc' := 191) dX14_meet_190 rfl (by decide) ?_
            refine go_goto (pc' := 0) (tgt := 195) dX14_meet_191 (by decide) ?_
            obtain rfl := Option.some.inj hf
            exact Go.ret (v := some (.int _)) dX14_meet_195 ⟨_, rfl⟩ ⟨rfl, rfl, R⟩
  · have hf := ie c129 hf
    refine go_iload (pc' := 94) dX14_meet_92 rfl rfl ?_
    refine go_iload (pc' := 96) dX14_meet_94 rfl rfl ?_
    refine go_imul (pc' := 97) dX14_meet_96 rfl ?_
    refine go_if_ge (pc' := 100) (tgt := 102) dX14_meet_97 (by decide) rfl (fun c162 => ?_) (fun c162 => ?_)
    · have hf := it c162 hf
      refine go_aload_n (i := 0) (pc' := 103) dX14_meet_102 rfl rfl rfl ?_
      refine go_iload_n (i := 1) (pc' := 104) dX14_meet_103 rfl rfl rfl ?_
      refine go_aload_n (i := 2) (pc' := 105) dX14_meet_104 rfl rfl rfl ?_
      refine go_getS (pc' := 108) dX14_meet_105 rfl gf_LandBaseModel_30 R (g2.at R) (by decide) rfl ?_
      refine go_iload_n (i := 3) (pc' := 109) dX14_meet_108 rfl rfl rfl ?_
      obtain ⟨g163, hf⟩ := gd_some hf
      refine go_ialoadS (pc' := 110) dX14_meet_109 rfl R (g2.x R) g163 ?_
      refine go_aload_n (i := 2) (pc' := 111) dX14_meet_110 rfl rfl rfl ?_
      refine go_getS (pc' := 114) dX14_meet_111 rfl gf_LandBaseModel_36 R (g2.at R) (by decide) rfl ?_
      refine go_iload_n (i := 3) (pc' := 115) dX14_meet_114 rfl rfl rfl ?_
      obtain ⟨g164, hf⟩ := gd_some hf
      refine go_ialoadS (pc' := 116) dX14_meet_115 rfl R (g2.y R) g164 ?_
      obtain ⟨v165, σ166, e167, hf⟩ := bd_some hf
      refine go_invS (As := [_, _, _, _]) (pc' := 119) dX14_meet_116 rfl cf_X14_meet_71 rfl rfl (Nat.le_of_ble_eq_true rfl) (c_X14_isOn R e167) (fun q168v h169 q168 => ?_)
      obtain ⟨rfl, R⟩ := q168
      refine go_if_ne (pc' := 122) (tgt := 190) dX14_meet_119 (by decide) rfl (fun c170 => ?_) (fun c170 => ?_)
      · have hf := ie c170 hf
        refine go_iconst (v := 1) (pc' := 191) dX14_meet_190 rfl (by decide) ?_
        refine go_goto (pc' := 0) (tgt := 195) dX14_meet_191 (by decide) ?_
        obtain rfl := Option.some.inj hf
        exact Go.ret (v := some (.int _)) dX14_meet_195 ⟨_, rfl⟩ ⟨rfl, rfl, R⟩
      · have hf := it c170 hf
        refine go_aload_n (i := 0) (pc' := 123) dX14_meet_122 rfl rfl rfl ?_
        refine go_iload_n (i := 1) (pc' := 124) dX14_meet_123 rfl rfl rfl ?_
        refine go_aload_n (i := 2) (pc' := 125) dX14_meet_124 rfl rfl rfl ?_
        refine go_getS (pc' := 128) dX14_meet_125 rfl gf_LandBaseModel_30 R (g2.at R) (by decide) rfl ?_
        refine go_iload_n (i := 3) (pc' := 129) dX14_meet_128 rfl rfl rfl ?_
        refine go_iconst (v := 1) (pc' := 130) dX14_meet_129 rfl (by decide) ?_
        refine go_iadd (pc' := 131) dX14_meet_130 rfl ?_
        obtain ⟨g171, hf⟩ := gd_some hf
        refine go_ialoadS (pc' := 132) dX14_meet_131 rfl R (g2.x R) g171 ?_
        refine go_aload_n (i := 2) (pc' := 133) dX14_meet_132 rfl rfl rfl ?_
        refine go_getS (pc' := 136) dX14_meet_133 rfl gf_LandBaseModel_36 R (g2.at R) (by decide) rfl ?_
        refine go_iload_n (i := 3) (pc' := 137) dX14_meet_136 rfl rfl rfl ?_
        refine go_iconst (v := 1) (pc' := 138) dX14_meet_137 rfl (by decide) ?_
        refine go_iadd (pc' := 139) dX14_meet_138 rfl ?_
        obtain ⟨g172, hf⟩ := gd_some hf
        refine go_ialoadS (pc' := 140) dX14_meet_139 rfl R (g2.y R) g172 ?_
        obtain ⟨v173, σ174, e175, hf⟩ := bd_some hf
        refine go_invS (As := [_, _, _, _]) (pc' := 143) dX14_meet_140 rfl cf_X14_meet_71 rfl rfl (Nat.le_of_ble_eq_true rfl) (c_X14_isOn R e175) (fun q176v h177 q176 => ?_)
        obtain ⟨rfl, R⟩ := q176
        refine go_if_ne (pc' := 146) (tgt := 190) dX14_meet_143 (by decide) rfl (fun c178 => ?_) (fun c178 => ?_)
        · have hf := ie c178 hf
          refine go_iconst (v := 1) (pc' := 191) dX14_meet_190 rfl (by decide) ?_
          refine go_goto (pc' := 0) (tgt := 195) dX14_meet_191 (by decide) ?_
          obtain rfl := Option.some.inj hf
          exact Go.ret (v := some (.int _)) dX14_meet_195 ⟨_, rfl⟩ ⟨rfl, rfl, R⟩
        · have hf := it c178 hf
          refine go_aload_n (i := 2) (pc' := 147) dX14_meet_146 rfl rfl rfl ?_
          refine go_iload_n (i := 3) (pc' := 148) dX14_meet_147 rfl rfl rfl ?_
          refine go_aload_n (i := 0) (pc' := 149) dX14_meet_148 rfl rfl rfl ?_
          refine go_getS (pc' := 152) dX14_meet_149 rfl gf_LandBaseModel_30 R (g0.at R) (by decide) rfl ?_
          refine go_iload_n (i := 1) (pc' := 153) dX14_meet_152 rfl rfl rfl ?_
          obtain ⟨g179, hf⟩ := gd_some hf
          refine go_ialoadS (pc' := 154) dX14_meet_153 rfl R (g0.x R) g179 ?_
          refine go_aload_n (i := 0) (pc' := 155) dX14_meet_154 rfl rfl rfl ?_
          refine go_getS (pc' := 158) dX14_meet_155 rfl gf_LandBaseModel_36 R (g0.at R) (by decide) rfl ?_
          refine go_iload_n (i := 1) (pc' := 159) dX14_meet_158 rfl rfl rfl ?_
          obtain ⟨g180, hf⟩ := gd_some hf
          refine go_ialoadS (pc' := 160) dX14_meet_159 rfl R (g0.y R) g180 ?_
          obtain ⟨v181, σ182, e183, hf⟩ := bd_some hf
          refine go_invS (As := [_, _, _, _]) (pc' := 163) dX14_meet_160 rfl cf_X14_meet_71 rfl rfl (Nat.le_of_ble_eq_true rfl) (c_X14_isOn R e183) (fun q184v h185 q184 => ?_)
          obtain ⟨rfl, R⟩ := q184
          refine go_if_ne (pc' := 166) (tgt := 190) dX14_meet_163 (by decide) rfl (fun c186 => ?_) (fun c186 => ?_)
          · have hf := ie c186 hf
            refine go_iconst (v := 1) (pc' := 191) dX14_meet_190 rfl (by decide) ?_
            refine go_goto (pc' := 0) (tgt := 195) dX14_meet_191 (by decide) ?_
            obtain rfl := Option.some.inj hf
            exact Go.ret (v := some (.int _)) dX14_meet_195 ⟨_, rfl⟩ ⟨rfl, rfl, R⟩
          · have hf := it c186 hf
            refine go_aload_n (i := 2) (pc' := 167) dX14_meet_166 rfl rfl rfl ?_
            refine go_iload_n (i := 3) (pc' := 168) dX14_meet_167 rfl rfl rfl ?_
            refine go_aload_n (i := 0) (pc' := 169) dX14_meet_168 rfl rfl rfl ?_
            refine go_getS (pc' := 172) dX14_meet_169 rfl gf_LandBaseModel_30 R (g0.at R) (by decide) rfl ?_
            refine go_iload_n (i := 1) (pc' := 173) dX14_meet_172 rfl rfl rfl ?_
            refine go_iconst (v := 1) (pc' := 174) dX14_meet_173 rfl (by decide) ?_
            refine go_iadd (pc' := 175) dX14_meet_174 rfl ?_
            obtain ⟨g187, hf⟩ := gd_some hf
            refine go_ialoadS (pc' := 176) dX14_meet_175 rfl R (g0.x R) g187 ?_
            refine go_aload_n (i := 0) (pc' := 177) dX14_meet_176 rfl rfl rfl ?_
            refine go_getS (pc' := 180) dX14_meet_177 rfl gf_LandBaseModel_36 R (g0.at R) (by decide) rfl ?_
            refine go_iload_n (i := 1) (pc' := 181) dX14_meet_180 rfl rfl rfl ?_
            refine go_iconst (v := 1) (pc' := 182) dX14_meet_181 rfl (by decide) ?_
            refine go_iadd (pc' := 183) dX14_meet_182 rfl ?_
            obtain ⟨g188, hf⟩ := gd_some hf
            refine go_ialoadS (pc' := 184) dX14_meet_183 rfl R (g0.y R) g188 ?_
            obtain ⟨v189, σ190, e191, hf⟩ := bd_some hf
            refine go_invS (As := [_, _, _, _]) (pc' := 187) dX14_meet_184 rfl cf_X14_meet_71 rfl rfl (Nat.le_of_ble_eq_true rfl) (c_X14_isOn R e191) (fun q192v h193 q192 => ?_)
            obtain ⟨rfl, R⟩ := q192
            refine go_if_eq (pc' := 190) (tgt := 194) dX14_meet_187 (by decide) rfl (fun c194 => ?_) (fun c194 => ?_)
            · have hf := it c194 hf
              refine go_iconst (v := 0) (pc' := 195) dX14_meet_194 rfl (by decide) ?_
              obtain rfl := Option.some.inj hf
              exact Go.ret (v := some (.int _)) dX14_meet_195 ⟨_, rfl⟩ ⟨rfl, rfl, R⟩
            · have hf := ie c194 hf
              refine go_iconst (v := 1) (pc' := 191) dX14_meet_190 rfl (by decide) ?_
              refine go_goto (pc' := 0) (tgt := 195) dX14_meet_191 (by decide) ?_
              obtain rfl := Option.some.inj hf
              exact Go.ret (v := some (.int _)) dX14_meet_195 ⟨_, rfl⟩ ⟨rfl, rfl, R⟩
    · have hf := ie c162 hf
      refine go_iconst (v := 1) (pc' := 101) dX14_meet_100 rfl (by decide) ?_
      obtain rfl := Option.some.inj hf
      exact Go.ret (v := some (.int _)) dX14_meet_101 ⟨_, rfl⟩ ⟨rfl, rfl, R⟩
def b_X14_locate_174 (n : Nat) (k41 : Nat → Int32 → Int32 → Int32 → Int32 → Int32 → xσ → Option (Int32 × xσ)) (a0 : Nat) (x1 : Int32) (x2 : Int32) (x3 : Int32) (x4 : Int32) (x5 : Int32) (σ : xσ) : Option (Int32 × xσ) := k41 a0 x1 x2 x3 x4 (x5 + 1) σ
set_option maxRecDepth 100000 in
set_option maxHeartbeats 4000000 in
theorem t_X14_locate_174 {G : xG} {n : Nat} {k41 : Nat → Int32 → Int32 → Int32 → Int32 → Int32 → xσ → Option (Int32 × xσ)} (hk41 : ∀ {a0 : Nat} {x1 : Int32} {x2 : Int32} {x3 : Int32} {x4 : Int32} {x5 : Int32} {σ : xσ} {h : xH} {r : Int32 × xσ}, Rl n σ h → okM a0 → k41 a0 x1 x2 x3 x4 x5 σ = some r → Go G mX14_locate 41 [some (.ref a0), some (.int x1), some (.int x2), some (.int x3), some (.int x4), some (.int x5)] [] h (fun v h' => xRok (xRt mX14_locate) v ∧ v = some (.int r.1) ∧ Rl n r.2 h')) {a0 : Nat} {x1 : Int32} {x2 : Int32} {x3 : Int32} {x4 : Int32} {x5 : Int32} {σ : xσ} {h : xH} {r : Int32 × xσ} : Rl n σ h → okM a0 → b_X14_locate_174 n k41 a0 x1 x2 x3 x4 x5 σ = some r → Go G mX14_locate 174 [some (.ref a0), some (.int x1), some (.int x2), some (.int x3), some (.int x4), some (.int x5)] [] h (fun v h' => xRok (xRt mX14_locate) v ∧ v = some (.int r.1) ∧ Rl n r.2 h') := by
  intro R g0 hf
  rw [b_X14_locate_174] at hf
  refine go_iincC (kk := 1) (pc' := 177) dX14_locate_174 rfl rfl (by decide) (by decide) rfl ?_
  refine go_goto (pc' := 0) (tgt := 41) dX14_locate_177 (by decide) ?_
  exact hk41 R g0 hf
def b_X14_locate_172 (n : Nat) (k41 : Nat → Int32 → Int32 → Int32 → Int32 → Int32 → xσ → Option (Int32 × xσ)) (a0 : Nat) (x1 : Int32) (x2 : Int32) (x3 : Int32) (x5 : Int32) (xs0 : Int32) (σ : xσ) : Option (Int32 × xσ) := b_X14_locate_174 n k41 a0 x1 x2 x3 xs0 x5 σ
set_option maxRecDepth 100000 in
set_option maxHeartbeats 4000000 in
theorem t_X14_locate_172 {G : xG} {n : Nat} {k41 : Nat → Int32 → Int32 → Int32 → Int32 → Int32 → xσ → Option (Int32 × xσ)} (hk41 : ∀ {a0 : Nat} {x1 : Int32} {x2 : Int32} {x3 : Int32} {x4 : Int32} {x5 : Int32} {σ : xσ} {h : xH} {r : Int32 × xσ}, Rl n σ h → okM a0 → k41 a0 x1 x2 x3 x4 x5 σ = some r → Go G mX14_locate 41 [some (.ref a0), some (.int x1), some (.int x2), some (.int x3), some (.int x4), some (.int x5)] [] h (fun v h' => xRok (xRt mX14_locate) v ∧ v = some (.int r.1) ∧ Rl n r.2 h')) {a0 : Nat} {x1 : Int32} {x2 : Int32} {x3 : Int32} {x5 : Int32} {xs0 : Int32} {σ : xσ} {h : xH} {r : Int32 × xσ} {d4 : Option Value} : Rl n σ h → okM a0 → b_X14_locate_172 n k41 a0 x1 x2 x3 x5 xs0 σ = some r → Go G mX14_locate 172 [some (.ref a0), some (.int x1), some (.int x2), some (.int x3), d4, some (.int x5)] [.int xs0] h (fun v h' => xRok (xRt mX14_locate) v ∧ v = some (.int r.1) ∧ Rl n r.2 h') := by
  intro R g0 hf
  rw [b_X14_locate_172] at hf
  refine go_istoreE rfl (pc' := 174) dX14_locate_172 rfl (by decide) rfl ?_
  exact t_X14_locate_174 @hk41 R g0 hf
def b_X14_locate_164 (n : Nat) (k41 : Nat → Int32 → Int32 → Int32 → Int32 → Int32 → xσ → Option (Int32 × xσ)) (a0 : Nat) (x1 : Int32) (x2 : Int32) (x3 : Int32) (x5 : Int32) (xs0 : Int32) (xs1 : Int32) (σ : xσ) : Option (Int32 × xσ) := if xs1 = xs0 then b_X14_locate_172 n k41 a0 x1 x2 x3 x5 0 σ else b_X14_locate_172 n k41 a0 x1 x2 x3 x5 1 σ
set_option maxRecDepth 100000 in
set_option maxHeartbeats 4000000 in
theorem t_X14_locate_164 {G : xG} {n : Nat} {k41 : Nat → Int32 → Int32 → Int32 → Int32 → Int32 → xσ → Option (Int32 × xσ)} (hk41 : ∀ {a0 : Nat} {x1 : Int32} {x2 : Int32} {x3 : Int32} {x4 : Int32} {x5 : Int32} {σ : xσ} {h : xH} {r : Int32 × xσ}, Rl n σ h → okM a0 → k41 a0 x1 x2 x3 x4 x5 σ = some r → Go G mX14_locate 41 [some (.ref a0), some (.int x1), some (.int x2), some (.int x3), some (.int x4), some (.int x5)] [] h (fun v h' => xRok (xRt mX14_locate) v ∧ v = some (.int r.1) ∧ Rl n r.2 h')) {a0 : Nat} {x1 : Int32} {x2 : Int32} {x3 : Int32} {x5 : Int32} {xs0 : Int32} {xs1 : Int32} {σ : xσ} {h : xH} {r : Int32 × xσ} {d4 : Option Value} : Rl n σ h → okM a0 → b_X14_locate_164 n k41 a0 x1 x2 x3 x5 xs0 xs1 σ = some r → Go G mX14_locate 164 [some (.ref a0), some (.int x1), some (.int x2), some (.int x3), d4, some (.int x5)] [.int xs0, .int xs1] h (fun v h' => xRok (xRt mX14_locate) v ∧ v = some (.int r.1) ∧ Rl n r.2 h') := by
  intro R g0 hf
  rw [b_X14_locate_164] at hf
  refine go_icmp_eq (pc' := 167) (tgt := 171) dX14_locate_164 (by decide) rfl (fun c101 => ?_) (fun c101 => ?_)
  · have hf := it c101 hf
    refine go_iconst (v := 0) (pc' := 172) dX14_locate_171 rfl (by decide) ?_
    exact t_X14_locate_172 @hk41 R g0 hf
  · have hf := ie c101 hf
    refine go_iconst (v := 1) (pc' := 168) dX14_locate_167 rfl (by decide) ?_
    refine go_goto (pc' := 0) (tgt := 172) dX14_locate_168 (by decide) ?_
    exact t_X14_locate_172 @hk41 R g0 hf
def b_X14_locate_156 (n : Nat) (k41 : Nat → Int32 → Int32 → Int32 → Int32 → Int32 → xσ → Option (Int32 × xσ)) (a0 : Nat) (x1 : Int32) (x2 : Int32) (x3 : Int32) (x5 : Int32) (xs0 : Int32) (xs1 : Int32) (xs2 : Int32) (σ : xσ) : Option (Int32 × xσ) := if xs1 = xs0 then b_X14_locate_164 n k41 a0 x1 x2 x3 x5 1 xs2 σ else b_X14_locate_164 n k41 a0 x1 x2 x3 x5 0 xs2 σ
set_option maxRecDepth 100000 in
set_option maxHeartbeats 4000000 in
theorem t_X14_locate_156 {G : xG} {n : Nat} {k41 : Nat → Int32 → Int32 → Int32 → Int32 → Int32 → xσ → Option (Int32 × xσ)} (hk41 : ∀ {a0 : Nat} {x1 : Int32} {x2 : Int32} {x3 : Int32} {x4 : Int32} {x5 : Int32} {σ : xσ} {h : xH} {r : Int32 × xσ}, Rl n σ h → okM a0 → k41 a0 x1 x2 x3 x4 x5 σ = some r → Go G mX14_locate 41 [some (.ref a0), some (.int x1), some (.int x2), some (.int x3), some (.int x4), some (.int x5)] [] h (fun v h' => xRok (xRt mX14_locate) v ∧ v = some (.int r.1) ∧ Rl n r.2 h')) {a0 : Nat} {x1 : Int32} {x2 : Int32} {x3 : Int32} {x5 : Int32} {xs0 : Int32} {xs1 : Int32} {xs2 : Int32} {σ : xσ} {h : xH} {r : Int32 × xσ} {d4 : Option Value} : Rl n σ h → okM a0 → b_X14_locate_156 n k41 a0 x1 x2 x3 x5 xs0 xs1 xs2 σ = some r → Go G mX14_locate 156 [some (.ref a0), some (.int x1), some (.int x2), some (.int x3), d4, some (.int x5)] [.int xs0, .int xs1, .int xs2] h (fun v h' => xRok (xRt mX14_locate) v ∧ v = some (.int r.1) ∧ Rl n r.2 h') := by
  intro R g0 hf
  rw [b_X14_locate_156] at hf
  refine go_icmp_ne (pc' := 159) (tgt := 163) dX14_locate_156 (by decide) rfl (fun c101 => ?_) (fun c101 => ?_)
  · have hf := ie c101 hf
    refine go_iconst (v := 0) (pc' := 164) dX14_locate_163 rfl (by decide) ?_
    exact t_X14_locate_164 @hk41 R g0 hf
  · have hf := it c101 hf
    refine go_iconst (v := 1) (pc' := 160) dX14_locate_159 rfl (by decide) ?_
    refine go_goto (pc' := 0) (tgt := 164) dX14_locate_160 (by decide) ?_
    exact t_X14_locate_164 @hk41 R g0 hf
def b_X14_locate_119 (n : Nat) (k41 : Nat → Int32 → Int32 → Int32 → Int32 → Int32 → xσ → Option (Int32 × xσ)) (a0 : Nat) (x1 : Int32) (x2 : Int32) (x3 : Int32) (x4 : Int32) (x5 : Int32) (xs0 : Int32) (xs1 : Int32) (σ : xσ) : Option (Int32 × xσ) := if xs1 = xs0 then k41 a0 x1 x2 x3 x4 (x5 + 1) σ else bd (f_X14_side n a0 x5 x1 x2 σ) (fun v102 σ103 => gd (inb (x5 + 1) 40) (gd (inb x5 40) (if (sI σ103 (a0 + 3) (x5 + 1).toNatClampNeg) ≤ (sI σ103 (a0 + 3) x5.toNatClampNeg) then b_X14_locate_156 n k41 a0 x1 x2 x3 x5 ((-1)) v102 x4 σ103 else b_X14_locate_156 n k41 a0 x1 x2 x3 x5 1 v102 x4 σ103)))
set_option maxRecDepth 100000 in
set_option maxHeartbeats 4000000 in
theorem t_X14_locate_119 {G : xG} {n : Nat} {k41 : Nat → Int32 → Int32 → Int32 → Int32 → Int32 → xσ → Option (Int32 × xσ)} (hk41 : ∀ {a0 : Nat} {x1 : Int32} {x2 : Int32} {x3 : Int32} {x4 : Int32} {x5 : Int32} {σ : xσ} {h : xH} {r : Int32 × xσ}, Rl n σ h → okM a0 → k41 a0 x1 x2 x3 x4 x5 σ = some r → Go G mX14_locate 41 [some (.ref a0), some (.int x1), some (.int x2), some (.int x3), some (.int x4), some (.int x5)] [] h (fun v h' => xRok (xRt mX14_locate) v ∧ v = some (.int r.1) ∧ Rl n r.2 h')) {a0 : Nat} {x1 : Int32} {x2 : Int32} {x3 : Int32} {x4 : Int32} {x5 : Int32} {xs0 : Int32} {xs1 : Int32} {σ : xσ} {h : xH} {r : Int32 × xσ} : Rl n σ h → okM a0 → b_X14_locate_119 n k41 a0 x1 x2 x3 x4 x5 xs0 xs1 σ = some r → Go G mX14_locate 119 [some (.ref a0), some (.int x1), some (.int x2), some (.int x3), some (.int x4), some (.int x5)] [.int xs0, .int xs1] h (fun v h' => xRok (xRt mX14_locate) v ∧ v = some (.int r.1) ∧ Rl n r.2 h') := by
  intro R g0 hf
  rw [b_X14_locate_119] at hf
  refine go_icmp_eq (pc' := 122) (tgt := 174) dX14_locate_119 (by decide) rfl (fun c101 => ?_) (fun c101 => ?_)
  · have hf := it c101 hf
    refine go_iincC (kk := 1) (pc' := 177) dX14_locate_174 rfl rfl (by decide) (by decide) rfl ?_
    refine go_goto (pc' := 0) (tgt := 41) dX14_locate_177 (by decide) ?_
    exact hk41 R g0 hf
  · have hf := ie c101 hf
    refine go_iload (pc' := 124) dX14_locate_122 rfl rfl ?_
    refine go_aload_n (i := 0) (pc' := 125) dX14_locate_124 rfl rfl rfl ?_
    refine go_iload (pc' := 127) dX14_locate_125 rfl rfl ?_
    refine go_iload_n (i := 1) (pc' := 128) dX14_locate_127 rfl rfl rfl ?_
    refine go_iload_n (i := 2) (pc' := 129) dX14_locate_128 rfl rfl rfl ?_
    obtain ⟨v102, σ103, e104, hf⟩ := bd_some hf
    refine go_invS (As := [_, _, _, _]) (pc' := 132) dX14_locate_129 rfl cf_X14_locate_60 rfl rfl (Nat.le_of_ble_eq_true rfl) (c_X14_side R e104) (fun q105v h106 q105 => ?_)
    obtain ⟨rfl, R⟩ := q105
    refine go_aload_n (i := 0) (pc' := 133) dX14_locate_132 rfl rfl rfl ?_
    refine go_getS (pc' := 136) dX14_locate_133 rfl gf_LandBaseModel_36 R (g0.at R) (by decide) rfl ?_
    refine go_iload (pc' := 138) dX14_locate_136 rfl rfl ?_
    refine go_iconst (v := 1) (pc' := 139) dX14_locate_138 rfl (by decide) ?_
    refine go_iadd (pc' := 140) dX14_locate_139 rfl ?_
    obtain ⟨g107, hf⟩ := gd_some hf
    refine go_ialoadS (pc' := 141) dX14_locate_140 rfl R (g0.y R) g107 ?_
    refine go_aload_n (i := 0) (pc' := 142) dX14_locate_141 rfl rfl rfl ?_
    refine go_getS (pc' := 145) dX14_locate_142 rfl gf_LandBaseModel_36 R (g0.at R) (by decide) rfl ?_
    refine go_iload (pc' := 147) dX14_locate_145 rfl rfl ?_
    obtain ⟨g108, hf⟩ := gd_some hf
    refine go_ialoadS (pc' := 148) dX14_locate_147 rfl R (g0.y R) g108 ?_
    refine go_icmp_le (pc' := 151) (tgt := 155) dX14_locate_148 (by decide) rfl (fun c109 => ?_) (fun c109 => ?_)
    · have hf := it c109 hf
      refine go_iconst (v := (-1)) (pc' := 156) dX14_locate_155 rfl (by decide) ?_
      exact t_X14_locate_156 @hk41 R g0 hf
    · have hf := ie c109 hf
      refine go_iconst (v := 1) (pc' := 152) dX14_locate_151 rfl (by decide) ?_
      refine go_goto (pc' := 0) (tgt := 156) dX14_locate_152 (by decide) ?_
      exact t_X14_locate_156 @hk41 R g0 hf
def b_X14_locate_101 (n : Nat) (k41 : Nat → Int32 → Int32 → Int32 → Int32 → Int32 → xσ → Option (Int32 × xσ)) (a0 : Nat) (x1 : Int32) (x2 : Int32) (x3 : Int32) (x4 : Int32) (x5 : Int32) (xs0 : Int32) (σ : xσ) : Option (Int32 × xσ) := gd (inb (x5 + 1) 40) (if (sI σ (a0 + 3) (x5 + 1).toNatClampNeg) ≤ x2 then b_X14_locate_119 n k41 a0 x1 x2 x3 x4 x5 0 xs0 σ else b_X14_locate_119 n k41 a0 x1 x2 x3 x4 x5 1 xs0 σ)
set_option maxRecDepth 100000 in
set_option maxHeartbeats 4000000 in
theorem t_X14_locate_101 {G : xG} {n : Nat} {k41 : Nat → Int32 → Int32 → Int32 → Int32 → Int32 → xσ → Option (Int32 × xσ)} (hk41 : ∀ {a0 : Nat} {x1 : Int32} {x2 : Int32} {x3 : Int32} {x4 : Int32} {x5 : Int32} {σ : xσ} {h : xH} {r : Int32 × xσ}, Rl n σ h → okM a0 → k41 a0 x1 x2 x3 x4 x5 σ = some r → Go G mX14_locate 41 [some (.ref a0), some (.int x1), some (.int x2), some (.int x3), some (.int x4), some (.int x5)] [] h (fun v h' => xRok (xRt mX14_locate) v ∧ v = some (.int r.1) ∧ Rl n r.2 h')) {a0 : Nat} {x1 : Int32} {x2 : Int32} {x3 : Int32} {x4 : Int32} {x5 : Int32} {xs0 : Int32} {σ : xσ} {h : xH} {r : Int32 × xσ} : Rl n σ h → okM a0 → b_X14_locate_101 n k41 a0 x1 x2 x3 x4 x5 xs0 σ = some r → Go G mX14_locate 101 [some (.ref a0), some (.int x1), some (.int x2), some (.int x3), some (.int x4), some (.int x5)] [.int xs0] h (fun v h' => xRok (xRt mX14_locate) v ∧ v = some (.int r.1) ∧ Rl n r.2 h') := by
  intro R g0 hf
  rw [b_X14_locate_101] at hf
  refine go_aload_n (i := 0) (pc' := 102) dX14_locate_101 rfl rfl rfl ?_
  refine go_getS (pc' := 105) dX14_locate_102 rfl gf_LandBaseModel_36 R (g0.at R) (by decide) rfl ?_
  refine go_iload (pc' := 107) dX14_locate_105 rfl rfl ?_
  refine go_iconst (v := 1) (pc' := 108) dX14_locate_107 rfl (by decide) ?_
  refine go_iadd (pc' := 109) dX14_locate_108 rfl ?_
  obtain ⟨g101, hf⟩ := gd_some hf
  refine go_ialoadS (pc' := 110) dX14_locate_109 rfl R (g0.y R) g101 ?_
  refine go_iload_n (i := 2) (pc' := 111) dX14_locate_110 rfl rfl rfl ?_
  refine go_icmp_le (pc' := 114) (tgt := 118) dX14_locate_111 (by decide) rfl (fun c102 => ?_) (fun c102 => ?_)
  · have hf := it c102 hf
    refine go_iconst (v := 0) (pc' := 119) dX14_locate_118 rfl (by decide) ?_
    exact t_X14_locate_119 @hk41 R g0 hf
  · have hf := ie c102 hf
    refine go_iconst (v := 1) (pc' := 115) dX14_locate_114 rfl (by decide) ?_
    refine go_goto (pc' := 0) (tgt := 119) dX14_locate_115 (by decide) ?_
    exact t_X14_locate_119 @hk41 R g0 hf
def b_X14_locate_84 (n : Nat) (k41 : Nat → Int32 → Int32 → Int32 → Int32 → Int32 → xσ → Option (Int32 × xσ)) (a0 : Nat) (x1 : Int32) (x2 : Int32) (x4 : Int32) (x5 : Int32) (xs0 : Int32) (σ : xσ) : Option (Int32 × xσ) := gd (inb x5 40) (if (sI σ (a0 + 3) x5.toNatClampNeg) ≤ x2 then b_X14_locate_101 n k41 a0 x1 x2 xs0 x4 x5 0 σ else b_X14_locate_101 n k41 a0 x1 x2 xs0 x4 x5 1 σ)
set_option maxRecDepth 100000 in
set_option maxHeartbeats 4000000 in
theorem t_X14_locate_84 {G : xG} {n : Nat} {k41 : Nat → Int32 → Int32 → Int32 → Int32 → Int32 → xσ → Option (Int32 × xσ)} (hk41 : ∀ {a0 : Nat} {x1 : Int32} {x2 : Int32} {x3 : Int32} {x4 : Int32} {x5 : Int32} {σ : xσ} {h : xH} {r : Int32 × xσ}, Rl n σ h → okM a0 → k41 a0 x1 x2 x3 x4 x5 σ = some r → Go G mX14_locate 41 [some (.ref a0), some (.int x1), some (.int x2), some (.int x3), some (.int x4), some (.int x5)] [] h (fun v h' => xRok (xRt mX14_locate) v ∧ v = some (.int r.1) ∧ Rl n r.2 h')) {a0 : Nat} {x1 : Int32} {x2 : Int32} {x4 : Int32} {x5 : Int32} {xs0 : Int32} {σ : xσ} {h : xH} {r : Int32 × xσ} {d3 : Option Value} : Rl n σ h → okM a0 → b_X14_locate_84 n k41 a0 x1 x2 x4 x5 xs0 σ = some r → Go G mX14_locate 84 [some (.ref a0), some (.int x1), some (.int x2), d3, some (.int x4), some (.int x5)] [.int xs0] h (fun v h' => xRok (xRt mX14_locate) v ∧ v = some (.int r.1) ∧ Rl n r.2 h') := by
  intro R g0 hf
  rw [b_X14_locate_84] at hf
  refine go_istore_nE rfl (i := 3) (pc' := 85) dX14_locate_84 rfl rfl (by decide) rfl ?_
  refine go_aload_n (i := 0) (pc' := 86) dX14_locate_85 rfl rfl rfl ?_
  refine go_getS (pc' := 89) dX14_locate_86 rfl gf_LandBaseModel_36 R (g0.at R) (by decide) rfl ?_
  refine go_iload (pc' := 91) dX14_locate_89 rfl rfl ?_
  obtain ⟨g101, hf⟩ := gd_some hf
  refine go_ialoadS (pc' := 92) dX14_locate_91 rfl R (g0.y R) g101 ?_
  refine go_iload_n (i := 2) (pc' := 93) dX14_locate_92 rfl rfl rfl ?_
  refine go_icmp_le (pc' := 96) (tgt := 100) dX14_locate_93 (by decide) rfl (fun c102 => ?_) (fun c102 => ?_)
  · have hf := it c102 hf
    refine go_iconst (v := 0) (pc' := 101) dX14_locate_100 rfl (by decide) ?_
    exact t_X14_locate_101 @hk41 R g0 hf
  · have hf := ie c102 hf
    refine go_iconst (v := 1) (pc' := 97) dX14_locate_96 rfl (by decide) ?_
    refine go_goto (pc' := 0) (tgt := 101) dX14_locate_97 (by decide) ?_
    exact t_X14_locate_101 @hk41 R g0 hf
def l_X14_locate_41 (n : Nat) : Nat → Nat → Int32 → Int32 → Int32 → Int32 → Int32 → xσ → Option (Int32 × xσ)
  | 0, _, _, _, _, _, _, _ => none
  | f + 1, a0, x1, x2, x3, x4, x5, σ => if (sI σ a0 2) ≤ (x5 + 1) then if (sI σ a0 1) = 2 then if x3 = 0 then if x4 = 0 then some ((-1), σ) else some (1, σ) else some (0, σ) else if x3 = 0 then some ((-1), σ) else st ((sI σ a0 2) - 1) (fun x104 => bd (f_X12_isOpen n a0 σ) (fun v106 σ107 => if v106 = 0 then some (1, σ107) else gd (inb 0 40) (if (sI σ107 (a0 + 2) (0 : Int32).toNatClampNeg) = x1 then gd (inb 0 40) (if (sI σ107 (a0 + 3) (0 : Int32).toNatClampNeg) = x2 then some (0, σ107) else gd (inb x104 40) (if (sI σ107 (a0 + 2) x104.toNatClampNeg) = x1 then gd (inb x104 40) (if (sI σ107 (a0 + 3) x104.toNatClampNeg) = x2 then some (0, σ107) else some (1, σ107)) else some (1, σ107))) else gd (inb x104 40) (if (sI σ107 (a0 + 2) x104.toNatClampNeg) = x1 then gd (inb x104 40) (if (sI σ107 (a0 + 3) x104.toNatClampNeg) = x2 then some (0, σ107) else some (1, σ107)) else some (1, σ107))))) else bd (f_X12_isWay n a0 x5 σ) (fun v126 σ127 => if v126 = 0 then b_X14_locate_174 n (l_X14_locate_41 n f) a0 x1 x2 x3 x4 x5 σ127 else if x3 = 0 then bd (f_X14_isOn n a0 x5 x1 x2 σ127) (fun v133 σ134 => if v133 = 0 then b_X14_locate_84 n (l_X14_locate_41 n f) a0 x1 x2 x4 x5 0 σ134 else b_X14_locate_84 n (l_X14_locate_41 n f) a0 x1 x2 x4 x5 1 σ134) else b_X14_locate_84 n (l_X14_locate_41 n f) a0 x1 x2 x4 x5 1 σ127)
set_option maxRecDepth 100000 in
set_option maxHeartbeats 4000000 in
theorem t_X14_locate_41 {G : xG} {n : Nat} : ∀ (f : Nat) {a0 : Nat} {x1 : Int32} {x2 : Int32} {x3 : Int32} {x4 : Int32} {x5 : Int32} {σ : xσ} {h : xH} {r : Int32 × xσ}, Rl n σ h → okM a0 → l_X14_locate_41 n f a0 x1 x2 x3 x4 x5 σ = some r → Go G mX14_locate 41 [some (.ref a0), some (.int x1), some (.int x2), some (.int x3), some (.int x4), some (.int x5)] [] h (fun v h' => xRok (xRt mX14_locate) v ∧ v = some (.int r.1) ∧ Rl n r.2 h') := by
  intro f
  induction f with
  | zero =>
    intros
    rename _ = some _ => hf
    rw [l_X14_locate_41] at hf
    cases hf
  | succ f ih =>
    intro a0 x1 x2 x3 x4 x5 σ h r  R g0 hf
    rw [l_X14_locate_41] at hf
    refine go_iload (pc' := 43) dX14_locate_41 rfl rfl ?_
    refine go_iconst (v := 1) (pc' := 44) dX14_locate_43 rfl (by decide) ?_
    refine go_iadd (pc' := 45) dX14_locate_44 rfl ?_
    refine go_aload_n (i := 0) (pc' := 46) dX14_locate_45 rfl rfl rfl ?_
    refine go_getS (pc' := 49) dX14_locate_46 rfl gf_LandBaseModel_79 R (g0.at R) (by decide) rfl ?_
    refine go_icmp_ge (pc' := 52) (tgt := 180) dX14_locate_49 (by decide) rfl (fun c101 => ?_) (fun c101 => ?_)
    · have hf := it c101 hf
      refine go_aload_n (i := 0) (pc' := 181) dX14_locate_180 rfl rfl rfl ?_
      refine go_getS (pc' := 184) dX14_locate_181 rfl gf_LandBaseModel_75 R (g0.at R) (by decide) rfl ?_
      refine go_iconst (v := 2) (pc' := 185) dX14_locate_184 rfl (by decide) ?_
      refine go_icmp_ne (pc' := 188) (tgt := 207) dX14_locate_185 (by decide) rfl (fun c102 => ?_) (fun c102 => ?_)
      · have hf := ie c102 hf
        refine go_iload_n (i := 3) (pc' := 208) dX14_locate_207 rfl rfl rfl ?_
        refine go_if_ne (pc' := 211) (tgt := 213) dX14_locate_208 (by decide) rfl (fun c103 => ?_) (fun c103 => ?_)
        · have hf := ie c103 hf
          refine go_aload_n (i := 0) (pc' := 214) dX14_locate_213 rfl rfl rfl ?_
          refine go_getS (pc' := 217) dX14_locate_214 rfl gf_LandBaseModel_79 R (g0.at R) (by decide) rfl ?_
          refine go_iconst (v := 1) (pc' := 218) dX14_locate_217 rfl (by decide) ?_
          refine go_isub (pc' := 219) dX14_locate_218 rfl ?_
          obtain ⟨x104, e105, hf⟩ := st_some hf
          refine go_istoreE e105 (pc' := 221) dX14_locate_219 rfl (by decide) rfl ?_
          refine go_aload_n (i := 0) (pc' := 222) dX14_locate_221 rfl rfl rfl ?_
          obtain ⟨v106, σ107, e108, hf⟩ := bd_some hf
          refine go_invV (As := []) (pc' := 225) dX14_locate_222 rfl cf_X14_locate_86 rfl (R.ob (g0.at R)) rfl rfl (Nat.le_of_ble_eq_true rfl) (c_X12_isOpen R e108) (fun q109v h110 q109 => ?_)
          obtain ⟨rfl, R⟩ := q109
          refine go_if_eq (pc' := 228) (tgt := 274) dX14_locate_225 (by decide) rfl (fun c111 => ?_) (fun c111 => ?_)
          · have hf := it c111 hf
            refine go_iconst (v := 1) (pc' := 275) dX14_locate_274 rfl (by decide) ?_
            obtain rfl := Option.some.inj hf
            exact Go.ret (v := some (.int _)) dX14_locate_275 ⟨_, rfl⟩ ⟨rfl, rfl, R⟩
          · have hf := ie c111 hf
            refine go_aload_n (i := 0) (pc' := 229) dX14_locate_228 rfl rfl rfl ?_
            refine go_getS (pc' := 232) dX14_locate_229 rfl gf_LandBaseModel_30 R (g0.at R) (by decide) rfl ?_
            refine go_iconst (v := 0) (pc' := 233) dX14_locate_232 rfl (by decide) ?_
            obtain ⟨g112, hf⟩ := gd_some hf
            refine go_ialoadS (pc' := 234) dX14_locate_233 rfl R (g0.x R) g112 ?_
            refine go_iload_n (i := 1) (pc' := 235) dX14_locate_234 rfl rfl rfl ?_
            refine go_icmp_ne (pc' := 238) (tgt := 248) dX14_locate_235 (by decide) rfl (fun c113 => ?_) (fun c113 => ?_)
            · have hf := ie c113 hf
              refine go_aload_n (i := 0) (pc' := 249) dX14_locate_248 rfl rfl rfl ?_
              refine go_getS (pc' := 252) dX14_locate_249 rfl gf_LandBaseModel_30 R (g0.at R) (by decide) rfl ?_
              refine go_iload (pc' := 254) dX14_locate_252 rfl rfl ?_
              obtain ⟨g114, hf⟩ := gd_some hf
              refine go_ialoadS (pc' := 255) dX14_locate_254 rfl R (g0.x R) g114 ?_
              refine go_iload_n (i := 1) (pc' := 256) dX14_locate_255 rfl rfl rfl ?_
              refine go_icmp_ne (pc' := 259) (tgt := 274) dX14_locate_256 (by decide) rfl (fun c115 => ?_) (fun c115 => ?_)
              · have hf := ie c115 hf
                refine go_iconst (v := 1) (pc' := 275) dX14_locate_274 rfl (by decide) ?_
                obtain rfl := Option.some.inj hf
                exact Go.ret (v := some (.int _)) dX14_locate_275 ⟨_, rfl⟩ ⟨rfl, rfl, R⟩
              · have hf := it c115 hf
                refine go_aload_n (i := 0) (pc' := 260) dX14_locate_259 rfl rfl rfl ?_
                refine go_getS (pc' := 263) dX14_locate_260 rfl gf_LandBaseModel_36 R (g0.at R) (by decide) rfl ?_
                refine go_iload (pc' := 265) dX14_locate_263 rfl rfl ?_
                obtain ⟨g116, hf⟩ := gd_some hf
                refine go_ialoadS (pc' := 266) dX14_locate_265 rfl R (g0.y R) g116 ?_
                refine go_iload_n (i := 2) (pc' := 267) dX14_locate_266 rfl rfl rfl ?_
                refine go_icmp_ne (pc' := 270) (tgt := 274) dX14_locate_267 (by decide) rfl (fun c117 => ?_) (fun c117 => ?_)
                · have hf := ie c117 hf
                  refine go_iconst (v := 1) (pc' := 275) dX14_locate_274 rfl (by decide) ?_
                  obtain rfl := Option.some.inj hf
                  exact Go.ret (v := some (.int _)) dX14_locate_275 ⟨_, rfl⟩ ⟨rfl, rfl, R⟩
                · have hf := it c117 hf
                  refine go_iconst (v := 0) (pc' := 271) dX14_locate_270 rfl (by decide) ?_
                  refine go_goto (pc' := 0) (tgt := 275) dX14_locate_271 (by decide) ?_
                  obtain rfl := Option.some.inj hf
                  exact Go.ret (v := some (.int _)) dX14_locate_275 ⟨_, rfl⟩ ⟨rfl, rfl, R⟩
            · have hf := it c113 hf
              refine go_aload_n (i := 0) (pc' := 239) dX14_locate_238 rfl rfl rfl ?_
              refine go_getS (pc' := 242) dX14_locate_239 rfl gf_LandBaseModel_36 R (g0.at R) (by decide) rfl ?_
              refine go_iconst (v := 0) (pc' := 243) dX14_locate_242 rfl (by decide) ?_
              obtain ⟨g118, hf⟩ := gd_some hf
              refine go_ialoadS (pc' := 244) dX14_locate_243 rfl R (g0.y R) g118 ?_
              refine go_iload_n (i := 2) (pc' := 245) dX14_locate_244 rfl rfl rfl ?_
              refine go_icmp_eq (pc' := 248) (tgt := 270) dX14_locate_245 (by decide) rfl (fun c119 => ?_) (fun c119 => ?_)
              · have hf := it c119 hf
                refine go_iconst (v := 0) (pc' := 271) dX14_locate_270 rfl (by decide) ?_
                refine go_goto (pc' := 0) (tgt := 275) dX14_locate_271 (by decide) ?_
                obtain rfl := Option.some.inj hf
                exact Go.ret (v := some (.int _)) dX14_locate_275 ⟨_, rfl⟩ ⟨rfl, rfl, R⟩
              · have hf := ie c119 hf
                refine go_aload_n (i := 0) (pc' := 249) dX14_locate_248 rfl rfl rfl ?_
                refine go_getS (pc' := 252) dX14_locate_249 rfl gf_LandBaseModel_30 R (g0.at R) (by decide) rfl ?_
                refine go_iload (pc' := 254) dX14_locate_252 rfl rfl ?_
                obtain ⟨g120, hf⟩ := gd_some hf
                refine go_ialoadS (pc' := 255) dX14_locate_254 rfl R (g0.x R) g120 ?_
                refine go_iload_n (i := 1) (pc' := 256) dX14_locate_255 rfl rfl rfl ?_
                refine go_icmp_ne (pc' := 259) (tgt := 274) dX14_locate_256 (by decide) rfl (fun c121 => ?_) (fun c121 => ?_)
                · have hf := ie c121 hf
                  refine go_iconst (v := 1) (pc' := 275) dX14_locate_274 rfl (by decide) ?_
                  obtain rfl := Option.some.inj hf
                  exact Go.ret (v := some (.int _)) dX14_locate_275 ⟨_, rfl⟩ ⟨rfl, rfl, R⟩
                · have hf := it c121 hf
                  refine go_aload_n (i := 0) (pc' := 260) dX14_locate_259 rfl rfl rfl ?_
                  refine go_getS (pc' := 263) dX14_locate_260 rfl gf_LandBaseModel_36 R (g0.at R) (by decide) rfl ?_
                  refine go_iload (pc' := 265) dX14_locate_263 rfl rfl ?_
                  obtain ⟨g122, hf⟩ := gd_some hf
                  refine go_ialoadS (pc' := 266) dX14_locate_265 rfl R (g0.y R) g122 ?_
                  refine go_iload_n (i := 2) (pc' := 267) dX14_locate_266 rfl rfl rfl ?_
                  refine go_icmp_ne (pc' := 270) (tgt := 274) dX14_locate_267 (by decide) rfl (fun c123 => ?_) (fun c123 => ?_)
                  · have hf := ie c123 hf
                    refine go_iconst (v := 1) (pc' := 275) dX14_locate_274 rfl (by decide) ?_
                    obtain rfl := Option.some.inj hf
                    exact Go.ret (v := some (.int _)) dX14_locate_275 ⟨_, rfl⟩ ⟨rfl, rfl, R⟩
                  · have hf := it c123 hf
                    refine go_iconst (v := 0) (pc' := 271) dX14_locate_270 rfl (by decide) ?_
                    refine go_goto (pc' := 0) (tgt := 275) dX14_locate_271 (by decide) ?_
                    obtain rfl := Option.some.inj hf
                    exact Go.ret (v := some (.int _)) dX14_locate_275 ⟨_, rfl⟩ ⟨rfl, rfl, R⟩
        · have hf := it c103 hf
          refine go_iconst (v := (-1)) (pc' := 212) dX14_locate_211 rfl (by decide) ?_
          obtain rfl := Option.some.inj hf
          exact Go.ret (v := some (.int _)) dX14_locate_212 ⟨_, rfl⟩ ⟨rfl, rfl, R⟩
      · have hf := it c102 hf
        refine go_iload_n (i := 3) (pc' := 189) dX14_locate_188 rfl rfl rfl ?_
        refine go_if_eq (pc' := 192) (tgt := 196) dX14_locate_189 (by decide) rfl (fun c124 => ?_) (fun c124 => ?_)
        · have hf := it c124 hf
          refine go_iload (pc' := 198) dX14_locate_196 rfl rfl ?_
          refine go_if_eq (pc' := 201) (tgt := 205) dX14_locate_198 (by decide) rfl (fun c125 => ?_) (fun c125 => ?_)
          · have hf := it c125 hf
            refine go_iconst (v := (-1)) (pc' := 206) dX14_locate_205 rfl (by decide) ?_
            obtain rfl := Option.some.inj hf
            exact Go.ret (v := some (.int _)) dX14_locate_206 ⟨_, rfl⟩ ⟨rfl, rfl, R⟩
          · have hf := ie c125 hf
            refine go_iconst (v := 1) (pc' := 202) dX14_locate_201 rfl (by decide) ?_
            refine go_goto (pc' := 0) (tgt := 206) dX14_locate_202 (by decide) ?_
            obtain rfl := Option.some.inj hf
            exact Go.ret (v := some (.int _)) dX14_locate_206 ⟨_, rfl⟩ ⟨rfl, rfl, R⟩
        · have hf := ie c124 hf
          refine go_iconst (v := 0) (pc' := 193) dX14_locate_192 rfl (by decide) ?_
          refine go_goto (pc' := 0) (tgt := 206) dX14_locate_193 (by decide) ?_
          obtain rfl := Option.some.inj hf
          exact Go.ret (v := some (.int _)) dX14_locate_206 ⟨_, rfl⟩ ⟨rfl, rfl, R⟩
    · have hf := ie c101 hf
      refine go_aload_n (i := 0) (pc' := 53) dX14_locate_52 rfl rfl rfl ?_
      refine go_iload (pc' := 55) dX14_locate_53 rfl rfl ?_
      obtain ⟨v126, σ127, e128, hf⟩ := bd_some hf
      refine go_invV (As := [_]) (pc' := 58) dX14_locate_55 rfl cf_X14_locate_82 rfl (R.ob (g0.at R)) rfl rfl (Nat.le_of_ble_eq_true rfl) (c_X12_isWay R e128) (fun q129v h130 q129 => ?_)
      obtain ⟨rfl, R⟩ := q129
      refine go_if_ne (pc' := 61) (tgt := 64) dX14_locate_58 (by decide) rfl (fun c131 => ?_) (fun c131 => ?_)
      · have hf := ie c131 hf
        refine go_iload_n (i := 3) (pc' := 65) dX14_locate_64 rfl rfl rfl ?_
        refine go_if_ne (pc' := 68) (tgt := 79) dX14_locate_65 (by decide) rfl (fun c132 => ?_) (fun c132 => ?_)
        · have hf := ie c132 hf
          refine go_iconst (v := 1) (pc' := 80) dX14_locate_79 rfl (by decide) ?_
          refine go_goto (pc' := 0) (tgt := 84) dX14_locate_80 (by decide) ?_
          exact t_X14_locate_84 @ih R g0 hf
        · have hf := it c132 hf
          refine go_aload_n (i := 0) (pc' := 69) dX14_locate_68 rfl rfl rfl ?_
          refine go_iload (pc' := 71) dX14_locate_69 rfl rfl ?_
          refine go_iload_n (i := 1) (pc' := 72) dX14_locate_71 rfl rfl rfl ?_
          refine go_iload_n (i := 2) (pc' := 73) dX14_locate_72 rfl rfl rfl ?_
          obtain ⟨v133, σ134, e135, hf⟩ := bd_some hf
          refine go_invS (As := [_, _, _, _]) (pc' := 76) dX14_locate_73 rfl cf_X14_locate_71 rfl rfl (Nat.le_of_ble_eq_true rfl) (c_X14_isOn R e135) (fun q136v h137 q136 => ?_)
          obtain ⟨rfl, R⟩ := q136
          refine go_if_eq (pc' := 79) (tgt := 83) dX14_locate_76 (by decide) rfl (fun c138 => ?_) (fun c138 => ?_)
          · have hf := it c138 hf
            refine go_iconst (v := 0) (pc' := 84) dX14_locate_83 rfl (by decide) ?_
            exact t_X14_locate_84 @ih R g0 hf
          · have hf := ie c138 hf
            refine go_iconst (v := 1) (pc' := 80) dX14_locate_79 rfl (by decide) ?_
            refine go_goto (pc' := 0) (tgt := 84) dX14_locate_80 (by decide) ?_
            exact t_X14_locate_84 @ih R g0 hf
      · have hf := it c131 hf
        refine go_goto (pc' := 0) (tgt := 174) dX14_locate_61 (by decide) ?_
        exact t_X14_locate_174 @ih R g0 hf
def f_X14_locate (n : Nat) (a0 : Nat) (x1 : Int32) (x2 : Int32) (σ : xσ) : Option (Int32 × xσ) := gd (okM a0) (if (sI σ a0 1) = 0 then gd (inb 0 40) (if (sI σ (a0 + 2) (0 : Int32).toNatClampNeg) = x1 then gd (inb 0 40) (if (sI σ (a0 + 3) (0 : Int32).toNatClampNeg) = x2 then some (1, σ) else some ((-1), σ)) else some ((-1), σ)) else l_X14_locate_41 n xFU a0 x1 x2 0 0 0 σ)
set_option maxRecDepth 100000 in
set_option maxHeartbeats 4000000 in
theorem c_X14_locate {G : xG} {n : Nat} {σ : xσ} {h : xH} {a0 : Nat} {x1 : Int32} {x2 : Int32} {v1 : Int32} {σ1 : xσ} (R : Rl n σ h) (hf : f_X14_locate n a0 x1 x2 σ = some (v1, σ1)) : Ca G mX14_locate [.ref a0, .int x1, .int x2] h (fun v h' => v = some (.int v1) ∧ Rl n σ1 h') := by
  refine Ca.of rfl (Nat.le_of_ble_eq_true rfl) ?_
  generalize hr : (v1, σ1) = r at hf
  suffices q : Go G mX14_locate 0 (xent (xMl mX14_locate) [.ref a0, .int x1, .int x2]) [] h (fun v h' => xRok (xRt mX14_locate) v ∧ v = some (.int r.1) ∧ Rl n r.2 h') by
    subst hr
    exact q
  clear hr
  rw [f_X14_locate] at hf
  obtain ⟨g0, hf⟩ := gd_some hf
  refine go_aload_n (i := 0) (pc' := 1) dX14_locate_0 rfl rfl rfl ?_
  refine go_getS (pc' := 4) dX14_locate_1 rfl gf_LandBaseModel_75 R (g0.at R) (by decide) rfl ?_
  refine go_if_ne (pc' := 7) (tgt := 33) dX14_locate_4 (by decide) rfl (fun c101 => ?_) (fun c101 => ?_)
  · have hf := ie c101 hf
    refine go_iconst (v := 0) (pc' := 34) dX14_locate_33 rfl (by decide) ?_
    refine go_istore_nE rfl (i := 3) (pc' := 35) dX14_locate_34 rfl rfl (by decide) rfl ?_
    refine go_iconst (v := 0) (pc' := 36) dX14_locate_35 rfl (by decide) ?_
    refine go_istoreE rfl (pc' := 38) dX14_locate_36 rfl (by decide) rfl ?_
    refine go_iconst (v := 0) (pc' := 39) dX14_locate_38 rfl (by decide) ?_
    refine go_istoreE rfl (pc' := 41) dX14_locate_39 rfl (by decide) rfl ?_
    exact t_X14_locate_41 xFU R g0 hf
  · have hf := it c101 hf
    refine go_aload_n (i := 0) (pc' := 8) dX14_locate_7 rfl rfl rfl ?_
    refine go_getS (pc' := 11) dX14_locate_8 rfl gf_LandBaseModel_30 R (g0.at R) (by decide) rfl ?_
    refine go_iconst (v := 0) (pc' := 12) dX14_locate_11 rfl (by decide) ?_
    obtain ⟨g102, hf⟩ := gd_some hf
    refine go_ialoadS (pc' := 13) dX14_locate_12 rfl R (g0.x R) g102 ?_
    refine go_iload_n (i := 1) (pc' := 14) dX14_locate_13 rfl rfl rfl ?_
    refine go_icmp_ne (pc' := 17) (tgt := 31) dX14_locate_14 (by decide) rfl (fun c103 => ?_) (fun c103 => ?_)
    · have hf := ie c103 hf
      refine go_iconst (v := (-1)) (pc' := 32) dX14_locate_31 rfl (by decide) ?_
      obtain rfl := Option.some.inj hf
      exact Go.ret (v := some (.int _)) dX14_locate_32 ⟨_, rfl⟩ ⟨rfl, rfl, R⟩
    · have hf := it c103 hf
      refine go_aload_n (i := 0) (pc' := 18) dX14_locate_17 rfl rfl rfl ?_
      refine go_getS (pc' := 21) dX14_locate_18 rfl gf_LandBaseModel_36 R (g0.at R) (by decide) rfl ?_
      refine go_iconst (v := 0) (pc' := 22) dX14_locate_21 rfl (by decide) ?_
      obtain ⟨g104, hf⟩ := gd_some hf
      refine go_ialoadS (pc' := 23) dX14_locate_22 rfl R (g0.y R) g104 ?_
      refine go_iload_n (i := 2) (pc' := 24) dX14_locate_23 rfl rfl rfl ?_
      refine go_icmp_ne (pc' := 27) (tgt := 31) dX14_locate_24 (by decide) rfl (fun c105 => ?_) (fun c105 => ?_)
      · have hf := ie c105 hf
        refine go_iconst (v := (-1)) (pc' := 32) dX14_locate_31 rfl (by decide) ?_
        obtain rfl := Option.some.inj hf
        exact Go.ret (v := some (.int _)) dX14_locate_32 ⟨_, rfl⟩ ⟨rfl, rfl, R⟩
      · have hf := it c105 hf
        refine go_iconst (v := 1) (pc' := 28) dX14_locate_27 rfl (by decide) ?_
        refine go_goto (pc' := 0) (tgt := 32) dX14_locate_28 (by decide) ?_
        obtain rfl := Option.some.inj hf
        exact Go.ret (v := some (.int _)) dX14_locate_32 ⟨_, rfl⟩ ⟨rfl, rfl, R⟩

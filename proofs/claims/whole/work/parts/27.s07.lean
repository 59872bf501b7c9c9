/-! methods as functions, by program (gen/dcmall.py) -/
def b_X10_window_107 (n : Nat) (k66 : Int32 → Int32 → Int32 → Int32 → Int32 → xσ → Option (Int32 × xσ)) (x1 : Int32) (x2 : Int32) (x3 : Int32) (x4 : Int32) (x6 : Int32) (σ : xσ) : Option (Int32 × xσ) := k66 x1 x2 x3 x4 (x6 + 1) σ
set_option maxRecDepth 100000 in
set_option maxHeartbeats 4000000 in
theorem t_X10_window_107 {G : xG} {n : Nat} {k66 : Int32 → Int32 → Int32 → Int32 → Int32 → xσ → Option (Int32 × xσ)} (hk66 : ∀ {x1 : Int32} {x2 : Int32} {x3 : Int32} {x4 : Int32} {x6 : Int32} {σ : xσ} {h : xH} {r : Int32 × xσ}, Rl n σ h → k66 x1 x2 x3 x4 x6 σ = some r → Go G mX10_window 66 [some (.ref 0), some (.int x1), some (.int x2), some (.int x3), some (.int x4), some (.ref 11), some (.int x6)] [] h (fun v h' => xRok (xRt mX10_window) v ∧ v = some (.int r.1) ∧ Rl n r.2 h')) {x1 : Int32} {x2 : Int32} {x3 : Int32} {x4 : Int32} {x6 : Int32} {σ : xσ} {h : xH} {r : Int32 × xσ} : Rl n σ h → b_X10_window_107 n k66 x1 x2 x3 x4 x6 σ = some r → Go G mX10_window 107 [some (.ref 0), some (.int x1), some (.int x2), some (.int x3), some (.int x4), some (.ref 11), some (.int x6)] [] h (fun v h' => xRok (xRt mX10_window) v ∧ v = some (.int r.1) ∧ Rl n r.2 h') := by
  intro R hf
  rw [b_X10_window_107] at hf
  refine go_iincC (kk := 1) (pc' := 110) dX10_window_107 rfl rfl (by decide) (by decide) rfl ?_
  refine go_goto (pc' := 0) (tgt := 66) dX10_window_110 (by decide) ?_
  exact hk66 R hf
def l_X10_window_66 (n : Nat) : Nat → Int32 → Int32 → Int32 → Int32 → Int32 → xσ → Option (Int32 × xσ)
  | 0, _, _, _, _, _, _ => none
  | f + 1, x1, x2, x3, x4, x6, σ => if (sI σ 11 2) ≤ x6 then some (0, σ) else gd (inb x6 200) (nn (sR σ 13 x6.toNatClampNeg) (fun a103 => gd (okS n a103) (bd (f_X4_isInWindow n a103 x1 x2 x3 x4 σ) (fun v106 σ107 => if v106 = 0 then (l_X10_window_66 n f) x1 x2 x3 x4 (x6 + 1) σ107 else gd (inb x6 200) (bd (f_X10_offer n (sI σ107 12 x6.toNatClampNeg) σ107) (fun v113 σ114 => b_X10_window_107 n (l_X10_window_66 n f) x1 x2 x3 x4 x6 σ114))))))
set_option maxRecDepth 100000 in
set_option maxHeartbeats 4000000 in
theorem t_X10_window_66 {G : xG} {n : Nat} : ∀ (f : Nat) {x1 : Int32} {x2 : Int32} {x3 : Int32} {x4 : Int32} {x6 : Int32} {σ : xσ} {h : xH} {r : Int32 × xσ}, Rl n σ h → l_X10_window_66 n f x1 x2 x3 x4 x6 σ = some r → Go G mX10_window 66 [some (.ref 0), some (.int x1), some (.int x2), some (.int x3), some (.int x4), some (.ref 11), some (.int x6)] [] h (fun v h' => xRok (xRt mX10_window) v ∧ v = some (.int r.1) ∧ Rl n r.2 h') := by
  intro f
  induction f with
  | zero =>
    intros
    rename _ = some _ => hf
    rw [l_X10_window_66] at hf
    cases hf
  | succ f ih =>
    intro x1 x2 x3 x4 x6 σ h r  R hf
    rw [l_X10_window_66] at hf
    refine go_iload (pc' := 68) dX10_window_66 rfl rfl ?_
    refine go_aload (pc' := 70) dX10_window_68 rfl rfl ?_
    refine go_getS (pc' := 73) dX10_window_70 rfl gf_LandBase_149 R (R.at rfl (by decide)) (by decide) rfl ?_
    refine go_icmp_ge (pc' := 76) (tgt := 113) dX10_window_73 (by decide) rfl (fun c101 => ?_) (fun c101 => ?_)
    · have hf := it c101 hf
      refine go_iconst (v := 0) (pc' := 114) dX10_window_113 rfl (by decide) ?_
      obtain rfl := Option.some.inj hf
      exact Go.ret (v := some (.int _)) dX10_window_114 ⟨_, rfl⟩ ⟨rfl, rfl, R⟩
    · have hf := ie c101 hf
      refine go_aload (pc' := 78) dX10_window_76 rfl rfl ?_
      refine go_getS (pc' := 81) dX10_window_78 rfl gf_LandBase_252 R (R.at rfl (by decide)) (by decide) rfl ?_
      refine go_iload (pc' := 83) dX10_window_81 rfl rfl ?_
      obtain ⟨g102, hf⟩ := gd_some hf
      obtain ⟨a103, e104, hf⟩ := nn_some hf
      obtain ⟨g105, hf⟩ := gd_some hf
      refine go_aaloadS (pc' := 84) dX10_window_83 rfl (by decide) R (R.aa rfl (by decide)) g102 e104 ?_
      refine go_iload_n (i := 1) (pc' := 85) dX10_window_84 rfl rfl rfl ?_
      refine go_iload_n (i := 2) (pc' := 86) dX10_window_85 rfl rfl rfl ?_
      refine go_iload_n (i := 3) (pc' := 87) dX10_window_86 rfl rfl rfl ?_
      refine go_iload (pc' := 89) dX10_window_87 rfl rfl ?_
      obtain ⟨v106, σ107, e108, hf⟩ := bd_some hf
      refine go_invS (As := [_, _, _, _, _]) (pc' := 92) dX10_window_89 rfl cf_X10_window_305 rfl rfl (Nat.le_of_ble_eq_true rfl) (c_X4_isInWindow R e108) (fun q109v h110 q109 => ?_)
      obtain ⟨rfl, R⟩ := q109
      refine go_if_eq (pc' := 95) (tgt := 107) dX10_window_92 (by decide) rfl (fun c111 => ?_) (fun c111 => ?_)
      · have hf := it c111 hf
        refine go_iincC (kk := 1) (pc' := 110) dX10_window_107 rfl rfl (by decide) (by decide) rfl ?_
        refine go_goto (pc' := 0) (tgt := 66) dX10_window_110 (by decide) ?_
        exact ih R hf
      · have hf := ie c111 hf
        refine go_aload_n (i := 0) (pc' := 96) dX10_window_95 rfl rfl rfl ?_
        refine go_aload (pc' := 98) dX10_window_96 rfl rfl ?_
        refine go_getS (pc' := 101) dX10_window_98 rfl gf_LandBase_157 R (R.at rfl (by decide)) (by decide) rfl ?_
        refine go_iload (pc' := 103) dX10_window_101 rfl rfl ?_
        obtain ⟨g112, hf⟩ := gd_some hf
        refine go_ialoadS (pc' := 104) dX10_window_103 rfl R (R.aa rfl (by decide)) g112 ?_
        obtain ⟨v113, σ114, e115, hf⟩ := bd_some hf
        refine go_invV (As := [_]) (pc' := 107) dX10_window_104 rfl cf_X10_window_302 rfl (R.ob (R.at rfl (by decide))) rfl rfl (Nat.le_of_ble_eq_true rfl) (c_X10_offer R e115) (fun q116v h117 q116 => ?_)
        obtain ⟨rfl, R⟩ := q116
        exact t_X10_window_107 @ih R hf
def f_X10_window (n : Nat)  (σ : xσ) : Option (Int32 × xσ) := gd (inb 0 6) (st (sI σ 4 (0 : Int32).toNatClampNeg) (fun x102 => gd (inb 1 6) (st (sI σ 4 (1 : Int32).toNatClampNeg) (fun x105 => gd (inb 2 6) (st (sI σ 4 (2 : Int32).toNatClampNeg) (fun x108 => gd (inb 3 6) (st (sI σ 4 (3 : Int32).toNatClampNeg) (fun x111 => if x108 < x102 then some (5, σ) else if x105 ≤ x111 then l_X10_window_66 n xFU x102 x105 x108 x111 0 σ else some (5, σ)))))))))
set_option maxRecDepth 100000 in
set_option maxHeartbeats 4000000 in
theorem c_X10_window {G : xG} {n : Nat} {σ : xσ} {h : xH}  {v1 : Int32} {σ1 : xσ} (R : Rl n σ h) (hf : f_X10_window n σ = some (v1, σ1)) : Ca G mX10_window [.ref 0] h (fun v h' => v = some (.int v1) ∧ Rl n σ1 h') := by
  refine Ca.of rfl (Nat.le_of_ble_eq_true rfl) ?_
  generalize hr : (v1, σ1) = r at hf
  suffices q : Go G mX10_window 0 (xent (xMl mX10_window) [.ref 0]) [] h (fun v h' => xRok (xRt mX10_window) v ∧ v = some (.int r.1) ∧ Rl n r.2 h') by
    subst hr
    exact q
  clear hr
  rw [f_X10_window] at hf
  refine go_aload_n (i := 0) (pc' := 1) dX10_window_0 rfl rfl rfl ?_
  refine go_getS (pc' := 4) dX10_window_1 rfl gf_LandBase_19 R (R.at rfl (by decide)) (by decide) rfl ?_
  refine go_getS (pc' := 7) dX10_window_4 rfl gf_LandBase_214 R (R.at rfl (by decide)) (by decide) rfl ?_
  refine go_iconst (v := 0) (pc' := 8) dX10_window_7 rfl (by decide) ?_
  obtain ⟨g101, hf⟩ := gd_some hf
  refine go_ialoadS (pc' := 9) dX10_window_8 rfl R (R.aa rfl (by decide)) g101 ?_
  obtain ⟨x102, e103, hf⟩ := st_some hf
  refine go_istore_nE e103 (i := 1) (pc' := 10) dX10_window_9 rfl rfl (by decide) rfl ?_
  refine go_aload_n (i := 0) (pc' := 11) dX10_window_10 rfl rfl rfl ?_
  refine go_getS (pc' := 14) dX10_window_11 rfl gf_LandBase_19 R (R.at rfl (by decide)) (by decide) rfl ?_
  refine go_getS (pc' := 17) dX10_window_14 rfl gf_LandBase_214 R (R.at rfl (by decide)) (by decide) rfl ?_
  refine go_iconst (v := 1) (pc' := 18) dX10_window_17 rfl (by decide) ?_
  obtain ⟨g104, hf⟩ := gd_some hf
  refine go_ialoadS (pc' := 19) dX10_window_18 rfl R (R.aa rfl (by decide)) g104 ?_
  obtain ⟨x105, e106, hf⟩ := st_some hf
  refine go_istore_nE e106 (i := 2) (pc' := 20) dX10_window_19 rfl rfl (by decide) rfl ?_
  refine go_aload_n (i := 0) (pc' := 21) dX10_window_20 rfl rfl rfl ?_
  refine go_getS (pc' := 24) dX10_window_21 rfl gf_LandBase_19 R (R.at rfl (by decide)) (by decide) rfl ?_
  refine go_getS (pc' := 27) dX10_window_24 rfl gf_LandBase_214 R (R.at rfl (by decide)) (by decide) rfl ?_
  refine go_iconst (v := 2) (pc' := 28) dX10_window_27 rfl (by decide) ?_
  obtain ⟨g107, hf⟩ := gd_some hf
  refine go_ialoadS (pc' := 29) dX10_window_28 rfl R (R.aa rfl (by decide)) g107 ?_
  obtain ⟨x108, e109, hf⟩ := st_some hf
  refine go_istore_nE e109 (i := 3) (pc' := 30) dX10_window_29 rfl rfl (by decide) rfl ?_
  refine go_aload_n (i := 0) (pc' := 31) dX10_window_30 rfl rfl rfl ?_
  refine go_getS (pc' := 34) dX10_window_31 rfl gf_LandBase_19 R (R.at rfl (by decide)) (by decide) rfl ?_
  refine go_getS (pc' := 37) dX10_window_34 rfl gf_LandBase_214 R (R.at rfl (by decide)) (by decide) rfl ?_
  refine go_iconst (v := 3) (pc' := 38) dX10_window_37 rfl (by decide) ?_
  obtain ⟨g110, hf⟩ := gd_some hf
  refine go_ialoadS (pc' := 39) dX10_window_38 rfl R (R.aa rfl (by decide)) g110 ?_
  obtain ⟨x111, e112, hf⟩ := st_some hf
  refine go_istoreE e112 (pc' := 41) dX10_window_39 rfl (by decide) rfl ?_
  refine go_iload_n (i := 3) (pc' := 42) dX10_window_41 rfl rfl rfl ?_
  refine go_iload_n (i := 1) (pc' := 43) dX10_window_42 rfl rfl rfl ?_
  refine go_icmp_lt (pc' := 46) (tgt := 52) dX10_window_43 (by decide) rfl (fun c113 => ?_) (fun c113 => ?_)
  · have hf := it c113 hf
    refine go_iconst (v := 5) (pc' := 53) dX10_window_52 rfl (by decide) ?_
    obtain rfl := Option.some.inj hf
    exact Go.ret (v := some (.int _)) dX10_window_53 ⟨_, rfl⟩ ⟨rfl, rfl, R⟩
  · have hf := ie c113 hf
    refine go_iload (pc' := 48) dX10_window_46 rfl rfl ?_
    refine go_iload_n (i := 2) (pc' := 49) dX10_window_48 rfl rfl rfl ?_
    refine go_icmp_ge (pc' := 52) (tgt := 54) dX10_window_49 (by decide) rfl (fun c114 => ?_) (fun c114 => ?_)
    · have hf := it c114 hf
      refine go_aload_n (i := 0) (pc' := 55) dX10_window_54 rfl rfl rfl ?_
      refine go_getS (pc' := 58) dX10_window_55 rfl gf_LandBase_26 R (R.at rfl (by decide)) (by decide) rfl ?_
      refine go_getS (pc' := 61) dX10_window_58 rfl gf_LandBase_145 R (R.at rfl (by decide)) (by decide) rfl ?_
      refine go_astore (pc' := 63) dX10_window_61 rfl (by decide) rfl ?_
      refine go_iconst (v := 0) (pc' := 64) dX10_window_63 rfl (by decide) ?_
      refine go_istoreE rfl (pc' := 66) dX10_window_64 rfl (by decide) rfl ?_
      exact t_X10_window_66 xFU R hf
    · have hf := ie c114 hf
      refine go_iconst (v := 5) (pc' := 53) dX10_window_52 rfl (by decide) ?_
      obtain rfl := Option.some.inj hf
      exact Go.ret (v := some (.int _)) dX10_window_53 ⟨_, rfl⟩ ⟨rfl, rfl, R⟩
def b_X10_sortIn_62 (n : Nat) (k7 : Int32 → Int32 → Int32 → Int32 → xσ → Option (Unit × xσ)) (x1 : Int32) (x2 : Int32) (x3 : Int32) (x4 : Int32) (σ : xσ) : Option (Unit × xσ) := k7 x1 x2 x3 (x4 + 1) σ
set_option maxRecDepth 100000 in
set_option maxHeartbeats 4000000 in
theorem t_X10_sortIn_62 {G : xG} {n : Nat} {k7 : Int32 → Int32 → Int32 → Int32 → xσ → Option (Unit × xσ)} (hk7 : ∀ {x1 : Int32} {x2 : Int32} {x3 : Int32} {x4 : Int32} {σ : xσ} {h : xH} {r : Unit × xσ} {d5 : Option Value}, Rl n σ h → k7 x1 x2 x3 x4 σ = some r → Go G mX10_sortIn 7 [some (.ref 0), some (.int x1), some (.int x2), some (.int x3), some (.int x4), d5] [] h (fun v h' => xRok (xRt mX10_sortIn) v ∧ v = none ∧ Rl n r.2 h')) {x1 : Int32} {x2 : Int32} {x3 : Int32} {x4 : Int32} {σ : xσ} {h : xH} {r : Unit × xσ} {d5 : Option Value} : Rl n σ h → b_X10_sortIn_62 n k7 x1 x2 x3 x4 σ = some r → Go G mX10_sortIn 62 [some (.ref 0), some (.int x1), some (.int x2), some (.int x3), some (.int x4), d5] [] h (fun v h' => xRok (xRt mX10_sortIn) v ∧ v = none ∧ Rl n r.2 h') := by
  intro R hf
  rw [b_X10_sortIn_62] at hf
  refine go_iincC (kk := 1) (pc' := 65) dX10_sortIn_62 rfl rfl (by decide) (by decide) rfl ?_
  refine go_goto (pc' := 0) (tgt := 7) dX10_sortIn_65 (by decide) ?_
  exact hk7 R hf
def l_X10_sortIn_71 (n : Nat) : Nat → Int32 → Int32 → Int32 → xσ → Option (Unit × xσ)
  | 0, _, _, _, _ => none
  | f + 1, x1, x2, x4, σ => if x4 ≤ x2 then gd (inb x2 200) (st (wI σ 231 x2.toNatClampNeg x1) (fun σ103 => some ((), σ103))) else gd (inb (x4 - 1) 200) (gd (inb x4 200) (st (wI σ 231 x4.toNatClampNeg (sI σ 231 (x4 - 1).toNatClampNeg)) (fun σ108 => (l_X10_sortIn_71 n f) x1 x2 (x4 + (-1)) σ108)))
set_option maxRecDepth 100000 in
set_option maxHeartbeats 4000000 in
theorem t_X10_sortIn_71 {G : xG} {n : Nat} : ∀ (f : Nat) {x1 : Int32} {x2 : Int32} {x4 : Int32} {σ : xσ} {h : xH} {r : Unit × xσ} {d3 : Option Value} {d5 : Option Value}, Rl n σ h → l_X10_sortIn_71 n f x1 x2 x4 σ = some r → Go G mX10_sortIn 71 [some (.ref 0), some (.int x1), some (.int x2), d3, some (.int x4), d5] [] h (fun v h' => xRok (xRt mX10_sortIn) v ∧ v = none ∧ Rl n r.2 h') := by
  intro f
  induction f with
  | zero =>
    intros
    rename _ = some _ => hf
    rw [l_X10_sortIn_71] at hf
    cases hf
  | succ f ih =>
    intro x1 x2 x4 σ h r d3 d5 R hf
    rw [l_X10_sortIn_71] at hf
    refine go_iload (pc' := 73) dX10_sortIn_71 rfl rfl ?_
    refine go_iload_n (i := 2) (pc' := 74) dX10_sortIn_73 rfl rfl rfl ?_
    refine go_icmp_le (pc' := 77) (tgt := 99) dX10_sortIn_74 (by decide) rfl (fun c101 => ?_) (fun c101 => ?_)
    · have hf := it c101 hf
      refine go_aload_n (i := 0) (pc' := 100) dX10_sortIn_99 rfl rfl rfl ?_
      refine go_getS (pc' := 103) dX10_sortIn_100 rfl gf_LandBase_56 R (R.at rfl (by decide)) (by decide) rfl ?_
      refine go_iload_n (i := 2) (pc' := 104) dX10_sortIn_103 rfl rfl rfl ?_
      refine go_iload_n (i := 1) (pc' := 105) dX10_sortIn_104 rfl rfl rfl ?_
      obtain ⟨g102, hf⟩ := gd_some hf
      obtain ⟨σ103, e104, hf⟩ := st_some hf
      refine go_iastoreS (pc' := 106) dX10_sortIn_105 rfl R (R.aa rfl (by decide)) g102 (fun h105 R => ?_)
      have R := Rl.cast e104 R
      obtain rfl := Option.some.inj hf
      exact Go.ret (v := none) dX10_sortIn_106 rfl ⟨trivial, rfl, R⟩
    · have hf := ie c101 hf
      refine go_aload_n (i := 0) (pc' := 78) dX10_sortIn_77 rfl rfl rfl ?_
      refine go_getS (pc' := 81) dX10_sortIn_78 rfl gf_LandBase_56 R (R.at rfl (by decide)) (by decide) rfl ?_
      refine go_iload (pc' := 83) dX10_sortIn_81 rfl rfl ?_
      refine go_aload_n (i := 0) (pc' := 84) dX10_sortIn_83 rfl rfl rfl ?_
      refine go_getS (pc' := 87) dX10_sortIn_84 rfl gf_LandBase_56 R (R.at rfl (by decide)) (by decide) rfl ?_
      refine go_iload (pc' := 89) dX10_sortIn_87 rfl rfl ?_
      refine go_iconst (v := 1) (pc' := 90) dX10_sortIn_89 rfl (by decide) ?_
      refine go_isub (pc' := 91) dX10_sortIn_90 rfl ?_
      obtain ⟨g106, hf⟩ := gd_some hf
      refine go_ialoadS (pc' := 92) dX10_sortIn_91 rfl R (R.aa rfl (by decide)) g106 ?_
      obtain ⟨g107, hf⟩ := gd_some hf
      obtain ⟨σ108, e109, hf⟩ := st_some hf
      refine go_iastoreS (pc' := 93) dX10_sortIn_92 rfl R (R.aa rfl (by decide)) g107 (fun h110 R => ?_)
      have R := Rl.cast e109 R
      refine go_iincC (kk := (-1)) (pc' := 96) dX10_sortIn_93 rfl rfl (by decide) (by decide) rfl ?_
      refine go_goto (pc' := 0) (tgt := 71) dX10_sortIn_96 (by decide) ?_
      exact ih R hf
def l_X10_sortIn_7 (n : Nat) : Nat → Int32 → Int32 → Int32 → Int32 → xσ → Option (Unit × xσ)
  | 0, _, _, _, _, _ => none
  | f + 1, x1, x2, x3, x4, σ => if 200 ≤ x4 then l_X10_sortIn_71 n xFU x1 x2 x1 σ else if x3 ≤ x2 then l_X10_sortIn_71 n xFU x1 x2 x1 σ else st ((x2 + x3) / 2) (fun x103 => gd (inb x103 200) (gd (inb (sI σ 231 x103.toNatClampNeg) 200) (nn (sR σ 30 (sI σ 231 x103.toNatClampNeg).toNatClampNeg) (fun a107 => gd (okD a107) (gd (inb x1 200) (nn (sR σ 30 x1.toNatClampNeg) (fun a111 => gd (okD a111) (bd (f_X2_compareWith n a107 a111 σ) (fun v114 σ115 => if v114 ≤ 0 then st (x103 + 1) (fun x120 => b_X10_sortIn_62 n (l_X10_sortIn_7 n f) x1 x120 x3 x4 σ115) else b_X10_sortIn_62 n (l_X10_sortIn_7 n f) x1 x2 x103 x4 σ115)))))))))
set_option maxRecDepth 100000 in
set_option maxHeartbeats 4000000 in
theorem t_X10_sortIn_7 {G : xG} {n : Nat} : ∀ (f : Nat) {x1 : Int32} {x2 : Int32} {x3 : Int32} {x4 : Int32} {σ : xσ} {h : xH} {r : Unit × xσ} {d5 : Option Value}, Rl n σ h → l_X10_sortIn_7 n f x1 x2 x3 x4 σ = some r → Go G mX10_sortIn 7 [some (.ref 0), some (.int x1), some (.int x2), some (.int x3), some (.int x4), d5] [] h (fun v h' => xRok (xRt mX10_sortIn) v ∧ v = none ∧ Rl n r.2 h') := by
  intro f
  induction f with
  | zero =>
    intros
    rename _ = some _ => hf
    rw [l_X10_sortIn_7] at hf
    cases hf
  | succ f ih =>
    intro x1 x2 x3 x4 σ h r d5 R hf
    rw [l_X10_sortIn_7] at hf
    refine go_iload (pc' := 9) dX10_sortIn_7 rfl rfl ?_
    refine go_sipush (v := 200) (pc' := 12) dX10_sortIn_9 rfl (by decide) ?_
    refine go_icmp_ge (pc' := 15) (tgt := 68) dX10_sortIn_12 (by decide) rfl (fun c101 => ?_) (fun c101 => ?_)
    · have hf := it c101 hf
      refine go_iload_n (i := 1) (pc' := 69) dX10_sortIn_68 rfl rfl rfl ?_
      refine go_istoreE rfl (pc' := 71) dX10_sortIn_69 rfl (by decide) rfl ?_
      exact t_X10_sortIn_71 xFU R hf
    · have hf := ie c101 hf
      refine go_iload_n (i := 2) (pc' := 16) dX10_sortIn_15 rfl rfl rfl ?_
      refine go_iload_n (i := 3) (pc' := 17) dX10_sortIn_16 rfl rfl rfl ?_
      refine go_icmp_ge (pc' := 20) (tgt := 68) dX10_sortIn_17 (by decide) rfl (fun c102 => ?_) (fun c102 => ?_)
      · have hf := it c102 hf
        refine go_iload_n (i := 1) (pc' := 69) dX10_sortIn_68 rfl rfl rfl ?_
        refine go_istoreE rfl (pc' := 71) dX10_sortIn_69 rfl (by decide) rfl ?_
        exact t_X10_sortIn_71 xFU R hf
      · have hf := ie c102 hf
        refine go_iload_n (i := 2) (pc' := 21) dX10_sortIn_20 rfl rfl rfl ?_
        refine go_iload_n (i := 3) (pc' := 22) dX10_sortIn_21 rfl rfl rfl ?_
        refine go_iadd (pc' := 23) dX10_sortIn_22 rfl ?_
        refine go_iconst (v := 2) (pc' := 24) dX10_sortIn_23 rfl (by decide) ?_
        refine go_idiv (pc' := 25) dX10_sortIn_24 rfl (by decide) ?_
        obtain ⟨x103, e104, hf⟩ := st_some hf
        refine go_istoreE e104 (pc' := 27) dX10_sortIn_25 rfl (by decide) rfl ?_
        refine go_aload_n (i := 0) (pc' := 28) dX10_sortIn_27 rfl rfl rfl ?_
        refine go_getS (pc' := 31) dX10_sortIn_28 rfl gf_LandBase_51 R (R.at rfl (by decide)) (by decide) rfl ?_
        refine go_aload_n (i := 0) (pc' := 32) dX10_sortIn_31 rfl rfl rfl ?_
        refine go_getS (pc' := 35) dX10_sortIn_32 rfl gf_LandBase_56 R (R.at rfl (by decide)) (by decide) rfl ?_
        refine go_iload (pc' := 37) dX10_sortIn_35 rfl rfl ?_
        obtain ⟨g105, hf⟩ := gd_some hf
        refine go_ialoadS (pc' := 38) dX10_sortIn_37 rfl R (R.aa rfl (by decide)) g105 ?_
        obtain ⟨g106, hf⟩ := gd_some hf
        obtain ⟨a107, e108, hf⟩ := nn_some hf
        obtain ⟨g109, hf⟩ := gd_some hf
        refine go_aaloadS (pc' := 39) dX10_sortIn_38 rfl (by decide) R (R.aa rfl (by decide)) g106 e108 ?_
        refine go_aload_n (i := 0) (pc' := 40) dX10_sortIn_39 rfl rfl rfl ?_
        refine go_getS (pc' := 43) dX10_sortIn_40 rfl gf_LandBase_51 R (R.at rfl (by decide)) (by decide) rfl ?_
        refine go_iload_n (i := 1) (pc' := 44) dX10_sortIn_43 rfl rfl rfl ?_
        obtain ⟨g110, hf⟩ := gd_some hf
        obtain ⟨a111, e112, hf⟩ := nn_some hf
        obtain ⟨g113, hf⟩ := gd_some hf
        refine go_aaloadS (pc' := 45) dX10_sortIn_44 rfl (by decide) R (R.aa rfl (by decide)) g110 e112 ?_
        obtain ⟨v114, σ115, e116, hf⟩ := bd_some hf
        refine go_invV (As := [_]) (pc' := 48) dX10_sortIn_45 rfl cf_X10_sortIn_191 rfl (R.ob (g109.at R)) rfl rfl (Nat.le_of_ble_eq_true rfl) (c_X2_compareWith R e116) (fun q117v h118 q117 => ?_)
        obtain ⟨rfl, R⟩ := q117
        refine go_if_le (pc' := 51) (tgt := 57) dX10_sortIn_48 (by decide) rfl (fun c119 => ?_) (fun c119 => ?_)
        · have hf := it c119 hf
          refine go_iload (pc' := 59) dX10_sortIn_57 rfl rfl ?_
          refine go_iconst (v := 1) (pc' := 60) dX10_sortIn_59 rfl (by decide) ?_
          refine go_iadd (pc' := 61) dX10_sortIn_60 rfl ?_
          obtain ⟨x120, e121, hf⟩ := st_some hf
          refine go_istore_nE e121 (i := 2) (pc' := 62) dX10_sortIn_61 rfl rfl (by decide) rfl ?_
          exact t_X10_sortIn_62 @ih R hf
        · have hf := ie c119 hf
          refine go_iload (pc' := 53) dX10_sortIn_51 rfl rfl ?_
          refine go_istore_nE rfl (i := 3) (pc' := 54) dX10_sortIn_53 rfl rfl (by decide) rfl ?_
          refine go_goto (pc' := 0) (tgt := 62) dX10_sortIn_54 (by decide) ?_
          exact t_X10_sortIn_62 @ih R hf
def f_X10_sortIn (n : Nat) (x1 : Int32) (σ : xσ) : Option (Unit × xσ) := l_X10_sortIn_7 n xFU x1 0 x1 0 σ
set_option maxRecDepth 100000 in
set_option maxHeartbeats 4000000 in
theorem c_X10_sortIn {G : xG} {n : Nat} {σ : xσ} {h : xH} {x1 : Int32} {v1 : Unit} {σ1 : xσ} (R : Rl n σ h) (hf : f_X10_sortIn n x1 σ = some (v1, σ1)) : Ca G mX10_sortIn [.ref 0, .int x1] h (fun v h' => v = none ∧ Rl n σ1 h') := by
  refine Ca.of rfl (Nat.le_of_ble_eq_true rfl) ?_
  generalize hr : (v1, σ1) = r at hf
  suffices q : Go G mX10_sortIn 0 (xent (xMl mX10_sortIn) [.ref 0, .int x1]) [] h (fun v h' => xRok (xRt mX10_sortIn) v ∧ v = none ∧ Rl n r.2 h') by
    subst hr
    exact q
  clear hr
  rw [f_X10_sortIn] at hf
  refine go_iconst (v := 0) (pc' := 1) dX10_sortIn_0 rfl (by decide) ?_
  refine go_istore_nE rfl (i := 2) (pc' := 2) dX10_sortIn_1 rfl rfl (by decide) rfl ?_
  refine go_iload_n (i := 1) (pc' := 3) dX10_sortIn_2 rfl rfl rfl ?_
  refine go_istore_nE rfl (i := 3) (pc' := 4) dX10_sortIn_3 rfl rfl (by decide) rfl ?_
  refine go_iconst (v := 0) (pc' := 5) dX10_sortIn_4 rfl (by decide) ?_
  refine go_istoreE rfl (pc' := 7) dX10_sortIn_5 rfl (by decide) rfl ?_
  exact t_X10_sortIn_7 xFU R hf
def l_X10_near_88 (n : Nat) : Nat → Int32 → Int32 → xσ → Option (Int32 × xσ)
  | 0, _, _, _ => none
  | f + 1, x1, x3, σ => if x1 ≤ x3 then some (0, σ) else if (sI σ 11 2) ≤ x3 then some (0, σ) else gd (inb x3 200) (gd (inb (sI σ 231 x3.toNatClampNeg) 200) (bd (f_X10_offer n (sI σ 12 (sI σ 231 x3.toNatClampNeg).toNatClampNeg) σ) (fun v105 σ106 => (l_X10_near_88 n f) x1 (x3 + 1) σ106)))
set_option maxRecDepth 100000 in
set_option maxHeartbeats 4000000 in
theorem t_X10_near_88 {G : xG} {n : Nat} : ∀ (f : Nat) {x1 : Int32} {x3 : Int32} {σ : xσ} {h : xH} {r : Int32 × xσ}, Rl n σ h → l_X10_near_88 n f x1 x3 σ = some r → Go G mX10_near 88 [some (.ref 0), some (.int x1), some (.ref 11), some (.int x3)] [] h (fun v h' => xRok (xRt mX10_near) v ∧ v = some (.int r.1) ∧ Rl n r.2 h') := by
  intro f
  induction f with
  | zero =>
    intros
    rename _ = some _ => hf
    rw [l_X10_near_88] at hf
    cases hf
  | succ f ih =>
    intro x1 x3 σ h r  R hf
    rw [l_X10_near_88] at hf
    refine go_iload_n (i := 3) (pc' := 89) dX10_near_88 rfl rfl rfl ?_
    refine go_iload_n (i := 1) (pc' := 90) dX10_near_89 rfl rfl rfl ?_
    refine go_icmp_ge (pc' := 93) (tgt := 122) dX10_near_90 (by decide) rfl (fun c101 => ?_) (fun c101 => ?_)
    · have hf := it c101 hf
      refine go_iconst (v := 0) (pc' := 123) dX10_near_122 rfl (by decide) ?_
      obtain rfl := Option.some.inj hf
      exact Go.ret (v := some (.int _)) dX10_near_123 ⟨_, rfl⟩ ⟨rfl, rfl, R⟩
    · have hf := ie c101 hf
      refine go_iload_n (i := 3) (pc' := 94) dX10_near_93 rfl rfl rfl ?_
      refine go_aload_n (i := 2) (pc' := 95) dX10_near_94 rfl rfl rfl ?_
      refine go_getS (pc' := 98) dX10_near_95 rfl gf_LandBase_149 R (R.at rfl (by decide)) (by decide) rfl ?_
      refine go_icmp_ge (pc' := 101) (tgt := 122) dX10_near_98 (by decide) rfl (fun c102 => ?_) (fun c102 => ?_)
      · have hf := it c102 hf
        refine go_iconst (v := 0) (pc' := 123) dX10_near_122 rfl (by decide) ?_
        obtain rfl := Option.some.inj hf
        exact Go.ret (v := some (.int _)) dX10_near_123 ⟨_, rfl⟩ ⟨rfl, rfl, R⟩
      · have hf := ie c102 hf
        refine go_aload_n (i := 0) (pc' := 102) dX10_near_101 rfl rfl rfl ?_
        refine go_aload_n (i := 2) (pc' := 103) dX10_near_102 rfl rfl rfl ?_
        refine go_getS (pc' := 106) dX10_near_103 rfl gf_LandBase_157 R (R.at rfl (by decide)) (by decide) rfl ?_
        refine go_aload_n (i := 0) (pc' := 107) dX10_near_106 rfl rfl rfl ?_
        refine go_getS (pc' := 110) dX10_near_107 rfl gf_LandBase_56 R (R.at rfl (by decide)) (by decide) rfl ?_
        refine go_iload_n (i := 3) (pc' := 111) dX10_near_110 rfl rfl rfl ?_
        obtain ⟨g103, hf⟩ := gd_some hf
        refine go_ialoadS (pc' := 112) dX10_near_111 rfl R (R.aa rfl (by decide)) g103 ?_
        obtain ⟨g104, hf⟩ := gd_some hf
        refine go_ialoadS (pc' := 113) dX10_near_112 rfl R (R.aa rfl (by decide)) g104 ?_
        obtain ⟨v105, σ106, e107, hf⟩ := bd_some hf
        refine go_invV (As := [_]) (pc' := 116) dX10_near_113 rfl cf_X10_near_302 rfl (R.ob (R.at rfl (by decide))) rfl rfl (Nat.le_of_ble_eq_true rfl) (c_X10_offer R e107) (fun q108v h109 q108 => ?_)
        obtain ⟨rfl, R⟩ := q108
        refine go_iincC (kk := 1) (pc' := 119) dX10_near_116 rfl rfl (by decide) (by decide) rfl ?_
        refine go_goto (pc' := 0) (tgt := 88) dX10_near_119 (by decide) ?_
        exact ih R hf
def l_X10_near_34 (n : Nat) : Nat → Int32 → Int32 → xσ → Option (Int32 × xσ)
  | 0, _, _, _ => none
  | f + 1, x1, x3, σ => if (sI σ 11 2) ≤ x3 then l_X10_near_88 n xFU x1 0 σ else gd (inb x3 200) (nn (sR σ 30 x3.toNatClampNeg) (fun a103 => gd (okD a103) (gd (inb x3 200) (nn (sR σ 13 x3.toNatClampNeg) (fun a107 => gd (okS n a107) (gd (inb 1 6) (gd (inb 2 6) (bd (f_X2_measure n a103 a107 (sI σ 4 (1 : Int32).toNatClampNeg) (sI σ 4 (2 : Int32).toNatClampNeg) σ) (fun v112 σ113 => bd (f_X10_sortIn n x3 σ113) (fun v117 σ118 => (l_X10_near_34 n f) x1 (x3 + 1) σ118))))))))))
set_option maxRecDepth 100000 in
set_option maxHeartbeats 4000000 in
theorem t_X10_near_34 {G : xG} {n : Nat} : ∀ (f : Nat) {x1 : Int32} {x3 : Int32} {σ : xσ} {h : xH} {r : Int32 × xσ}, Rl n σ h → l_X10_near_34 n f x1 x3 σ = some r → Go G mX10_near 34 [some (.ref 0), some (.int x1), some (.ref 11), some (.int x3)] [] h (fun v h' => xRok (xRt mX10_near) v ∧ v = some (.int r.1) ∧ Rl n r.2 h') := by
  intro f
  induction f with
  | zero =>
    intros
    rename _ = some _ => hf
    rw [l_X10_near_34] at hf
    cases hf
  | succ f ih =>
    intro x1 x3 σ h r  R hf
    rw [l_X10_near_34] at hf
    refine go_iload_n (i := 3) (pc' := 35) dX10_near_34 rfl rfl rfl ?_
    refine go_aload_n (i := 2) (pc' := 36) dX10_near_35 rfl rfl rfl ?_
    refine go_getS (pc' := 39) dX10_near_36 rfl gf_LandBase_149 R (R.at rfl (by decide)) (by decide) rfl ?_
    refine go_icmp_ge (pc' := 42) (tgt := 86) dX10_near_39 (by decide) rfl (fun c101 => ?_) (fun c101 => ?_)
    · have hf := it c101 hf
      refine go_iconst (v := 0) (pc' := 87) dX10_near_86 rfl (by decide) ?_
      refine go_istore_nE rfl (i := 3) (pc' := 88) dX10_near_87 rfl rfl (by decide) rfl ?_
      exact t_X10_near_88 xFU R hf
    · have hf := ie c101 hf
      refine go_aload_n (i := 0) (pc' := 43) dX10_near_42 rfl rfl rfl ?_
      refine go_getS (pc' := 46) dX10_near_43 rfl gf_LandBase_51 R (R.at rfl (by decide)) (by decide) rfl ?_
      refine go_iload_n (i := 3) (pc' := 47) dX10_near_46 rfl rfl rfl ?_
      obtain ⟨g102, hf⟩ := gd_some hf
      obtain ⟨a103, e104, hf⟩ := nn_some hf
      obtain ⟨g105, hf⟩ := gd_some hf
      refine go_aaloadS (pc' := 48) dX10_near_47 rfl (by decide) R (R.aa rfl (by decide)) g102 e104 ?_
      refine go_aload_n (i := 2) (pc' := 49) dX10_near_48 rfl rfl rfl ?_
      refine go_getS (pc' := 52) dX10_near_49 rfl gf_LandBase_252 R (R.at rfl (by decide)) (by decide) rfl ?_
      refine go_iload_n (i := 3) (pc' := 53) dX10_near_52 rfl rfl rfl ?_
      obtain ⟨g106, hf⟩ := gd_some hf
      obtain ⟨a107, e108, hf⟩ := nn_some hf
      obtain ⟨g109, hf⟩ := gd_some hf
      refine go_aaloadS (pc' := 54) dX10_near_53 rfl (by decide) R (R.aa rfl (by decide)) g106 e108 ?_
      refine go_aload_n (i := 0) (pc' := 55) dX10_near_54 rfl rfl rfl ?_
      refine go_getS (pc' := 58) dX10_near_55 rfl gf_LandBase_19 R (R.at rfl (by decide)) (by decide) rfl ?_
      refine go_getS (pc' := 61) dX10_near_58 rfl gf_LandBase_214 R (R.at rfl (by decide)) (by decide) rfl ?_
      refine go_iconst (v := 1) (pc' := 62) dX10_near_61 rfl (by decide) ?_
      obtain ⟨g110, hf⟩ := gd_some hf
      refine go_ialoadS (pc' := 63) dX10_near_62 rfl R (R.aa rfl (by decide)) g110 ?_
      refine go_aload_n (i := 0) (pc' := 64) dX10_near_63 rfl rfl rfl ?_
      refine go_getS (pc' := 67) dX10_near_64 rfl gf_LandBase_19 R (R.at rfl (by decide)) (by decide) rfl ?_
      refine go_getS (pc' := 70) dX10_near_67 rfl gf_LandBase_214 R (R.at rfl (by decide)) (by decide) rfl ?_
      refine go_iconst (v := 2) (pc' := 71) dX10_near_70 rfl (by decide) ?_
      obtain ⟨g111, hf⟩ := gd_some hf
      refine go_ialoadS (pc' := 72) dX10_near_71 rfl R (R.aa rfl (by decide)) g111 ?_
      obtain ⟨v112, σ113, e114, hf⟩ := bd_some hf
      refine go_invV (As := [_, _, _]) (pc' := 75) dX10_near_72 rfl cf_X10_near_187 rfl (R.ob (g105.at R)) rfl rfl (Nat.le_of_ble_eq_true rfl) (c_X2_measure R e114) (fun q115v h116 q115 => ?_)
      obtain ⟨rfl, R⟩ := q115
      refine go_aload_n (i := 0) (pc' := 76) dX10_near_75 rfl rfl rfl ?_
      refine go_iload_n (i := 3) (pc' := 77) dX10_near_76 rfl rfl rfl ?_
      obtain ⟨v117, σ118, e119, hf⟩ := bd_some hf
      refine go_invV (As := [_]) (pc' := 80) dX10_near_77 rfl cf_X10_near_311 rfl (R.ob (R.at rfl (by decide))) rfl rfl (Nat.le_of_ble_eq_true rfl) (c_X10_sortIn R e119) (fun q120v h121 q120 => ?_)
      obtain ⟨rfl, R⟩ := q120
      refine go_iincC (kk := 1) (pc' := 83) dX10_near_80 rfl rfl (by decide) (by decide) rfl ?_
      refine go_goto (pc' := 0) (tgt := 34) dX10_near_83 (by decide) ?_
      exact ih R hf
def f_X10_near (n : Nat)  (σ : xσ) : Option (Int32 × xσ) := gd (inb 0 6) (st (sI σ 4 (0 : Int32).toNatClampNeg) (fun x102 => if x102 < 1 then some (5, σ) else if x102 ≤ 200 then l_X10_near_34 n xFU x102 0 σ else some (5, σ)))
set_option maxRecDepth 100000 in
set_option maxHeartbeats 4000000 in
theorem c_X10_near {G : xG} {n : Nat} {σ : xσ} {h : xH}  {v1 : Int32} {σ1 : xσ} (R : Rl n σ h) (hf : f_X10_near n σ = some (v1, σ1)) : Ca G mX10_near [.ref 0] h (fun v h' => v = some (.int v1) ∧ Rl n σ1 h') := by
  refine Ca.of rfl (Nat.le_of_ble_eq_true rfl) ?_
  generalize hr : (v1, σ1) = r at hf
  suffices q : Go G mX10_near 0 (xent (xMl mX10_near) [.ref 0]) [] h (fun v h' => xRok (xRt mX10_near) v ∧ v = some (.int r.1) ∧ Rl n r.2 h') by
    subst hr
    exact q
  clear hr
  rw [f_X10_near] at hf
  refine go_aload_n (i := 0) (pc' := 1) dX10_near_0 rfl rfl rfl ?_
  refine go_getS (pc' := 4) dX10_near_1 rfl gf_LandBase_19 R (R.at rfl (by decide)) (by decide) rfl ?_
  refine go_getS (pc' := 7) dX10_near_4 rfl gf_LandBase_214 R (R.at rfl (by decide)) (by decide) rfl ?_
  refine go_iconst (v := 0) (pc' := 8) dX10_near_7 rfl (by decide) ?_
  obtain ⟨g101, hf⟩ := gd_some hf
  refine go_ialoadS (pc' := 9) dX10_near_8 rfl R (R.aa rfl (by decide)) g101 ?_
  obtain ⟨x102, e103, hf⟩ := st_some hf
  refine go_istore_nE e103 (i := 1) (pc' := 10) dX10_near_9 rfl rfl (by decide) rfl ?_
  refine go_iload_n (i := 1) (pc' := 11) dX10_near_10 rfl rfl rfl ?_
  refine go_iconst (v := 1) (pc' := 12) dX10_near_11 rfl (by decide) ?_
  refine go_icmp_lt (pc' := 15) (tgt := 22) dX10_near_12 (by decide) rfl (fun c104 => ?_) (fun c104 => ?_)
  · have hf := it c104 hf
    refine go_iconst (v := 5) (pc' := 23) dX10_near_22 rfl (by decide) ?_
    obtain rfl := Option.some.inj hf
    exact Go.ret (v := some (.int _)) dX10_near_23 ⟨_, rfl⟩ ⟨rfl, rfl, R⟩
  · have hf := ie c104 hf
    refine go_iload_n (i := 1) (pc' := 16) dX10_near_15 rfl rfl rfl ?_
    refine go_sipush (v := 200) (pc' := 19) dX10_near_16 rfl (by decide) ?_
    refine go_icmp_le (pc' := 22) (tgt := 24) dX10_near_19 (by decide) rfl (fun c105 => ?_) (fun c105 => ?_)
    · have hf := it c105 hf
      refine go_aload_n (i := 0) (pc' := 25) dX10_near_24 rfl rfl rfl ?_
      refine go_getS (pc' := 28) dX10_near_25 rfl gf_LandBase_26 R (R.at rfl (by decide)) (by decide) rfl ?_
      refine go_getS (pc' := 31) dX10_near_28 rfl gf_LandBase_145 R (R.at rfl (by decide)) (by decide) rfl ?_
      refine go_astore_n (i := 2) (pc' := 32) dX10_near_31 rfl rfl (by decide) rfl ?_
      refine go_iconst (v := 0) (pc' := 33) dX10_near_32 rfl (by decide) ?_
      refine go_istore_nE rfl (i := 3) (pc' := 34) dX10_near_33 rfl rfl (by decide) rfl ?_
      exact t_X10_near_34 xFU R hf
    · have hf := ie c105 hf
      refine go_iconst (v := 5) (pc' := 23) dX10_near_22 rfl (by decide) ?_
      obtain rfl := Option.some.inj hf
      exact Go.ret (v := some (.int _)) dX10_near_23 ⟨_, rfl⟩ ⟨rfl, rfl, R⟩
def b_X10_join_240 (n : Nat) (k83 : Int32 → Int32 → Int32 → Int32 → Int32 → xσ → Option (Int32 × xσ)) (x1 : Int32) (x2 : Int32) (x3 : Int32) (x4 : Int32) (x6 : Int32) (σ : xσ) : Option (Int32 × xσ) := k83 x1 x2 x3 x4 (x6 + 1) σ
set_option maxRecDepth 100000 in
set_option maxHeartbeats 4000000 in
theorem t_X10_join_240 {G : xG} {n : Nat} {k83 : Int32 → Int32 → Int32 → Int32 → Int32 → xσ → Option (Int32 × xσ)} (hk83 : ∀ {x1 : Int32} {x2 : Int32} {x3 : Int32} {x4 : Int32} {x6 : Int32} {σ : xσ} {h : xH} {r : Int32 × xσ} {d7 : Option Value} {d8 : Option Value}, Rl n σ h → k83 x1 x2 x3 x4 x6 σ = some r → Go G mX10_join 83 [some (.ref 0), some (.int x1), some (.int x2), some (.int x3), some (.int x4), some (.ref 11), some (.int x6), d7, d8] [] h (fun v h' => xRok (xRt mX10_join) v ∧ v = some (.int r.1) ∧ Rl n r.2 h')) {x1 : Int32} {x2 : Int32} {x3 : Int32} {x4 : Int32} {x6 : Int32} {σ : xσ} {h : xH} {r : Int32 × xσ} {d7 : Option Value} {d8 : Option Value} : Rl n σ h → b_X10_join_240 n k83 x1 x2 x3 x4 x6 σ = some r → Go G mX10_join 240 [some (.ref 0), some (.int x1), some (.int x2), some (.int x3), some (.int x4), some (.ref 11), some (.int x6), d7, d8] [] h (fun v h' => xRok (xRt mX10_join) v ∧ v = some (.int r.1) ∧ Rl n r.2 h') := by
  intro R hf
  rw [b_X10_join_240] at hf
  refine go_iincC (kk := 1) (pc' := 243) dX10_join_240 rfl rfl (by decide) (by decide) rfl ?_
  refine go_goto (pc' := 0) (tgt := 83) dX10_join_243 (by decide) ?_
  exact hk83 R hf
def b_X10_join_234 (n : Nat) (k83 : Int32 → Int32 → Int32 → Int32 → Int32 → xσ → Option (Int32 × xσ)) (k123 : Int32 → Int32 → Int32 → Int32 → Int32 → Int32 → xσ → Option (Int32 × xσ)) (x1 : Int32) (x2 : Int32) (x3 : Int32) (x4 : Int32) (x6 : Int32) (x7 : Int32) (σ : xσ) : Option (Int32 × xσ) := k123 x1 x2 x3 x4 x6 (x7 + 1) σ
set_option maxRecDepth 100000 in
set_option maxHeartbeats 4000000 in
theorem t_X10_join_234 {G : xG} {n : Nat} {k83 : Int32 → Int32 → Int32 → Int32 → Int32 → xσ → Option (Int32 × xσ)} {k123 : Int32 → Int32 → Int32 → Int32 → Int32 → Int32 → xσ → Option (Int32 × xσ)} (hk83 : ∀ {x1 : Int32} {x2 : Int32} {x3 : Int32} {x4 : Int32} {x6 : Int32} {σ : xσ} {h : xH} {r : Int32 × xσ} {d7 : Option Value} {d8 : Option Value}, Rl n σ h → k83 x1 x2 x3 x4 x6 σ = some r → Go G mX10_join 83 [some (.ref 0), some (.int x1), some (.int x2), some (.int x3), some (.int x4), some (.ref 11), some (.int x6), d7, d8] [] h (fun v h' => xRok (xRt mX10_join) v ∧ v = some (.int r.1) ∧ Rl n r.2 h')) (hk123 : ∀ {x1 : Int32} {x2 : Int32} {x3 : Int32} {x4 : Int32} {x6 : Int32} {x7 : Int32} {σ : xσ} {h : xH} {r : Int32 × xσ} {d8 : Option Value}, Rl n σ h → k123 x1 x2 x3 x4 x6 x7 σ = some r → Go G mX10_join 123 [some (.ref 0), some (.int x1), some (.int x2), some (.int x3), some (.int x4), some (.ref 11), some (.int x6), some (.int x7), d8] [] h (fun v h' => xRok (xRt mX10_join) v ∧ v = some (.int r.1) ∧ Rl n r.2 h')) {x1 : Int32} {x2 : Int32} {x3 : Int32} {x4 : Int32} {x6 : Int32} {x7 : Int32} {σ : xσ} {h : xH} {r : Int32 × xσ} {d8 : Option Value} : Rl n σ h → b_X10_join_234 n k83 k123 x1 x2 x3 x4 x6 x7 σ = some r → Go G mX10_join 234 [some (.ref 0), some (.int x1), some (.int x2), some (.int x3), some (.int x4), some (.ref 11), some (.int x6), some (.int x7), d8] [] h (fun v h' => xRok (xRt mX10_join) v ∧ v = some (.int r.1) ∧ Rl n r.2 h') := by
  intro R hf
  rw [b_X10_join_234] at hf
  refine go_iincC (kk := 1) (pc' := 237) dX10_join_234 rfl rfl (by decide) (by decide) rfl ?_
  refine go_goto (pc' := 0) (tgt := 123) dX10_join_237 (by decide) ?_
  exact hk123 R hf
def b_X10_join_170 (n : Nat) (k83 : Int32 → Int32 → Int32 → Int32 → Int32 → xσ → Option (Int32 × xσ)) (k123 : Int32 → Int32 → Int32 → Int32 → Int32 → Int32 → xσ → Option (Int32 × xσ)) (x1 : Int32) (x2 : Int32) (x3 : Int32) (x4 : Int32) (x6 : Int32) (x7 : Int32) (xs0 : Int32) (σ : xσ) : Option (Int32 × xσ) := if xs0 = 0 then k123 x1 x2 x3 x4 x6 (x7 + 1) σ else gd (inb x6 200) (nn (sR σ 13 x6.toNatClampNeg) (fun a103 => gd (okS n a103) (gd (inb x7 200) (nn (sR σ 13 x7.toNatClampNeg) (fun a107 => gd (okS n a107) (bd (f_X6_holds n (sI σ 3 4) a103 a107 σ) (fun v110 σ111 => if v110 = 0 then k123 x1 x2 x3 x4 x6 (x7 + 1) σ111 else gd (inb x6 200) (bd (f_X10_offer n (sI σ111 12 x6.toNatClampNeg) σ111) (fun v117 σ118 => gd (inb x7 200) (bd (f_X10_offer n (sI σ118 12 x7.toNatClampNeg) σ118) (fun v123 σ124 => b_X10_join_234 n k83 k123 x1 x2 x3 x4 x6 x7 σ124)))))))))))
set_option maxRecDepth 100000 in
set_option maxHeartbeats 4000000 in
theorem t_X10_join_170 {G : xG} {n : Nat} {k83 : Int32 → Int32 → Int32 → Int32 → Int32 → xσ → Option (Int32 × xσ)} {k123 : Int32 → Int32 → Int32 → Int32 → Int32 → Int32 → xσ → Option (Int32 × xσ)} (hk83 : ∀ {x1 : Int32} {x2 : Int32} {x3 : Int32} {x4 : Int32} {x6 : Int32} {σ : xσ} {h : xH} {r : Int32 × xσ} {d7 : Option Value} {d8 : Option Value}, Rl n σ h → k83 x1 x2 x3 x4 x6 σ = some r → Go G mX10_join 83 [some (.ref 0), some (.int x1), some (.int x2), some (.int x3), some (.int x4), some (.ref 11), some (.int x6), d7, d8] [] h (fun v h' => xRok (xRt mX10_join) v ∧ v = some (.int r.1) ∧ Rl n r.2 h')) (hk123 : ∀ {x1 : Int32} {x2 : Int32} {x3 : Int32} {x4 : Int32} {x6 : Int32} {x7 : Int32} {σ : xσ} {h : xH} {r : Int32 × xσ} {d8 : Option Value}, Rl n σ h → k123 x1 x2 x3 x4 x6 x7 σ = some r → Go G mX10_join 123 [some (.ref 0), some (.int x1), some (.int x2), some (.int x3), some (.int x4), some (.ref 11), some (.int x6), some (.int x7), d8] [] h (fun v h' => xRok (xRt mX10_join) v ∧ v = some (.int r.1) ∧ Rl n r.2 h')) {x1 : Int32} {x2 : Int32} {x3 : Int32} {x4 : Int32} {x6 : Int32} {x7 : Int32} {xs0 : Int32} {σ : xσ} {h : xH} {r : Int32 × xσ} {d8 : Option Value} : Rl n σ h → b_X10_join_170 n k83 k123 x1 x2 x3 x4 x6 x7 xs0 σ = some r → Go G mX10_join 170 [some (.ref 0), some (.int x1), some (.int x2), some (.int x3), some (.int x4), some (.ref 11), some (.int x6), some (.int x7), d8] [.int xs0] h (fun v h' => xRok (xRt mX10_join) v ∧ v = some (.int r.1) ∧ Rl n r.2 h') := by
  intro R hf
  rw [b_X10_join_170] at hf
  refine go_istoreE rfl (pc' := 172) dX10_join_170 rfl (by decide) rfl ?_
  refine go_iload (pc' := 174) dX10_join_172 rfl rfl ?_
  refine go_if_eq (pc' := 177) (tgt := 234) dX10_join_174 (by decide) rfl (fun c101 => ?_) (fun c101 => ?_)
  · have hf := it c101 hf
    refine go_iincC (kk := 1) (pc' := 237) dX10_join_234 rfl rfl (by decide) (by decide) rfl ?_
    refine go_goto (pc' := 0) (tgt := 123) dX10_join_237 (by decide) ?_
    exact hk123 R hf
  · have hf := ie c101 hf
    refine go_aload_n (i := 0) (pc' := 178) dX10_join_177 rfl rfl rfl ?_
    refine go_getS (pc' := 181) dX10_join_178 rfl gf_LandBase_45 R (R.at rfl (by decide)) (by decide) rfl ?_
    refine go_aload_n (i := 0) (pc' := 182) dX10_join_181 rfl rfl rfl ?_
    refine go_getS (pc' := 185) dX10_join_182 rfl gf_LandBase_19 R (R.at rfl (by decide)) (by decide) rfl ?_
    refine go_getS (pc' := 188) dX10_join_185 rfl gf_LandBase_299 R (R.at rfl (by decide)) (by decide) rfl ?_
    refine go_aload (pc' := 190) dX10_join_188 rfl rfl ?_
    refine go_getS (pc' := 193) dX10_join_190 rfl gf_LandBase_252 R (R.at rfl (by decide)) (by decide) rfl ?_
    refine go_iload (pc' := 195) dX10_join_193 rfl rfl ?_
    obtain ⟨g102, hf⟩ := gd_some hf
    obtain ⟨a103, e104, hf⟩ := nn_some hf
    obtain ⟨g105, hf⟩ := gd_some hf
    refine go_aaloadS (pc' := 196) dX10_join_195 rfl (by decide) R (R.aa rfl (by decide)) g102 e104 ?_
    refine go_aload (pc' := 198) dX10_join_196 rfl rfl ?_
    refine go_getS (pc' := 201) dX10_join_198 rfl gf_LandBase_252 R (R.at rfl (by decide)) (by decide) rfl ?_
    refine go_iload (pc' := 203) dX10_join_201 rfl rfl ?_
    obtain ⟨g106, hf⟩ := gd_some hf
    obtain ⟨a107, e108, hf⟩ := nn_some hf
    obtain ⟨g109, hf⟩ := gd_some hf
    refine go_aaloadS (pc' := 204) dX10_join_203 rfl (by decide) R (R.aa rfl (by decide)) g106 e108 ?_
    obtain ⟨v110, σ111, e112, hf⟩ := bd_some hf
    refine go_invV (As := [_, _, _]) (pc' := 207) dX10_join_204 rfl cf_X10_join_179 rfl (R.ob (R.at rfl (by decide))) rfl rfl (Nat.le_of_ble_eq_true rfl) (c_X6_holds R e112) (fun q113v h114 q113 => ?_)
    obtain ⟨rfl, R⟩ := q113
    refine go_if_eq (pc' := 210) (tgt := 234) dX10_join_207 (by decide) rfl (fun c115 => ?_) (fun c115 => ?_)
    · have hf := it c115 hf
      refine go_iincC (kk := 1) (pc' := 237) dX10_join_234 rfl rfl (by decide) (by decide) rfl ?_
      refine go_goto (pc' := 0) (tgt := 123) dX10_join_237 (by decide) ?_
      exact hk123 R hf
    · have hf := ie c115 hf
      refine go_aload_n (i := 0) (pc' := 211) dX10_join_210 rfl rfl rfl ?_
      refine go_aload (pc' := 213) dX10_join_211 rfl rfl ?_
      refine go_getS (pc' := 216) dX10_join_213 rfl gf_LandBase_157 R (R.at rfl (by decide)) (by decide) rfl ?_
      refine go_iload (pc' := 218) dX10_join_216 rfl rfl ?_
      obtain ⟨g116, hf⟩ := gd_some hf
      refine go_ialoadS (pc' := 219) dX10_join_218 rfl R (R.aa rfl (by decide)) g116 ?_
      obtain ⟨v117, σ118, e119, hf⟩ := bd_some hf
      refine go_invV (As := [_]) (pc' := 222) dX10_join_219 rfl cf_X10_join_302 rfl (R.ob (R.at rfl (by decide))) rfl rfl (Nat.le_of_ble_eq_true rfl) (c_X10_offer R e119) (fun q120v h121 q120 => ?_)
      obtain ⟨rfl, R⟩ := q120
      refine go_aload_n (i := 0) (pc' := 223) dX10_join_222 rfl rfl rfl ?_
      refine go_aload (pc' := 225) dX10_join_223 rfl rfl ?_
      refine go_getS (pc' := 228) dX10_join_225 rfl gf_LandBase_157 R (R.at rfl (by decide)) (by decide) rfl ?_
      refine go_iload (pc' := 230) dX10_join_228 rfl rfl ?_
      obtain ⟨g122, hf⟩ := gd_some hf
      refine go_ialoadS (pc' := 231) dX10_join_230 rfl R (R.aa rfl (by decide)) g122 ?_
      obtain ⟨v123, σ124, e125, hf⟩ := bd_some hf
      refine go_invV (As := [_]) (pc' := 234) dX10_join_231 rfl cf_X10_join_302 rfl (R.ob (R.at rfl (by decide))) rfl rfl (Nat.le_of_ble_eq_true rfl) (c_X10_offer R e125) (fun q126v h127 q126 => ?_)
      obtain ⟨rfl, R⟩ := q126
      exact t_X10_join_234 @hk83 @hk123 R hf
def l_X10_join_123 (n : Nat) (k83 : Int32 → Int32 → Int32 → Int32 → Int32 → xσ → Option (Int32 × xσ)) : Nat → Int32 → Int32 → Int32 → Int32 → Int32 → Int32 → xσ → Option (Int32 × xσ)
  | 0, _, _, _, _, _, _, _ => none
  | f + 1, x1, x2, x3, x4, x6, x7, σ => if (sI σ 11 2) ≤ x7 then k83 x1 x2 x3 x4 (x6 + 1) σ else if x7 = x6 then b_X10_join_170 n k83 (l_X10_join_123 n k83 f) x1 x2 x3 x4 x6 x7 0 σ else gd (inb x7 200) (if (sI σ 12 x7.toNatClampNeg) < x3 then b_X10_join_170 n k83 (l_X10_join_123 n k83 f) x1 x2 x3 x4 x6 x7 0 σ else gd (inb x7 200) (if x4 < (sI σ 12 x7.toNatClampNeg) then b_X10_join_170 n k83 (l_X10_join_123 n k83 f) x1 x2 x3 x4 x6 x7 0 σ else b_X10_join_170 n k83 (l_X10_join_123 n k83 f) x1 x2 x3 x4 x6 x7 1 σ))
set_option maxRecDepth 100000 in
set_option maxHeartbeats 4000000 in
theorem t_X10_join_123 {G : xG} {n : Nat} {k83 : Int32 → Int32 → Int32 → Int32 → Int32 → xσ → Option (Int32 × xσ)} (hk83 : ∀ {x1 : Int32} {x2 : Int32} {x3 : Int32} {x4 : Int32} {x6 : Int32} {σ : xσ} {h : xH} {r : Int32 × xσ} {d7 : Option Value} {d8 : Option Value}, Rl n σ h → k83 x1 x2 x3 x4 x6 σ = some r → Go G mX10_join 83 [some (.ref 0), some (.int x1), some (.int x2), some (.int x3), some (.int x4), some (.ref 11), some (.int x6), d7, d8] [] h (fun v h' => xRok (xRt mX10_join) v ∧ v = some (.int r.1) ∧ Rl n r.2 h')) : ∀ (f : Nat) {x1 : Int32} {x2 : Int32} {x3 : Int32} {x4 : Int32} {x6 : Int32} {x7 : Int32} {σ : xσ} {h : xH} {r : Int32 × xσ} {d8 : Option Value}, Rl n σ h → l_X10_join_123 n k83 f x1 x2 x3 x4 x6 x7 σ = some r → Go G mX10_join 123 [some (.ref 0), some (.int x1), some (.int x2), some (.int x3), some (.int x4), some (.ref 11), some (.int x6), some (.int x7), d8] [] h (fun v h' => xRok (xRt mX10_join) v ∧ v = some (.int r.1) ∧ Rl n r.2 h') := by
  intro f
  induction f with
  | zero =>
    intros
    rename _ = some _ => hf
    rw [l_X10_join_123] at hf
    cases hf
  | succ f ih =>
    intro x1 x2 x3 x4 x6 x7 σ h r d8 R hf
    rw [l_X10_join_123] at hf
    refine go_iload (pc' := 125) dX10_join_123 rfl rfl ?_
    refine go_aload (pc' := 127) dX10_join_125 rfl rfl ?_
    refine go_getS (pc' := 130) dX10_join_127 rfl gf_LandBase_149 R (R.at rfl (by decide)) (by decide) rfl ?_
    refine go_icmp_ge (pc' := 133) (tgt := 240) dX10_join_130 (by decide) rfl (fun c101 => ?_) (fun c101 => ?_)
    · have hf := it c101 hf
      refine go_iincC (kk := 1) (pc' := 243) dX10_join_240 rfl rfl (by decide) (by decide) rfl ?_
      refine go_goto (pc' := 0) (tgt := 83) dX10_join_243 (by decide) ?_
      exact hk83 R hf
    · have hf := ie c101 hf
      refine go_iload (pc' := 135) dX10_join_133 rfl rfl ?_
      refine go_iload (pc' := 137) dX10_join_135 rfl rfl ?_
      refine go_icmp_eq (pc' := 140) (tgt := 169) dX10_join_137 (by decide) rfl (fun c102 => ?_) (fun c102 => ?_)
      · have hf := it c102 hf
        refine go_iconst (v := 0) (pc' := 170) dX10_join_169 rfl (by decide) ?_
        exact t_X10_join_170 @hk83 @ih R hf
      · have hf := ie c102 hf
        refine go_aload (pc' := 142) dX10_join_140 rfl rfl ?_
        refine go_getS (pc' := 145) dX10_join_142 rfl gf_LandBase_157 R (R.at rfl (by decide)) (by decide) rfl ?_
        refine go_iload (pc' := 147) dX10_join_145 rfl rfl ?_
        obtain ⟨g103, hf⟩ := gd_some hf
        refine go_ialoadS (pc' := 148) dX10_join_147 rfl R (R.aa rfl (by decide)) g103 ?_
        refine go_iload_n (i := 3) (pc' := 149) dX10_join_148 rfl rfl rfl ?_
        refine go_icmp_lt (pc' := 152) (tgt := 169) dX10_join_149 (by decide) rfl (fun c104 => ?_) (fun c104 => ?_)
        · have hf := it c104 hf
          refine go_iconst (v := 0) (pc' := 170) dX10_join_169 rfl (by decide) ?_
          exact t_X10_join_170 @hk83 @ih R hf
        · have hf := ie c104 hf
          refine go_aload (pc' := 154) dX10_join_152 rfl rfl ?_
          refine go_getS (pc' := 157) dX10_join_154 rfl gf_LandBase_157 R (R.at rfl (by decide)) (by decide) rfl ?_
          refine go_iload (pc' := 159) dX10_join_157 rfl rfl ?_
          obtain ⟨g105, hf⟩ := gd_some hf
          refine go_ialoadS (pc' := 160) dX10_join_159 rfl R (R.aa rfl (by decide)) g105 ?_
          refine go_iload (pc' := 162) dX10_join_160 rfl rfl ?_
          refine go_icmp_gt (pc' := 165) (tgt := 169) dX10_join_162 (by decide) rfl (fun c106 => ?_) (fun c106 => ?_)
          · have hf := it c106 hf
            refine go_iconst (v := 0) (pc' := 170) dX10_join_169 rfl (by decide) ?_
            exact t_X10_join_170 @hk83 @ih R hf
          · have hf := ie c106 hf
            refine go_iconst (v := 1) (pc' := 166) dX10_join_165 rfl (by decide) ?_
            refine go_goto (pc' := 0) (tgt := 170) dX10_join_166 (by decide) ?_
            exact t_X10_join_170 @hk83 @ih R hf
def l_X10_join_83 (n : Nat) : Nat → Int32 → Int32 → Int32 → Int32 → Int32 → xσ → Option (Int32 × xσ)
  | 0, _, _, _, _, _, _ => none
  | f + 1, x1, x2, x3, x4, x6, σ => if (sI σ 11 2) ≤ x6 then some (0, σ) else gd (inb x6 200) (if (sI σ 12 x6.toNatClampNeg) < x1 then (l_X10_join_83 n f) x1 x2 x3 x4 (x6 + 1) σ else gd (inb x6 200) (if (sI σ 12 x6.toNatClampNeg) ≤ x2 then l_X10_join_123 n (l_X10_join_83 n f) xFU x1 x2 x3 x4 x6 0 σ else b_X10_join_240 n (l_X10_join_83 n f) x1 x2 x3 x4 x6 σ))
set_option maxRecDepth 100000 in
set_option maxHeartbeats 4000000 in
theorem t_X10_join_83 {G : xG} {n : Nat} : ∀ (f : Nat) {x1 : Int32} {x2 : Int32} {x3 : Int32} {x4 : Int32} {x6 : Int32} {σ : xσ} {h : xH} {r : Int32 × xσ} {d7 : Option Value} {d8 : Option Value}, Rl n σ h → l_X10_join_83 n f x1 x2 x3 x4 x6 σ = some r → Go G mX10_join 83 [some (.ref 0), some (.int x1), some (.int x2), some (.int x3), some (.int x4), some (.ref 11), some (.int x6), d7, d8] [] h (fun v h' => xRok (xRt mX10_join) v ∧ v = some (.int r.1) ∧ Rl n r.2 h') := by
  intro f
  induction f with
  | zero =>
    intros
    rename _ = some _ => hf
    rw [l_X10_join_83] at hf
    cases hf
  | succ f ih =>
    intro x1 x2 x3 x4 x6 σ h r d7 d8 R hf
    rw [l_X10_join_83] at hf
    refine go_iload (pc' := 85) dX10_join_83 rfl rfl ?_
    refine go_aload (pc' := 87) dX10_join_85 rfl rfl ?_
    refine go_getS (pc' := 90) dX10_join_87 rfl gf_LandBase_149 R (R.at rfl (by decide)) (by decide) rfl ?_
    refine go_icmp_ge (pc' := 93) (tgt := 246) dX10_join_90 (by decide) rfl (fun c101 => ?_) (fun c101 => ?_)
    · have hf := it c101 hf
      refine go_iconst (v := 0) (pc' := 247) dX10_join_246 rfl (by decide) ?_
      obtain rfl := Option.some.inj hf
      exact Go.ret (v := some (.int _)) dX10_join_247 ⟨_, rfl⟩ ⟨rfl, rfl, R⟩
    · have hf := ie c101 hf
      refine go_aload (pc' := 95) dX10_join_93 rfl rfl ?_
      refine go_getS (pc' := 98) dX10_join_95 rfl gf_LandBase_157 R (R.at rfl (by decide)) (by decide) rfl ?_
      refine go_iload (pc' := 100) dX10_join_98 rfl rfl ?_
      obtain ⟨g102, hf⟩ := gd_some hf
      refine go_ialoadS (pc' := 101) dX10_join_100 rfl R (R.aa rfl (by decide)) g102 ?_
      refine go_iload_n (i := 1) (pc' := 102) dX10_join_101 rfl rfl rfl ?_
      refine go_icmp_lt (pc' := 105) (tgt := 240) dX10_join_102 (by decide) rfl (fun c103 => ?_) (fun c103 => ?_)
      · have hf := it c103 hf
        refine go_iincC (kk := 1) (pc' := 243) dX10_join_240 rfl rfl (by decide) (by decide) rfl ?_
        refine go_goto (pc' := 0) (tgt := 83) dX10_join_243 (by decide) ?_
        exact ih R hf
      · have hf := ie c103 hf
        refine go_aload (pc' := 107) dX10_join_105 rfl rfl ?_
        refine go_getS (pc' := 110) dX10_join_107 rfl gf_LandBase_157 R (R.at rfl (by decide)) (by decide) rfl ?_
        refine go_iload (pc' := 112) dX10_join_110 rfl rfl ?_
        obtain ⟨g104, hf⟩ := gd_some hf
        refine go_ialoadS (pc' := 113) dX10_join_112 rfl R (R.aa rfl (by decide)) g104 ?_
        refine go_iload_n (i := 2) (pc' := 114) dX10_join_113 rfl rfl rfl ?_
        refine go_icmp_le (pc' := 117) (tgt := 120) dX10_join_114 (by decide) rfl (fun c105 => ?_) (fun c105 => ?_)
        · have hf := it c105 hf
          refine go_iconst (v := 0) (pc' := 121) dX10_join_120 rfl (by decide) ?_
          refine go_istoreE rfl (pc' := 123) dX10_join_121 rfl (by decide) rfl ?_
          exact t_X10_join_123 @ih xFU R hf
        · have hf := ie c105 hf
          refine go_goto (pc' := 0) (tgt := 240) dX10_join_117 (by decide) ?_
          exact t_X10_join_240 @ih R hf
def f_X10_join (n : Nat)  (σ : xσ) : Option (Int32 × xσ) := gd (inb 0 6) (st (sI σ 4 (0 : Int32).toNatClampNeg) (fun x102 => gd (inb 1 6) (st (sI σ 4 (1 : Int32).toNatClampNeg) (fun x105 => gd (inb 2 6) (st (sI σ 4 (2 : Int32).toNatClampNeg) (fun x108 => gd (inb 3 6) (st (sI σ 4 (3 : Int32).toNatClampNeg) (fun x111 => if x105 < x102 then some (5, σ) else if x111 < x108 then some (5, σ) else if 63 < (x105 - x102) then some (5, σ) else if (x111 - x108) ≤ 63 then l_X10_join_83 n xFU x102 x105 x108 x111 0 σ else some (5, σ)))))))))
set_option maxRecDepth 100000 in
set_option maxHeartbeats 4000000 in
theorem c_X10_join {G : xG} {n : Nat} {σ : xσ} {h : xH}  {v1 : Int32} {σ1 : xσ} (R : Rl n σ h) (hf : f_X10_join n σ = some (v1, σ1)) : Ca G mX10_join [.ref 0] h (fun v h' => v = some (.int v1) ∧ Rl n σ1 h') := by
  refine Ca.of rfl (Nat.le_of_ble_eq_true rfl) ?_
  generalize hr : (v1, σ1) = r at hf
  suffices q : Go G mX10_join 0 (xent (xMl mX10_join) [.ref 0]) [] h (fun v h' => xRok (xRt mX10_join) v ∧ v = some (.int r.1) ∧ Rl n r.2 h') by
    subst hr
    exact q
  clear hr
  rw [f_X10_join] at hf
  refine go_aload_n (i := 0) (pc' := 1) dX10_join_0 rfl rfl rfl ?_
  refine go_getS (pc' := 4) dX10_join_1 rfl gf_LandBase_19 R (R.at rfl (by decide)) (by decide) rfl ?_
  refine go_getS (pc' := 7) dX10_join_4 rfl gf_LandBase_214 R (R.at rfl (by decide)) (by decide) rfl ?_
  refine go_iconst (v := 0) (pc' := 8) dX10_join_7 rfl (by decide) ?_
  obtain ⟨g101, hf⟩ := gd_some hf
  refine go_ialoadS (pc' := 9) dX10_join_8 rfl R (R.aa rfl (by decide)) g101 ?_
  obtain ⟨x102, e103, hf⟩ := st_some hf
  refine go_istore_nE e103 (i := 1) (pc' := 10) dX10_join_9 rfl rfl (by decide) rfl ?_
  refine go_aload_n (i := 0) (pc' := 11) dX10_join_10 rfl rfl rfl ?_
  refine go_getS (pc' := 14) dX10_join_11 rfl gf_LandBase_19 R (R.at rfl (by decide)) (by decide) rfl ?_
  refine go_getS (pc' := 17) dX10_join_14 rfl gf_LandBase_214 R (R.at rfl (by decide)) (by decide) rfl ?_
  refine go_iconst (v := 1) (pc' := 18) dX10_join_17 rfl (by decide) ?_
  obtain ⟨g104, hf⟩ := gd_some hf
  refine go_ialoadS (pc' := 19) dX10_join_18 rfl R (R.aa rfl (by decide)) g104 ?_
  obtain ⟨x105, e106, hf⟩ := st_some hf
  refine go_istore_nE e106 (i := 2) (pc' := 20) dX10_join_19 rfl rfl (by decide) rfl ?_
  refine go_aload_n (i := 0) (pc' := 21) dX10_join_20 rfl rfl rfl ?_
  refine go_getS (pc' := 24) dX10_join_21 rfl gf_LandBase_19 R (R.at rfl (by decide)) (by decide) rfl ?_
  refine go_getS (pc' := 27) dX10_join_24 rfl gf_LandBase_214 R (R.at rfl (by decide)) (by decide) rfl ?_
  refine go_iconst (v := 2) (pc' := 28) dX10_join_27 rfl (by decide) ?_
  obtain ⟨g107, hf⟩ := gd_some hf
  refine go_ialoadS (pc' := 29) dX10_join_28 rfl R (R.aa rfl (by decide)) g107 ?_
  obtain ⟨x108, e109, hf⟩ := st_some hf
  refine go_istore_nE e109 (i := 3) (pc' := 30) dX10_join_29 rfl rfl (by decide) rfl ?_
  refine go_aload_n (i := 0) (pc' := 31) dX10_join_30 rfl rfl rfl ?_
  refine go_getS (pc' := 34) dX10_join_31 rfl gf_LandBase_19 R (R.at rfl (by decide)) (by decide) rfl ?_
  refine go_getS (pc' := 37) dX10_join_34 rfl gf_LandBase_214 R (R.at rfl (by decide)) (by decide) rfl ?_
  refine go_iconst (v := 3) (pc' := 38) dX10_join_37 rfl (by decide) ?_
  obtain ⟨g110, hf⟩ := gd_some hf
  refine go_ialoadS (pc' := 39) dX10_join_38 rfl R (R.aa rfl (by decide)) g110 ?_
  obtain ⟨x111, e112, hf⟩ := st_some hf
  refine go_istoreE e112 (pc' := 41) dX10_join_39 rfl (by decide) rfl ?_
  refine go_iload_n (i := 2) (pc' := 42) dX10_join_41 rfl rfl rfl ?_
  refine go_iload_n (i := 1) (pc' := 43) dX10_join_42 rfl rfl rfl ?_
  refine go_icmp_lt (pc' := 46) (tgt := 69) dX10_join_43 (by decide) rfl (fun c113 => ?_) (fun c113 => ?_)
  · have hf := it c113 hf
    refine go_iconst (v := 5) (pc' := 70) dX10_join_69 rfl (by decide) ?_
    obtain rfl := Option.some.inj hf
    exact Go.ret (v := some (.int _)) dX10_join_70 ⟨_, rfl⟩ ⟨rfl, rfl, R⟩
  · have hf := ie c113 hf
    refine go_iload (pc' := 48) dX10_join_46 rfl rfl ?_
    refine go_iload_n (i := 3) (pc' := 49) dX10_join_48 rfl rfl rfl ?_
    refine go_icmp_lt (pc' := 52) (tgt := 69) dX10_join_49 (by decide) rfl (fun c114 => ?_) (fun c114 => ?_)
    · have hf := it c114 hf
      refine go_iconst (v := 5) (pc' := 70) dX10_join_69 rfl (by decide) ?_
      obtain rfl := Option.some.inj hf
      exact Go.ret (v := some (.int _)) dX10_join_70 ⟨_, rfl⟩ ⟨rfl, rfl, R⟩
    · have hf := ie c114 hf
      refine go_iload_n (i := 2) (pc' := 53) dX10_join_52 rfl rfl rfl ?_
      refine go_iload_n (i := 1) (pc' := 54) dX10_join_53 rfl rfl rfl ?_
      refine go_isub (pc' := 55) dX10_join_54 rfl ?_
      refine go_bipush (v := 63) (pc' := 57) dX10_join_55 rfl (by decide) ?_
      refine go_icmp_gt (pc' := 60) (tgt := 69) dX10_join_57 (by decide) rfl (fun c115 => ?_) (fun c115 => ?_)
      · have hf := it c115 hf
        refine go_iconst (v := 5) (pc' := 70) dX10_join_69 rfl (by decide) ?_
        obtain rfl := Option.some.inj hf
        exact Go.ret (v := some (.int _)) dX10_join_70 ⟨_, rfl⟩ ⟨rfl, rfl, R⟩
      · have hf := ie c115 hf
        refine go_iload (pc' := 62) dX10_join_60 rfl rfl ?_
        refine go_iload_n (i := 3) (pc' := 63) dX10_join_62 rfl rfl rfl ?_
        refine go_isub (pc' := 64) dX10_join_63 rfl ?_
        refine go_bipush (v := 63) (pc' := 66) dX10_join_64 rfl (by decide) ?_
        refine go_icmp_le (pc' := 69) (tgt := 71) dX10_join_66 (by decide) rfl (fun c116 => ?_) (fun c116 => ?_)
        · have hf := it c116 hf
          refine go_aload_n (i := 0) (pc' := 72) dX10_join_71 rfl rfl rfl ?_
          refine go_getS (pc' := 75) dX10_join_72 rfl gf_LandBase_26 R (R.at rfl (by decide)) (by decide) rfl ?_
          refine go_getS (pc' := 78) dX10_join_75 rfl gf_LandBase_145 R (R.at rfl (by decide)) (by decide) rfl ?_
          refine go_astore (pc' := 80) dX10_join_78 rfl (by decide) rfl ?_
          refine go_iconst (v := 0) (pc' := 81) dX10_join_80 rfl (by decide) ?_
          refine go_istoreE rfl (pc' := 83) dX10_join_81 rfl (by decide) rfl ?_
          exact t_X10_join_83 xFU R hf
        · have hf := ie c116 hf
          refine go_iconst (v := 5) (pc' := 70) dX10_join_69 rfl (by decide) ?_
          obtain rfl := Option.some.inj hf
          exact Go.ret (v := some (.int _)) dX10_join_70 ⟨_, rfl⟩ ⟨rfl, rfl, R⟩
def f_X10_putInt (n : Nat) (x1 : Int32) (σ : xσ) : Option (Unit × xσ) := if 20000 ≤ (sI σ 0 8) then some ((), σ) else gd (inb (sI σ 0 8) 20000) (st (wI σ 232 (sI σ 0 8).toNatClampNeg x1) (fun σ103 => st (wI σ103 0 8 ((sI σ103 0 8) + 1)) (fun σ106 => some ((), σ106))))
set_option maxRecDepth 100000 in
set_option maxHeartbeats 4000000 in
theorem c_X10_putInt {G : xG} {n : Nat} {σ : xσ} {h : xH} {x1 : Int32} {v1 : Unit} {σ1 : xσ} (R : Rl n σ h) (hf : f_X10_putInt n x1 σ = some (v1, σ1)) : Ca G mX10_putInt [.ref 0, .int x1] h (fun v h' => v = none ∧ Rl n σ1 h') := by
  refine Ca.of rfl (Nat.le_of_ble_eq_true rfl) ?_
  generalize hr : (v1, σ1) = r at hf
  suffices q : Go G mX10_putInt 0 (xent (xMl mX10_putInt) [.ref 0, .int x1]) [] h (fun v h' => xRok (xRt mX10_putInt) v ∧ v = none ∧ Rl n r.2 h') by
    subst hr
    exact q
  clear hr
  rw [f_X10_putInt] at hf
  refine go_aload_n (i := 0) (pc' := 1) dX10_putInt_0 rfl rfl rfl ?_
  refine go_getS (pc' := 4) dX10_putInt_1 rfl gf_LandBase_63 R (R.at rfl (by decide)) (by decide) rfl ?_
  refine go_sipush (v := 20000) (pc' := 7) dX10_putInt_4 rfl (by decide) ?_
  refine go_icmp_ge (pc' := 10) (tgt := 30) dX10_putInt_7 (by decide) rfl (fun c101 => ?_) (fun c101 => ?_)
  · have hf := it c101 hf
    obtain rfl := Option.some.inj hf
    exact Go.ret (v := none) dX10_putInt_30 rfl ⟨trivial, rfl, R⟩
  · have hf := ie c101 hf
    refine go_aload_n (i := 0) (pc' := 11) dX10_putInt_10 rfl rfl rfl ?_
    refine go_getS (pc' := 14) dX10_putInt_11 rfl gf_LandBase_60 R (R.at rfl (by decide)) (by decide) rfl ?_
    refine go_aload_n (i := 0) (pc' := 15) dX10_putInt_14 rfl rfl rfl ?_
    refine go_getS (pc' := 18) dX10_putInt_15 rfl gf_LandBase_63 R (R.at rfl (by decide)) (by decide) rfl ?_
    refine go_iload_n (i := 1) (pc' := 19) dX10_putInt_18 rfl rfl rfl ?_
    obtain ⟨g102, hf⟩ := gd_some hf
    obtain ⟨σ103, e104, hf⟩ := st_some hf
    refine go_iastoreS (pc' := 20) dX10_putInt_19 rfl R (R.aa rfl (by decide)) g102 (fun h105 R => ?_)
    have R := Rl.cast e104 R
    refine go_aload_n (i := 0) (pc' := 21) dX10_putInt_20 rfl rfl rfl ?_
    refine go_dup (pc' := 22) dX10_putInt_21 rfl rfl ?_
    refine go_getS (pc' := 25) dX10_putInt_22 rfl gf_LandBase_63 R (R.at rfl (by decide)) (by decide) rfl ?_
    refine go_iconst (v := 1) (pc' := 26) dX10_putInt_25 rfl (by decide) ?_
    refine go_iadd (pc' := 27) dX10_putInt_26 rfl ?_
    obtain ⟨σ106, e107, hf⟩ := st_some hf
    refine go_putI (pc' := 30) dX10_putInt_27 rfl pf_LandBase_63 R (R.at rfl (by decide)) (by decide) rfl rfl rfl (fun h108 R => ?_)
    have R := Rl.cast e107 R
    obtain rfl := Option.some.inj hf
    exact Go.ret (v := none) dX10_putInt_30 rfl ⟨trivial, rfl, R⟩
def b_X10_putAnswer_79 (n : Nat) (x2 : Int32) (xs0 : Int32) (σ : xσ) : Option (Unit × xσ) := bd (f_X10_putInt n xs0 σ) (fun v101 σ102 => st (wI σ102 0 8 x2) (fun σ106 => some ((), σ106)))
set_option maxRecDepth 100000 in
set_option maxHeartbeats 4000000 in
theorem t_X10_putAnswer_79 {G : xG} {n : Nat} {x2 : Int32} {xs0 : Int32} {σ : xσ} {h : xH} {r : Unit × xσ} {d1 : Option Value} : Rl n σ h → b_X10_putAnswer_79 n x2 xs0 σ = some r → Go G mX10_putAnswer 79 [some (.ref 0), d1, some (.int x2)] [.int xs0, .ref 0] h (fun v h' => xRok (xRt mX10_putAnswer) v ∧ v = none ∧ Rl n r.2 h') := by
  intro R hf
  rw [b_X10_putAnswer_79] at hf
  obtain ⟨v101, σ102, e103, hf⟩ := bd_some hf
  refine go_invV (As := [_]) (pc' := 82) dX10_putAnswer_79 rfl cf_X10_putAnswer_211 rfl (R.ob (R.at rfl (by decide))) rfl rfl (Nat.le_of_ble_eq_true rfl) (c_X10_putInt R e103) (fun q104v h105 q104 => ?_)
  obtain ⟨rfl, R⟩ := q104
  refine go_aload_n (i := 0) (pc' := 83) dX10_putAnswer_82 rfl rfl rfl ?_
  refine go_iload_n (i := 2) (pc' := 84) dX10_putAnswer_83 rfl rfl rfl ?_
  obtain ⟨σ106, e107, hf⟩ := st_some hf
  refine go_putI (pc' := 87) dX10_putAnswer_84 rfl pf_LandBase_63 R (R.at rfl (by decide)) (by decide) rfl rfl rfl (fun h108 R => ?_)
  have R := Rl.cast e107 R
  obtain rfl := Option.some.inj hf
  exact Go.ret (v := none) dX10_putAnswer_87 rfl ⟨trivial, rfl, R⟩
def f_X10_putAnswer (n : Nat) (x1 : Int32) (σ : xσ) : Option (Unit × xσ) := if (sI σ 3 3) < 9 then bd (f_X10_putInt n x1 σ) (fun v102 σ103 => some ((), σ103)) else if x1 = 0 then st (((sI σ 0 8) + 2) + (sI σ 0 9)) (fun x108 => if x108 ≤ 19000 then bd (f_X10_putInt n 0 σ) (fun v111 σ112 => if (sI σ112 3 3) = 12 then b_X10_putAnswer_79 n x108 ((sI σ112 0 9) / 2) σ112 else b_X10_putAnswer_79 n x108 (sI σ112 0 9) σ112) else bd (f_X10_putInt n 7 σ) (fun v117 σ118 => some ((), σ118))) else bd (f_X10_putInt n x1 σ) (fun v122 σ123 => some ((), σ123))
set_option maxRecDepth 100000 in
set_option maxHeartbeats 4000000 in
theorem c_X10_putAnswer {G : xG} {n : Nat} {σ : xσ} {h : xH} {x1 : Int32} {v1 : Unit} {σ1 : xσ} (R : Rl n σ h) (hf : f_X10_putAnswer n x1 σ = some (v1, σ1)) : Ca G mX10_putAnswer [.ref 0, .int x1] h (fun v h' => v = none ∧ Rl n σ1 h') := by
  refine Ca.of rfl (Nat.le_of_ble_eq_true rfl) ?_
  generalize hr : (v1, σ1) = r at hf
  suffices q : Go G mX10_putAnswer 0 (xent (xMl mX10_putAnswer) [.ref 0, .int x1]) [] h (fun v h' => xRok (xRt mX10_putAnswer) v ∧ v = none ∧ Rl n r.2 h') by
    subst hr
    exact q
  clear hr
  rw [f_X10_putAnswer] at hf
  refine go_aload_n (i := 0) (pc' := 1) dX10_putAnswer_0 rfl rfl rfl ?_
  refine go_getS (pc' := 4) dX10_putAnswer_1 rfl gf_LandBase_19 R (R.at rfl (by decide)) (by decide) rfl ?_
  refine go_getS (pc' := 7) dX10_putAnswer_4 rfl gf_LandBase_97 R (R.at rfl (by decide)) (by decide) rfl ?_
  refine go_bipush (v := 9) (pc' := 9) dX10_putAnswer_7 rfl (by decide) ?_
  refine go_icmp_lt (pc' := 12) (tgt := 16) dX10_putAnswer_9 (by decide) rfl (fun c101 => ?_) (fun c101 => ?_)
  · have hf := it c101 hf
    refine go_aload_n (i := 0) (pc' := 17) dX10_putAnswer_16 rfl rfl rfl ?_
    refine go_iload_n (i := 1) (pc' := 18) dX10_putAnswer_17 rfl rfl rfl ?_
    obtain ⟨v102, σ103, e104, hf⟩ := bd_some hf
    refine go_invV (As := [_]) (pc' := 21) dX10_putAnswer_18 rfl cf_X10_putAnswer_211 rfl (R.ob (R.at rfl (by decide))) rfl rfl (Nat.le_of_ble_eq_true rfl) (c_X10_putInt R e104) (fun q105v h106 q105 => ?_)
    obtain ⟨rfl, R⟩ := q105
    obtain rfl := Option.some.inj hf
    exact Go.ret (v := none) dX10_putAnswer_21 rfl ⟨trivial, rfl, R⟩
  · have hf := ie c101 hf
    refine go_iload_n (i := 1) (pc' := 13) dX10_putAnswer_12 rfl rfl rfl ?_
    refine go_if_eq (pc' := 16) (tgt := 22) dX10_putAnswer_13 (by decide) rfl (fun c107 => ?_) (fun c107 => ?_)
    · have hf := it c107 hf
      refine go_aload_n (i := 0) (pc' := 23) dX10_putAnswer_22 rfl rfl rfl ?_
      refine go_getS (pc' := 26) dX10_putAnswer_23 rfl gf_LandBase_63 R (R.at rfl (by decide)) (by decide) rfl ?_
      refine go_iconst (v := 2) (pc' := 27) dX10_putAnswer_26 rfl (by decide) ?_
      refine go_iadd (pc' := 28) dX10_putAnswer_27 rfl ?_
      refine go_aload_n (i := 0) (pc' := 29) dX10_putAnswer_28 rfl rfl rfl ?_
      refine go_getS (pc' := 32) dX10_putAnswer_29 rfl gf_LandBase_67 R (R.at rfl (by decide)) (by decide) rfl ?_
      refine go_iadd (pc' := 33) dX10_putAnswer_32 rfl ?_
      obtain ⟨x108, e109, hf⟩ := st_some hf
      refine go_istore_nE e109 (i := 2) (pc' := 34) dX10_putAnswer_33 rfl rfl (by decide) rfl ?_
      refine go_iload_n (i := 2) (pc' := 35) dX10_putAnswer_34 rfl rfl rfl ?_
      refine go_sipush (v := 19000) (pc' := 38) dX10_putAnswer_35 rfl (by decide) ?_
      refine go_icmp_le (pc' := 41) (tgt := 48) dX10_putAnswer_38 (by decide) rfl (fun c110 => ?_) (fun c110 => ?_)
      · have hf := it c110 hf
        refine go_aload_n (i := 0) (pc' := 49) dX10_putAnswer_48 rfl rfl rfl ?_
        refine go_iconst (v := 0) (pc' := 50) dX10_putAnswer_49 rfl (by decide) ?_
        obtain ⟨v111, σ112, e113, hf⟩ := bd_some hf
        refine go_invV (As := [_]) (pc' := 53) dX10_putAnswer_50 rfl cf_X10_putAnswer_211 rfl (R.ob (R.at rfl (by decide))) rfl rfl (Nat.le_of_ble_eq_true rfl) (c_X10_putInt R e113) (fun q114v h115 q114 => ?_)
        obtain ⟨rfl, R⟩ := q114
        refine go_aload_n (i := 0) (pc' := 54) dX10_putAnswer_53 rfl rfl rfl ?_
        refine go_aload_n (i := 0) (pc' := 55) dX10_putAnswer_54 rfl rfl rfl ?_
        refine go_getS (pc' := 58) dX10_putAnswer_55 rfl gf_LandBase_19 R (R.at rfl (by decide)) (by decide) rfl ?_
        refine go_getS (pc' := 61) dX10_putAnswer_58 rfl gf_LandBase_97 R (R.at rfl (by decide)) (by decide) rfl ?_
        refine go_bipush (v := 12) (pc' := 63) dX10_putAnswer_61 rfl (by decide) ?_
        refine go_icmp_ne (pc' := 66) (tgt := 75) dX10_putAnswer_63 (by decide) rfl (fun c116 => ?_) (fun c116 => ?_)
        · have hf := ie c116 hf
          refine go_aload_n (i := 0) (pc' := 76) dX10_putAnswer_75 rfl rfl rfl ?_
          refine go_getS (pc' := 79) dX10_putAnswer_76 rfl gf_LandBase_67 R (R.at rfl (by decide)) (by decide) rfl ?_
          exact t_X10_putAnswer_79 R hf
        · have hf := it c116 hf
          refine go_aload_n (i := 0) (pc' := 67) dX10_putAnswer_66 rfl rfl rfl ?_
          refine go_getS (pc' := 70) dX10_putAnswer_67 rfl gf_LandBase_67 R (R.at rfl (by decide)) (by decide) rfl ?_
          refine go_iconst (v := 2) (pc' := 71) dX10_putAnswer_70 rfl (by decide) ?_
          refine go_idiv (pc' := 72) dX10_putAnswer_71 rfl (by decide) ?_
          refine go_goto (pc' := 0) (tgt := 79) dX10_putAnswer_72 (by decide) ?_
          exact t_X10_putAnswer_79 R hf
      · have hf := ie c110 hf
        refine go_aload_n (i := 0) (pc' := 42) dX10_putAnswer_41 rfl rfl rfl ?_
        refine go_bipush (v := 7) (pc' := 44) dX10_putAnswer_42 rfl (by decide) ?_
        obtain ⟨v117, σ118, e119, hf⟩ := bd_some hf
        refine go_invV (As := [_]) (pc' := 47) dX10_putAnswer_44 rfl cf_X10_putAnswer_211 rfl (R.ob (R.at rfl (by decide))) rfl rfl (Nat.le_of_ble_eq_true rfl) (c_X10_putInt R e119) (fun q120v h121 q120 => ?_)
        obtain ⟨rfl, R⟩ := q120
        obtain rfl := Option.some.inj hf
        exact Go.ret (v := none) dX10_putAnswer_47 rfl ⟨trivial, rfl, R⟩
    · have hf := ie c107 hf
      refine go_aload_n (i := 0) (pc' := 17) dX10_putAnswer_16 rfl rfl rfl ?_
      refine go_iload_n (i := 1) (pc' := 18) dX10_putAnswer_17 rfl rfl rfl ?_
      obtain ⟨v122, σ123, e124, hf⟩ := bd_some hf
      refine go_invV (As := [_]) (pc' := 21) dX10_putAnswer_18 rfl cf_X10_putAnswer_211 rfl (R.ob (R.at rfl (by decide))) rfl rfl (Nat.le_of_ble_eq_true rfl) (c_X10_putInt R e124) (fun q125v h126 q125 => ?_)
      obtain ⟨rfl, R⟩ := q125
      obtain rfl := Option.some.inj hf
      exact Go.ret (v := none) dX10_putAnswer_21 rfl ⟨trivial, rfl, R⟩
def b_X10_run_254  (x1 : Int32) (n : Nat) (σ : xσ) : Option (Int32 × Nat × xσ) := bd (f_X9_clear n σ) (fun v101 σ102 => some (x1, n, σ102))
set_option maxRecDepth 100000 in
set_option maxHeartbeats 4000000 in
theorem t_X10_run_254 {G : xG} {n : Nat} {x1 : Int32} {σ : xσ} {h : xH} {r : Int32 × Nat × xσ} {d2 : Option Value} : Rl n σ h → b_X10_run_254 x1 n σ = some r → Go G mX10_run 254 [some (.ref 0), some (.int x1), d2] [] h (fun v h' => xRok (xRt mX10_run) v ∧ v = some (.int r.1) ∧ Rl r.2.1 r.2.2 h') := by
  intro R hf
  rw [b_X10_run_254] at hf
  refine go_aload_n (i := 0) (pc' := 255) dX10_run_254 rfl rfl rfl ?_
  refine go_getS (pc' := 258) dX10_run_255 rfl gf_LandBase_10 R (R.at rfl (by decide)) (by decide) rfl ?_
  obtain ⟨v101, σ102, e103, hf⟩ := bd_some hf
  refine go_invV (As := []) (pc' := 261) dX10_run_258 rfl cf_X10_run_133 rfl (R.ob (R.at rfl (by decide))) rfl rfl (Nat.le_of_ble_eq_true rfl) (c_X9_clear R e103) (fun q104v h105 q104 => ?_)
  obtain ⟨rfl, R⟩ := q104
  refine go_iload_n (i := 1) (pc' := 262) dX10_run_261 rfl rfl rfl ?_
  obtain rfl := Option.some.inj hf
  exact Go.ret (v := some (.int _)) dX10_run_262 ⟨_, rfl⟩ ⟨rfl, rfl, R⟩
def b_X10_run_235  (k31 : Int32 → Nat → xσ → Option (Int32 × Nat × xσ)) (x1 : Int32) (x2 : Int32) (n : Nat) (σ : xσ) : Option (Int32 × Nat × xσ) := if x2 = ((-1)) then b_X10_run_254 x1 n σ else bd (f_X10_putAnswer n x2 σ) (fun v102 σ103 => k31 (x1 + 1) n σ103)
set_option maxRecDepth 100000 in
set_option maxHeartbeats 4000000 in
theorem t_X10_run_235 {G : xG} {k31 : Int32 → Nat → xσ → Option (Int32 × Nat × xσ)} (hk31 : ∀ {n : Nat} {x1 : Int32} {σ : xσ} {h : xH} {r : Int32 × Nat × xσ} {d2 : Option Value}, Rl n σ h → k31 x1 n σ = some r → Go G mX10_run 31 [some (.ref 0), some (.int x1), d2] [] h (fun v h' => xRok (xRt mX10_run) v ∧ v = some (.int r.1) ∧ Rl r.2.1 r.2.2 h')) {n : Nat} {x1 : Int32} {x2 : Int32} {σ : xσ} {h : xH} {r : Int32 × Nat × xσ} : Rl n σ h → b_X10_run_235 k31 x1 x2 n σ = some r → Go G mX10_run 235 [some (.ref 0), some (.int x1), some (.int x2)] [] h (fun v h' => xRok (xRt mX10_run) v ∧ v = some (.int r.1) ∧ Rl r.2.1 r.2.2 h') := by
  intro R hf
  rw [b_X10_run_235] at hf
  refine go_iload_n (i := 2) (pc' := 236) dX10_run_235 rfl rfl rfl ?_
  refine go_iconst (v := (-1)) (pc' := 237) dX10_run_236 rfl (by decide) ?_
  refine go_icmp_ne (pc' := 240) (tgt := 243) dX10_run_237 (by decide) rfl (fun c101 => ?_) (fun c101 => ?_)
  · have hf := ie c101 hf
    refine go_aload_n (i := 0) (pc' := 244) dX10_run_243 rfl rfl rfl ?_
    refine go_iload_n (i := 2) (pc' := 245) dX10_run_244 rfl rfl rfl ?_
    obtain ⟨v102, σ103, e104, hf⟩ := bd_some hf
    refine go_invV (As := [_]) (pc' := 248) dX10_run_245 rfl cf_X10_run_129 rfl (R.ob (R.at rfl (by decide))) rfl rfl (Nat.le_of_ble_eq_true rfl) (c_X10_putAnswer R e104) (fun q105v h106 q105 => ?_)
    obtain ⟨rfl, R⟩ := q105
    refine go_iincC (kk := 1) (pc' := 251) dX10_run_248 rfl rfl (by decide) (by decide) rfl ?_
    refine go_goto (pc' := 0) (tgt := 31) dX10_run_251 (by decide) ?_
    exact hk31 R hf
  · have hf := it c101 hf
    refine go_goto (pc' := 0) (tgt := 254) dX10_run_240 (by decide) ?_
    exact t_X10_run_254 R hf
def l_X10_run_31  : Nat → Int32 → Nat → xσ → Option (Int32 × Nat × xσ)
  | 0, _, _, _ => none
  | f + 1, x1, n, σ => if 4000 ≤ x1 then bd (f_X9_clear n σ) (fun v102 σ103 => some (x1, n, σ103)) else if (sI σ 1 2) = 0 then bd (f_X9_clear n σ) (fun v108 σ109 => some (x1, n, σ109)) else bd (f_X5_readStatement n σ) (fun v113 σ114 => if v113 = 0 then st (wI σ114 0 10 (sI σ114 1 3)) (fun σ205 => b_X10_run_254 x1 n σ205) else st (wI σ114 0 9 0) (fun σ119 => if sI σ119 3 3 = 0 then bn (f_X10_add n σ119) (fun v123 n σ124 => b_X10_run_235 (l_X10_run_31 f) x1 v123 n σ124) else if sI σ119 3 3 = 1 then bd (f_X10_drop n σ119) (fun v129 σ130 => b_X10_run_235 (l_X10_run_31 f) x1 v129 n σ130) else if sI σ119 3 3 = 2 then bn (f_X10_move n σ119) (fun v135 n σ136 => b_X10_run_235 (l_X10_run_31 f) x1 v135 n σ136) else if sI σ119 3 3 = 3 then bn (f_X10_fill n σ119) (fun v141 n σ142 => b_X10_run_235 (l_X10_run_31 f) x1 v141 n σ142) else if sI σ119 3 3 = 4 then bd (f_X3_turn n (sI σ119 3 3) σ119) (fun v147 σ148 => b_X10_run_235 (l_X10_run_31 f) x1 v147 n σ148) else if sI σ119 3 3 = 5 then bd (f_X3_turn n (sI σ119 3 3) σ119) (fun v153 σ154 => b_X10_run_235 (l_X10_run_31 f) x1 v153 n σ154) else if sI σ119 3 3 = 6 then bd (f_X3_turn n (sI σ119 3 3) σ119) (fun v159 σ160 => b_X10_run_235 (l_X10_run_31 f) x1 v159 n σ160) else if sI σ119 3 3 = 7 then bd (f_X3_turn n (sI σ119 3 3) σ119) (fun v165 σ166 => b_X10_run_235 (l_X10_run_31 f) x1 v165 n σ166) else if sI σ119 3 3 = 8 then bd (f_X3_turn n (sI σ119 3 3) σ119) (fun v171 σ172 => b_X10_run_235 (l_X10_run_31 f) x1 v171 n σ172) else if sI σ119 3 3 = 9 then bd (f_X10_find n σ119) (fun v177 σ178 => b_X10_run_235 (l_X10_run_31 f) x1 v177 n σ178) else if sI σ119 3 3 = 10 then bd (f_X10_window n σ119) (fun v183 σ184 => b_X10_run_235 (l_X10_run_31 f) x1 v183 n σ184) else if sI σ119 3 3 = 11 then bd (f_X10_near n σ119) (fun v189 σ190 => b_X10_run_235 (l_X10_run_31 f) x1 v189 n σ190) else if sI σ119 3 3 = 12 then bd (f_X10_join n σ119) (fun v195 σ196 => b_X10_run_235 (l_X10_run_31 f) x1 v195 n σ196) else bd (f_X3_turn n (sI σ119 3 3) σ119) (fun v200 σ201 => b_X10_run_235 (l_X10_run_31 f) x1 v200 n σ201)))
set_option maxRecDepth 100000 in
set_option maxHeartbeats 4000000 in
theorem t_X10_run_31 {G : xG} : ∀ (f : Nat) {n : Nat} {x1 : Int32} {σ : xσ} {h : xH} {r : Int32 × Nat × xσ} {d2 : Option Value}, Rl n σ h → l_X10_run_31 f x1 n σ = some r → Go G mX10_run 31 [some (.ref 0), some (.int x1), d2] [] h (fun v h' => xRok (xRt mX10_run) v ∧ v = some (.int r.1) ∧ Rl r.2.1 r.2.2 h') := by
  intro f
  induction f with
  | zero =>
    intros
    rename _ = some _ => hf
    rw [l_X10_run_31] at hf
    cases hf
  | succ f ih =>
    intro n x1 σ h r d2 R hf
    rw [l_X10_run_31] at hf
    refine go_iload_n (i := 1) (pc' := 32) dX10_run_31 rfl rfl rfl ?_
    refine go_sipush (v := 4000) (pc' := 35) dX10_run_32 rfl (by decide) ?_
    refine go_icmp_ge (pc' := 38) (tgt := 254) dX10_run_35 (by decide) rfl (fun c101 => ?_) (fun c101 => ?_)
    · have hf := it c101 hf
      refine go_aload_n (i := 0) (pc' := 255) dX10_run_254 rfl rfl rfl ?_
      refine go_getS (pc' := 258) dX10_run_255 rfl gf_LandBase_10 R (R.at rfl (by decide)) (by decide) rfl ?_
      obtain ⟨v102, σ103, e104, hf⟩ := bd_some hf
      refine go_invV (As := []) (pc' := 261) dX10_run_258 rfl cf_X10_run_133 rfl (R.ob (R.at rfl (by decide))) rfl rfl (Nat.le_of_ble_eq_true rfl) (c_X9_clear R e104) (fun q105v h106 q105 => ?_)
      obtain ⟨rfl, R⟩ := q105
      refine go_iload_n (i := 1) (pc' := 262) dX10_run_261 rfl rfl rfl ?_
      obtain rfl := Option.some.inj hf
      exact Go.ret (v := some (.int _)) dX10_run_262 ⟨_, rfl⟩ ⟨rfl, rfl, R⟩
    · have hf := ie c101 hf
      refine go_aload_n (i := 0) (pc' := 39) dX10_run_38 rfl rfl rfl ?_
      refine go_getS (pc' := 42) dX10_run_39 rfl gf_LandBase_10 R (R.at rfl (by decide)) (by decide) rfl ?_
      refine go_getS (pc' := 45) dX10_run_42 rfl gf_LandBase_87 R (R.at rfl (by decide)) (by decide) rfl ?_
      refine go_if_eq (pc' := 48) (tgt := 254) dX10_run_45 (by decide) rfl (fun c107 => ?_) (fun c107 => ?_)
      · have hf := it c107 hf
        refine go_aload_n (i := 0) (pc' := 255) dX10_run_254 rfl rfl rfl ?_
        refine go_getS (pc' := 258) dX10_run_255 rfl gf_LandBase_10 R (R.at rfl (by decide)) (by decide) rfl ?_
        obtain ⟨v108, σ109, e110, hf⟩ := bd_some hf
        refine go_invV (As := []) (pc' := 261) dX10_run_258 rfl cf_X10_run_133 rfl (R.ob (R.at rfl (by decide))) rfl rfl (Nat.le_of_ble_eq_true rfl) (c_X9_clear R e110) (fun q111v h112 q111 => ?_)
        obtain ⟨rfl, R⟩ := q111
        refine go_iload_n (i := 1) (pc' := 262) dX10_run_261 rfl rfl rfl ?_
        obtain rfl := Option.some.inj hf
        exact Go.ret (v := some (.int _)) dX10_run_262 ⟨_, rfl⟩ ⟨rfl, rfl, R⟩
      · have hf := ie c107 hf
        refine go_aload_n (i := 0) (pc' := 49) dX10_run_48 rfl rfl rfl ?_
        refine go_getS (pc' := 52) dX10_run_49 rfl gf_LandBase_19 R (R.at rfl (by decide)) (by decide) rfl ?_
        refine go_aload_n (i := 0) (pc' := 53) dX10_run_52 rfl rfl rfl ?_
        refine go_getS (pc' := 56) dX10_run_53 rfl gf_LandBase_10 R (R.at rfl (by decide)) (by decide) rfl ?_
        obtain ⟨v113, σ114, e115, hf⟩ := bd_some hf
        refine go_invV (As := [_]) (pc' := 59) dX10_run_56 rfl cf_X10_run_90 rfl (R.ob (R.at rfl (by decide))) rfl rfl (Nat.le_of_ble_eq_true rfl) (c_X5_readStatement R e115) (fun q116v h117 q116 => ?_)
        obtain ⟨rfl, R⟩ := q116
        refine go_if_ne (pc' := 62) (tgt := 76) dX10_run_59 (by decide) rfl (fun c118 => ?_) (fun c118 => ?_)
        · have hf := ie c118 hf
          refine go_aload_n (i := 0) (pc' := 77) dX10_run_76 rfl rfl rfl ?_
          refine go_iconst (v := 0) (pc' := 78) dX10_run_77 rfl (by decide) ?_
          obtain ⟨σ119, e120, hf⟩ := st_some hf
          refine go_putI (pc' := 81) dX10_run_78 rfl pf_LandBase_67 R (R.at rfl (by decide)) (by decide) rfl rfl rfl (fun h121 R => ?_)
          have R := Rl.cast e120 R
          refine go_aload_n (i := 0) (pc' := 82) dX10_run_81 rfl rfl rfl ?_
          refine go_getS (pc' := 85) dX10_run_82 rfl gf_LandBase_19 R (R.at rfl (by decide)) (by decide) rfl ?_
          refine go_getS (pc' := 88) dX10_run_85 rfl gf_LandBase_97 R (R.at rfl (by decide)) (by decide) rfl ?_
          by_cases c122 : sI σ119 3 3 = 0
          · have hf := it c122 hf
            refine go_tableIn (pc' := 0) (off := 68) (tgt := 156) dX10_run_88 (by rw [c122]; decide) (by rw [c122]; decide) (by rw [c122]; rfl) (by decide) ?_
            refine go_aload_n (i := 0) (pc' := 157) dX10_run_156 rfl rfl rfl ?_
            obtain ⟨v123, n, σ124, e125, hf⟩ := bn_some hf
            refine go_invV (As := []) (pc' := 160) dX10_run_157 rfl cf_X10_run_100 rfl (R.ob (R.at rfl (by decide))) rfl rfl (Nat.le_of_ble_eq_true rfl) (c_X10_add R e125) (fun q126v h127 q126 => ?_)
            obtain ⟨rfl, R⟩ := q126
            refine go_istore_nE rfl (i := 2) (pc' := 161) dX10_run_160 rfl rfl (by decide) rfl ?_
            refine go_goto (pc' := 0) (tgt := 235) dX10_run_161 (by decide) ?_
            exact t_X10_run_235 @ih R hf
          have hf := ie c122 hf
          by_cases c128 : sI σ119 3 3 = 1
          · have hf := it c128 hf
            refine go_tableIn (pc' := 0) (off := 76) (tgt := 164) dX10_run_88 (by rw [c128]; decide) (by rw [c128]; decide) (by rw [c128]; rfl) (by decide) ?_
            refine go_aload_n (i := 0) (pc' := 165) dX10_run_164 rfl rfl rfl ?_
            obtain ⟨v129, σ130, e131, hf⟩ := bd_some hf
            refine go_invV (As := []) (pc' := 168) dX10_run_165 rfl cf_X10_run_104 rfl (R.ob (R.at rfl (by decide))) rfl rfl (Nat.le_of_ble_eq_true rfl) (c_X10_drop R e131) (fun q132v h133 q132 => ?_)
            obtain ⟨rfl, R⟩ := q132
            refine go_istore_nE rfl (i := 2) (pc' := 169) dX10_run_168 rfl rfl (by decide) rfl ?_
            refine go_goto (pc' := 0) (tgt := 235) dX10_run_169 (by decide) ?_
            exact t_X10_run_235 @ih R hf
          have hf := ie c128 hf
          by_cases c134 : sI σ119 3 3 = 2
          · have hf := it c134 hf
            refine go_tableIn (pc' := 0) (off := 84) (tgt := 172) dX10_run_88 (by rw [c134]; decide) (by rw [c134]; decide) (by rw [c134]; rfl) (by decide) ?_
            refine go_aload_n (i := 0) (pc' := 173) dX10_run_172 rfl rfl rfl ?_
            obtain ⟨v135, n, σ136, e137, hf⟩ := bn_some hf
            refine go_invV (As := []) (pc' := 176) dX10_run_173 rfl cf_X10_run_107 rfl (R.ob (R.at rfl (by decide))) rfl rfl (Nat.le_of_ble_eq_true rfl) (c_X10_move R e137) (fun q138v h139 q138 => ?_)
            obtain ⟨rfl, R⟩ := q138
            refine go_istore_nE rfl (i := 2) (pc' := 177) dX10_run_176 rfl rfl (by decide) rfl ?_
            refine go_goto (pc' := 0) (tgt := 235) dX10_run_177 (by decide) ?_
            exact t_X10_run_235 @ih R hf
          have hf := ie c134 hf
          by_cases c140 : sI σ119 3 3 = 3
          · have hf := it c140 hf
            refine go_tableIn (pc' := 0) (off := 92) (tgt := 180) dX10_run_88 (by rw [c140]; decide) (by rw [c140]; decide) (by rw [c140]; rfl) (by decide) ?_
            refine go_aload_n (i := 0) (pc' := 181) dX10_run_180 rfl rfl rfl ?_
            obtain ⟨v141, n, σ142, e143, hf⟩ := bn_some hf
            refine go_invV (As := []) (pc' := 184) dX10_run_181 rfl cf_X10_run_110 rfl (R.ob (R.at rfl (by decide))) rfl rfl (Nat.le_of_ble_eq_true rfl) (c_X10_fill R e143) (fun q144v h145 q144 => ?_)
            obtain ⟨rfl, R⟩ := q144
            refine go_istore_nE rfl (i := 2) (pc' := 185) dX10_run_184 rfl rfl (by decide) rfl ?_
            refine go_goto (pc' := 0) (tgt := 235) dX10_run_185 (by decide) ?_
            exact t_X10_run_235 @ih R hf
          have hf := ie c140 hf
          by_cases c146 : sI σ119 3 3 = 4
          · have hf := it c146 hf
            refine go_tableIn (pc' := 0) (off := 132) (tgt := 220) dX10_run_88 (by rw [c146]; decide) (by rw [c146]; decide) (by rw [c146]; rfl) (by decide) ?_
            refine go_aload_n (i := 0) (pc' := 221) dX10_run_220 rfl rfl rfl ?_
            refine go_getS (pc' := 224) dX10_run_221 rfl gf_LandBase_26 R (R.at rfl (by decide)) (by decide) rfl ?_
            refine go_aload_n (i := 0) (pc' := 225) dX10_run_224 rfl rfl rfl ?_
            refine go_getS (pc' := 228) dX10_run_225 rfl gf_LandBase_19 R (R.at rfl (by decide)) (by decide) rfl ?_
            refine go_getS (pc' := 231) dX10_run_228 rfl gf_LandBase_97 R (R.at rfl (by decide)) (by decide) rfl ?_
            obtain ⟨v147, σ148, e149, hf⟩ := bd_some hf
            refine go_invV (As := [_]) (pc' := 234) dX10_run_231 rfl cf_X10_run_125 rfl (R.ob (R.at rfl (by decide))) rfl rfl (Nat.le_of_ble_eq_true rfl) (c_X3_turn R e149) (fun q150v h151 q150 => ?_)
            obtain ⟨rfl, R⟩ := q150
            refine go_istore_nE rfl (i := 2) (pc' := 235) dX10_run_234 rfl rfl (by decide) rfl ?_
            exact t_X10_run_235 @ih R hf
          have hf := ie c146 hf
          by_cases c152 : sI σ119 3 3 = 5
          · have hf := it c152 hf
            refine go_tableIn (pc' := 0) (off := 132) (tgt := 220) dX10_run_88 (by rw [c152]; decide) (by rw [c152]; decide) (by rw [c152]; rfl) (by decide) ?_
            refine go_aload_n (i := 0) (pc' := 221) dX10_run_220 rfl rfl rfl ?_
            refine go_getS (pc' := 224) dX10_run_221 rfl gf_LandBase_26 R (R.at rfl (by decide)) (by decide) rfl ?_
            refine go_aload_n (i := 0) (pc' := 225) dX10_run_224 rfl rfl rfl ?_
            refine go_getS (pc' := 228) dX10_run_225 rfl gf_LandBase_19 R (R.at rfl (by decide)) (by decide) rfl ?_
            refine go_getS (pc' := 231) dX10_run_228 rfl gf_LandBase_97 R (R.at rfl (by decide)) (by decide) rfl ?_
            obtain ⟨v153, σ154, e155, hf⟩ := bd_some hf
            refine go_invV (As := [_]) (pc' := 234) dX10_run_231 rfl cf_X10_run_125 rfl (R.ob (R.at rfl (by decide))) rfl rfl (Nat.le_of_ble_eq_true rfl) (c_X3_turn R e155) (fun q156v h157 q156 => ?_)
            obtain ⟨rfl, R⟩ := q156
            refine go_istore_nE rfl (i := 2) (pc' := 235) dX10_run_234 rfl rfl (by decide) rfl ?_
            exact t_X10_run_235 @ih R hf
          have hf := ie c152 hf
          by_cases c158 : sI σ119 3 3 = 6
          · have hf := it c158 hf
            refine go_tableIn (pc' := 0) (off := 132) (tgt := 220) dX10_run_88 (by rw [c158]; decide) (by rw [c158]; decide) (by rw [c158]; rfl) (by decide) ?_
            refine go_aload_n (i := 0) (pc' := 221) dX10_run_220 rfl rfl rfl ?_
            refine go_getS (pc' := 224) dX10_run_221 rfl gf_LandBase_26 R (R.at rfl (by decide)) (by decide) rfl ?_
            refine go_aload_n (i := 0) (pc' := 225) dX10_run_224 rfl rfl rfl ?_
            refine go_getS (pc' := 228) dX10_run_225 rfl gf_LandBase_19 R (R.at rfl (by decide)) (by decide) rfl ?_
            refine go_getS (pc' := 231) dX10_run_228 rfl gf_LandBase_97 R (R.at rfl (by decide)) (by decide) rfl ?_
            obtain ⟨v159, σ160, e161, hf⟩ := bd_some hf
            refine go_invV (As := [_]) (pc' := 234) dX10_run_231 rfl cf_X10_run_125 rfl (R.ob (R.at rfl (by decide))) rfl rfl (Nat.le_of_ble_eq_true rfl) (c_X3_turn R e161) (fun q162v h163 q162 => ?_)
            obtain ⟨rfl, R⟩ := q162
            refine go_istore_nE rfl (i := 2) (pc' := 235) dX10_run_234 rfl rfl (by decide) rfl ?_
            exact t_X10_run_235 @ih R hf
          have hf := ie c158 hf
          by_cases c164 : sI σ119 3 3 = 7
          · have hf := it c164 hf
            refine go_tableIn (pc' := 0) (off := 132) (tgt := 220) dX10_run_88 (by rw [c164]; decide) (by rw [c164]; decide) (by rw [c164]; rfl) (by decide) ?_
            refine go_aload_n (i := 0) (pc' := 221) dX10_run_220 rfl rfl rfl ?_
            refine go_getS (pc' := 224) dX10_run_221 rfl gf_LandBase_26 R (R.at rfl (by decide)) (by decide) rfl ?_
            refine go_aload_n (i := 0) (pc' := 225) dX10_run_224 rfl rfl rfl ?_
            refine go_getS (pc' := 228) dX10_run_225 rfl gf_LandBase_19 R (R.at rfl (by decide)) (by decide) rfl ?_
            refine go_getS (pc' := 231) dX10_run_228 rfl gf_LandBase_97 R (R.at rfl (by decide)) (by decide) rfl ?_
            obtain ⟨v165, σ166, e167, hf⟩ := bd_some hf
            refine go_invV (As := [_]) (pc' := 234) dX10_run_231 rfl cf_X10_run_125 rfl (R.ob (R.at rfl (by decide))) rfl rfl (Nat.le_of_ble_eq_true rfl) (c_X3_turn R e167) (fun q168v h169 q168 => ?_)
            obtain ⟨rfl, R⟩ := q168
            refine go_istore_nE rfl (i := 2) (pc' := 235) dX10_run_234 rfl rfl (by decide) rfl ?_
            exact t_X10_run_235 @ih R hf
          have hf := ie c164 hf
          by_cases c170 : sI σ119 3 3 = 8
          · have hf := it c170 hf
            refine go_tableIn (pc' := 0) (off := 132) (tgt := 220) dX10_run_88 (by rw [c170]; decide) (by rw [c170]; decide) (by rw [c170]; rfl) (by decide) ?_
            refine go_aload_n (i := 0) (pc' := 221) dX10_run_220 rfl rfl rfl ?_
            refine go_getS (pc' := 224) dX10_run_221 rfl gf_LandBase_26 R (R.at rfl (by decide)) (by decide) rfl ?_
            refine go_aload_n (i := 0) (pc' := 225) dX10_run_224 rfl rfl rfl ?_
            refine go_getS (pc' := 228) dX10_run_225 rfl gf_LandBase_19 R (R.at rfl (by decide)) (by decide) rfl ?_
            refine go_getS (pc' := 231) dX10_run_228 rfl gf_LandBase_97 R (R.at rfl (by decide)) (by decide) rfl ?_
            obtain ⟨v171, σ172, e173, hf⟩ := bd_some hf
            refine go_invV (As := [_]) (pc' := 234) dX10_run_231 rfl cf_X10_run_125 rfl (R.ob (R.at rfl (by decide))) rfl rfl (Nat.le_of_ble_eq_true rfl) (c_X3_turn R e173) (fun q174v h175 q174 => ?_)
            obtain ⟨rfl, R⟩ := q174
            refine go_istore_nE rfl (i := 2) (pc' := 235) dX10_run_234 rfl rfl (by decide) rfl ?_
            exact t_X10_run_235 @ih R hf
          have hf := ie c170 hf
          by_cases c176 : sI σ119 3 3 = 9
          · have hf := it c176 hf
            refine go_tableIn (pc' := 0) (off := 100) (tgt := 188) dX10_run_88 (by rw [c176]; decide) (by rw [c176]; decide) (by rw [c176]; rfl) (by decide) ?_
            refine go_aload_n (i := 0) (pc' := 189) dX10_run_188 rfl rfl rfl ?_
            obtain ⟨v177, σ178, e179, hf⟩ := bd_some hf
            refine go_invV (As := []) (pc' := 192) dX10_run_189 rfl cf_X10_run_113 rfl (R.ob (R.at rfl (by decide))) rfl rfl (Nat.le_of_ble_eq_true rfl) (c_X10_find R e179) (fun q180v h181 q180 => ?_)
            obtain ⟨rfl, R⟩ := q180
            refine go_istore_nE rfl (i := 2) (pc' := 193) dX10_run_192 rfl rfl (by decide) rfl ?_
            refine go_goto (pc' := 0) (tgt := 235) dX10_run_193 (by decide) ?_
            exact t_X10_run_235 @ih R hf
          have hf := ie c176 hf
          by_cases c182 : sI σ119 3 3 = 10
          · have hf := it c182 hf
            refine go_tableIn (pc' := 0) (off := 108) (tgt := 196) dX10_run_88 (by rw [c182]; decide) (by rw [c182]; decide) (by rw [c182]; rfl) (by decide) ?_
            refine go_aload_n (i := 0) (pc' := 197) dX10_run_196 rfl rfl rfl ?_
            obtain ⟨v183, σ184, e185, hf⟩ := bd_some hf
            refine go_invV (As := []) (pc' := 200) dX10_run_197 rfl cf_X10_run_116 rfl (R.ob (R.at rfl (by decide))) rfl rfl (Nat.le_of_ble_eq_true rfl) (c_X10_window R e185) (fun q186v h187 q186 => ?_)
            obtain ⟨rfl, R⟩ := q186
            refine go_istore_nE rfl (i := 2) (pc' := 201) dX10_run_200 rfl rfl (by decide) rfl ?_
            refine go_goto (pc' := 0) (tgt := 235) dX10_run_201 (by decide) ?_
            exact t_X10_run_235 @ih R hf
          have hf := ie c182 hf
          by_cases c188 : sI σ119 3 3 = 11
          · have hf := it c188 hf
            refine go_tableIn (pc' := 0) (off := 116) (tgt := 204) dX10_run_88 (by rw [c188]; decide) (by rw [c188]; decide) (by rw [c188]; rfl) (by decide) ?_
            refine go_aload_n (i := 0) (pc' := 205) dX10_run_204 rfl rfl rfl ?_
            obtain ⟨v189, σ190, e191, hf⟩ := bd_some hf
            refine go_invV (As := []) (pc' := 208) dX10_run_205 rfl cf_X10_run_119 rfl (R.ob (R.at rfl (by decide))) rfl rfl (Nat.le_of_ble_eq_true rfl) (c_X10_near R e191) (fun q192v h193 q192 => ?_)
            obtain ⟨rfl, R⟩ := q192
            refine go_istore_nE rfl (i := 2) (pc' := 209) dX10_run_208 rfl rfl (by decide) rfl ?_
            refine go_goto (pc' := 0) (tgt := 235) dX10_run_209 (by decide) ?_
            exact t_X10_run_235 @ih R hf
          have hf := ie c188 hf
          by_cases c194 : sI σ119 3 3 = 12
          · have hf := it c194 hf
            refine go_tableIn (pc' := 0) (off := 124) (tgt := 212) dX10_run_88 (by rw [c194]; decide) (by rw [c194]; decide) (by rw [c194]; rfl) (by decide) ?_
            refine go_aload_n (i := 0) (pc' := 213) dX10_run_212 rfl rfl rfl ?_
            obtain ⟨v195, σ196, e197, hf⟩ := bd_some hf
            refine go_invV (As := []) (pc' := 216) dX10_run_213 rfl cf_X10_run_122 rfl (R.ob (R.at rfl (by decide))) rfl rfl (Nat.le_of_ble_eq_true rfl) (c_X10_join R e197) (fun q198v h199 q198 => ?_)
            obtain ⟨rfl, R⟩ := q198
            refine go_istore_nE rfl (i := 2) (pc' := 217) dX10_run_216 rfl rfl (by decide) rfl ?_
            refine go_goto (pc' := 0) (tgt := 235) dX10_run_217 (by decide) ?_
            exact t_X10_run_235 @ih R hf
          have hf := ie c194 hf
          refine go_tableOut (pc' := 0) (tgt := 220) dX10_run_88 (sw_out 0 12 (fun v h1 h2 h3 => ?_)) (by decide) ?_
          · rcases (show v = 0 ∨ v = 1 ∨ v = 2 ∨ v = 3 ∨ v = 4 ∨ v = 5 ∨ v = 6 ∨ v = 7 ∨ v = 8 ∨ v = 9 ∨ v = 10 ∨ v = 11 ∨ v = 12 by omega) with rfl | rfl | rfl | rfl | rfl | rfl | rfl | rfl | rfl | rfl | rfl | rfl | rfl
            · exact c122 h3
            · exact c128 h3
            · exact c134 h3
            · exact c140 h3
            · exact c146 h3
            · exact c152 h3
            · exact c158 h3
            · exact c164 h3
            · exact c170 h3
            · exact c176 h3
            · exact c182 h3
            · exact c188 h3
            · exact c194 h3
          · refine go_aload_n (i := 0) (pc' := 221) dX10_run_220 rfl rfl rfl ?_
            refine go_getS (pc' := 224) dX10_run_221 rfl gf_LandBase_26 R (R.at rfl (by decide)) (by decide) rfl ?_
            refine go_aload_n (i := 0) (pc' := 225) dX10_run_224 rfl rfl rfl ?_
            refine go_getS (pc' := 228) dX10_run_225 rfl gf_LandBase_19 R (R.at rfl (by decide)) (by decide) rfl ?_
            refine go_getS (pc' := 231) dX10_run_228 rfl gf_LandBase_97 R (R.at rfl (by decide)) (by decide) rfl ?_
            obtain ⟨v200, σ201, e202, hf⟩ := bd_some hf
            refine go_invV (As := [_]) (pc' := 234) dX10_run_231 rfl cf_X10_run_125 rfl (R.ob (R.at rfl (by decide))) rfl rfl (Nat.le_of_ble_eq_true rfl) (c_X3_turn R e202) (fun q203v h204 q203 => ?_)
            obtain ⟨rfl, R⟩ := q203
            refine go_istore_nE rfl (i := 2) (pc' := 235) dX10_run_234 rfl rfl (by decide) rfl ?_
            exact t_X10_run_235 @ih R hf
        · have hf := it c118 hf
          refine go_aload_n (i := 0) (pc' := 63) dX10_run_62 rfl rfl rfl ?_
          refine go_aload_n (i := 0) (pc' := 64) dX10_run_63 rfl rfl rfl ?_
          refine go_getS (pc' := 67) dX10_run_64 rfl gf_LandBase_10 R (R.at rfl (by decide)) (by decide) rfl ?_
          refine go_getS (pc' := 70) dX10_run_67 rfl gf_LandBase_94 R (R.at rfl (by decide)) (by decide) rfl ?_
          obtain ⟨σ205, e206, hf⟩ := st_some hf
          refine go_putI (pc' := 73) dX10_run_70 rfl pf_LandBase_70 R (R.at rfl (by decide)) (by decide) rfl rfl rfl (fun h207 R => ?_)
          have R := Rl.cast e206 R
          refine go_goto (pc' := 0) (tgt := 254) dX10_run_73 (by decide) ?_
          exact t_X10_run_254 R hf
def f_X10_run (n : Nat)  (σ : xσ) : Option (Int32 × Nat × xσ) := if (sI σ 10 6) = 0 then st (wI σ 0 8 0) (fun σ102 => st (wI σ102 0 10 ((-1))) (fun σ105 => bd (f_X9_rewind n σ105) (fun v108 σ109 => l_X10_run_31 xFU 0 n σ109))) else some ((-1), n, σ)
set_option maxRecDepth 100000 in
set_option maxHeartbeats 4000000 in
theorem c_X10_run {G : xG} {n : Nat} {σ : xσ} {h : xH}  {v1 : Int32} {n1 : Nat} {σ1 : xσ} (R : Rl n σ h) (hf : f_X10_run n σ = some (v1, n1, σ1)) : Ca G mX10_run [.ref 0] h (fun v h' => v = some (.int v1) ∧ Rl n1 σ1 h') := by
  refine Ca.of rfl (Nat.le_of_ble_eq_true rfl) ?_
  generalize hr : (v1, n1, σ1) = r at hf
  suffices q : Go G mX10_run 0 (xent (xMl mX10_run) [.ref 0]) [] h (fun v h' => xRok (xRt mX10_run) v ∧ v = some (.int r.1) ∧ Rl r.2.1 r.2.2 h') by
    subst hr
    exact q
  clear hr
  rw [f_X10_run] at hf
  refine go_aload_n (i := 0) (pc' := 1) dX10_run_0 rfl rfl rfl ?_
  refine go_getS (pc' := 4) dX10_run_1 rfl gf_LandBase_26 R (R.at rfl (by decide)) (by decide) rfl ?_
  refine go_getS (pc' := 7) dX10_run_4 rfl gf_LandBase_80 R (R.at rfl (by decide)) (by decide) rfl ?_
  refine go_if_eq (pc' := 10) (tgt := 12) dX10_run_7 (by decide) rfl (fun c101 => ?_) (fun c101 => ?_)
  · have hf := it c101 hf
    refine go_aload_n (i := 0) (pc' := 13) dX10_run_12 rfl rfl rfl ?_
    refine go_iconst (v := 0) (pc' := 14) dX10_run_13 rfl (by decide) ?_
    obtain ⟨σ102, e103, hf⟩ := st_some hf
    refine go_putI (pc' := 17) dX10_run_14 rfl pf_LandBase_63 R (R.at rfl (by decide)) (by decide) rfl rfl rfl (fun h104 R => ?_)
    have R := Rl.cast e103 R
    refine go_aload_n (i := 0) (pc' := 18) dX10_run_17 rfl rfl rfl ?_
    refine go_iconst (v := (-1)) (pc' := 19) dX10_run_18 rfl (by decide) ?_
    obtain ⟨σ105, e106, hf⟩ := st_some hf
    refine go_putI (pc' := 22) dX10_run_19 rfl pf_LandBase_70 R (R.at rfl (by decide)) (by decide) rfl rfl rfl (fun h107 R => ?_)
    have R := Rl.cast e106 R
    refine go_iconst (v := 0) (pc' := 23) dX10_run_22 rfl (by decide) ?_
    refine go_istore_nE rfl (i := 1) (pc' := 24) dX10_run_23 rfl rfl (by decide) rfl ?_
    refine go_aload_n (i := 0) (pc' := 25) dX10_run_24 rfl rfl rfl ?_
    refine go_getS (pc' := 28) dX10_run_25 rfl gf_LandBase_10 R (R.at rfl (by decide)) (by decide) rfl ?_
    obtain ⟨v108, σ109, e110, hf⟩ := bd_some hf
    refine go_invV (As := []) (pc' := 31) dX10_run_28 rfl cf_X10_run_84 rfl (R.ob (R.at rfl (by decide))) rfl rfl (Nat.le_of_ble_eq_true rfl) (c_X9_rewind R e110) (fun q111v h112 q111 => ?_)
    obtain ⟨rfl, R⟩ := q111
    exact t_X10_run_31 xFU R hf
  · have hf := ie c101 hf
    refine go_iconst (v := (-1)) (pc' := 11) dX10_run_10 rfl (by decide) ?_
    obtain rfl := Option.some.inj hf
    exact Go.ret (v := some (.int _)) dX10_run_11 ⟨_, rfl⟩ ⟨rfl, rfl, R⟩
def f_X10_wrong (n : Nat)  (σ : xσ) : Option (Int32 × xσ) := some (sI σ 0 10, σ)
set_option maxRecDepth 100000 in
set_option maxHeartbeats 4000000 in
theorem c_X10_wrong {G : xG} {n : Nat} {σ : xσ} {h : xH}  {v1 : Int32} {σ1 : xσ} (R : Rl n σ h) (hf : f_X10_wrong n σ = some (v1, σ1)) : Ca G mX10_wrong [.ref 0] h (fun v h' => v = some (.int v1) ∧ Rl n σ1 h') := by
  refine Ca.of rfl (Nat.le_of_ble_eq_true rfl) ?_
  generalize hr : (v1, σ1) = r at hf
  suffices q : Go G mX10_wrong 0 (xent (xMl mX10_wrong) [.ref 0]) [] h (fun v h' => xRok (xRt mX10_wrong) v ∧ v = some (.int r.1) ∧ Rl n r.2 h') by
    subst hr
    exact q
  clear hr
  rw [f_X10_wrong] at hf
  refine go_aload_n (i := 0) (pc' := 1) dX10_wrong_0 rfl rfl rfl ?_
  refine go_getS (pc' := 4) dX10_wrong_1 rfl gf_LandBase_70 R (R.at rfl (by decide)) (by decide) rfl ?_
  obtain rfl := Option.some.inj hf
  exact Go.ret (v := some (.int _)) dX10_wrong_4 ⟨_, rfl⟩ ⟨rfl, rfl, R⟩
def f_X10_outputs (n : Nat)  (σ : xσ) : Option (Int32 × xσ) := some (sI σ 0 8, σ)
set_option maxRecDepth 100000 in
set_option maxHeartbeats 4000000 in
theorem c_X10_outputs {G : xG} {n : Nat} {σ : xσ} {h : xH}  {v1 : Int32} {σ1 : xσ} (R : Rl n σ h) (hf : f_X10_outputs n σ = some (v1, σ1)) : Ca G mX10_outputs [.ref 0] h (fun v h' => v = some (.int v1) ∧ Rl n σ1 h') := by
  refine Ca.of rfl (Nat.le_of_ble_eq_true rfl) ?_
  generalize hr : (v1, σ1) = r at hf
  suffices q : Go G mX10_outputs 0 (xent (xMl mX10_outputs) [.ref 0]) [] h (fun v h' => xRok (xRt mX10_outputs) v ∧ v = some (.int r.1) ∧ Rl n r.2 h') by
    subst hr
    exact q
  clear hr
  rw [f_X10_outputs] at hf
  refine go_aload_n (i := 0) (pc' := 1) dX10_outputs_0 rfl rfl rfl ?_
  refine go_getS (pc' := 4) dX10_outputs_1 rfl gf_LandBase_63 R (R.at rfl (by decide)) (by decide) rfl ?_
  obtain rfl := Option.some.inj hf
  exact Go.ret (v := some (.int _)) dX10_outputs_4 ⟨_, rfl⟩ ⟨rfl, rfl, R⟩
def f_X10_out (n : Nat) (x1 : Int32) (σ : xσ) : Option (Int32 × xσ) := if x1 < 0 then some (0, σ) else if (sI σ 0 8) ≤ x1 then some (0, σ) else gd (inb x1 20000) (some (sI σ 232 x1.toNatClampNeg, σ))
set_option maxRecDepth 100000 in
set_option maxHeartbeats 4000000 in
theorem c_X10_out {G : xG} {n : Nat} {σ : xσ} {h : xH} {x1 : Int32} {v1 : Int32} {σ1 : xσ} (R : Rl n σ h) (hf : f_X10_out n x1 σ = some (v1, σ1)) : Ca G mX10_out [.ref 0, .int x1] h (fun v h' => v = some (.int v1) ∧ Rl n σ1 h') := by
  refine Ca.of rfl (Nat.le_of_ble_eq_true rfl) ?_
  generalize hr : (v1, σ1) = r at hf
  suffices q : Go G mX10_out 0 (xent (xMl mX10_out) [.ref 0, .int x1]) [] h (fun v h' => xRok (xRt mX10_out) v ∧ v = some (.int r.1) ∧ Rl n r.2 h') by
    subst hr
    exact q
  clear hr
  rw [f_X10_out] at hf
  refine go_iload_n (i := 1) (pc' := 1) dX10_out_0 rfl rfl rfl ?_
  refine go_if_lt (pc' := 4) (tgt := 21) dX10_out_1 (by decide) rfl (fun c101 => ?_) (fun c101 => ?_)
  · have hf := it c101 hf
    refine go_iconst (v := 0) (pc' := 22) dX10_out_21 rfl (by decide) ?_
    obtain rfl := Option.some.inj hf
    exact Go.ret (v := some (.int _)) dX10_out_22 ⟨_, rfl⟩ ⟨rfl, rfl, R⟩
  · have hf := ie c101 hf
    refine go_iload_n (i := 1) (pc' := 5) dX10_out_4 rfl rfl rfl ?_
    refine go_aload_n (i := 0) (pc' := 6) dX10_out_5 rfl rfl rfl ?_
    refine go_getS (pc' := 9) dX10_out_6 rfl gf_LandBase_63 R (R.at rfl (by decide)) (by decide) rfl ?_
    refine go_icmp_ge (pc' := 12) (tgt := 21) dX10_out_9 (by decide) rfl (fun c102 => ?_) (fun c102 => ?_)
    · have hf := it c102 hf
      refine go_iconst (v := 0) (pc' := 22) dX10_out_21 rfl (by decide) ?_
      obtain rfl := Option.some.inj hf
      exact Go.ret (v := some (.int _)) dX10_out_22 ⟨_, rfl⟩ ⟨rfl, rfl, R⟩
    · have hf := ie c102 hf
      refine go_aload_n (i := 0) (pc' := 13) dX10_out_12 rfl rfl rfl ?_
      refine go_getS (pc' := 16) dX10_out_13 rfl gf_LandBase_60 R (R.at rfl (by decide)) (by decide) rfl ?_
      refine go_iload_n (i := 1) (pc' := 17) dX10_out_16 rfl rfl rfl ?_
      obtain ⟨g103, hf⟩ := gd_some hf
      refine go_ialoadS (pc' := 18) dX10_out_17 rfl R (R.aa rfl (by decide)) g103 ?_
      refine go_goto (pc' := 0) (tgt := 22) dX10_out_18 (by decide) ?_
      obtain rfl := Option.some.inj hf
      exact Go.ret (v := some (.int _)) dX10_out_22 ⟨_, rfl⟩ ⟨rfl, rfl, R⟩
def f_X10_crash (n : Nat) (x1 : Int32) (x2 : Int32) (x3 : Int32) (σ : xσ) : Option (Int32 × xσ) := if (sI σ 10 6) = 0 then if x1 < 0 then some (0, σ) else if 1 < x1 then some (0, σ) else if x2 < 1 then some (0, σ) else if 1000 < x2 then some (0, σ) else if x3 < 0 then some (0, σ) else if x3 ≤ 200 then st (wI σ 10 10 x1) (fun σ108 => st (wI σ108 10 11 x2) (fun σ111 => some (1, σ111))) else some (0, σ) else some (0, σ)
set_option maxRecDepth 100000 in
set_option maxHeartbeats 4000000 in
theorem c_X10_crash {G : xG} {n : Nat} {σ : xσ} {h : xH} {x1 : Int32} {x2 : Int32} {x3 : Int32} {v1 : Int32} {σ1 : xσ} (R : Rl n σ h) (hf : f_X10_crash n x1 x2 x3 σ = some (v1, σ1)) : Ca G mX10_crash [.ref 0, .int x1, .int x2, .int x3] h (fun v h' => v = some (.int v1) ∧ Rl n σ1 h') := by
  refine Ca.of rfl (Nat.le_of_ble_eq_true rfl) ?_
  generalize hr : (v1, σ1) = r at hf
  suffices q : Go G mX10_crash 0 (xent (xMl mX10_crash) [.ref 0, .int x1, .int x2, .int x3]) [] h (fun v h' => xRok (xRt mX10_crash) v ∧ v = some (.int r.1) ∧ Rl n r.2 h') by
    subst hr
    exact q
  clear hr
  rw [f_X10_crash] at hf
  refine go_aload_n (i := 0) (pc' := 1) dX10_crash_0 rfl rfl rfl ?_
  refine go_getS (pc' := 4) dX10_crash_1 rfl gf_LandBase_26 R (R.at rfl (by decide)) (by decide) rfl ?_
  refine go_getS (pc' := 7) dX10_crash_4 rfl gf_LandBase_80 R (R.at rfl (by decide)) (by decide) rfl ?_
  refine go_if_ne (pc' := 10) (tgt := 42) dX10_crash_7 (by decide) rfl (fun c101 => ?_) (fun c101 => ?_)
  · have hf := ie c101 hf
    refine go_iconst (v := 0) (pc' := 43) dX10_crash_42 rfl (by decide) ?_
    obtain rfl := Option.some.inj hf
    exact Go.ret (v := some (.int _)) dX10_crash_43 ⟨_, rfl⟩ ⟨rfl, rfl, R⟩
  · have hf := it c101 hf
    refine go_iload_n (i := 1) (pc' := 11) dX10_crash_10 rfl rfl rfl ?_
    refine go_if_lt (pc' := 14) (tgt := 42) dX10_crash_11 (by decide) rfl (fun c102 => ?_) (fun c102 => ?_)
    · have hf := it c102 hf
      refine go_iconst (v := 0) (pc' := 43) dX10_crash_42 rfl (by decide) ?_
      obtain rfl := Option.some.inj hf
      exact Go.ret (v := some (.int _)) dX10_crash_43 ⟨_, rfl⟩ ⟨rfl, rfl, R⟩
    · have hf := ie c102 hf
      refine go_iload_n (i := 1) (pc' := 15) dX10_crash_14 rfl rfl rfl ?_
      refine go_iconst (v := 1) (pc' := 16) dX10_crash_15 rfl (by decide) ?_
      refine go_icmp_gt (pc' := 19) (tgt := 42) dX10_crash_16 (by decide) rfl (fun c103 => ?_) (fun c103 => ?_)
      · have hf := it c103 hf
        refine go_iconst (v := 0) (pc' := 43) dX10_crash_42 rfl (by decide) ?_
        obtain rfl := Option.some.inj hf
        exact Go.ret (v := some (.int _)) dX10_crash_43 ⟨_, rfl⟩ ⟨rfl, rfl, R⟩
      · have hf := ie c103 hf
        refine go_iload_n (i := 2) (pc' := 20) dX10_crash_19 rfl rfl rfl ?_
        refine go_iconst (v := 1) (pc' := 21) dX10_crash_20 rfl (by decide) ?_
        refine go_icmp_lt (pc' := 24) (tgt := 42) dX10_crash_21 (by decide) rfl (fun c104 => ?_) (fun c104 => ?_)
        · have hf := it c104 hf
          refine go_iconst (v := 0) (pc' := 43) dX10_crash_42 rfl (by decide) ?_
          obtain rfl := Option.some.inj hf
          exact Go.ret (v := some (.int _)) dX10_crash_43 ⟨_, rfl⟩ ⟨rfl, rfl, R⟩
        · have hf := ie c104 hf
          refine go_iload_n (i := 2) (pc' := 25) dX10_crash_24 rfl rfl rfl ?_
          refine go_sipush (v := 1000) (pc' := 28) dX10_crash_25 rfl (by decide) ?_
          refine go_icmp_gt (pc' := 31) (tgt := 42) dX10_crash_28 (by decide) rfl (fun c105 => ?_) (fun c105 => ?_)
          · have hf := it c105 hf
            refine go_iconst (v := 0) (pc' := 43) dX10_crash_42 rfl (by decide) ?_
            obtain rfl := Option.some.inj hf
            exact Go.ret (v := some (.int _)) dX10_crash_43 ⟨_, rfl⟩ ⟨rfl, rfl, R⟩
          · have hf := ie c105 hf
            refine go_iload_n (i := 3) (pc' := 32) dX10_crash_31 rfl rfl rfl ?_
            refine go_if_lt (pc' := 35) (tgt := 42) dX10_crash_32 (by decide) rfl (fun c106 => ?_) (fun c106 => ?_)
            · have hf := it c106 hf
              refine go_iconst (v := 0) (pc' := 43) dX10_crash_42 rfl (by decide) ?_
              obtain rfl := Option.some.inj hf
              exact Go.ret (v := some (.int _)) dX10_crash_43 ⟨_, rfl⟩ ⟨rfl, rfl, R⟩
            · have hf := ie c106 hf
              refine go_iload_n (i := 3) (pc' := 36) dX10_crash_35 rfl rfl rfl ?_
              refine go_sipush (v := 200) (pc' := 39) dX10_crash_36 rfl (by decide) ?_
              refine go_icmp_le (pc' := 42) (tgt := 44) dX10_crash_39 (by decide) rfl (fun c107 => ?_) (fun c107 => ?_)
              · have hf := it c107 hf
                refine go_aload_n (i := 0) (pc' := 45) dX10_crash_44 rfl rfl rfl ?_
                refine go_getS (pc' := 48) dX10_crash_45 rfl gf_LandBase_26 R (R.at rfl (by decide)) (by decide) rfl ?_
                refine go_iload_n (i := 1) (pc' := 49) dX10_crash_48 rfl rfl rfl ?_
                obtain ⟨σ108, e109, hf⟩ := st_some hf
                refine go_putI (pc' := 52) dX10_crash_49 rfl pf_LandBase_136 R (R.at rfl (by decide)) (by decide) rfl rfl rfl (fun h110 R => ?_)
                have R := Rl.cast e109 R
                refine go_aload_n (i := 0) (pc' := 53) dX10_crash_52 rfl rfl rfl ?_
                refine go_getS (pc' := 56) dX10_crash_53 rfl gf_LandBase_26 R (R.at rfl (by decide)) (by decide) rfl ?_
                refine go_iload_n (i := 2) (pc' := 57) dX10_crash_56 rfl rfl rfl ?_
                obtain ⟨σ111, e112, hf⟩ := st_some hf
                refine go_putI (pc' := 60) dX10_crash_57 rfl pf_LandBase_139 R (R.at rfl (by decide)) (by decide) rfl rfl rfl (fun h113 R => ?_)
                have R := Rl.cast e112 R
                refine go_iconst (v := 1) (pc' := 61) dX10_crash_60 rfl (by decide) ?_
                obtain rfl := Option.some.inj hf
                exact Go.ret (v := some (.int _)) dX10_crash_61 ⟨_, rfl⟩ ⟨rfl, rfl, R⟩
              · have hf := ie c107 hf
                refine go_iconst (v := 0) (pc' := 43) dX10_crash_42 rfl (by decide) ?_
                obtain rfl := Option.some.inj hf
                exact Go.ret (v := some (.int _)) dX10_crash_43 ⟨_, rfl⟩ ⟨rfl, rfl, R⟩
def f_X10_recover (n : Nat)  (σ : xσ) : Option (Int32 × xσ) := bd (f_X3_restore n σ) (fun v101 σ102 => some (sI σ102 11 2, σ102))
set_option maxRecDepth 100000 in
set_option maxHeartbeats 4000000 in
theorem c_X10_recover {G : xG} {n : Nat} {σ : xσ} {h : xH}  {v1 : Int32} {σ1 : xσ} (R : Rl n σ h) (hf : f_X10_recover n σ = some (v1, σ1)) : Ca G mX10_recover [.ref 0] h (fun v h' => v = some (.int v1) ∧ Rl n σ1 h') := by
  refine Ca.of rfl (Nat.le_of_ble_eq_true rfl) ?_
  generalize hr : (v1, σ1) = r at hf
  suffices q : Go G mX10_recover 0 (xent (xMl mX10_recover) [.ref 0]) [] h (fun v h' => xRok (xRt mX10_recover) v ∧ v = some (.int r.1) ∧ Rl n r.2 h') by
    subst hr
    exact q
  clear hr
  rw [f_X10_recover] at hf
  refine go_aload_n (i := 0) (pc' := 1) dX10_recover_0 rfl rfl rfl ?_
  refine go_getS (pc' := 4) dX10_recover_1 rfl gf_LandBase_26 R (R.at rfl (by decide)) (by decide) rfl ?_
  obtain ⟨v101, σ102, e103, hf⟩ := bd_some hf
  refine go_invV (As := []) (pc' := 7) dX10_recover_4 rfl cf_X10_recover_142 rfl (R.ob (R.at rfl (by decide))) rfl rfl (Nat.le_of_ble_eq_true rfl) (c_X3_restore R e103) (fun q104v h105 q104 => ?_)
  obtain ⟨rfl, R⟩ := q104
  refine go_aload_n (i := 0) (pc' := 8) dX10_recover_7 rfl rfl rfl ?_
  refine go_getS (pc' := 11) dX10_recover_8 rfl gf_LandBase_26 R (R.at rfl (by decide)) (by decide) rfl ?_
  refine go_getS (pc' := 14) dX10_recover_11 rfl gf_LandBase_145 R (R.at rfl (by decide)) (by decide) rfl ?_
  refine go_getS (pc' := 17) dX10_recover_14 rfl gf_LandBase_149 R (R.at rfl (by decide)) (by decide) rfl ?_
  obtain rfl := Option.some.inj hf
  exact Go.ret (v := some (.int _)) dX10_recover_17 ⟨_, rfl⟩ ⟨rfl, rfl, R⟩
def f_X10_isDown (n : Nat)  (σ : xσ) : Option (Int32 × xσ) := gd (sI σ 10 6 = 0 ∨ sI σ 10 6 = 1) (some (sI σ 10 6, σ))
set_option maxRecDepth 100000 in
set_option maxHeartbeats 4000000 in
theorem c_X10_isDown {G : xG} {n : Nat} {σ : xσ} {h : xH}  {v1 : Int32} {σ1 : xσ} (R : Rl n σ h) (hf : f_X10_isDown n σ = some (v1, σ1)) : Ca G mX10_isDown [.ref 0] h (fun v h' => v = some (.int v1) ∧ Rl n σ1 h') := by
  refine Ca.of rfl (Nat.le_of_ble_eq_true rfl) ?_
  generalize hr : (v1, σ1) = r at hf
  suffices q : Go G mX10_isDown 0 (xent (xMl mX10_isDown) [.ref 0]) [] h (fun v h' => xRok (xRt mX10_isDown) v ∧ v = some (.int r.1) ∧ Rl n r.2 h') by
    subst hr
    exact q
  clear hr
  rw [f_X10_isDown] at hf
  refine go_aload_n (i := 0) (pc' := 1) dX10_isDown_0 rfl rfl rfl ?_
  refine go_getS (pc' := 4) dX10_isDown_1 rfl gf_LandBase_26 R (R.at rfl (by decide)) (by decide) rfl ?_
  refine go_getS (pc' := 7) dX10_isDown_4 rfl gf_LandBase_80 R (R.at rfl (by decide)) (by decide) rfl ?_
  obtain ⟨g101, hf⟩ := gd_some hf
  obtain rfl := Option.some.inj hf
  exact Go.ret (v := some (.int _)) dX10_isDown_7 ⟨_, rfl⟩ ⟨(nb g101), rfl, R⟩
def f_X10_isOpen (n : Nat)  (σ : xσ) : Option (Int32 × xσ) := if (sI σ 10 5) = 0 then some (0, σ) else if (sI σ 10 6) = 0 then some (1, σ) else some (0, σ)
set_option maxRecDepth 100000 in
set_option maxHeartbeats 4000000 in
theorem c_X10_isOpen {G : xG} {n : Nat} {σ : xσ} {h : xH}  {v1 : Int32} {σ1 : xσ} (R : Rl n σ h) (hf : f_X10_isOpen n σ = some (v1, σ1)) : Ca G mX10_isOpen [.ref 0] h (fun v h' => v = some (.int v1) ∧ Rl n σ1 h') := by
  refine Ca.of rfl (Nat.le_of_ble_eq_true rfl) ?_
  generalize hr : (v1, σ1) = r at hf
  suffices q : Go G mX10_isOpen 0 (xent (xMl mX10_isOpen) [.ref 0]) [] h (fun v h' => xRok (xRt mX10_isOpen) v ∧ v = some (.int r.1) ∧ Rl n r.2 h') by
    subst hr
    exact q
  clear hr
  rw [f_X10_isOpen] at hf
  refine go_aload_n (i := 0) (pc' := 1) dX10_isOpen_0 rfl rfl rfl ?_
  refine go_getS (pc' := 4) dX10_isOpen_1 rfl gf_LandBase_26 R (R.at rfl (by decide)) (by decide) rfl ?_
  refine go_getS (pc' := 7) dX10_isOpen_4 rfl gf_LandBase_154 R (R.at rfl (by decide)) (by decide) rfl ?_
  refine go_if_eq (pc' := 10) (tgt := 24) dX10_isOpen_7 (by decide) rfl (fun c101 => ?_) (fun c101 => ?_)
  · have hf := it c101 hf
    refine go_iconst (v := 0) (pc' := 25) dX10_isOpen_24 rfl (by decide) ?_
    obtain rfl := Option.some.inj hf
    exact Go.ret (v := some (.int _)) dX10_isOpen_25 ⟨_, rfl⟩ ⟨rfl, rfl, R⟩
  · have hf := ie c101 hf
    refine go_aload_n (i := 0) (pc' := 11) dX10_isOpen_10 rfl rfl rfl ?_
    refine go_getS (pc' := 14) dX10_isOpen_11 rfl gf_LandBase_26 R (R.at rfl (by decide)) (by decide) rfl ?_
    refine go_getS (pc' := 17) dX10_isOpen_14 rfl gf_LandBase_80 R (R.at rfl (by decide)) (by decide) rfl ?_
    refine go_if_ne (pc' := 20) (tgt := 24) dX10_isOpen_17 (by decide) rfl (fun c102 => ?_) (fun c102 => ?_)
    · have hf := ie c102 hf
      refine go_iconst (v := 0) (pc' := 25) dX10_isOpen_24 rfl (by decide) ?_
      obtain rfl := Option.some.inj hf
      exact Go.ret (v := some (.int _)) dX10_isOpen_25 ⟨_, rfl⟩ ⟨rfl, rfl, R⟩
    · have hf := it c102 hf
      refine go_iconst (v := 1) (pc' := 21) dX10_isOpen_20 rfl (by decide) ?_
      refine go_goto (pc' := 0) (tgt := 25) dX10_isOpen_21 (by decide) ?_
      obtain rfl := Option.some.inj hf
      exact Go.ret (v := some (.int _)) dX10_isOpen_25 ⟨_, rfl⟩ ⟨rfl, rfl, R⟩
def f_X10_live (n : Nat)  (σ : xσ) : Option (Int32 × xσ) := if (sI σ 10 6) = 0 then some (sI σ 11 2, σ) else some ((-1), σ)
set_option maxRecDepth 100000 in
set_option maxHeartbeats 4000000 in
theorem c_X10_live {G : xG} {n : Nat} {σ : xσ} {h : xH}  {v1 : Int32} {σ1 : xσ} (R : Rl n σ h) (hf : f_X10_live n σ = some (v1, σ1)) : Ca G mX10_live [.ref 0] h (fun v h' => v = some (.int v1) ∧ Rl n σ1 h') := by
  refine Ca.of rfl (Nat.le_of_ble_eq_true rfl) ?_
  generalize hr : (v1, σ1) = r at hf
  suffices q : Go G mX10_live 0 (xent (xMl mX10_live) [.ref 0]) [] h (fun v h' => xRok (xRt mX10_live) v ∧ v = some (.int r.1) ∧ Rl n r.2 h') by
    subst hr
    exact q
  clear hr
  rw [f_X10_live] at hf
  refine go_aload_n (i := 0) (pc' := 1) dX10_live_0 rfl rfl rfl ?_
  refine go_getS (pc' := 4) dX10_live_1 rfl gf_LandBase_26 R (R.at rfl (by decide)) (by decide) rfl ?_
  refine go_getS (pc' := 7) dX10_live_4 rfl gf_LandBase_80 R (R.at rfl (by decide)) (by decide) rfl ?_
  refine go_if_eq (pc' := 10) (tgt := 14) dX10_live_7 (by decide) rfl (fun c101 => ?_) (fun c101 => ?_)
  · have hf := it c101 hf
    refine go_aload_n (i := 0) (pc' := 15) dX10_live_14 rfl rfl rfl ?_
    refine go_getS (pc' := 18) dX10_live_15 rfl gf_LandBase_26 R (R.at rfl (by decide)) (by decide) rfl ?_
    refine go_getS (pc' := 21) dX10_live_18 rfl gf_LandBase_145 R (R.at rfl (by decide)) (by decide) rfl ?_
    refine go_getS (pc' := 24) dX10_live_21 rfl gf_LandBase_149 R (R.at rfl (by decide)) (by decide) rfl ?_
    obtain rfl := Option.some.inj hf
    exact Go.ret (v := some (.int _)) dX10_live_24 ⟨_, rfl⟩ ⟨rfl, rfl, R⟩
  · have hf := ie c101 hf
    refine go_iconst (v := (-1)) (pc' := 11) dX10_live_10 rfl (by decide) ?_
    refine go_goto (pc' := 0) (tgt := 24) dX10_live_11 (by decide) ?_
    obtain rfl := Option.some.inj hf
    exact Go.ret (v := some (.int _)) dX10_live_24 ⟨_, rfl⟩ ⟨rfl, rfl, R⟩
def f_X10_idAt (n : Nat) (x1 : Int32) (σ : xσ) : Option (Int32 × xσ) := if (sI σ 10 6) = 0 then if x1 < 0 then some ((-1), σ) else if x1 < (sI σ 11 2) then gd (inb x1 200) (some (sI σ 12 x1.toNatClampNeg, σ)) else some ((-1), σ) else some ((-1), σ)
set_option maxRecDepth 100000 in
set_option maxHeartbeats 4000000 in
theorem c_X10_idAt {G : xG} {n : Nat} {σ : xσ} {h : xH} {x1 : Int32} {v1 : Int32} {σ1 : xσ} (R : Rl n σ h) (hf : f_X10_idAt n x1 σ = some (v1, σ1)) : Ca G mX10_idAt [.ref 0, .int x1] h (fun v h' => v = some (.int v1) ∧ Rl n σ1 h') := by
  refine Ca.of rfl (Nat.le_of_ble_eq_true rfl) ?_
  generalize hr : (v1, σ1) = r at hf
  suffices q : Go G mX10_idAt 0 (xent (xMl mX10_idAt) [.ref 0, .int x1]) [] h (fun v h' => xRok (xRt mX10_idAt) v ∧ v = some (.int r.1) ∧ Rl n r.2 h') by
    subst hr
    exact q
  clear hr
  rw [f_X10_idAt] at hf
  refine go_aload_n (i := 0) (pc' := 1) dX10_idAt_0 rfl rfl rfl ?_
  refine go_getS (pc' := 4) dX10_idAt_1 rfl gf_LandBase_26 R (R.at rfl (by decide)) (by decide) rfl ?_
  refine go_getS (pc' := 7) dX10_idAt_4 rfl gf_LandBase_80 R (R.at rfl (by decide)) (by decide) rfl ?_
  refine go_if_ne (pc' := 10) (tgt := 28) dX10_idAt_7 (by decide) rfl (fun c101 => ?_) (fun c101 => ?_)
  · have hf := ie c101 hf
    refine go_iconst (v := (-1)) (pc' := 29) dX10_idAt_28 rfl (by decide) ?_
    obtain rfl := Option.some.inj hf
    exact Go.ret (v := some (.int _)) dX10_idAt_29 ⟨_, rfl⟩ ⟨rfl, rfl, R⟩
  · have hf := it c101 hf
    refine go_iload_n (i := 1) (pc' := 11) dX10_idAt_10 rfl rfl rfl ?_
    refine go_if_lt (pc' := 14) (tgt := 28) dX10_idAt_11 (by decide) rfl (fun c102 => ?_) (fun c102 => ?_)
    · have hf := it c102 hf
      refine go_iconst (v := (-1)) (pc' := 29) dX10_idAt_28 rfl (by decide) ?_
      obtain rfl := Option.some.inj hf
      exact Go.ret (v := some (.int _)) dX10_idAt_29 ⟨_, rfl⟩ ⟨rfl, rfl, R⟩
    · have hf := ie c102 hf
      refine go_iload_n (i := 1) (pc' := 15) dX10_idAt_14 rfl rfl rfl ?_
      refine go_aload_n (i := 0) (pc' := 16) dX10_idAt_15 rfl rfl rfl ?_
      refine go_getS (pc' := 19) dX10_idAt_16 rfl gf_LandBase_26 R (R.at rfl (by decide)) (by decide) rfl ?_
      refine go_getS (pc' := 22) dX10_idAt_19 rfl gf_LandBase_145 R (R.at rfl (by decide)) (by decide) rfl ?_
      refine go_getS (pc' := 25) dX10_idAt_22 rfl gf_LandBase_149 R (R.at rfl (by decide)) (by decide) rfl ?_
      refine go_icmp_lt (pc' := 28) (tgt := 30) dX10_idAt_25 (by decide) rfl (fun c103 => ?_) (fun c103 => ?_)
      · have hf := it c103 hf
        refine go_aload_n (i := 0) (pc' := 31) dX10_idAt_30 rfl rfl rfl ?_
        refine go_getS (pc' := 34) dX10_idAt_31 rfl gf_LandBase_26 R (R.at rfl (by decide)) (by decide) rfl ?_
        refine go_getS (pc' := 37) dX10_idAt_34 rfl gf_LandBase_145 R (R.at rfl (by decide)) (by decide) rfl ?_
        refine go_getS (pc' := 40) dX10_idAt_37 rfl gf_LandBase_157 R (R.at rfl (by decide)) (by decide) rfl ?_
        refine go_iload_n (i := 1) (pc' := 41) dX10_idAt_40 rfl rfl rfl ?_
        obtain ⟨g104, hf⟩ := gd_some hf
        refine go_ialoadS (pc' := 42) dX10_idAt_41 rfl R (R.aa rfl (by decide)) g104 ?_
        obtain rfl := Option.some.inj hf
        exact Go.ret (v := some (.int _)) dX10_idAt_42 ⟨_, rfl⟩ ⟨rfl, rfl, R⟩
      · have hf := ie c103 hf
        refine go_iconst (v := (-1)) (pc' := 29) dX10_idAt_28 rfl (by decide) ?_
        obtain rfl := Option.some.inj hf
        exact Go.ret (v := some (.int _)) dX10_idAt_29 ⟨_, rfl⟩ ⟨rfl, rfl, R⟩
def f_X10_shapeOf (n : Nat) (x1 : Int32) (σ : xσ) : Option (Option Nat × xσ) := if (sI σ 10 6) = 0 then bd (f_X8_shapeWith n 11 x1 σ) (fun v102 σ103 => om v102 (some (none, σ103)) (fun a107 => gd (okS n a107) (some (some a107, σ103)))) else some (none, σ)
set_option maxRecDepth 100000 in
set_option maxHeartbeats 4000000 in
theorem c_X10_shapeOf {G : xG} {n : Nat} {σ : xσ} {h : xH} {x1 : Int32} {v1 : Option Nat} {σ1 : xσ} (R : Rl n σ h) (hf : f_X10_shapeOf n x1 σ = some (v1, σ1)) : Ca G mX10_shapeOf [.ref 0, .int x1] h (fun v h' => v = some (va_rf v1) ∧ Rl n σ1 h') := by
  refine Ca.of rfl (Nat.le_of_ble_eq_true rfl) ?_
  generalize hr : (v1, σ1) = r at hf
  suffices q : Go G mX10_shapeOf 0 (xent (xMl mX10_shapeOf) [.ref 0, .int x1]) [] h (fun v h' => xRok (xRt mX10_shapeOf) v ∧ v = some (va_rf r.1) ∧ Rl n r.2 h') by
    subst hr
    exact q
  clear hr
  rw [f_X10_shapeOf] at hf
  refine go_aload_n (i := 0) (pc' := 1) dX10_shapeOf_0 rfl rfl rfl ?_
  refine go_getS (pc' := 4) dX10_shapeOf_1 rfl gf_LandBase_26 R (R.at rfl (by decide)) (by decide) rfl ?_
  refine go_getS (pc' := 7) dX10_shapeOf_4 rfl gf_LandBase_80 R (R.at rfl (by decide)) (by decide) rfl ?_
  refine go_if_eq (pc' := 10) (tgt := 14) dX10_shapeOf_7 (by decide) rfl (fun c101 => ?_) (fun c101 => ?_)
  · have hf := it c101 hf
    refine go_aload_n (i := 0) (pc' := 15) dX10_shapeOf_14 rfl rfl rfl ?_
    refine go_getS (pc' := 18) dX10_shapeOf_15 rfl gf_LandBase_26 R (R.at rfl (by decide)) (by decide) rfl ?_
    refine go_getS (pc' := 21) dX10_shapeOf_18 rfl gf_LandBase_145 R (R.at rfl (by decide)) (by decide) rfl ?_
    refine go_iload_n (i := 1) (pc' := 22) dX10_shapeOf_21 rfl rfl rfl ?_
    obtain ⟨v102, σ103, e104, hf⟩ := bd_some hf
    refine go_invV (As := [_]) (pc' := 25) dX10_shapeOf_22 rfl cf_X10_shapeOf_208 rfl (R.ob (R.at rfl (by decide))) rfl rfl (Nat.le_of_ble_eq_true rfl) (c_X8_shapeWith R e104) (fun q105v h106 q105 => ?_)
    obtain ⟨rfl, R⟩ := q105
    cases v102 with
    | none =>
      obtain rfl := Option.some.inj hf
      exact Go.ret (v := some .null) dX10_shapeOf_25 (Or.inl rfl) ⟨trivial, rfl, R⟩
    | some a107 =>
      obtain ⟨g108, hf⟩ := gd_some hf
      obtain rfl := Option.some.inj hf
      exact Go.ret (v := some (.ref _)) dX10_shapeOf_25 (Or.inr ⟨_, rfl⟩) ⟨trivial, rfl, R⟩
  · have hf := ie c101 hf
    refine go_null (pc' := 11) dX10_shapeOf_10 rfl ?_
    refine go_goto (pc' := 0) (tgt := 25) dX10_shapeOf_11 (by decide) ?_
    obtain rfl := Option.some.inj hf
    exact Go.ret (v := some .null) dX10_shapeOf_25 (Or.inl rfl) ⟨trivial, rfl, R⟩
def f_X10_kindOf (n : Nat) (x1 : Int32) (σ : xσ) : Option (Int32 × xσ) := bd (f_X10_shapeOf n x1 σ) (fun v101 σ102 => om v101 (some ((-1), σ102)) (fun a106 => gd (okS n a106) (some (sI σ102 a106 0, σ102))))
set_option maxRecDepth 100000 in
set_option maxHeartbeats 4000000 in
theorem c_X10_kindOf {G : xG} {n : Nat} {σ : xσ} {h : xH} {x1 : Int32} {v1 : Int32} {σ1 : xσ} (R : Rl n σ h) (hf : f_X10_kindOf n x1 σ = some (v1, σ1)) : Ca G mX10_kindOf [.ref 0, .int x1] h (fun v h' => v = some (.int v1) ∧ Rl n σ1 h') := by
  refine Ca.of rfl (Nat.le_of_ble_eq_true rfl) ?_
  generalize hr : (v1, σ1) = r at hf
  suffices q : Go G mX10_kindOf 0 (xent (xMl mX10_kindOf) [.ref 0, .int x1]) [] h (fun v h' => xRok (xRt mX10_kindOf) v ∧ v = some (.int r.1) ∧ Rl n r.2 h') by
    subst hr
    exact q
  clear hr
  rw [f_X10_kindOf] at hf
  refine go_aload_n (i := 0) (pc' := 1) dX10_kindOf_0 rfl rfl rfl ?_
  refine go_iload_n (i := 1) (pc' := 2) dX10_kindOf_1 rfl rfl rfl ?_
  obtain ⟨v101, σ102, e103, hf⟩ := bd_some hf
  refine go_invV (As := [_]) (pc' := 5) dX10_kindOf_2 rfl cf_X10_kindOf_160 rfl (R.ob (R.at rfl (by decide))) rfl rfl (Nat.le_of_ble_eq_true rfl) (c_X10_shapeOf R e103) (fun q104v h105 q104 => ?_)
  obtain ⟨rfl, R⟩ := q104
  cases v101 with
  | none =>
    refine go_astore_n (i := 2) (pc' := 6) dX10_kindOf_5 rfl rfl (by decide) rfl ?_
    refine go_aload_n (i := 2) (pc' := 7) dX10_kindOf_6 rfl rfl rfl ?_
    refine go_ifnonnullN (pc' := 10) dX10_kindOf_7 rfl ?_
    refine go_iconst (v := (-1)) (pc' := 11) dX10_kindOf_10 rfl (by decide) ?_
    refine go_goto (pc' := 0) (tgt := 18) dX10_kindOf_11 (by decide) ?_
    obtain rfl := Option.some.inj hf
    exact Go.ret (v := some (.int _)) dX10_kindOf_18 ⟨_, rfl⟩ ⟨rfl, rfl, R⟩
  | some a106 =>
    obtain ⟨g107, hf⟩ := gd_some hf
    refine go_astore_n (i := 2) (pc' := 6) dX10_kindOf_5 rfl rfl (by decide) rfl ?_
    refine go_aload_n (i := 2) (pc' := 7) dX10_kindOf_6 rfl rfl rfl ?_
    refine go_ifnonnull (pc' := 0) (tgt := 14) dX10_kindOf_7 (by decide) ?_
    refine go_aload_n (i := 2) (pc' := 15) dX10_kindOf_14 rfl rfl rfl ?_
    refine go_getS (pc' := 18) dX10_kindOf_15 rfl gf_LandBase_164 R g107.at (by decide) rfl ?_
    obtain rfl := Option.some.inj hf
    exact Go.ret (v := some (.int _)) dX10_kindOf_18 ⟨_, rfl⟩ ⟨rfl, rfl, R⟩
def f_X10_places (n : Nat) (x1 : Int32) (σ : xσ) : Option (Int32 × xσ) := bd (f_X10_shapeOf n x1 σ) (fun v101 σ102 => om v101 (some ((-1), σ102)) (fun a106 => gd (okS n a106) (some (sI σ102 a106 1, σ102))))
set_option maxRecDepth 100000 in
set_option maxHeartbeats 4000000 in
theorem c_X10_places {G : xG} {n : Nat} {σ : xσ} {h : xH} {x1 : Int32} {v1 : Int32} {σ1 : xσ} (R : Rl n σ h) (hf : f_X10_places n x1 σ = some (v1, σ1)) : Ca G mX10_places [.ref 0, .int x1] h (fun v h' => v = some (.int v1) ∧ Rl n σ1 h') := by
  refine Ca.of rfl (Nat.le_of_ble_eq_true rfl) ?_
  generalize hr : (v1, σ1) = r at hf
  suffices q : Go G mX10_places 0 (xent (xMl mX10_places) [.ref 0, .int x1]) [] h (fun v h' => xRok (xRt mX10_places) v ∧ v = some (.int r.1) ∧ Rl n r.2 h') by
    subst hr
    exact q
  clear hr
  rw [f_X10_places] at hf
  refine go_aload_n (i := 0) (pc' := 1) dX10_places_0 rfl rfl rfl ?_
  refine go_iload_n (i := 1) (pc' := 2) dX10_places_1 rfl rfl rfl ?_
  obtain ⟨v101, σ102, e103, hf⟩ := bd_some hf
  refine go_invV (As := [_]) (pc' := 5) dX10_places_2 rfl cf_X10_places_160 rfl (R.ob (R.at rfl (by decide))) rfl rfl (Nat.le_of_ble_eq_true rfl) (c_X10_shapeOf R e103) (fun q104v h105 q104 => ?_)
  obtain ⟨rfl, R⟩ := q104
  cases v101 with
  | none =>
    refine go_astore_n (i := 2) (pc' := 6) dX10_places_5 rfl rfl (by decide) rfl ?_
    refine go_aload_n (i := 2) (pc' := 7) dX10_places_6 rfl rfl rfl ?_
    refine go_ifnonnullN (pc' := 10) dX10_places_7 rfl ?_
    refine go_iconst (v := (-1)) (pc' := 11) dX10_places_10 rfl (by decide) ?_
    refine go_goto (pc' := 0) (tgt := 18) dX10_places_11 (by decide) ?_
    obtain rfl := Option.some.inj hf
    exact Go.ret (v := some (.int _)) dX10_places_18 ⟨_, rfl⟩ ⟨rfl, rfl, R⟩
  | some a106 =>
    obtain ⟨g107, hf⟩ := gd_some hf
    refine go_astore_n (i := 2) (pc' := 6) dX10_places_5 rfl rfl (by decide) rfl ?_
    refine go_aload_n (i := 2) (pc' := 7) dX10_places_6 rfl rfl rfl ?_
    refine go_ifnonnull (pc' := 0) (tgt := 14) dX10_places_7 (by decide) ?_
    refine go_aload_n (i := 2) (pc' := 15) dX10_places_14 rfl rfl rfl ?_
    refine go_getS (pc' := 18) dX10_places_15 rfl gf_LandBase_169 R g107.at (by decide) rfl ?_
    obtain rfl := Option.some.inj hf
    exact Go.ret (v := some (.int _)) dX10_places_18 ⟨_, rfl⟩ ⟨rfl, rfl, R⟩
def f_X10_rings (n : Nat) (x1 : Int32) (σ : xσ) : Option (Int32 × xσ) := bd (f_X10_shapeOf n x1 σ) (fun v101 σ102 => om v101 (some ((-1), σ102)) (fun a106 => gd (okS n a106) (some (sI σ102 a106 2, σ102))))
set_option maxRecDepth 100000 in
set_option maxHeartbeats 4000000 in
theorem c_X10_rings {G : xG} {n : Nat} {σ : xσ} {h : xH} {x1 : Int32} {v1 : Int32} {σ1 : xσ} (R : Rl n σ h) (hf : f_X10_rings n x1 σ = some (v1, σ1)) : Ca G mX10_rings [.ref 0, .int x1] h (fun v h' => v = some (.int v1) ∧ Rl n σ1 h') := by
  refine Ca.of rfl (Nat.le_of_ble_eq_true rfl) ?_
  generalize hr : (v1, σ1) = r at hf
  suffices q : Go G mX10_rings 0 (xent (xMl mX10_rings) [.ref 0, .int x1]) [] h (fun v h' => xRok (xRt mX10_rings) v ∧ v = some (.int r.1) ∧ Rl n r.2 h') by
    subst hr
    exact q
  clear hr
  rw [f_X10_rings] at hf
  refine go_aload_n (i := 0) (pc' := 1) dX10_rings_0 rfl rfl rfl ?_
  refine go_iload_n (i := 1) (pc' := 2) dX10_rings_1 rfl rfl rfl ?_
  obtain ⟨v101, σ102, e103, hf⟩ := bd_some hf
  refine go_invV (As := [_]) (pc' := 5) dX10_rings_2 rfl cf_X10_rings_160 rfl (R.ob (R.at rfl (by decide))) rfl rfl (Nat.le_of_ble_eq_true rfl) (c_X10_shapeOf R e103) (fun q104v h105 q104 => ?_)
  obtain ⟨rfl, R⟩ := q104
  cases v101 with
  | none =>
    refine go_astore_n (i := 2) (pc' := 6) dX10_rings_5 rfl rfl (by decide) rfl ?_
    refine go_aload_n (i := 2) (pc' := 7) dX10_rings_6 rfl rfl rfl ?_
    refine go_ifnonnullN (pc' := 10) dX10_rings_7 rfl ?_
    refine go_iconst (v := (-1)) (pc' := 11) dX10_rings_10 rfl (by decide) ?_
    refine go_goto (pc' := 0) (tgt := 18) dX10_rings_11 (by decide) ?_
    obtain rfl := Option.some.inj hf
    exact Go.ret (v := some (.int _)) dX10_rings_18 ⟨_, rfl⟩ ⟨rfl, rfl, R⟩
  | some a106 =>
    obtain ⟨g107, hf⟩ := gd_some hf
    refine go_astore_n (i := 2) (pc' := 6) dX10_rings_5 rfl rfl (by decide) rfl ?_
    refine go_aload_n (i := 2) (pc' := 7) dX10_rings_6 rfl rfl rfl ?_
    refine go_ifnonnull (pc' := 0) (tgt := 14) dX10_rings_7 (by decide) ?_
    refine go_aload_n (i := 2) (pc' := 15) dX10_rings_14 rfl rfl rfl ?_
    refine go_getS (pc' := 18) dX10_rings_15 rfl gf_LandBase_170 R g107.at (by decide) rfl ?_
    obtain rfl := Option.some.inj hf
    exact Go.ret (v := some (.int _)) dX10_rings_18 ⟨_, rfl⟩ ⟨rfl, rfl, R⟩
def b_X10_at_34 (n : Nat) (σ : xσ) : Option (Int32 × xσ) := some (0, σ)
set_option maxRecDepth 100000 in
set_option maxHeartbeats 4000000 in
theorem t_X10_at_34 {G : xG} {n : Nat} {σ : xσ} {h : xH} {r : Int32 × xσ} {d0 : Option Value} {d1 : Option Value} {d2 : Option Value} {d3 : Option Value} {d4 : Option Value} : Rl n σ h → b_X10_at_34 n σ = some r → Go G mX10_at 34 [d0, d1, d2, d3, d4] [] h (fun v h' => xRok (xRt mX10_at) v ∧ v = some (.int r.1) ∧ Rl n r.2 h') := by
  intro R hf
  rw [b_X10_at_34] at hf
  refine go_iconst (v := 0) (pc' := 35) dX10_at_34 rfl (by decide) ?_
  obtain rfl := Option.some.inj hf
  exact Go.ret (v := some (.int _)) dX10_at_35 ⟨_, rfl⟩ ⟨rfl, rfl, R⟩
def f_X10_at (n : Nat) (x1 : Int32) (x2 : Int32) (x3 : Int32) (σ : xσ) : Option (Int32 × xσ) := bd (f_X10_shapeOf n x1 σ) (fun v101 σ102 => om v101 (b_X10_at_34 n σ102) (fun a106 => gd (okS n a106) (if x2 < 0 then some (0, σ102) else if (sI σ102 a106 1) ≤ x2 then some (0, σ102) else if x3 < 0 then some (0, σ102) else if x3 ≤ 1 then if x3 = 0 then gd (inb x2 40) (some (sI σ102 (a106 + 1) x2.toNatClampNeg, σ102)) else gd (inb x2 40) (some (sI σ102 (a106 + 2) x2.toNatClampNeg, σ102)) else some (0, σ102))))
set_option maxRecDepth 100000 in
set_option maxHeartbeats 4000000 in
theorem c_X10_at {G : xG} {n : Nat} {σ : xσ} {h : xH} {x1 : Int32} {x2 : Int32} {x3 : Int32} {v1 : Int32} {σ1 : xσ} (R : Rl n σ h) (hf : f_X10_at n x1 x2 x3 σ = some (v1, σ1)) : Ca G mX10_at [.ref 0, .int x1, .int x2, .int x3] h (fun v h' => v = some (.int v1) ∧ Rl n σ1 h') := by
  refine Ca.of rfl (Nat.le_of_ble_eq_true rfl) ?_
  generalize hr : (v1, σ1) = r at hf
  suffices q : Go G mX10_at 0 (xent (xMl mX10_at) [.ref 0, .int x1, .int x2, .int x3]) [] h (fun v h' => xRok (xRt mX10_at) v ∧ v = some (.int r.1) ∧ Rl n r.2 h') by
    subst hr
    exact q
  clear hr
  rw [f_X10_at] at hf
  refine go_aload_n (i := 0) (pc' := 1) dX10_at_0 rfl rfl rfl ?_
  refine go_iload_n (i := 1) (pc' := 2) dX10_at_1 rfl rfl rfl ?_
  obtain ⟨v101, σ102, e103, hf⟩ := bd_some hf
  refine go_invV (As := [_]) (pc' := 5) dX10_at_2 rfl cf_X10_at_160 rfl (R.ob (R.at rfl (by decide))) rfl rfl (Nat.le_of_ble_eq_true rfl) (c_X10_shapeOf R e103) (fun q104v h105 q104 => ?_)
  obtain ⟨rfl, R⟩ := q104
  cases v101 with
  | none =>
    refine go_astore (pc' := 7) dX10_at_5 rfl (by decide) rfl ?_
    refine go_aload (pc' := 9) dX10_at_7 rfl rfl ?_
    refine go_ifnullN (pc' := 0) (tgt := 34) dX10_at_9 (by decide) ?_
    exact t_X10_at_34 R hf
  | some a106 =>
    obtain ⟨g107, hf⟩ := gd_some hf
    refine go_astore (pc' := 7) dX10_at_5 rfl (by decide) rfl ?_
    refine go_aload (pc' := 9) dX10_at_7 rfl rfl ?_
    refine go_ifnull (pc' := 12) dX10_at_9 rfl ?_
    refine go_iload_n (i := 2) (pc' := 13) dX10_at_12 rfl rfl rfl ?_
    refine go_if_lt (pc' := 16) (tgt := 34) dX10_at_13 (by decide) rfl (fun c108 => ?_) (fun c108 => ?_)
    · have hf := it c108 hf
      refine go_iconst (v := 0) (pc' := 35) dX10_at_34 rfl (by decide) ?_
      obtain rfl := Option.some.inj hf
      exact Go.ret (v := some (.int _)) dX10_at_35 ⟨_, rfl⟩ ⟨rfl, rfl, R⟩
    · have hf := ie c108 hf
      refine go_iload_n (i := 2) (pc' := 17) dX10_at_16 rfl rfl rfl ?_
      refine go_aload (pc' := 19) dX10_at_17 rfl rfl ?_
      refine go_getS (pc' := 22) dX10_at_19 rfl gf_LandBase_169 R g107.at (by decide) rfl ?_
      refine go_icmp_ge (pc' := 25) (tgt := 34) dX10_at_22 (by decide) rfl (fun c109 => ?_) (fun c109 => ?_)
      · have hf := it c109 hf
        refine go_iconst (v := 0) (pc' := 35) dX10_at_34 rfl (by decide) ?_
        obtain rfl := Option.some.inj hf
        exact Go.ret (v := some (.int _)) dX10_at_35 ⟨_, rfl⟩ ⟨rfl, rfl, R⟩
      · have hf := ie c109 hf
        refine go_iload_n (i := 3) (pc' := 26) dX10_at_25 rfl rfl rfl ?_
        refine go_if_lt (pc' := 29) (tgt := 34) dX10_at_26 (by decide) rfl (fun c110 => ?_) (fun c110 => ?_)
        · have hf := it c110 hf
          refine go_iconst (v := 0) (pc' := 35) dX10_at_34 rfl (by decide) ?_
          obtain rfl := Option.some.inj hf
          exact Go.ret (v := some (.int _)) dX10_at_35 ⟨_, rfl⟩ ⟨rfl, rfl, R⟩
        · have hf := ie c110 hf
          refine go_iload_n (i := 3) (pc' := 30) dX10_at_29 rfl rfl rfl ?_
          refine go_iconst (v := 1) (pc' := 31) dX10_at_30 rfl (by decide) ?_
          refine go_icmp_le (pc' := 34) (tgt := 36) dX10_at_31 (by decide) rfl (fun c111 => ?_) (fun c111 => ?_)
          · have hf := it c111 hf
            refine go_iload_n (i := 3) (pc' := 37) dX10_at_36 rfl rfl rfl ?_
            refine go_if_ne (pc' := 40) (tgt := 50) dX10_at_37 (by decide) rfl (fun c112 => ?_) (fun c112 => ?_)
            · have hf := ie c112 hf
              refine go_aload (pc' := 52) dX10_at_50 rfl rfl ?_
              refine go_getS (pc' := 55) dX10_at_52 rfl gf_LandBase_176 R g107.at (by decide) rfl ?_
              refine go_iload_n (i := 2) (pc' := 56) dX10_at_55 rfl rfl rfl ?_
              obtain ⟨g113, hf⟩ := gd_some hf
              refine go_ialoadS (pc' := 57) dX10_at_56 rfl R g107.y g113 ?_
              obtain rfl := Option.some.inj hf
              exact Go.ret (v := some (.int _)) dX10_at_57 ⟨_, rfl⟩ ⟨rfl, rfl, R⟩
            · have hf := it c112 hf
              refine go_aload (pc' := 42) dX10_at_40 rfl rfl ?_
              refine go_getS (pc' := 45) dX10_at_42 rfl gf_LandBase_173 R g107.at (by decide) rfl ?_
              refine go_iload_n (i := 2) (pc' := 46) dX10_at_45 rfl rfl rfl ?_
              obtain ⟨g114, hf⟩ := gd_some hf
              refine go_ialoadS (pc' := 47) dX10_at_46 rfl R g107.x g114 ?_
              refine go_goto (pc' := 0) (tgt := 57) dX10_at_47 (by decide) ?_
              obtain rfl := Option.some.inj hf
              exact Go.ret (v := some (.int _)) dX10_at_57 ⟨_, rfl⟩ ⟨rfl, rfl, R⟩
          · have hf := ie c111 hf
            refine go_iconst (v := 0) (pc' := 35) dX10_at_34 rfl (by decide) ?_
            obtain rfl := Option.some.inj hf
            exact Go.ret (v := some (.int _)) dX10_at_35 ⟨_, rfl⟩ ⟨rfl, rfl, R⟩
def b_X10_relate_33 (n : Nat) (σ : xσ) : Option (Int32 × xσ) := some ((-1), σ)
set_option maxRecDepth 100000 in
set_option maxHeartbeats 4000000 in
theorem t_X10_relate_33 {G : xG} {n : Nat} {σ : xσ} {h : xH} {r : Int32 × xσ} {d0 : Option Value} {d1 : Option Value} {d2 : Option Value} {d3 : Option Value} {d4 : Option Value} {d5 : Option Value} : Rl n σ h → b_X10_relate_33 n σ = some r → Go G mX10_relate 33 [d0, d1, d2, d3, d4, d5] [] h (fun v h' => xRok (xRt mX10_relate) v ∧ v = some (.int r.1) ∧ Rl n r.2 h') := by
  intro R hf
  rw [b_X10_relate_33] at hf
  refine go_iconst (v := (-1)) (pc' := 34) dX10_relate_33 rfl (by decide) ?_
  obtain rfl := Option.some.inj hf
  exact Go.ret (v := some (.int _)) dX10_relate_34 ⟨_, rfl⟩ ⟨rfl, rfl, R⟩
def f_X10_relate (n : Nat) (x1 : Int32) (x2 : Int32) (x3 : Int32) (σ : xσ) : Option (Int32 × xσ) := bd (f_X10_shapeOf n x2 σ) (fun v101 σ102 => om v101 (bd (f_X10_shapeOf n x3 σ102) (fun v107 σ108 => om v107 (b_X10_relate_33 n σ108) (fun a112 => gd (okS n a112) (b_X10_relate_33 n σ108)))) (fun a106 => gd (okS n a106) (bd (f_X10_shapeOf n x3 σ102) (fun v115 σ116 => om v115 (b_X10_relate_33 n σ116) (fun a120 => gd (okS n a120) (if x1 < 0 then some ((-1), σ116) else if x1 ≤ 4 then bd (f_X6_holds n x1 a106 a120 σ116) (fun v124 σ125 => if v124 = 0 then some (0, σ125) else some (1, σ125)) else some ((-1), σ116)))))))
set_option maxRecDepth 100000 in
set_option maxHeartbeats 4000000 in
theorem c_X10_relate {G : xG} {n : Nat} {σ : xσ} {h : xH} {x1 : Int32} {x2 : Int32} {x3 : Int32} {v1 : Int32} {σ1 : xσ} (R : Rl n σ h) (hf : f_X10_relate n x1 x2 x3 σ = some (v1, σ1)) : Ca G mX10_relate [.ref 0, .int x1, .int x2, .int x3] h (fun v h' => v = some (.int v1) ∧ Rl n σ1 h') := by
  refine Ca.of rfl (Nat.le_of_ble_eq_true rfl) ?_
  generalize hr : (v1, σ1) = r at hf
  suffices q : Go G mX10_relate 0 (xent (xMl mX10_relate) [.ref 0, .int x1, .int x2, .int x3]) [] h (fun v h' => xRok (xRt mX10_relate) v ∧ v = some (.int r.1) ∧ Rl n r.2 h') by
    subst hr
    exact q
  clear hr
  rw [f_X10_relate] at hf
  refine go_aload_n (i := 0) (pc' := 1) dX10_relate_0 rfl rfl rfl ?_
  refine go_iload_n (i := 2) (pc' := 2) dX10_relate_1 rfl rfl rfl ?_
  obtain ⟨v101, σ102, e103, hf⟩ := bd_some hf
  refine go_invV (As := [_]) (pc' := 5) dX10_relate_2 rfl cf_X10_relate_160 rfl (R.ob (R.at rfl (by decide))) rfl rfl (Nat.le_of_ble_eq_true rfl) (c_X10_shapeOf R e103) (fun q104v h105 q104 => ?_)
  obtain ⟨rfl, R⟩ := q104
  cases v101 with
  | none =>
    refine go_astore (pc' := 7) dX10_relate_5 rfl (by decide) rfl ?_
    refine go_aload_n (i := 0) (pc' := 8) dX10_relate_7 rfl rfl rfl ?_
    refine go_iload_n (i := 3) (pc' := 9) dX10_relate_8 rfl rfl rfl ?_
    obtain ⟨v107, σ108, e109, hf⟩ := bd_some hf
    refine go_invV (As := [_]) (pc' := 12) dX10_relate_9 rfl cf_X10_relate_160 rfl (R.ob (R.at rfl (by decide))) rfl rfl (Nat.le_of_ble_eq_true rfl) (c_X10_shapeOf R e109) (fun q110v h111 q110 => ?_)
    obtain ⟨rfl, R⟩ := q110
    cases v107 with
    | none =>
      refine go_astore (pc' := 14) dX10_relate_12 rfl (by decide) rfl ?_
      refine go_aload (pc' := 16) dX10_relate_14 rfl rfl ?_
      refine go_ifnullN (pc' := 0) (tgt := 33) dX10_relate_16 (by decide) ?_
      exact t_X10_relate_33 R hf
    | some a112 =>
      obtain ⟨g113, hf⟩ := gd_some hf
      refine go_astore (pc' := 14) dX10_relate_12 rfl (by decide) rfl ?_
      refine go_aload (pc' := 16) dX10_relate_14 rfl rfl ?_
      refine go_ifnullN (pc' := 0) (tgt := 33) dX10_relate_16 (by decide) ?_
      exact t_X10_relate_33 R hf
  | some a106 =>
    obtain ⟨g114, hf⟩ := gd_some hf
    refine go_astore (pc' := 7) dX10_relate_5 rfl (by decide) rfl ?_
    refine go_aload_n (i := 0) (pc' := 8) dX10_relate_7 rfl rfl rfl ?_
    refine go_iload_n (i := 3) (pc' := 9) dX10_relate_8 rfl rfl rfl ?_
    obtain ⟨v115, σ116, e117, hf⟩ := bd_some hf
    refine go_invV (As := [_]) (pc' := 12) dX10_relate_9 rfl cf_X10_relate_160 rfl (R.ob (R.at rfl (by decide))) rfl rfl (Nat.le_of_ble_eq_true rfl) (c_X10_shapeOf R e117) (fun q118v h119 q118 => ?_)
    obtain ⟨rfl, R⟩ := q118
    cases v115 with
    | none =>
      refine go_astore (pc' := 14) dX10_relate_12 rfl (by decide) rfl ?_
      refine go_aload (pc' := 16) dX10_relate_14 rfl rfl ?_
      refine go_ifnull (pc' := 19) dX10_relate_16 rfl ?_
      refine go_aload (pc' := 21) dX10_relate_19 rfl rfl ?_
      refine go_ifnullN (pc' := 0) (tgt := 33) dX10_relate_21 (by decide) ?_
      exact t_X10_relate_33 R hf
    | some a120 =>
      obtain ⟨g121, hf⟩ := gd_some hf
      refine go_astore (pc' := 14) dX10_relate_12 rfl (by decide) rfl ?_
      refine go_aload (pc' := 16) dX10_relate_14 rfl rfl ?_
      refine go_ifnull (pc' := 19) dX10_relate_16 rfl ?_
      refine go_aload (pc' := 21) dX10_relate_19 rfl rfl ?_
      refine go_ifnull (pc' := 24) dX10_relate_21 rfl ?_
      refine go_iload_n (i := 1) (pc' := 25) dX10_relate_24 rfl rfl rfl ?_
      refine go_if_lt (pc' := 28) (tgt := 33) dX10_relate_25 (by decide) rfl (fun c122 => ?_) (fun c122 => ?_)
      · have hf := it c122 hf
        refine go_iconst (v := (-1)) (pc' := 34) dX10_relate_33 rfl (by decide) ?_
        obtain rfl := Option.some.inj hf
        exact Go.ret (v := some (.int _)) dX10_relate_34 ⟨_, rfl⟩ ⟨rfl, rfl, R⟩
      · have hf := ie c122 hf
        refine go_iload_n (i := 1) (pc' := 29) dX10_relate_28 rfl rfl rfl ?_
        refine go_iconst (v := 4) (pc' := 30) dX10_relate_29 rfl (by decide) ?_
        refine go_icmp_le (pc' := 33) (tgt := 35) dX10_relate_30 (by decide) rfl (fun c123 => ?_) (fun c123 => ?_)
        · have hf := it c123 hf
          refine go_aload_n (i := 0) (pc' := 36) dX10_relate_35 rfl rfl rfl ?_
          refine go_getS (pc' := 39) dX10_relate_36 rfl gf_LandBase_45 R (R.at rfl (by decide)) (by decide) rfl ?_
          refine go_iload_n (i := 1) (pc' := 40) dX10_relate_39 rfl rfl rfl ?_
          refine go_aload (pc' := 42) dX10_relate_40 rfl rfl ?_
          refine go_aload (pc' := 44) dX10_relate_42 rfl rfl ?_
          obtain ⟨v124, σ125, e126, hf⟩ := bd_some hf
          refine go_invV (As := [_, _, _]) (pc' := 47) dX10_relate_44 rfl cf_X10_relate_179 rfl (R.ob (R.at rfl (by decide))) rfl rfl (Nat.le_of_ble_eq_true rfl) (c_X6_holds R e126) (fun q127v h128 q127 => ?_)
          obtain ⟨rfl, R⟩ := q127
          refine go_if_eq (pc' := 50) (tgt := 54) dX10_relate_47 (by decide) rfl (fun c129 => ?_) (fun c129 => ?_)
          · have hf := it c129 hf
            refine go_iconst (v := 0) (pc' := 55) dX10_relate_54 rfl (by decide) ?_
            obtain rfl := Option.some.inj hf
            exact Go.ret (v := some (.int _)) dX10_relate_55 ⟨_, rfl⟩ ⟨rfl, rfl, R⟩
          · have hf := ie c129 hf
            refine go_iconst (v := 1) (pc' := 51) dX10_relate_50 rfl (by decide) ?_
            refine go_goto (pc' := 0) (tgt := 55) dX10_relate_51 (by decide) ?_
            obtain rfl := Option.some.inj hf
            exact Go.ret (v := some (.int _)) dX10_relate_55 ⟨_, rfl⟩ ⟨rfl, rfl, R⟩
        · have hf := ie c123 hf
          refine go_iconst (v := (-1)) (pc' := 34) dX10_relate_33 rfl (by decide) ?_
          obtain rfl := Option.some.inj hf
          exact Go.ret (v := some (.int _)) dX10_relate_34 ⟨_, rfl⟩ ⟨rfl, rfl, R⟩
def b_X10_nearer_41 (n : Nat) (σ : xσ) : Option (Int32 × xσ) := some ((-2), σ)
set_option maxRecDepth 100000 in
set_option maxHeartbeats 4000000 in
theorem t_X10_nearer_41 {G : xG} {n : Nat} {σ : xσ} {h : xH} {r : Int32 × xσ} {d0 : Option Value} {d1 : Option Value} {d2 : Option Value} {d3 : Option Value} {d4 : Option Value} {d5 : Option Value} {d6 : Option Value} : Rl n σ h → b_X10_nearer_41 n σ = some r → Go G mX10_nearer 41 [d0, d1, d2, d3, d4, d5, d6] [] h (fun v h' => xRok (xRt mX10_nearer) v ∧ v = some (.int r.1) ∧ Rl n r.2 h') := by
  intro R hf
  rw [b_X10_nearer_41] at hf
  refine go_bipush (v := (-2)) (pc' := 43) dX10_nearer_41 rfl (by decide) ?_
  obtain rfl := Option.some.inj hf
  exact Go.ret (v := some (.int _)) dX10_nearer_43 ⟨_, rfl⟩ ⟨rfl, rfl, R⟩
def f_X10_nearer (n : Nat) (x1 : Int32) (x2 : Int32) (x3 : Int32) (x4 : Int32) (σ : xσ) : Option (Int32 × xσ) := bd (f_X10_shapeOf n x1 σ) (fun v101 σ102 => om v101 (bd (f_X10_shapeOf n x2 σ102) (fun v107 σ108 => om v107 (b_X10_nearer_41 n σ108) (fun a112 => gd (okS n a112) (b_X10_nearer_41 n σ108)))) (fun a106 => gd (okS n a106) (bd (f_X10_shapeOf n x2 σ102) (fun v115 σ116 => om v115 (b_X10_nearer_41 n σ116) (fun a120 => gd (okS n a120) (bd (f_X10_isInPlane n (x3.toInt64) σ116) (fun v122 σ123 => if v122 = 0 then some ((-2), σ123) else bd (f_X10_isInPlane n (x4.toInt64) σ123) (fun v128 σ129 => if v128 = 0 then some ((-2), σ129) else gd (inb 0 200) (nn (sR σ129 30 (0 : Int32).toNatClampNeg) (fun a135 => gd (okD a135) (bd (f_X2_measure n a135 a106 x3 x4 σ129) (fun v138 σ139 => gd (inb 1 200) (nn (sR σ139 30 (1 : Int32).toNatClampNeg) (fun a144 => gd (okD a144) (bd (f_X2_measure n a144 a120 x3 x4 σ139) (fun v147 σ148 => gd (inb 0 200) (nn (sR σ148 30 (0 : Int32).toNatClampNeg) (fun a153 => gd (okD a153) (gd (inb 1 200) (nn (sR σ148 30 (1 : Int32).toNatClampNeg) (fun a157 => gd (okD a157) (bd (f_X2_compareWith n a153 a157 σ148) (fun v160 σ161 => some (v160, σ161))))))))))))))))))))))))
set_option maxRecDepth 100000 in
set_option maxHeartbeats 4000000 in
theorem c_X10_nearer {G : xG} {n : Nat} {σ : xσ} {h : xH} {x1 : Int32} {x2 : Int32} {x3 : Int32} {x4 : Int32} {v1 : Int32} {σ1 : xσ} (R : Rl n σ h) (hf : f_X10_nearer n x1 x2 x3 x4 σ = some (v1, σ1)) : Ca G mX10_nearer [.ref 0, .int x1, .int x2, .int x3, .int x4] h (fun v h' => v = some (.int v1) ∧ Rl n σ1 h') := by
  refine Ca.of rfl (Nat.le_of_ble_eq_true rfl) ?_
  generalize hr : (v1, σ1) = r at hf
  suffices q : Go G mX10_nearer 0 (xent (xMl mX10_nearer) [.ref 0, .int x1, .int x2, .int x3, .int x4]) [] h (fun v h' => xRok (xRt mX10_nearer) v ∧ v = some (.int r.1) ∧ Rl n r.2 h') by
    subst hr
    exact q
  clear hr
  rw [f_X10_nearer] at hf
  refine go_aload_n (i := 0) (pc' := 1) dX10_nearer_0 rfl rfl rfl ?_
  refine go_iload_n (i := 1) (pc' := 2) dX10_nearer_1 rfl rfl rfl ?_
  obtain ⟨v101, σ102, e103, hf⟩ := bd_some hf
  refine go_invV (As := [_]) (pc' := 5) dX10_nearer_2 rfl cf_X10_nearer_160 rfl (R.ob (R.at rfl (by decide))) rfl rfl (Nat.le_of_ble_eq_true rfl) (c_X10_shapeOf R e103) (fun q104v h105 q104 => ?_)
  obtain ⟨rfl, R⟩ := q104
  cases v101 with
  | none =>
    refine go_astore (pc' := 7) dX10_nearer_5 rfl (by decide) rfl ?_
    refine go_aload_n (i := 0) (pc' := 8) dX10_nearer_7 rfl rfl rfl ?_
    refine go_iload_n (i := 2) (pc' := 9) dX10_nearer_8 rfl rfl rfl ?_
    obtain ⟨v107, σ108, e109, hf⟩ := bd_some hf
    refine go_invV (As := [_]) (pc' := 12) dX10_nearer_9 rfl cf_X10_nearer_160 rfl (R.ob (R.at rfl (by decide))) rfl rfl (Nat.le_of_ble_eq_true rfl) (c_X10_shapeOf R e109) (fun q110v h111 q110 => ?_)
    obtain ⟨rfl, R⟩ := q110
    cases v107 with
    | none =>
      refine go_astore (pc' := 14) dX10_nearer_12 rfl (by decide) rfl ?_
      refine go_aload (pc' := 16) dX10_nearer_14 rfl rfl ?_
      refine go_ifnullN (pc' := 0) (tgt := 41) dX10_nearer_16 (by decide) ?_
      exact t_X10_nearer_41 R hf
    | some a112 =>
      obtain ⟨g113, hf⟩ := gd_some hf
      refine go_astore (pc' := 14) dX10_nearer_12 rfl (by decide) rfl ?_
      refine go_aload (pc' := 16) dX10_nearer_14 rfl rfl ?_
      refine go_ifnullN (pc' := 0) (tgt := 41) dX10_nearer_16 (by decide) ?_
      exact t_X10_nearer_41 R hf
  | some a106 =>
    obtain ⟨g114, hf⟩ := gd_some hf
    refine go_astore (pc' := 7) dX10_nearer_5 rfl (by decide) rfl ?_
    refine go_aload_n (i := 0) (pc' := 8) dX10_nearer_7 rfl rfl rfl ?_
    refine go_iload_n (i := 2) (pc' := 9) dX10_nearer_8 rfl rfl rfl ?_
    obtain ⟨v115, σ116, e117, hf⟩ := bd_some hf
    refine go_invV (As := [_]) (pc' := 12) dX10_nearer_9 rfl cf_X10_nearer_160 rfl (R.ob (R.at rfl (by decide))) rfl rfl (Nat.le_of_ble_eq_true rfl) (c_X10_shapeOf R e117) (fun q118v h119 q118 => ?_)
    obtain ⟨rfl, R⟩ := q118
    cases v115 with
    | none =>
      refine go_astore (pc' := 14) dX10_nearer_12 rfl (by decide) rfl ?_
      refine go_aload (pc' := 16) dX10_nearer_14 rfl rfl ?_
      refine go_ifnull (pc' := 19) dX10_nearer_16 rfl ?_
      refine go_aload (pc' := 21) dX10_nearer_19 rfl rfl ?_
      refine go_ifnullN (pc' := 0) (tgt := 41) dX10_nearer_21 (by decide) ?_
      exact t_X10_nearer_41 R hf
    | some a120 =>
      obtain ⟨g121, hf⟩ := gd_some hf
      refine go_astore (pc' := 14) dX10_nearer_12 rfl (by decide) rfl ?_
      refine go_aload (pc' := 16) dX10_nearer_14 rfl rfl ?_
      refine go_ifnull (pc' := 19) dX10_nearer_16 rfl ?_
      refine go_aload (pc' := 21) dX10_nearer_19 rfl rfl ?_
      refine go_ifnull (pc' := 24) dX10_nearer_21 rfl ?_
      refine go_iload_n (i := 3) (pc' := 25) dX10_nearer_24 rfl rfl rfl ?_
      refine go_i2l (pc' := 26) dX10_nearer_25 rfl rfl ?_
      obtain ⟨v122, σ123, e124, hf⟩ := bd_some hf
      refine go_invS (As := [_]) (pc' := 29) dX10_nearer_26 rfl cf_X10_nearer_183 rfl rfl (Nat.le_of_ble_eq_true rfl) (c_X10_isInPlane R e124) (fun q125v h126 q125 => ?_)
      obtain ⟨rfl, R⟩ := q125
      refine go_if_eq (pc' := 32) (tgt := 41) dX10_nearer_29 (by decide) rfl (fun c127 => ?_) (fun c127 => ?_)
      · have hf := it c127 hf
        refine go_bipush (v := (-2)) (pc' := 43) dX10_nearer_41 rfl (by decide) ?_
        obtain rfl := Option.some.inj hf
        exact Go.ret (v := some (.int _)) dX10_nearer_43 ⟨_, rfl⟩ ⟨rfl, rfl, R⟩
      · have hf := ie c127 hf
        refine go_iload (pc' := 34) dX10_nearer_32 rfl rfl ?_
        refine go_i2l (pc' := 35) dX10_nearer_34 rfl rfl ?_
        obtain ⟨v128, σ129, e130, hf⟩ := bd_some hf
        refine go_invS (As := [_]) (pc' := 38) dX10_nearer_35 rfl cf_X10_nearer_183 rfl rfl (Nat.le_of_ble_eq_true rfl) (c_X10_isInPlane R e130) (fun q131v h132 q131 => ?_)
        obtain ⟨rfl, R⟩ := q131
        refine go_if_ne (pc' := 41) (tgt := 44) dX10_nearer_38 (by decide) rfl (fun c133 => ?_) (fun c133 => ?_)
        · have hf := ie c133 hf
          refine go_aload_n (i := 0) (pc' := 45) dX10_nearer_44 rfl rfl rfl ?_
          refine go_getS (pc' := 48) dX10_nearer_45 rfl gf_LandBase_51 R (R.at rfl (by decide)) (by decide) rfl ?_
          refine go_iconst (v := 0) (pc' := 49) dX10_nearer_48 rfl (by decide) ?_
          obtain ⟨g134, hf⟩ := gd_some hf
          obtain ⟨a135, e136, hf⟩ := nn_some hf
          obtain ⟨g137, hf⟩ := gd_some hf
          refine go_aaloadS (pc' := 50) dX10_nearer_49 rfl (by decide) R (R.aa rfl (by decide)) g134 e136 ?_
          refine go_aload (pc' := 52) dX10_nearer_50 rfl rfl ?_
          refine go_iload_n (i := 3) (pc' := 53) dX10_nearer_52 rfl rfl rfl ?_
          refine go_iload (pc' := 55) dX10_nearer_53 rfl rfl ?_
          obtain ⟨v138, σ139, e140, hf⟩ := bd_some hf
          refine go_invV (As := [_, _, _]) (pc' := 58) dX10_nearer_55 rfl cf_X10_nearer_187 rfl (R.ob (g137.at R)) rfl rfl (Nat.le_of_ble_eq_true rfl) (c_X2_measure R e140) (fun q141v h142 q141 => ?_)
          obtain ⟨rfl, R⟩ := q141
          refine go_aload_n (i := 0) (pc' := 59) dX10_nearer_58 rfl rfl rfl ?_
          refine go_getS (pc' := 62) dX10_nearer_59 rfl gf_LandBase_51 R (R.at rfl (by decide)) (by decide) rfl ?_
          refine go_iconst (v := 1) (pc' := 63) dX10_nearer_62 rfl (by decide) ?_
          obtain ⟨g143, hf⟩ := gd_some hf
          obtain ⟨a144, e145, hf⟩ := nn_some hf
          obtain ⟨g146, hf⟩ := gd_some hf
          refine go_aaloadS (pc' := 64) dX10_nearer_63 rfl (by decide) R (R.aa rfl (by decide)) g143 e145 ?_
          refine go_aload (pc' := 66) dX10_nearer_64 rfl rfl ?_
          refine go_iload_n (i := 3) (pc' := 67) dX10_nearer_66 rfl rfl rfl ?_
          refine go_iload (pc' := 69) dX10_nearer_67 rfl rfl ?_
          obtain ⟨v147, σ148, e149, hf⟩ := bd_some hf
          refine go_invV (As := [_, _, _]) (pc' := 72) dX10_nearer_69 rfl cf_X10_nearer_187 rfl (R.ob (g146.at R)) rfl rfl (Nat.le_of_ble_eq_true rfl) (c_X2_measure R e149) (fun q150v h151 q150 => ?_)
          obtain ⟨rfl, R⟩ := q150
          refine go_aload_n (i := 0) (pc' := 73) dX10_nearer_72 rfl rfl rfl ?_
          refine go_getS (pc' := 76) dX10_nearer_73 rfl gf_LandBase_51 R (R.at rfl (by decide)) (by decide) rfl ?_
          refine go_iconst (v := 0) (pc' := 77) dX10_nearer_76 rfl (by decide) ?_
          obtain ⟨g152, hf⟩ := gd_some hf
          obtain ⟨a153, e154, hf⟩ := nn_some hf
          obtain ⟨g155, hf⟩ := gd_some hf
          refine go_aaloadS (pc' := 78) dX10_nearer_77 rfl (by decide) R (R.aa rfl (by decide)) g152 e154 ?_
          refine go_aload_n (i := 0) (pc' := 79) dX10_nearer_78 rfl rfl rfl ?_
          refine go_getS (pc' := 82) dX10_nearer_79 rfl gf_LandBase_51 R (R.at rfl (by decide)) (by decide) rfl ?_
          refine go_iconst (v := 1) (pc' := 83) dX10_nearer_82 rfl (by decide) ?_
          obtain ⟨g156, hf⟩ := gd_some hf
          obtain ⟨a157, e158, hf⟩ := nn_some hf
          obtain ⟨g159, hf⟩ := gd_some hf
          refine go_aaloadS (pc' := 84) dX10_nearer_83 rfl (by decide) R (R.aa rfl (by decide)) g156 e158 ?_
          obtain ⟨v160, σ161, e162, hf⟩ := bd_some hf
          refine go_invV (As := [_]) (pc' := 87) dX10_nearer_84 rfl cf_X10_nearer_191 rfl (R.ob (g155.at R)) rfl rfl (Nat.le_of_ble_eq_true rfl) (c_X2_compareWith R e162) (fun q163v h164 q163 => ?_)
          obtain ⟨rfl, R⟩ := q163
          obtain rfl := Option.some.inj hf
          exact Go.ret (v := some (.int _)) dX10_nearer_87 ⟨_, rfl⟩ ⟨rfl, rfl, R⟩
        · have hf := it c133 hf
          refine go_bipush (v := (-2)) (pc' := 43) dX10_nearer_41 rfl (by decide) ?_
          obtain rfl := Option.some.inj hf
          exact Go.ret (v := some (.int _)) dX10_nearer_43 ⟨_, rfl⟩ ⟨rfl, rfl, R⟩
def f_X10_used (n : Nat)  (σ : xσ) : Option (Int32 × xσ) := if (sI σ 10 6) = 0 then some (sI σ 10 8, σ) else some ((-1), σ)
set_option maxRecDepth 100000 in
set_option maxHeartbeats 4000000 in
theorem c_X10_used {G : xG} {n : Nat} {σ : xσ} {h : xH}  {v1 : Int32} {σ1 : xσ} (R : Rl n σ h) (hf : f_X10_used n σ = some (v1, σ1)) : Ca G mX10_used [.ref 0] h (fun v h' => v = some (.int v1) ∧ Rl n σ1 h') := by
  refine Ca.of rfl (Nat.le_of_ble_eq_true rfl) ?_
  generalize hr : (v1, σ1) = r at hf
  suffices q : Go G mX10_used 0 (xent (xMl mX10_used) [.ref 0]) [] h (fun v h' => xRok (xRt mX10_used) v ∧ v = some (.int r.1) ∧ Rl n r.2 h') by
    subst hr
    exact q
  clear hr
  rw [f_X10_used] at hf
  refine go_aload_n (i := 0) (pc' := 1) dX10_used_0 rfl rfl rfl ?_
  refine go_getS (pc' := 4) dX10_used_1 rfl gf_LandBase_26 R (R.at rfl (by decide)) (by decide) rfl ?_
  refine go_getS (pc' := 7) dX10_used_4 rfl gf_LandBase_80 R (R.at rfl (by decide)) (by decide) rfl ?_
  refine go_if_eq (pc' := 10) (tgt := 14) dX10_used_7 (by decide) rfl (fun c101 => ?_) (fun c101 => ?_)
  · have hf := it c101 hf
    refine go_aload_n (i := 0) (pc' := 15) dX10_used_14 rfl rfl rfl ?_
    refine go_getS (pc' := 18) dX10_used_15 rfl gf_LandBase_26 R (R.at rfl (by decide)) (by decide) rfl ?_
    refine go_getS (pc' := 21) dX10_used_18 rfl gf_LandBase_195 R (R.at rfl (by decide)) (by decide) rfl ?_
    obtain rfl := Option.some.inj hf
    exact Go.ret (v := some (.int _)) dX10_used_21 ⟨_, rfl⟩ ⟨rfl, rfl, R⟩
  · have hf := ie c101 hf
    refine go_iconst (v := (-1)) (pc' := 11) dX10_used_10 rfl (by decide) ?_
    refine go_goto (pc' := 0) (tgt := 21) dX10_used_11 (by decide) ?_
    obtain rfl := Option.some.inj hf
    exact Go.ret (v := some (.int _)) dX10_used_21 ⟨_, rfl⟩ ⟨rfl, rfl, R⟩
def f_X10_saves (n : Nat)  (σ : xσ) : Option (Int32 × xσ) := some (sI σ 10 9, σ)
set_option maxRecDepth 100000 in
set_option maxHeartbeats 4000000 in
theorem c_X10_saves {G : xG} {n : Nat} {σ : xσ} {h : xH}  {v1 : Int32} {σ1 : xσ} (R : Rl n σ h) (hf : f_X10_saves n σ = some (v1, σ1)) : Ca G mX10_saves [.ref 0] h (fun v h' => v = some (.int v1) ∧ Rl n σ1 h') := by
  refine Ca.of rfl (Nat.le_of_ble_eq_true rfl) ?_
  generalize hr : (v1, σ1) = r at hf
  suffices q : Go G mX10_saves 0 (xent (xMl mX10_saves) [.ref 0]) [] h (fun v h' => xRok (xRt mX10_saves) v ∧ v = some (.int r.1) ∧ Rl n r.2 h') by
    subst hr
    exact q
  clear hr
  rw [f_X10_saves] at hf
  refine go_aload_n (i := 0) (pc' := 1) dX10_saves_0 rfl rfl rfl ?_
  refine go_getS (pc' := 4) dX10_saves_1 rfl gf_LandBase_26 R (R.at rfl (by decide)) (by decide) rfl ?_
  refine go_getS (pc' := 7) dX10_saves_4 rfl gf_LandBase_198 R (R.at rfl (by decide)) (by decide) rfl ?_
  obtain rfl := Option.some.inj hf
  exact Go.ret (v := some (.int _)) dX10_saves_7 ⟨_, rfl⟩ ⟨rfl, rfl, R⟩
def f_X10_flaws (n : Nat)  (σ : xσ) : Option (Int32 × xσ) := bd (f_X3_countFlaws n σ) (fun v101 σ102 => some (v101, σ102))
set_option maxRecDepth 100000 in
set_option maxHeartbeats 4000000 in
theorem c_X10_flaws {G : xG} {n : Nat} {σ : xσ} {h : xH}  {v1 : Int32} {σ1 : xσ} (R : Rl n σ h) (hf : f_X10_flaws n σ = some (v1, σ1)) : Ca G mX10_flaws [.ref 0] h (fun v h' => v = some (.int v1) ∧ Rl n σ1 h') := by
  refine Ca.of rfl (Nat.le_of_ble_eq_true rfl) ?_
  generalize hr : (v1, σ1) = r at hf
  suffices q : Go G mX10_flaws 0 (xent (xMl mX10_flaws) [.ref 0]) [] h (fun v h' => xRok (xRt mX10_flaws) v ∧ v = some (.int r.1) ∧ Rl n r.2 h') by
    subst hr
    exact q
  clear hr
  rw [f_X10_flaws] at hf
  refine go_aload_n (i := 0) (pc' := 1) dX10_flaws_0 rfl rfl rfl ?_
  refine go_getS (pc' := 4) dX10_flaws_1 rfl gf_LandBase_26 R (R.at rfl (by decide)) (by decide) rfl ?_
  obtain ⟨v101, σ102, e103, hf⟩ := bd_some hf
  refine go_invV (As := []) (pc' := 7) dX10_flaws_4 rfl cf_X10_flaws_201 rfl (R.ob (R.at rfl (by decide))) rfl rfl (Nat.le_of_ble_eq_true rfl) (c_X3_countFlaws R e103) (fun q104v h105 q104 => ?_)
  obtain ⟨rfl, R⟩ := q104
  obtain rfl := Option.some.inj hf
  exact Go.ret (v := some (.int _)) dX10_flaws_7 ⟨_, rfl⟩ ⟨rfl, rfl, R⟩

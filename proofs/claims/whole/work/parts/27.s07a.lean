/-! methods as functions, by program (gen/dcmall.py) -/
def b_X10_window_107 (n : Nat) (k66 : Int32 → Int32 → Int32 → Int32 → Int32 → xσ → Option (Int32 × xσ)) (x1 : Int32) (x2 : Int32) (x3 : Int32) (x4 : Int32) (x6 : Int32) (σ : xσ) : Option (Int32 × xσ) := k66 x1 x2 x3 x4 (x6 + 1) σ
set_option maxRecDepth 100000 in
set_option maxHeartbeats 4000000 in
theorem t_X10_window_107 {G : xG} {n : Nat} {k66 : Int32 → Int32 → Int32 → Int32 → Int32 → xσ → Option (Int32 × xσ)} (hk66 : ∀ {x1 : Int32} {x2 : Int32} {x3 : Int32} {x4 : Int32} {x6 : Int32} {σ : xσ} {h : xH} {r : Int32 × xσ}, Rl n σ h → k66 x1 x2 x3 x4 x6 σ = some r → Go G mX10_window 66 [some (.ref 0), some (.int x1), some (.int x2), some (.int x3), some (.int x4), some (.ref 11), some (.int x6)] [] h (fun v h' => xRok (xRt mX10_window) v ∧ v = some (.int r.1) ∧ Rl n r.2 h')) {x1 : Int32} {x2 : Int32} {x3 : Int32} {x4 : Int32} {x6 : Int32} {σ : xσ} {h : xH} {r : Int32 × xσ} : Rl n σ h → b_X10_window_107 n k66 x1 x2 x3 x4 x6 σ = some r → Go G mX10_window 107 [some (.ref 0), some (.int x1), some (.int x2), some (.int x3), some (.int x4), some (.ref 11), some (.int x6)] [] h (fun v h' => xRok (xRt mX10_window) v ∧ v = some (.int r.1) ∧ Rl n r.2 h') := by
  intro R hf
  rw [b_X10_window_107] at hf
  refine go_iincC (kk := 1) (pc' := 110) dX10_window_107 rfl rfl (by decide) (by decide) rfl ?_
  refine go_goto (pc' := 0) (tgt := 66) dX10_window_110 (by decide) ?_
  exact hk66 R hf
def l_X10_window_66 (n : Nat) : Nat → Int32 → Int32 → Int32 → Int32 → Int32 → xσ → Option (Int32 × xσ)
  | 0, _, _, _, _, _, _ => none
  | f + 1, x1, x2, x3, x4, x6, σ => if (sI σ 11 2) ≤ x6 then some (0, σ) else gd (inb x6 200) (nn (sR σ 13 x6.toNatClampNeg) (fun a103 => gd (okS n a103) (bd (f_X4_isInWindow n a103 x1 x2 x3 x4 σ) (fun v106 σ107 => if v106 = 0 then (l_X10_window_66 n f) x1 x2 x3 x4 (x6 + 1) σ107 else gd (inb x6 200) (bd (f_X10_offer n (sI σ107 12 x6.toNatClampNeg) σ107) (fun v113 σ114 => b_X10_window_107 n (l_X10_window_66 n f) x1 x2 x3 x4 x6 σ114))))))
set_option maxRecDepth 100000 in
set_option maxHeartbeats 4000000 in
theorem t_X10_window_66 {G : xG} {n : Nat} : ∀ (f : Nat) {x1 : Int32} {x2 : Int32} {x3 : Int32} {x4 : Int32} {x6 : Int32} {σ : xσ} {h : xH} {r : Int32 × xσ}, Rl n σ h → l_X10_window_66 n f x1 x2 x3 x4 x6 σ = some r → Go G mX10_window 66 [some (.ref 0), some (.int x1), some (.int x2), some (.int x3), some (.int x4), some (.ref 11), some (.int x6)] [] h (fun v h' => xRok (xRt mX10_window) v ∧ v = some (.int r.1) ∧ Rl n r.2 h') := by
  intro f
  induction f with
  | zero =>
    intros
    rename _ = some _ => hf
    rw [l_X10_window_66] at hf
    cases hf
  | succ f ih =>
    intro x1 x2 x3 x4 x6 σ h r  R hf
    rw [l_X10_window_66] at hf
    refine go_iload (pc' := 68) dX10_window_66 rfl rfl ?_
    refine go_aload (pc' := 70) dX10_window_68 rfl rfl ?_
    refine go_getS (pc' := 73) dX10_window_70 rfl gf_LandBase_149 R (R.at rfl (by decide)) (by decide) rfl ?_
    refine go_icmp_ge (pc' := 76) (tgt := 113) dX10_window_73 (by decide) rfl (fun c101 => ?_) (fun c101 => ?_)
    · have hf := it c101 hf
      refine go_iconst (v := 0) (pc' := 114) dX10_window_113 rfl (by decide) ?_
      obtain rfl := Option.some.inj hf
      exact Go.ret (v := some (.int _)) dX10_window_114 ⟨_, rfl⟩ ⟨rfl, rfl, R⟩
    · have hf := ie c101 hf
      refine go_aload (pc' := 78) dX10_window_76 rfl rfl ?_
      refine go_getS (pc' := 81) dX10_window_78 rfl gf_LandBase_252 R (R.at rfl (by decide)) (by decide) rfl ?_
      refine go_iload (pc' := 83) dX10_window_81 rfl rfl ?_
      obtain ⟨g102, hf⟩ := gd_some hf
      obtain ⟨a103, e104, hf⟩ := nn_some hf
      obtain ⟨g105, hf⟩ := gd_some hf
      refine go_aaloadS (pc' := 84) dX10_window_83 rfl (by decide) R (R.aa rfl (by decide)) g102 e104 ?_
      refine go_iload_n (i := 1) (pc' := 85) dX10_window_84 rfl rfl rfl ?_
      refine go_iload_n (i := 2) (pc' := 86) dX10_window_85 rfl rfl rfl ?_
      refine go_iload_n (i := 3) (pc' := 87) dX10_window_86 rfl rfl rfl ?_
      refine go_iload (pc' := 89) dX10_window_87 rfl rfl ?_
      obtain ⟨v106, σ107, e108, hf⟩ := bd_some hf
      refine go_invS (As := [_, _, _, _, _]) (pc' := 92) dX10_window_89 rfl cf_X10_window_305 rfl rfl (Nat.le_of_ble_eq_true rfl) (c_X4_isInWindow R e108) (fun q109v h110 q109 => ?_)
      obtain ⟨rfl, R⟩ := q109
      refine go_if_eq (pc' := 95) (tgt := 107) dX10_window_92 (by decide) rfl (fun c111 => ?_) (fun c111 => ?_)
      · have hf := it c111 hf
        refine go_iincC (kk := 1) (pc' := 110) dX10_window_107 rfl rfl (by decide) (by decide) rfl ?_
        refine go_goto (pc' := 0) (tgt := 66) dX10_window_110 (by decide) ?_
        exact ih R hf
      · have hf := ie c111 hf
        refine go_aload_n (i := 0) (pc' := 96) dX10_window_95 rfl rfl rfl ?_
        refine go_aload (pc' := 98) dX10_window_96 rfl rfl ?_
        refine go_getS (pc' := 101) dX10_window_98 rfl gf_LandBase_157 R (R.at rfl (by decide)) (by decide) rfl ?_
        refine go_iload (pc' := 103) dX10_window_101 rfl rfl ?_
        obtain ⟨g112, hf⟩ := gd_some hf
        refine go_ialoadS (pc' := 104) dX10_window_103 rfl R (R.aa rfl (by decide)) g112 ?_
        obtain ⟨v113, σ114, e115, hf⟩ := bd_some hf
        refine go_invV (As := [_]) (pc' := 107) dX10_window_104 rfl cf_X10_window_302 rfl (R.ob (R.at rfl (by decide))) rfl rfl (Nat.le_of_ble_eq_true rfl) (c_X10_offer R e115) (fun q116v h117 q116 => ?_)
        obtain ⟨rfl, R⟩ := q116
        exact t_X10_window_107 @ih R hf
def f_X10_window (n : Nat)  (σ : xσ) : Option (Int32 × xσ) := gd (inb 0 6) (st (sI σ 4 (0 : Int32).toNatClampNeg) (fun x102 => gd (inb 1 6) (st (sI σ 4 (1 : Int32).toNatClampNeg) (fun x105 => gd (inb 2 6) (st (sI σ 4 (2 : Int32).toNatClampNeg) (fun x108 => gd (inb 3 6) (st (sI σ 4 (3 : Int32).toNatClampNeg) (fun x111 => if x108 < x102 then some (5, σ) else if x105 ≤ x111 then l_X10_window_66 n xFU x102 x105 x108 x111 0 σ else some (5, σ)))))))))
set_option maxRecDepth 100000 in
set_option maxHeartbeats 4000000 in
theorem c_X10_window {G : xG} {n : Nat} {σ : xσ} {h : xH}  {v1 : Int32} {σ1 : xσ} (R : Rl n σ h) (hf : f_X10_window n σ = some (v1, σ1)) : Ca G mX10_window [.ref 0] h (fun v h' => v = some (.int v1) ∧ Rl n σ1 h') := by
  refine Ca.of rfl (Nat.le_of_ble_eq_true rfl) ?_
  generalize hr : (v1, σ1) = r at hf
  suffices q : Go G mX10_window 0 (xent (xMl mX10_window) [.ref 0]) [] h (fun v h' => xRok (xRt mX10_window) v ∧ v = some (.int r.1) ∧ Rl n r.2 h') by
    subst hr
    exact q
  clear hr
  rw [f_X10_window] at hf
  refine go_aload_n (i := 0) (pc' := 1) dX10_window_0 rfl rfl rfl ?_
  refine go_getS (pc' := 4) dX10_window_1 rfl gf_LandBase_19 R (R.at rfl (by decide)) (by decide) rfl ?_
  refine go_getS (pc' := 7) dX10_window_4 rfl gf_LandBase_214 R (R.at rfl (by decide)) (by decide) rfl ?_
  refine go_iconst (v := 0) (pc' := 8) dX10_window_7 rfl (by decide) ?_
  obtain ⟨g101, hf⟩ := gd_some hf
  refine go_ialoadS (pc' := 9) dX10_window_8 rfl R (R.aa rfl (by decide)) g101 ?_
  obtain ⟨x102, e103, hf⟩ := st_some hf
  refine go_istore_nE e103 (i := 1) (pc' := 10) dX10_window_9 rfl rfl (by decide) rfl ?_
  refine go_aload_n (i := 0) (pc' := 11) dX10_window_10 rfl rfl rfl ?_
  refine go_getS (pc' := 14) dX10_window_11 rfl gf_LandBase_19 R (R.at rfl (by decide)) (by decide) rfl ?_
  refine go_getS (pc' := 17) dX10_window_14 rfl gf_LandBase_214 R (R.at rfl (by decide)) (by decide) rfl ?_
  refine go_iconst (v := 1) (pc' := 18) dX10_window_17 rfl (by decide) ?_
  obtain ⟨g104, hf⟩ := gd_some hf
  refine go_ialoadS (pc' := 19) dX10_window_18 rfl R (R.aa rfl (by decide)) g104 ?_
  obtain ⟨x105, e106, hf⟩ := st_some hf
  refine go_istore_nE e106 (i := 2) (pc' := 20) dX10_window_19 rfl rfl (by decide) rfl ?_
  refine go_aload_n (i := 0) (pc' := 21) dX10_window_20 rfl rfl rfl ?_
  refine go_getS (pc' := 24) dX10_window_21 rfl gf_LandBase_19 R (R.at rfl (by decide)) (by decide) rfl ?_
  refine go_getS (pc' := 27) dX10_window_24 rfl gf_LandBase_214 R (R.at rfl (by decide)) (by decide) rfl ?_
  refine go_iconst (v := 2) (pc' := 28) dX10_window_27 rfl (by decide) ?_
  obtain ⟨g107, hf⟩ := gd_some hf
  refine go_ialoadS (pc' := 29) dX10_window_28 rfl R (R.aa rfl (by decide)) g107 ?_
  obtain ⟨x108, e109, hf⟩ := st_some hf
  refine go_istore_nE e109 (i := 3) (pc' := 30) dX10_window_29 rfl rfl (by decide) rfl ?_
  refine go_aload_n (i := 0) (pc' := 31) dX10_window_30 rfl rfl rfl ?_
  refine go_getS (pc' := 34) dX10_window_31 rfl gf_LandBase_19 R (R.at rfl (by decide)) (by decide) rfl ?_
  refine go_getS (pc' := 37) dX10_window_34 rfl gf_LandBase_214 R (R.at rfl (by decide)) (by decide) rfl ?_
  refine go_iconst (v := 3) (pc' := 38) dX10_window_37 rfl (by decide) ?_
  obtain ⟨g110, hf⟩ := gd_some hf
  refine go_ialoadS (pc' := 39) dX10_window_38 rfl R (R.aa rfl (by decide)) g110 ?_
  obtain ⟨x111, e112, hf⟩ := st_some hf
  refine go_istoreE e112 (pc' := 41) dX10_window_39 rfl (by decide) rfl ?_
  refine go_iload_n (i := 3) (pc' := 42) dX10_window_41 rfl rfl rfl ?_
  refine go_iload_n (i := 1) (pc' := 43) dX10_window_42 rfl rfl rfl ?_
  refine go_icmp_lt (pc' := 46) (tgt := 52) dX10_window_43 (by decide) rfl (fun c113 => ?_) (fun c113 => ?_)
  · have hf := it c113 hf
    refine go_iconst (v := 5) (pc' := 53) dX10_window_52 rfl (by decide) ?_
    obtain rfl := Option.some.inj hf
    exact Go.ret (v := some (.int _)) dX10_window_53 ⟨_, rfl⟩ ⟨rfl, rfl, R⟩
  · have hf := ie c113 hf
    refine go_iload (pc' := 48) dX10_window_46 rfl rfl ?_
    refine go_iload_n (i := 2) (pc' := 49) dX10_window_48 rfl rfl rfl ?_
    refine go_icmp_ge (pc' := 52) (tgt := 54) dX10_window_49 (by decide) rfl (fun c114 => ?_) (fun c114 => ?_)
    · have hf := it c114 hf
      refine go_aload_n (i := 0) (pc' := 55) dX10_window_54 rfl rfl rfl ?_
      refine go_getS (pc' := 58) dX10_window_55 rfl gf_LandBase_26 R (R.at rfl (by decide)) (by decide) rfl ?_
      refine go_getS (pc' := 61) dX10_window_58 rfl gf_LandBase_145 R (R.at rfl (by decide)) (by decide) rfl ?_
      refine go_astore (pc' := 63) dX10_window_61 rfl (by decide) rfl ?_
      refine go_iconst (v := 0) (pc' := 64) dX10_window_63 rfl (by decide) ?_
      refine go_istoreE rfl (pc' := 66) dX10_window_64 rfl (by decide) rfl ?_
      exact t_X10_window_66 xFU R hf
    · have hf := ie c114 hf
      refine go_iconst (v := 5) (pc' := 53) dX10_window_52 rfl (by decide) ?_
      obtain rfl := Option.some.inj hf
      exact Go.ret (v := some (.int _)) dX10_window_53 ⟨_, rfl⟩ ⟨rfl, rfl, R⟩
def b_X10_sortIn_62 (n : Nat) (k7 : Int32 → Int32 → Int32 → Int32 → xσ → Option (Unit × xσ)) (x1 : Int32) (x2 : Int32) (x3 : Int32) (x4 : Int32) (σ : xσ) : Option (Unit × xσ) := k7 x1 x2 x3 (x4 + 1) σ
set_option maxRecDepth 100000 in
set_option maxHeartbeats 4000000 in
theorem t_X10_sortIn_62 {G : xG} {n : Nat} {k7 : Int32 → Int32 → Int32 → Int32 → xσ → Option (Unit × xσ)} (hk7 : ∀ {x1 : Int32} {x2 : Int32} {x3 : Int32} {x4 : Int32} {σ : xσ} {h : xH} {r : Unit × xσ} {d5 : Option Value}, Rl n σ h → k7 x1 x2 x3 x4 σ = some r → Go G mX10_sortIn 7 [some (.ref 0), some (.int x1), some (.int x2), some (.int x3), some (.int x4), d5] [] h (fun v h' => xRok (xRt mX10_sortIn) v ∧ v = none ∧ Rl n r.2 h')) {x1 : Int32} {x2 : Int32} {x3 : Int32} {x4 : Int32} {σ : xσ} {h : xH} {r : Unit × xσ} {d5 : Option Value} : Rl n σ h → b_X10_sortIn_62 n k7 x1 x2 x3 x4 σ = some r → Go G mX10_sortIn 62 [some (.ref 0), some (.int x1), some (.int x2), some (.int x3), some (.int x4), d5] [] h (fun v h' => xRok (xRt mX10_sortIn) v ∧ v = none ∧ Rl n r.2 h') := by
  intro R hf
  rw [b_X10_sortIn_62] at hf
  refine go_iincC (kk := 1) (pc' := 65) dX10_sortIn_62 rfl rfl (by decide) (by decide) rfl ?_
  refine go_goto (pc' := 0) (tgt := 7) dX10_sortIn_65 (by decide) ?_
  exact hk7 R hf
def l_X10_sortIn_71 (n : Nat) : Nat → Int32 → Int32 → Int32 → xσ → Option (Unit × xσ)
  | 0, _, _, _, _ => none
  | f + 1, x1, x2, x4, σ => if x4 ≤ x2 then gd (inb x2 200) (st (wI σ 231 x2.toNatClampNeg x1) (fun σ103 => some ((), σ103))) else gd (inb (x4 - 1) 200) (gd (inb x4 200) (st (wI σ 231 x4.toNatClampNeg (sI σ 231 (x4 - 1).toNatClampNeg)) (fun σ108 => (l_X10_sortIn_71 n f) x1 x2 (x4 + (-1)) σ108)))
set_option maxRecDepth 100000 in
set_option maxHeartbeats 4000000 in
theorem t_X10_sortIn_71 {G : xG} {n : Nat} : ∀ (f : Nat) {x1 : Int32} {x2 : Int32} {x4 : Int32} {σ : xσ} {h : xH} {r : Unit × xσ} {d3 : Option Value} {d5 : Option Value}, Rl n σ h → l_X10_sortIn_71 n f x1 x2 x4 σ = some r → Go G mX10_sortIn 71 [some (.ref 0), some (.int x1), some (.int x2), d3, some (.int x4), d5] [] h (fun v h' => xRok (xRt mX10_sortIn) v ∧ v = none ∧ Rl n r.2 h') := by
  intro f
  induction f with
  | zero =>
    intros
    rename _ = some _ => hf
    rw [l_X10_sortIn_71] at hf
    cases hf
  | succ f ih =>
    intro x1 x2 x4 σ h r d3 d5 R hf
    rw [l_X10_sortIn_71] at hf
    refine go_iload (pc' := 73) dX10_sortIn_71 rfl rfl ?_
    refine go_iload_n (i := 2) (pc' := 74) dX10_sortIn_73 rfl rfl rfl ?_
    refine go_icmp_le (pc' := 77) (tgt := 99) dX10_sortIn_74 (by decide) rfl (fun c101 => ?_) (fun c101 => ?_)
    · have hf := it c101 hf
      refine go_aload_n (i := 0) (pc' := 100) dX10_sortIn_99 rfl rfl rfl ?_
      refine go_getS (pc' := 103) dX10_sortIn_100 rfl gf_LandBase_56 R (R.at rfl (by decide)) (by decide) rfl ?_
      refine go_iload_n (i := 2) (pc' := 104) dX10_sortIn_103 rfl rfl rfl ?_
      refine go_iload_n (i := 1) (pc' := 105) dX10_sortIn_104 rfl rfl rfl ?_
      obtain ⟨g102, hf⟩ := gd_some hf
      obtain ⟨σ103, e104, hf⟩ := st_some hf
      refine go_iastoreS (pc' := 106) dX10_sortIn_105 rfl R (R.aa rfl (by decide)) g102 (fun h105 R => ?_)
      have R := Rl.cast e104 R
      obtain rfl := Option.some.inj hf
      exact Go.ret (v := none) dX10_sortIn_106 rfl ⟨trivial, rfl, R⟩
    · have hf := ie c101 hf
      refine go_aload_n (i := 0) (pc' := 78) dX10_sortIn_77 rfl rfl rfl ?_
      refine go_getS (pc' := 81) dX10_sortIn_78 rfl gf_LandBase_56 R (R.at rfl (by decide)) (by decide) rfl ?_
      refine go_iload (pc' := 83) dX10_sortIn_81 rfl rfl ?_
      refine go_aload_n (i := 0) (pc' := 84) dX10_sortIn_83 rfl rfl rfl ?_
      refine go_getS (pc' := 87) dX10_sortIn_84 rfl gf_LandBase_56 R (R.at rfl (by decide)) (by decide) rfl ?_
      refine go_iload (pc' := 89) dX10_sortIn_87 rfl rfl ?_
      refine go_iconst (v := 1) (pc' := 90) dX10_sortIn_89 rfl (by decide) ?_
      refine go_isub (pc' := 91) dX10_sortIn_90 rfl ?_
      obtain ⟨g106, hf⟩ := gd_some hf
      refine go_ialoadS (pc' := 92) dX10_sortIn_91 rfl R (R.aa rfl (by decide)) g106 ?_
      obtain ⟨g107, hf⟩ := gd_some hf
      obtain ⟨σ108, e109, hf⟩ := st_some hf
      refine go_iastoreS (pc' := 93) dX10_sortIn_92 rfl R (R.aa rfl (by decide)) g107 (fun h110 R => ?_)
      have R := Rl.cast e109 R
      refine go_iincC (kk := (-1)) (pc' := 96) dX10_sortIn_93 rfl rfl (by decide) (by decide) rfl ?_
      refine go_goto (pc' := 0) (tgt := 71) dX10_sortIn_96 (by decide) ?_
      exact ih R hf
def l_X10_sortIn_7 (n : Nat) : Nat → Int32 → Int32 → Int32 → Int32 → xσ → Option (Unit × xσ)
  | 0, _, _, _, _, _ => none
  | f + 1, x1, x2, x3, x4, σ => if 200 ≤ x4 then l_X10_sortIn_71 n xFU x1 x2 x1 σ else if x3 ≤ x2 then l_X10_sortIn_71 n xFU x1 x2 x1 σ else st ((x2 + x3) / 2) (fun x103 => gd (inb x103 200) (gd (inb (sI σ 231 x103.toNatClampNeg) 200) (nn (sR σ 30 (sI σ 231 x103.toNatClampNeg).toNatClampNeg) (fun a107 => gd (okD a107) (gd (inb x1 200) (nn (sR σ 30 x1.toNatClampNeg) (fun a111 => gd (okD a111) (bd (f_X2_compareWith n a107 a111 σ) (fun v114 σ115 => if v114 ≤ 0 then st (x103 + 1) (fun x120 => b_X10_sortIn_62 n (l_X10_sortIn_7 n f) x1 x120 x3 x4 σ115) else b_X10_sortIn_62 n (l_X10_sortIn_7 n f) x1 x2 x103 x4 σ115)))))))))
set_option maxRecDepth 100000 in
set_option maxHeartbeats 4000000 in
theorem t_X10_sortIn_7 {G : xG} {n : Nat} : ∀ (f : Nat) {x1 : Int32} {x2 : Int32} {x3 : Int32} {x4 : Int32} {σ : xσ} {h : xH} {r : Unit × xσ} {d5 : Option Value}, Rl n σ h → l_X10_sortIn_7 n f x1 x2 x3 x4 σ = some r → Go G mX10_sortIn 7 [some (.ref 0), some (.int x1), some (.int x2), some (.int x3), some (.int x4), d5] [] h (fun v h' => xRok (xRt mX10_sortIn) v ∧ v = none ∧ Rl n r.2 h') := by
  intro f
  induction f with
  | zero =>
    intros
    rename _ = some _ => hf
    rw [l_X10_sortIn_7] at hf
    cases hf
  | succ f ih =>
    intro x1 x2 x3 x4 σ h r d5 R hf
    rw [l_X10_sortIn_7] at hf
    refine go_iload (pc' := 9) dX10_sortIn_7 rfl rfl ?_
    refine go_sipush (v := 200) (pc' := 12) dX10_sortIn_9 rfl (by decide) ?_
    refine go_icmp_ge (pc' := 15) (tgt := 68) dX10_sortIn_12 (by decide) rfl (fun c101 => ?_) (fun c101 => ?_)
    · have hf := it c101 hf
      refine go_iload_n (i := 1) (pc' := 69) dX10_sortIn_68 rfl rfl rfl ?_
      refine go_istoreE rfl (pc' := 71) dX10_sortIn_69 rfl (by decide) rfl ?_
      exact t_X10_sortIn_71 xFU R hf
    · have hf := ie c101 hf
      refine go_iload_n (i := 2) (pc' := 16) dX10_sortIn_15 rfl rfl rfl ?_
      refine go_iload_n (i := 3) (pc' := 17) dX10_sortIn_16 rfl rfl rfl ?_
      refine go_icmp_ge (pc' := 20) (tgt := 68) dX10_sortIn_17 (by decide) rfl (fun c102 => ?_) (fun c102 => ?_)
      · have hf := it c102 hf
        refine go_iload_n (i := 1) (pc' := 69) dX10_sortIn_68 rfl rfl rfl ?_
        refine go_istoreE rfl (pc' := 71) dX10_sortIn_69 rfl (by decide) rfl ?_
        exact t_X10_sortIn_71 xFU R hf
      · have hf := ie c102 hf
        refine go_iload_n (i := 2) (pc' := 21) dX10_sortIn_20 rfl rfl rfl ?_
        refine go_iload_n (i := 3) (pc' := 22) dX10_sortIn_21 rfl rfl rfl ?_
        refine go_iadd (pc' := 23) dX10_sortIn_22 rfl ?_
        refine go_iconst (v := 2) (pc' := 24) dX10_sortIn_23 rfl (by decide) ?_
        refine go_idiv (pc' := 25) dX10_sortIn_24 rfl (by decide) ?_
        obtain ⟨x103, e104, hf⟩ := st_some hf
        refine go_istoreE e104 (pc' := 27) dX10_sortIn_25 rfl (by decide) rfl ?_
        refine go_aload_n (i := 0) (pc' := 28) dX10_sortIn_27 rfl rfl rfl ?_
        refine go_getS (pc' := 31) dX10_sortIn_28 rfl gf_LandBase_51 R (R.at rfl (by decide)) (by decide) rfl ?_
        refine go_aload_n (i := 0) (pc' := 32) dX10_sortIn_31 rfl rfl rfl ?_
        refine go_getS (pc' := 35) dX10_sortIn_32 rfl gf_LandBase_56 R (R.at rfl (by decide)) (by decide) rfl ?_
        refine go_iload (pc' := 37) dX10_sortIn_35 rfl rfl ?_
        obtain ⟨g105, hf⟩ := gd_some hf
        refine go_ialoadS (pc' := 38) dX10_sortIn_37 rfl R (R.aa rfl (by decide)) g105 ?_
        obtain ⟨g106, hf⟩ := gd_some hf
        obtain ⟨a107, e108, hf⟩ := nn_some hf
        obtain ⟨g109, hf⟩ := gd_some hf
        refine go_aaloadS (pc' := 39) dX10_sortIn_38 rfl (by decide) R (R.aa rfl (by decide)) g106 e108 ?_
        refine go_aload_n (i := 0) (pc' := 40) dX10_sortIn_39 rfl rfl rfl ?_
        refine go_getS (pc' := 43) dX10_sortIn_40 rfl gf_LandBase_51 R (R.at rfl (by decide)) (by decide) rfl ?_
        refine go_iload_n (i := 1) (pc' := 44) dX10_sortIn_43 rfl rfl rfl ?_
        obtain ⟨g110, hf⟩ := gd_some hf
        obtain ⟨a111, e112, hf⟩ := nn_some hf
        obtain ⟨g113, hf⟩ := gd_some hf
        refine go_aaloadS (pc' := 45) dX10_sortIn_44 rfl (by decide) R (R.aa rfl (by decide)) g110 e112 ?_
        obtain ⟨v114, σ115, e116, hf⟩ := bd_some hf
        refine go_invV (As := [_]) (pc' := 48) dX10_sortIn_45 rfl cf_X10_sortIn_191 rfl (R.ob (g109.at R)) rfl rfl (Nat.le_of_ble_eq_true rfl) (c_X2_compareWith R e116) (fun q117v h118 q117 => ?_)
        obtain ⟨rfl, R⟩ := q117
        refine go_if_le (pc' := 51) (tgt := 57) dX10_sortIn_48 (by decide) rfl (fun c119 => ?_) (fun c119 => ?_)
        · have hf := it c119 hf
          refine go_iload (pc' := 59) dX10_sortIn_57 rfl rfl ?_
          refine go_iconst (v := 1) (pc' := 60) dX10_sortIn_59 rfl (by decide) ?_
          refine go_iadd (pc' := 61) dX10_sortIn_60 rfl ?_
          obtain ⟨x120, e121, hf⟩ := st_some hf
          refine go_istore_nE e121 (i := 2) (pc' := 62) dX10_sortIn_61 rfl rfl (by decide) rfl ?_
          exact t_X10_sortIn_62 @ih R hf
        · have hf := ie c119 hf
          refine go_iload (pc' := 53) dX10_sortIn_51 rfl rfl ?_
          refine go_istore_nE rfl (i := 3) (pc' := 54) dX10_sortIn_53 rfl rfl (by decide) rfl ?_
          refine go_goto (pc' := 0) (tgt := 62) dX10_sortIn_54 (by decide) ?_
          exact t_X10_sortIn_62 @ih R hf
def f_X10_sortIn (n : Nat) (x1 : Int32) (σ : xσ) : Option (Unit × xσ) := l_X10_sortIn_7 n xFU x1 0 x1 0 σ
set_option maxRecDepth 100000 in
set_option maxHeartbeats 4000000 in
theorem c_X10_sortIn {G : xG} {n : Nat} {σ : xσ} {h : xH} {x1 : Int32} {v1 : Unit} {σ1 : xσ} (R : Rl n σ h) (hf : f_X10_sortIn n x1 σ = some (v1, σ1)) : Ca G mX10_sortIn [.ref 0, .int x1] h (fun v h' => v = none ∧ Rl n σ1 h') := by
  refine Ca.of rfl (Nat.le_of_ble_eq_true rfl) ?_
  generalize hr : (v1, σ1) = r at hf
  suffices q : Go G mX10_sortIn 0 (xent (xMl mX10_sortIn) [.ref 0, .int x1]) [] h (fun v h' => xRok (xRt mX10_sortIn) v ∧ v = none ∧ Rl n r.2 h') by
    subst hr
    exact q
  clear hr
  rw [f_X10_sortIn] at hf
  refine go_iconst (v := 0) (pc' := 1) dX10_sortIn_0 rfl (by decide) ?_
  refine go_istore_nE rfl (i := 2) (pc' := 2) dX10_sortIn_1 rfl rfl (by decide) rfl ?_
  refine go_iload_n (i := 1) (pc' := 3) dX10_sortIn_2 rfl rfl rfl ?_
  refine go_istore_nE rfl (i := 3) (pc' := 4) dX10_sortIn_3 rfl rfl (by decide) rfl ?_
  refine go_iconst (v := 0) (pc' := 5) dX10_sortIn_4 rfl (by decide) ?_
  refine go_istoreE rfl (pc' := 7) dX10_sortIn_5 rfl (by decide) rfl ?_
  exact t_X10_sortIn_7 xFU R hf
def l_X10_near_88 (n : Nat) : Nat → Int32 → Int32 → xσ → Option (Int32 × xσ)
  | 0, _, _, _ => none
  | f + 1, x1, x3, σ => if x1 ≤ x3 then some (0, σ) else if (sI σ 11 2) ≤ x3 then some (0, σ) else gd (inb x3 200) (gd (inb (sI σ 231 x3.toNatClampNeg) 200) (bd (f_X10_offer n (sI σ 12 (sI σ 231 x3.toNatClampNeg).toNatClampNeg) σ) (fun v105 σ106 => (l_X10_near_88 n f) x1 (x3 + 1) σ106)))
set_option maxRecDepth 100000 in
set_option maxHeartbeats 4000000 in
theorem t_X10_near_88 {G : xG} {n : Nat} : ∀ (f : Nat) {x1 : Int32} {x3 : Int32} {σ : xσ} {h : xH} {r : Int32 × xσ}, Rl n σ h → l_X10_near_88 n f x1 x3 σ = some r → Go G mX10_near 88 [some (.ref 0), some (.int x1), some (.ref 11), some (.int x3)] [] h (fun v h' => xRok (xRt mX10_near) v ∧ v = some (.int r.1) ∧ Rl n r.2 h') := by
  intro f
  induction f with
  | zero =>
    intros
    rename _ = some _ => hf
    rw [l_X10_near_88] at hf
    cases hf
  | succ f ih =>
    intro x1 x3 σ h r  R hf
    rw [l_X10_near_88] at hf
    refine go_iload_n (i := 3) (pc' := 89) dX10_near_88 rfl rfl rfl ?_
    refine go_iload_n (i := 1) (pc' := 90) dX10_near_89 rfl rfl rfl ?_
    refine go_icmp_ge (pc' := 93) (tgt := 122) dX10_near_90 (by decide) rfl (fun c101 => ?_) (fun c101 => ?_)
    · have hf := it c101 hf
      refine go_iconst (v := 0) (pc' := 123) dX10_near_122 rfl (by decide) ?_
      obtain rfl := Option.some.inj hf
      exact Go.ret (v := some (.int _)) dX10_near_123 ⟨_, rfl⟩ ⟨rfl, rfl, R⟩
    · have hf := ie c101 hf
      refine go_iload_n (i := 3) (pc' := 94) dX10_near_93 rfl rfl rfl ?_
      refine go_aload_n (i := 2) (pc' := 95) dX10_near_94 rfl rfl rfl ?_
      refine go_getS (pc' := 98) dX10_near_95 rfl gf_LandBase_149 R (R.at rfl (by decide)) (by decide) rfl ?_
      refine go_icmp_ge (pc' := 101) (tgt := 122) dX10_near_98 (by decide) rfl (fun c102 => ?_) (fun c102 => ?_)
      · have hf := it c102 hf
        refine go_iconst (v := 0) (pc' := 123) dX10_near_122 rfl (by decide) ?_
        obtain rfl := Option.some.inj hf
        exact Go.ret (v := some (.int _)) dX10_near_123 ⟨_, rfl⟩ ⟨rfl, rfl, R⟩
      · have hf := ie c102 hf
        refine go_aload_n (i := 0) (pc' := 102) dX10_near_101 rfl rfl rfl ?_
        refine go_aload_n (i := 2) (pc' := 103) dX10_near_102 rfl rfl rfl ?_
        refine go_getS (pc' := 106) dX10_near_103 rfl gf_LandBase_157 R (R.at rfl (by decide)) (by decide) rfl ?_
        refine go_aload_n (i := 0) (pc' := 107) dX10_near_106 rfl rfl rfl ?_
        refine go_getS (pc' := 110) dX10_near_107 rfl gf_LandBase_56 R (R.at rfl (by decide)) (by decide) rfl ?_
        refine go_iload_n (i := 3) (pc' := 111) dX10_near_110 rfl rfl rfl ?_
        obtain ⟨g103, hf⟩ := gd_some hf
        refine go_ialoadS (pc' := 112) dX10_near_111 rfl R (R.aa rfl (by decide)) g103 ?_
        obtain ⟨g104, hf⟩ := gd_some hf
        refine go_ialoadS (pc' := 113) dX10_near_112 rfl R (R.aa rfl (by decide)) g104 ?_
        obtain ⟨v105, σ106, e107, hf⟩ := bd_some hf
        refine go_invV (As := [_]) (pc' := 116) dX10_near_113 rfl cf_X10_near_302 rfl (R.ob (R.at rfl (by decide))) rfl rfl (Nat.le_of_ble_eq_true rfl) (c_X10_offer R e107) (fun q108v h109 q108 => ?_)
        obtain ⟨rfl, R⟩ := q108
        refine go_iincC (kk := 1) (pc' := 119) dX10_near_116 rfl rfl (by decide) (by decide) rfl ?_
        refine go_goto (pc' := 0) (tgt := 88) dX10_near_119 (by decide) ?_
        exact ih R hf
def l_X10_near_34 (n : Nat) : Nat → Int32 → Int32 → xσ → Option (Int32 × xσ)
  | 0, _, _, _ => none
  | f + 1, x1, x3, σ => if (sI σ 11 2) ≤ x3 then l_X10_near_88 n xFU x1 0 σ else gd (inb x3 200) (nn (sR σ 30 x3.toNatClampNeg) (fun a103 => gd (okD a103) (gd (inb x3 200) (nn (sR σ 13 x3.toNatClampNeg) (fun a107 => gd (okS n a107) (gd (inb 1 6) (gd (inb 2 6) (bd (f_X2_measure n a103 a107 (sI σ 4 (1 : Int32).toNatClampNeg) (sI σ 4 (2 : Int32).toNatClampNeg) σ) (fun v112 σ113 => bd (f_X10_sortIn n x3 σ113) (fun v117 σ118 => (l_X10_near_34 n f) x1 (x3 + 1) σ118))))))))))
set_option maxRecDepth 100000 in
set_option maxHeartbeats 4000000 in
theorem t_X10_near_34 {G : xG} {n : Nat} : ∀ (f : Nat) {x1 : Int32} {x3 : Int32} {σ : xσ} {h : xH} {r : Int32 × xσ}, Rl n σ h → l_X10_near_34 n f x1 x3 σ = some r → Go G mX10_near 34 [some (.ref 0), some (.int x1), some (.ref 11), some (.int x3)] [] h (fun v h' => xRok (xRt mX10_near) v ∧ v = some (.int r.1) ∧ Rl n r.2 h') := by
  intro f
  induction f with
  | zero =>
    intros
    rename _ = some _ => hf
    rw [l_X10_near_34] at hf
    cases hf
  | succ f ih =>
    intro x1 x3 σ h r  R hf
    rw [l_X10_near_34] at hf
    refine go_iload_n (i := 3) (pc' := 35) dX10_near_34 rfl rfl rfl ?_
    refine go_aload_n (i := 2) (pc' := 36) dX10_near_35 rfl rfl rfl ?_
    refine go_getS (pc' := 39) dX10_near_36 rfl gf_LandBase_149 R (R.at rfl (by decide)) (by decide) rfl ?_
    refine go_icmp_ge (pc' := 42) (tgt := 86) dX10_near_39 (by decide) rfl (fun c101 => ?_) (fun c101 => ?_)
    · have hf := it c101 hf
      refine go_iconst (v := 0) (pc' := 87) dX10_near_86 rfl (by decide) ?_
      refine go_istore_nE rfl (i := 3) (pc' := 88) dX10_near_87 rfl rfl (by decide) rfl ?_
      exact t_X10_near_88 xFU R hf
    · have hf := ie c101 hf
      refine go_aload_n (i := 0) (pc' := 43) dX10_near_42 rfl rfl rfl ?_
      refine go_getS (pc' := 46) dX10_near_43 rfl gf_LandBase_51 R (R.at rfl (by decide)) (by decide) rfl ?_
      refine go_iload_n (i := 3) (pc' := 47) dX10_near_46 rfl rfl rfl ?_
      obtain ⟨g102, hf⟩ := gd_some hf
      obtain ⟨a103, e104, hf⟩ := nn_some hf
      obtain ⟨g105, hf⟩ := gd_some hf
      refine go_aaloadS (pc' := 48) dX10_near_47 rfl (by decide) R (R.aa rfl (by decide)) g102 e104 ?_
      refine go_aload_n (i := 2) (pc' := 49) dX10_near_48 rfl rfl rfl ?_
      refine go_getS (pc' := 52) dX10_near_49 rfl gf_LandBase_252 R (R.at rfl (by decide)) (by decide) rfl ?_
      refine go_iload_n (i := 3) (pc' := 53) dX10_near_52 rfl rfl rfl ?_
      obtain ⟨g106, hf⟩ := gd_some hf
      obtain ⟨a107, e108, hf⟩ := nn_some hf
      obtain ⟨g109, hf⟩ := gd_some hf
      refine go_aaloadS (pc' := 54) dX10_near_53 rfl (by decide) R (R.aa rfl (by decide)) g106 e108 ?_
      refine go_aload_n (i := 0) (pc' := 55) dX10_near_54 rfl rfl rfl ?_
      refine go_getS (pc' := 58) dX10_near_55 rfl gf_LandBase_19 R (R.at rfl (by decide)) (by decide) rfl ?_
      refine go_getS (pc' := 61) dX10_near_58 rfl gf_LandBase_214 R (R.at rfl (by decide)) (by decide) rfl ?_
      refine go_iconst (v := 1) (pc' := 62) dX10_near_61 rfl (by decide) ?_
      obtain ⟨g110, hf⟩ := gd_some hf
      refine go_ialoadS (pc' := 63) dX10_near_62 rfl R (R.aa rfl (by decide)) g110 ?_
      refine go_aload_n (i := 0) (pc' := 64) dX10_near_63 rfl rfl rfl ?_
      refine go_getS (pc' := 67) dX10_near_64 rfl gf_LandBase_19 R (R.at rfl (by decide)) (by decide) rfl ?_
      refine go_getS (pc' := 70) dX10_near_67 rfl gf_LandBase_214 R (R.at rfl (by decide)) (by decide) rfl ?_
      refine go_iconst (v := 2) (pc' := 71) dX10_near_70 rfl (by decide) ?_
      obtain ⟨g111, hf⟩ := gd_some hf
      refine go_ialoadS (pc' := 72) dX10_near_71 rfl R (R.aa rfl (by decide)) g111 ?_
      obtain ⟨v112, σ113, e114, hf⟩ := bd_some hf
      refine go_invV (As := [_, _, _]) (pc' := 75) dX10_near_72 rfl cf_X10_near_187 rfl (R.ob (g105.at R)) rfl rfl (Nat.le_of_ble_eq_true rfl) (c_X2_measure R e114) (fun q115v h116 q115 => ?_)
      obtain ⟨rfl, R⟩ := q115
      refine go_aload_n (i := 0) (pc' := 76) dX10_near_75 rfl rfl rfl ?_
      refine go_iload_n (i := 3) (pc' := 77) dX10_near_76 rfl rfl rfl ?_
      obtain ⟨v117, σ118, e119, hf⟩ := bd_some hf
      refine go_invV (As := [_]) (pc' := 80) dX10_near_77 rfl cf_X10_near_311 rfl (R.ob (R.at rfl (by decide))) rfl rfl (Nat.le_of_ble_eq_true rfl) (c_X10_sortIn R e119) (fun q120v h121 q120 => ?_)
      obtain ⟨rfl, R⟩ := q120
      refine go_iincC (kk := 1) (pc' := 83) dX10_near_80 rfl rfl (by decide) (by decide) rfl ?_
      refine go_goto (pc' := 0) (tgt := 34) dX10_near_83 (by decide) ?_
      exact ih R hf
def f_X10_near (n : Nat)  (σ : xσ) : Option (Int32 × xσ) := gd (inb 0 6) (st (sI σ 4 (0 : Int32).toNatClampNeg) (fun x102 => if x102 < 1 then some (5, σ) else if x102 ≤ 200 then l_X10_near_34 n xFU x102 0 σ else some (5, σ)))
set_option maxRecDepth 100000 in
set_option maxHeartbeats 4000000 in
theorem c_X10_near {G : xG} {n : Nat} {σ : xσ} {h : xH}  {v1 : Int32} {σ1 : xσ} (R : Rl n σ h) (hf : f_X10_near n σ = some (v1, σ1)) : Ca G mX10_near [.ref 0] h (fun v h' => v = some (.int v1) ∧ Rl n σ1 h') := by
  refine Ca.of rfl (Nat.le_of_ble_eq_true rfl) ?_
  generalize hr : (v1, σ1) = r at hf
  suffices q : Go G mX10_near 0 (xent (xMl mX10_near) [.ref 0]) [] h (fun v h' => xRok (xRt mX10_near) v ∧ v = some (.int r.1) ∧ Rl n r.2 h') by
    subst hr
    exact q
  clear hr
  rw [f_X10_near] at hf
  refine go_aload_n (i := 0) (pc' := 1) dX10_near_0 rfl rfl rfl ?_
  refine go_getS (pc' := 4) dX10_near_1 rfl gf_LandBase_19 R (R.at rfl (by decide)) (by decide) rfl ?_
  refine go_getS (pc' := 7) dX10_near_4 rfl gf_LandBase_214 R (R.at rfl (by decide)) (by decide) rfl ?_
  refine go_iconst (v := 0) (pc' := 8) dX10_near_7 rfl (by decide) ?_
  obtain ⟨g101, hf⟩ := gd_some hf
  refine go_ialoadS (pc' := 9) dX10_near_8 rfl R (R.aa rfl (by decide)) g101 ?_
  obtain ⟨x102, e103, hf⟩ := st_some hf
  refine go_istore_nE e103 (i := 1) (pc' := 10) dX10_near_9 rfl rfl (by decide) rfl ?_
  refine go_iload_n (i := 1) (pc' := 11) dX10_near_10 rfl rfl rfl ?_
  refine go_iconst (v := 1) (pc' := 12) dX10_near_11 rfl (by decide) ?_
  refine go_icmp_lt (pc' := 15) (tgt := 22) dX10_near_12 (by decide) rfl (fun c104 => ?_) (fun c104 => ?_)
  · have hf := it c104 hf
    refine go_iconst (v := 5) (pc' := 23) dX10_near_22 rfl (by decide) ?_
    obtain rfl := Option.some.inj hf
    exact Go.ret (v := some (.int _)) dX10_near_23 ⟨_, rfl⟩ ⟨rfl, rfl, R⟩
  · have hf := ie c104 hf
    refine go_iload_n (i := 1) (pc' := 16) dX10_near_15 rfl rfl rfl ?_
    refine go_sipush (v := 200) (pc' := 19) dX10_near_16 rfl (by decide) ?_
    refine go_icmp_le (pc' := 22) (tgt := 24) dX10_near_19 (by decide) rfl (fun c105 => ?_) (fun c105 => ?_)
    · have hf := it c105 hf
      refine go_aload_n (i := 0) (pc' := 25) dX10_near_24 rfl rfl rfl ?_
      refine go_getS (pc' := 28) dX10_near_25 rfl gf_LandBase_26 R (R.at rfl (by decide)) (by decide) rfl ?_
      refine go_getS (pc' := 31) dX10_near_28 rfl gf_LandBase_145 R (R.at rfl (by decide)) (by decide) rfl ?_
      refine go_astore_n (i := 2) (pc' := 32) dX10_near_31 rfl rfl (by decide) rfl ?_
      refine go_iconst (v := 0) (pc' := 33) dX10_near_32 rfl (by decide) ?_
      refine go_istore_nE rfl (i := 3) (pc' := 34) dX10_near_33 rfl rfl (by decide) rfl ?_
      exact t_X10_near_34 xFU R hf
    · have hf := ie c105 hf
      refine go_iconst (v := 5) (pc' := 23) dX10_near_22 rfl (by decide) ?_
      obtain rfl := Option.some.inj hf
      exact Go.ret (v := some (.int _)) dX10_near_23 ⟨_, rfl⟩ ⟨rfl, rfl, R⟩
